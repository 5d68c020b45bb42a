section -- [98x.one]
/-! Part 98x: both sides before the first token; what a text that is right lays. -/
theorem s_fgl {h0 : q_F} : ∀ (d a f : Nat) (h : q_F), a + d = 3 → d < f → c_fgt h0 h a → ∃ h', fn105_2 f a h = some (0, h') ∧ c_fgt h0 h' 3 ∧ h' 3 2 = 100 ∧ h' 3 3 = 0 ∧ h' 3 4 = 0 ∧ h' 3 5 = -1 ∧ h' 3 6 = 0 := by
  intro d
  induction d with
  | zero =>
    intro a f h hd hf G
    obtain ⟨f, rfl⟩ : ∃ f', f = f' + 1 := ⟨f - 1, by omega⟩
    obtain rfl : a = 3 := by omega
    obtain ⟨F, G⟩ := G
    rw [fn105_2, if_pos (by omega), m_let, m_let, m_let, m_let, m_let]
    refine ⟨_, rfl, ⟨c_F3_u (c_F3_u (c_F3_u (c_F3_u (c_F3_u F (by omega)) (by omega)) (by omega)) (by omega)) (by omega), fun a ha => ?_⟩, ?_, ?_, ?_, ?_, ?_⟩
    · obtain ⟨g, g0, g1, g2, g3, g4, g5⟩ := G a ha
      refine ⟨?_, ?_, ?_, ?_, ?_, ?_, ?_⟩ <;> (rw [q_ud_n (by omega), q_ud_n (by omega), q_ud_n (by omega), q_ud_n (by omega), q_ud_n (by omega)]; assumption)
    · rw [q_ud_n (by omega), q_ud_n (by omega), q_ud_n (by omega), q_ud_n (by omega), q_ud_s]
    · rw [q_ud_n (by omega), q_ud_n (by omega), q_ud_n (by omega), q_ud_s]
    · rw [q_ud_n (by omega), q_ud_n (by omega), q_ud_s]
    · rw [q_ud_n (by omega), q_ud_s]
    · rw [q_ud_s]
  | succ d ih =>
    intro a f h hd hf G
    obtain ⟨f, rfl⟩ : ∃ f', f = f' + 1 := ⟨f - 1, by omega⟩
    have ha : a < 3 := by omega
    have k0 : ∀ v h, fn113 a 0 v h = some (0, q_ud h 4 (6 * a) v) := fun v h => c_keepA (i := 0) ha (by omega)
    have k1 : ∀ v h, fn113 a 1 v h = some (0, q_ud h 4 (6 * a + 1) v) := fun v h => c_keepA (i := 1) ha (by omega)
    have k2 : ∀ v h, fn113 a 2 v h = some (0, q_ud h 4 (6 * a + 2) v) := fun v h => c_keepA (i := 2) ha (by omega)
    have k3 : ∀ v h, fn113 a 3 v h = some (0, q_ud h 4 (6 * a + 3) v) := fun v h => c_keepA (i := 3) ha (by omega)
    have k4 : ∀ v h, fn113 a 4 v h = some (0, q_ud h 4 (6 * a + 4) v) := fun v h => c_keepA (i := 4) ha (by omega)
    have k5 : ∀ v h, fn113 a 5 v h = some (0, q_ud h 4 (6 * a + 5) v) := fun v h => c_keepA (i := 5) ha (by omega)
    rw [fn105_2, if_neg (by omega), c_put (by omega) (by omega), Option.bind_some]
    dsimp only
    rw [k0, Option.bind_some]
    dsimp only
    rw [k1, Option.bind_some]
    dsimp only
    rw [k2, Option.bind_some]
    dsimp only
    rw [k3, Option.bind_some]
    dsimp only
    rw [k4, Option.bind_some]
    dsimp only
    rw [k5, Option.bind_some]
    dsimp only
    rw [Int.toNat_natCast, q_w32_id (by omega) (by omega), ← m_s1]
    obtain ⟨F, G⟩ := G
    refine ih (a + 1) f _ (by omega) (by omega) ⟨c_F3_u (c_F3_u (c_F3_u (c_F3_u (c_F3_u (c_F3_u (c_F3_u F (by omega)) (by omega)) (by omega)) (by omega)) (by omega)) (by omega)) (by omega), fun b hb => ?_⟩
    by_cases e : b = a
    · subst e
      refine ⟨?_, ?_, ?_, ?_, ?_, ?_, ?_⟩ <;> (simp [q_ud]) <;> omega
    · obtain ⟨g, g0, g1, g2, g3, g4, g5⟩ := G b (by omega)
      refine ⟨?_, ?_, ?_, ?_, ?_, ?_, ?_⟩ <;> (rw [q_ud_n (by omega), q_ud_n (by omega), q_ud_n (by omega), q_ud_n (by omega), q_ud_n (by omega), q_ud_n (by omega), q_ud_n (by omega)]; assumption)
theorem s_forget (h : q_F) : ∃ h', fn105 h = some (0, h') ∧ c_fgt h h' 3 ∧ h' 3 2 = 100 ∧ h' 3 3 = 0 ∧ h' 3 4 = 0 ∧ h' 3 5 = -1 ∧ h' 3 6 = 0 := s_fgl 3 0 q_fu h (by omega) (by have := q_fu_ge; omega) ⟨c_F3_r, fun a ha => absurd ha (Nat.not_lt_zero a)⟩
theorem s_X_fg {h0 c g : q_F} (G : c_fgt h0 c 3) (h2 : c 3 2 = 100) (hg : ∀ j, j < 122 → g 140 j = m_clr 3 j) : s_X c g := by
  intro st sl ok
  have pl : s_pl' st sl < 122 := by unfold s_pl'; unfold s_ok at ok; split <;> (try split) <;> omega
  rw [hg _ pl]
  obtain ⟨-, G⟩ := G
  unfold s_ok at ok
  unfold s_c1 s_c2 s_pl' m_clr
  by_cases h3 : st < 3
  · rw [if_pos h3, if_pos h3, if_pos h3]
    obtain ⟨-, g0, g1, g2, g3, g4, g5⟩ := G st h3
    obtain rfl | rfl | rfl | rfl | rfl | rfl : sl = 0 ∨ sl = 1 ∨ sl = 2 ∨ sl = 3 ∨ sl = 4 ∨ sl = 5 := by omega
    · rw [if_neg (by omega), if_pos (by omega)]; exact g0
    · rw [if_neg (by omega), if_neg (by omega), if_neg (by omega), if_neg (by omega), if_neg (by omega), if_neg (by omega), if_neg (by omega)]; exact g1
    · rw [if_neg (by omega), if_neg (by omega), if_pos (by omega)]; exact g2
    · rw [if_neg (by omega), if_neg (by omega), if_neg (by omega), if_pos (by omega)]; exact g3
    · rw [if_neg (by omega), if_neg (by omega), if_neg (by omega), if_neg (by omega), if_pos (by omega)]; exact g4
    · rw [if_neg (by omega), if_neg (by omega), if_neg (by omega), if_neg (by omega), if_neg (by omega), if_pos (by omega)]; exact g5
  · rw [if_neg h3, if_neg h3, if_neg h3]
    by_cases e3 : st = 3
    · rw [if_pos e3, if_pos e3, if_pos e3, if_neg (by omega), if_neg (by omega), if_neg (by omega), if_neg (by omega), if_neg (by omega), if_neg (by omega), if_neg (by omega)]; exact (G sl (by omega)).1
    · rw [if_neg e3, if_neg e3, if_neg e3, if_pos rfl]; exact h2
theorem s_setUp {h : q_F} {s : Nat} (hs : s < 128) (hc : h 3 3 = (s : Int)) (z3 : 1 ≤ h 3 2 ∧ h 3 2 ≤ 1000) (z5 : ∀ a, a < 3 → ∀ i, i < 6 → m_nr i (h 4 (6 * a + i))) (z6 : ∀ a, a < 3 → 0 ≤ h 5 a ∧ h 5 a ≤ h 4 (6 * a)) : ∃ h', fn139 6 h = some (0, h') ∧ c_ft 6 h h' ∧ c_tb h' 6 (m_new (h 3 2) ((s / 32 % 2 : Nat) : Int) ((s / 64 % 2 : Nat) : Int) (h 4) (h 5)) ∧ m_RI (m_new (h 3 2) ((s / 32 % 2 : Nat) : Int) ((s / 64 % 2 : Nat) : Int) (h 4) (h 5)) := by
  obtain ⟨h1, a1, a2, a3⟩ := c_newax (a := 0) (o := 7) (h := h) (by omega) (by omega)
  obtain ⟨h2, b1, b2, b3⟩ := c_newax (a := 1) (o := 9) (h := h1) (by omega) (by omega)
  obtain ⟨h3, d1, d2, d3⟩ := c_newax (a := 2) (o := 11) (h := h2) (by omega) (by omega)
  have e14 : h1 4 = h 4 := a2 4 (by omega) (by omega)
  have e15 : h1 5 = h 5 := a2 5 (by omega) (by omega)
  have e24 : h2 4 = h 4 := (b2 4 (by omega) (by omega)).trans e14
  have e25 : h2 5 = h 5 := (b2 5 (by omega) (by omega)).trans e15
  have e3 : h3 3 = h 3 := by rw [d2 3 (by omega) (by omega), b2 3 (by omega) (by omega), a2 3 (by omega) (by omega)]
  rw [e14, e15] at b3
  rw [e24, e25] at d3
  have b01 : ∀ x : Nat, (if x % 2 = 1 then (1 : Int) else 0) = ((x % 2 : Nat) : Int) := fun x => by split <;> omega
  obtain ⟨cp, hcp⟩ : ∃ cp : Int, cp = ((s / 32 % 2 : Nat) : Int) := ⟨_, rfl⟩
  obtain ⟨dt, hdt⟩ : ∃ dt : Int, dt = ((s / 64 % 2 : Nat) : Int) := ⟨_, rfl⟩
  have c01 : cp = 0 ∨ cp = 1 := by omega
  have d01 : dt = 0 ∨ dt = 1 := by omega
  have ec : fn107 5 (q_ud (q_ud h3 13 1 0) 6 4 (h 3 2)) = some cp := by
    have := s_107 (k := 5) (h := q_ud (q_ud h3 13 1 0) 6 4 (h 3 2)) hs (by omega) (by rw [q_ud_n (by omega), q_ud_n (by omega), e3]; exact hc)
    rw [hcp, ← b01]; exact this
  have ed : fn107 6 (q_ud (q_ud (q_ud h3 13 1 0) 6 4 (h 3 2)) 6 5 cp) = some dt := by
    have := s_107 (k := 6) (h := q_ud (q_ud (q_ud h3 13 1 0) 6 4 (h 3 2)) 6 5 cp) hs (by omega) (by rw [q_ud_n (by omega), q_ud_n (by omega), q_ud_n (by omega), e3]; exact hc)
    rw [hdt, ← b01]; exact this
  rw [← hcp, ← hdt]
  have a1' : fn56 (6 + 1) 0 h = some (0, h1) := a1
  have b1' : fn56 (6 + 3) 1 h1 = some (0, h2) := b1
  have d1' : fn56 (6 + 5) 2 h2 = some (0, h3) := d1
  have f3 : c_ft 6 h h3 := c_ft_t (c_ft_o a2 (by omega) (by omega)) (c_ft_t (c_ft_o b2 (by omega) (by omega)) (c_ft_o d2 (by omega) (by omega)))
  refine ⟨q_ud (q_ud (q_ud (q_ud (q_ud (q_ud (q_ud (q_ud h3 13 1 0) 6 4 (h 3 2)) 6 5 cp) 6 6 dt) 6 7 0) 6 8 0) 6 9 0) 6 10 0, ?_, ?_, ⟨fun a ha => ?_, ?_, ?_, fun j hj => ?_⟩, m_RI_new z3 c01 d01 z5 z6⟩
  · rw [fn139, a1', Option.bind_some]
    dsimp only
    rw [b1', Option.bind_some]
    dsimp only
    rw [d1', Option.bind_some, fn143, m_let, Option.bind_some, m_let]
    dsimp only
    rw [show (6 + 7) = 13 from rfl, q_ud_n (show ¬ (3 = 13 ∧ 2 = 1) by omega), e3, ec, Option.bind_some, m_let, ed, Option.bind_some, m_let, m_let, m_let, m_let, m_let]
  · exact c_ft_u (c_ft_u (c_ft_u (c_ft_u (c_ft_u (c_ft_u (c_ft_u (c_ft_u f3 (by omega) (by omega)) (by omega) (by omega)) (by omega) (by omega)) (by omega) (by omega)) (by omega) (by omega)) (by omega) (by omega)) (by omega) (by omega)) (by omega) (by omega)
  · have fin : ∀ o, (o = 7 ∨ o = 9 ∨ o = 11) → ∀ y, c_ax y o (m_new (h 3 2) cp dt (h 4) (h 5)) a → y o = h3 o → y (o + 1) = h3 (o + 1) → c_ax (q_ud (q_ud (q_ud (q_ud (q_ud (q_ud (q_ud (q_ud h3 13 1 0) 6 4 (h 3 2)) 6 5 cp) 6 6 dt) 6 7 0) 6 8 0) 6 9 0) 6 10 0) o (m_new (h 3 2) cp dt (h 4) (h 5)) a := fun o ho y hy e1 e2 => c_ax_h hy (by funext j; rw [q_ud_n (by omega), q_ud_n (by omega), q_ud_n (by omega), q_ud_n (by omega), q_ud_n (by omega), q_ud_n (by omega), q_ud_n (by omega), q_ud_n (by omega), e1]) (by funext j; rw [q_ud_n (by omega), q_ud_n (by omega), q_ud_n (by omega), q_ud_n (by omega), q_ud_n (by omega), q_ud_n (by omega), q_ud_n (by omega), q_ud_n (by omega), e2])
    rcases m_c3 ha with rfl | rfl | rfl
    · exact fin 7 (by omega) h1 (a3 _ _ _) (by rw [d2 7 (by omega) (by omega), b2 7 (by omega) (by omega)]) (by rw [d2 8 (by omega) (by omega), b2 8 (by omega) (by omega)])
    · exact fin 9 (by omega) h2 (b3 _ _ _) (by rw [d2 9 (by omega) (by omega)]) (by rw [d2 10 (by omega) (by omega)])
    · exact fin 11 (by omega) h3 (d3 _ _ _) rfl rfl
  · refine ⟨?_, ?_, ?_, ?_, ?_, ?_, ?_⟩
    · rw [q_ud_n (by omega), q_ud_n (by omega), q_ud_n (by omega), q_ud_n (by omega), q_ud_n (by omega), q_ud_n (by omega), q_ud_s]; rfl
    · rw [q_ud_n (by omega), q_ud_n (by omega), q_ud_n (by omega), q_ud_n (by omega), q_ud_n (by omega), q_ud_s]; rfl
    · rw [q_ud_n (by omega), q_ud_n (by omega), q_ud_n (by omega), q_ud_n (by omega), q_ud_s]; rfl
    · rw [q_ud_n (by omega), q_ud_n (by omega), q_ud_n (by omega), q_ud_s]; rfl
    · rw [q_ud_n (by omega), q_ud_n (by omega), q_ud_s]; rfl
    · rw [q_ud_n (by omega), q_ud_s]; rfl
    · rw [q_ud_s]; rfl
  · rw [q_ud_n (by omega), q_ud_n (by omega), q_ud_n (by omega), q_ud_n (by omega), q_ud_n (by omega), q_ud_n (by omega), q_ud_n (by omega)]
    exact q_ud_s _ _ _ _
  · rw [m_new_0 (by omega)] at hj
    simp at hj
end -- [98x.one]
section -- [98y.one]
/-! Part 98y: loadTable of the reference beside that of the class. -/
theorem s_rows {s : Nat} {c g : q_F} (X : s_X c g) (W : s_W s g) (Y : r_Y (g 140)) {j : Nat} (hj : j < 122) : m_new (c 3 2) ((s / 32 % 2 : Nat) : Int) ((s / 64 % 2 : Nat) : Int) (c 4) (c 5) j = m_cls (g 140) j := by
  have N : ∀ a i, a < 3 → i < 6 → c 4 (6 * a + i) = g 140 (8 + 3 * i + a) := fun a i ha hi => by
    have := X a i (Or.inl ⟨ha, hi⟩)
    unfold s_c1 s_c2 s_pl' at this
    rw [if_pos ha, if_pos ha, if_pos ha] at this
    exact this
  have Bg : ∀ a, a < 3 → c 5 a = g 140 (26 + a) := fun a ha => by
    have := X 3 a (Or.inr (Or.inl ⟨rfl, ha⟩))
    unfold s_c1 s_c2 s_pl' at this
    rw [if_neg (show ¬ (3 : Nat) < 3 by omega), if_neg (show ¬ (3 : Nat) < 3 by omega), if_neg (show ¬ (3 : Nat) < 3 by omega), if_pos rfl, if_pos rfl, if_pos rfl] at this
    exact this
  have St : c 3 2 = g 140 0 := by
    have := X 4 0 (Or.inr (Or.inr ⟨rfl, rfl⟩))
    unfold s_c1 s_c2 s_pl' at this
    rw [if_neg (show ¬ (4 : Nat) < 3 by omega), if_neg (show ¬ (4 : Nat) < 3 by omega), if_neg (show ¬ (4 : Nat) < 3 by omega), if_neg (show ¬ (4 : Nat) = 3 by omega), if_neg (show ¬ (4 : Nat) = 3 by omega), if_neg (show ¬ (4 : Nat) = 3 by omega)] at this
    exact this
  obtain ⟨-, -, -, -, -, Y44, Y0⟩ := Y
  by_cases c53 : 53 ≤ j ∧ j < 56
  · have e := m_new_c (st := c 3 2) (cp := ((s / 32 % 2 : Nat) : Int)) (dt := ((s / 64 % 2 : Nat) : Int)) (N := c 4) (B := c 5) (a := j - 53) (by omega)
    rw [show 53 + (j - 53) = j by omega] at e
    rw [e, N (j - 53) 4 (by omega) (by omega), Bg (j - 53) (by omega)]
    unfold m_cls
    rw [if_pos c53, show 8 + 3 * 4 + (j - 53) = 20 + (j - 53) by omega]
  · have ec : m_cls (g 140) j = g 140 j := by unfold m_cls; rw [if_neg c53]
    rw [ec]
    by_cases c0 : j = 0
    · subst c0; exact St
    · by_cases c1 : j = 1
      · subst c1; exact W.1.symm
      · by_cases c2 : j = 2
        · subst c2; exact W.2.symm
        · by_cases c8 : 8 ≤ j ∧ j < 26
          · have e := m_new_n (st := c 3 2) (cp := ((s / 32 % 2 : Nat) : Int)) (dt := ((s / 64 % 2 : Nat) : Int)) (N := c 4) (B := c 5) (a := (j - 8) % 3) (i := (j - 8) / 3) (by omega) (by omega)
            have ej : 8 + 3 * ((j - 8) / 3) + (j - 8) % 3 = j := by omega
            rw [ej] at e
            rw [e, N _ _ (by omega) (by omega), ej]
          · by_cases c26 : 26 ≤ j ∧ j < 29
            · have e := m_new_b (st := c 3 2) (cp := ((s / 32 % 2 : Nat) : Int)) (dt := ((s / 64 % 2 : Nat) : Int)) (N := c 4) (B := c 5) (a := j - 26) (by omega)
              rw [show 26 + (j - 26) = j by omega] at e
              rw [e, Bg (j - 26) (by omega), show 26 + (j - 26) = j by omega]
            · by_cases c44 : 44 ≤ j ∧ j < 47
              · have e := m_new_d (st := c 3 2) (cp := ((s / 32 % 2 : Nat) : Int)) (dt := ((s / 64 % 2 : Nat) : Int)) (N := c 4) (B := c 5) (a := j - 44) (by omega)
                have y := Y44 (j - 44) (by omega)
                rw [show 44 + (j - 44) = j by omega] at e y
                rw [e, y]
              · rw [m_new_0 (by omega), Y0 j (by omega)]
theorem s_rload {B : Nat → Int} {n : Nat} {c0 hh h : q_F} {S : m_St} (T : s_ct B n c0) (GF : c_fgt hh c0 3) (f2 : c0 3 2 = 100) (f3 : c0 3 3 = 0) (f4 : c0 3 4 = 0) (f5 : c0 3 5 = -1) (f6 : c0 3 6 = 0) (Tr : s_rt B n h) (hI : r_I h S) (hm : m_I S) : ∃ c' v h' w, fn117_6 1 q_fu 0 c0 = some (0, c') ∧ fn283 h = some (v, h') ∧ (∀ k, k < 139 ∨ 152 ≤ k → h' k = h k) ∧ h' 139 14 = 0 ∧ h' 139 27 = h 139 27 ∧ c' 3 5 = h' 139 16 ∧ c' 3 4 = h' 139 15 ∧
    ((c' 3 4 = 0 ∧ r_I h' (m_mkS w 0 S.P 0 S.ws) ∧ m_RI w ∧ v = w 8 + w 9 + w 10 ∧ ∃ s : Nat, s < 128 ∧ c' 3 3 = (s : Int) ∧ ∀ j, j < 122 → m_new (c' 3 2) ((s / 32 % 2 : Nat) : Int) ((s / 64 % 2 : Nat) : Int) (c' 4) (c' 5) j = w j) ∨
     (c' 3 4 ≠ 0 ∧ r_I h' (m_set S w) ∧ (∀ j, j < 122 → w j = S.w j) ∧ v = -1)) := by
  have hl : 0 ≤ h 139 14 ∧ h 139 14 ≤ 600 := by rw [Tr.1]; have := Tr.2.1; omega
  unfold fn283
  rw [m_let, fn249_i (by omega) (by omega) (by omega) (by omega) (by omega) (by omega) (by omega) (by omega), Option.bind_some]
  dsimp only
  -- the row kept
  have K1 : ∀ k, k ≠ 139 → k ≠ 141 → m_sr (q_ud h 139 7 0) 141 (m_cp (q_ud h 139 7 0 140) (q_ud h 139 7 0 141) (0 : Int).toNat (0 : Int).toNat (122 : Int).toNat) k = h k := fun k a b => by rw [m_sr_n b]; funext j; rw [q_ud_n (by omega)]
  have K2 : ∀ j, j ≠ 7 → m_sr (q_ud h 139 7 0) 141 (m_cp (q_ud h 139 7 0 140) (q_ud h 139 7 0 141) (0 : Int).toNat (0 : Int).toNat (122 : Int).toNat) 139 j = h 139 j := fun j a => by rw [m_sr_n (by omega), q_ud_n (by omega)]
  have K3 : ∀ j, j < 122 → m_sr (q_ud h 139 7 0) 141 (m_cp (q_ud h 139 7 0 140) (q_ud h 139 7 0 141) (0 : Int).toNat (0 : Int).toNat (122 : Int).toNat) 141 j = S.w j := fun j hj => by
    rw [m_sr_s]; unfold m_cp
    rw [show (0 : Int).toNat = 0 from rfl, show (122 : Int).toNat = 122 from rfl, if_pos (by omega), q_ud_n (by omega), hI.1]; congr 1; omega
  generalize m_sr (q_ud h 139 7 0) 141 (m_cp (q_ud h 139 7 0 140) (q_ud h 139 7 0 141) (0 : Int).toNat (0 : Int).toNat (122 : Int).toNat) = g1 at K1 K2 K3 ⊢
  obtain ⟨g2, a1, a2, a3⟩ := r_clear g1
  rw [a1, Option.bind_some, m_let, m_let, m_let, m_let]
  dsimp only
  -- the places before the first token
  have F : ∀ k j, k ≠ 139 → q_ud (q_ud (q_ud (q_ud g2 139 17 0) 139 18 (-1)) 139 19 0) 139 23 0 k j = g2 k j := fun k j hk => by rw [q_ud_n (by omega), q_ud_n (by omega), q_ud_n (by omega), q_ud_n (by omega)]
  have F9 : ∀ j, j < 17 ∨ 24 ≤ j → q_ud (q_ud (q_ud (q_ud g2 139 17 0) 139 18 (-1)) 139 19 0) 139 23 0 139 j = g2 139 j := fun j hj => by rw [q_ud_n (by omega), q_ud_n (by omega), q_ud_n (by omega), q_ud_n (by omega)]
  have F19 : q_ud (q_ud (q_ud (q_ud g2 139 17 0) 139 18 (-1)) 139 19 0) 139 23 0 139 19 = 0 := by rw [q_ud_n (by omega), q_ud_s]
  have F23 : q_ud (q_ud (q_ud (q_ud g2 139 17 0) 139 18 (-1)) 139 19 0) 139 23 0 139 23 = 0 := q_ud_s _ _ _ _
  have F17 : q_ud (q_ud (q_ud (q_ud g2 139 17 0) 139 18 (-1)) 139 19 0) 139 23 0 139 17 = 0 := by rw [q_ud_n (by omega), q_ud_n (by omega), q_ud_n (by omega), q_ud_s]
  have F18 : q_ud (q_ud (q_ud (q_ud g2 139 17 0) 139 18 (-1)) 139 19 0) 139 23 0 139 18 = -1 := by rw [q_ud_n (by omega), q_ud_n (by omega), q_ud_s]
  generalize q_ud (q_ud (q_ud (q_ud g2 139 17 0) 139 18 (-1)) 139 19 0) 139 23 0 = g3 at F F9 F19 F23 F17 F18 ⊢
  have e14 : g3 139 14 = h 139 14 := by rw [F9 14 (by omega), a2 139 (by omega), K2 14 (by omega)]
  obtain ⟨g4, b1, b2, b3, b4, b5, b6⟩ := r_adv0 600 q_fu g3 (by rw [e14, F19]; omega) (by have := q_fu_ge; omega) (by rw [F19]; omega) (by rw [F19, e14]; omega) (by rw [e14]; exact hl.2)
  have c14 : g4 139 14 = h 139 14 := (b2.2 14 (by omega) (by omega) (by omega) (by omega)).trans e14
  have c23 : g4 139 23 = ((0 : Nat) : Int) := (b2.2 23 (by omega) (by omega) (by omega) (by omega)).trans F23
  have c140 : ∀ j, j < 122 → g4 140 j = m_clr 3 j := fun j hj => by rw [b2.1 140 (by omega), F 140 j (by omega), a3 j hj]
  have Q4 : r_Q g4 := ⟨by rw [c14]; exact hl, by rw [c14]; rw [F19] at b3; rw [e14] at b5; omega, b6, 0, by omega, c23⟩
  have S4 : r_S g4 := ⟨r_Y_c r_Y_clr.1 c140, fun s e z a ha => by rw [c140 _ (by omega)]; exact r_Y_clr.2 a ha⟩
  have b1' : fn235 g3 = some (0, g4) := b1
  have e150 : g3 150 = h 150 := by funext j; rw [F 150 j (by omega), a2 150 (by omega), K1 150 (by omega) (by omega)]
  have Tg3 : s_rt B n g3 := ⟨e14.trans Tr.1, Tr.2.1, fun k hk => by rw [e150]; exact Tr.2.2.1 k hk, Tr.2.2.2⟩
  obtain ⟨g4', t1, t2, t3⟩ := s_tok (p := 0) Tg3 F19 (Nat.zero_le _)
  have e9 := b1'.symm.trans t1
  cases e9
  have R0 : s_R B n 0 0 c0 g4 := ⟨T, f6, t3, s_X_fg GF f2 c140, ⟨f4, (b2.2 17 (by omega) (by omega) (by omega) (by omega)).trans F17⟩, ⟨f5, (b2.2 18 (by omega) (by omega) (by omega) (by omega)).trans F18⟩, by omega, f3, c23⟩
  have W0 : s_W 0 g4 := ⟨by rw [c140 1 (by omega)]; rfl, by rw [c140 2 (by omega)]; rfl⟩
  obtain ⟨cc, gg, vv, x1, x2, x3⟩ := s_text 600 q_fu q_fu 0 0 0 c0 g4 (by have := T.2.1; omega) (by have := q_fu_ge; omega) (by have := q_fu_ge; omega) (Nat.le_refl _) R0 W0
  rw [b1', Option.bind_some]
  dsimp only
  obtain ⟨v, g5, d1, d2, d3, d4⟩ := r_text 600 q_fu g4 (by have := Q4.1; have := Q4.2.1; omega) (by have := q_fu_ge; omega) Q4 S4
  have d1' : fn317 g4 = some (v, g5) := d1
  have e9 := Option.some.inj (d1.symm.trans x2)
  have hv : v = vv := congrArg Prod.fst e9
  have hg : g5 = gg := congrArg Prod.snd e9
  subst hv
  subst hg
  rw [d1', Option.bind_some, m_let, m_let, m_let]
  dsimp only
  -- what stands behind the text
  have G : ∀ k, k ≠ 139 → k ≠ 140 → k ≠ 141 → g5 k = h k := fun k x y z => by
    rw [d3.1 k x y, b2.1 k x]; funext j; rw [F k j x, a2 k y, K1 k x z]
  have G9' : ∀ k, k < 139 ∨ 152 ≤ k → g5 k = h k := fun k hk => G k (by omega) (by omega) (by omega)
  have G9 : ∀ j, j < 17 ∨ 24 ≤ j → j ≠ 7 → g5 139 j = h 139 j := fun j hj h7 => by
    rw [d3.2.1 j hj, b2.2 j (by omega) (by omega) (by omega) (by omega), F9 j hj, a2 139 (by omega), K2 j h7]
  have G141 : ∀ j, j < 122 → g5 141 j = S.w j := fun j hj => by
    rw [d3.1 141 (by omega) (by omega), b2.1 141 (by omega), F 141 j (by omega), a2 141 (by omega), K3 j hj]
  have U : ∀ k j, k ≠ 139 → q_ud (q_ud (q_ud g5 139 14 0) 139 15 (q_ud g5 139 14 0 139 17)) 139 16 (q_ud (q_ud g5 139 14 0) 139 15 (q_ud g5 139 14 0 139 17) 139 18) k j = g5 k j := fun k j hk => by rw [q_ud_n (by omega), q_ud_n (by omega), q_ud_n (by omega)]
  have U9 : ∀ j, j ≠ 14 → j ≠ 15 → j ≠ 16 → q_ud (q_ud (q_ud g5 139 14 0) 139 15 (q_ud g5 139 14 0 139 17)) 139 16 (q_ud (q_ud g5 139 14 0) 139 15 (q_ud g5 139 14 0 139 17) 139 18) 139 j = g5 139 j := fun j x y z => by rw [q_ud_n (by omega), q_ud_n (by omega), q_ud_n (by omega)]
  have U14 : q_ud (q_ud (q_ud g5 139 14 0) 139 15 (q_ud g5 139 14 0 139 17)) 139 16 (q_ud (q_ud g5 139 14 0) 139 15 (q_ud g5 139 14 0 139 17) 139 18) 139 14 = 0 := by rw [q_ud_n (by omega), q_ud_n (by omega), q_ud_s]
  have U15 : q_ud (q_ud (q_ud g5 139 14 0) 139 15 (q_ud g5 139 14 0 139 17)) 139 16 (q_ud (q_ud g5 139 14 0) 139 15 (q_ud g5 139 14 0 139 17) 139 18) 139 15 = g5 139 17 := by rw [q_ud_n (by omega), q_ud_s, q_ud_n (by omega)]
  have U16 : q_ud (q_ud (q_ud g5 139 14 0) 139 15 (q_ud g5 139 14 0 139 17)) 139 16 (q_ud (q_ud g5 139 14 0) 139 15 (q_ud g5 139 14 0 139 17) 139 18) 139 16 = g5 139 18 := by rw [q_ud_s, q_ud_n (by omega), q_ud_n (by omega)]
  generalize q_ud (q_ud (q_ud g5 139 14 0) 139 15 (q_ud g5 139 14 0 139 17)) 139 16 (q_ud (q_ud g5 139 14 0) 139 15 (q_ud g5 139 14 0 139 17) 139 18) = g6 at U U9 U14 U15 U16 ⊢
  have U140 : g6 140 = g5 140 := by funext j; exact U 140 j (by omega)
  rcases x3 with ⟨rfl, p', s', R1, W1⟩ | ⟨rfl, E⟩
  · have d5 : r_S g5 := by
      rcases d4 with h9 | ⟨-, d4⟩
      · exact absurd h9 (by decide)
      · exact d4
    have Y := d5.1
    have R := r_RI_cls Y
    obtain ⟨-, -, -, X, ⟨q1, q2⟩, ⟨q3, q4⟩, q5, q6, q7⟩ := R1
    rw [if_neg (show ¬ (1 : Int) = 0 by decide), r_closes U140, Option.bind_some, m_let, m_let]
    dsimp only
    rw [fn303_i (by omega) (by omega), Option.bind_some, fn303_i (by omega) (by omega), Option.bind_some, fn303_i (by omega) (by omega), Option.bind_some]
    have y0 : 1 ≤ g5 140 8 ∧ g5 140 8 ≤ 2000 := r_Y_len Y (a := 0) (by omega)
    have y1 : 1 ≤ g5 140 9 ∧ g5 140 9 ≤ 2000 := r_Y_len Y (a := 1) (by omega)
    have y2 : 1 ≤ g5 140 10 ∧ g5 140 10 ≤ 2000 := r_Y_len Y (a := 2) (by omega)
    have c8 : ∀ j, j < 53 → m_cls (g5 140) j = g5 140 j := fun j hj => by unfold m_cls; rw [if_neg (by omega)]
    refine ⟨cc, _, _, m_cls (g5 140), x1, rfl, fun k hk => ?_, ?_, ?_, ?_, ?_, Or.inl ⟨q1, ⟨?_, ⟨?_, fun k hk => absurd hk (Nat.not_lt_zero k)⟩, q_ud_s _ _ _ _, fun h9 => absurd rfl h9⟩, R, ?_, s', q5, q6, fun j hj => ?_⟩⟩
    · funext j; rw [q_ud_n (by omega), q_ud_n (by omega), m_sr_n (by omega), U k j (by omega), G9' k hk]
    · rw [q_ud_n (by omega), q_ud_n (by omega), m_sr_n (by omega)]; exact U14
    · rw [q_ud_n (by omega), q_ud_n (by omega), m_sr_n (by omega), U9 27 (by omega) (by omega) (by omega), G9 27 (by omega) (by omega)]
    · rw [q_ud_n (by omega), q_ud_n (by omega), m_sr_n (by omega), U16, q3, q4]
    · rw [q_ud_n (by omega), q_ud_n (by omega), m_sr_n (by omega), U15, q1, q2]
    · funext j; rw [q_ud_n (by omega), q_ud_n (by omega), m_sr_s]; rfl
    · rw [q_ud_n (by omega), q_ud_s]; rfl
    · have z : ∀ j, j < 53 → q_ud (q_ud (m_sr g6 140 (m_cls (g5 140))) 139 5 0) 139 6 0 140 j = g5 140 j := fun j hj => by rw [q_ud_n (by omega), q_ud_n (by omega), m_sr_s, c8 j hj]
      rw [show (8 : Int).toNat = 8 from rfl, show (9 : Int).toNat = 9 from rfl, show (10 : Int).toNat = 10 from rfl, z 8 (by omega), z 9 (by omega), z 10 (by omega), c8 8 (by omega), c8 9 (by omega), c8 10 (by omega), q_w32_id (z := g5 140 8) (by omega) (by omega), q_w32_id (z := g5 140 9) (by omega) (by omega), q_w32_id (z := g5 140 10) (by omega) (by omega), q_w32_id (z := g5 140 8 + g5 140 9) (by omega) (by omega), q_w32_id (by omega) (by omega)]
    · exact s_rows X W1 Y hj
  · obtain ⟨kk, k0, k1, k2, k3⟩ := E
    rw [if_pos rfl, fn249_i (by omega) (by omega) (by omega) (by omega) (by omega) (by omega) (by omega) (by omega), Option.bind_some]
    have ew : ∀ j, j < 122 → m_cp (g6 141) (g6 140) (0 : Int).toNat (0 : Int).toNat (122 : Int).toNat j = S.w j := fun j hj => by
      unfold m_cp
      rw [show (0 : Int).toNat = 0 from rfl, show (122 : Int).toNat = 122 from rfl, if_pos (by omega), U 141 _ (by omega), show 0 + (j - 0) = j by omega]; exact G141 j hj
    dsimp only
    refine ⟨cc, _, _, m_cp (g6 141) (g6 140) (0 : Int).toNat (0 : Int).toNat (122 : Int).toNat, x1, rfl, fun k hk => ?_, ?_, ?_, ?_, ?_, Or.inr ⟨by rw [k1]; exact k0, ⟨m_sr_s _ _ _, ⟨?_, fun k hk j hj => ?_⟩, ?_, fun hs j hj => ?_⟩, ew, rfl⟩⟩
    · rw [m_sr_n (by omega)]; funext j; rw [U k j (by omega), G9' k hk]
    · rw [m_sr_n (by omega)]; exact U14
    · rw [m_sr_n (by omega), U9 27 (by omega) (by omega) (by omega), G9 27 (by omega) (by omega)]
    · rw [m_sr_n (by omega), U16]; exact k3
    · rw [m_sr_n (by omega), U15, k1, k2]
    · rw [m_sr_n (by omega), U9 5 (by omega) (by omega) (by omega), G9 5 (by omega) (by omega)]; exact hI.2.1.1
    · rw [m_sr_n (by omega), U 144 _ (by omega), G 144 (by omega) (by omega) (by omega)]; exact hI.2.1.2 k hk j hj
    · rw [m_sr_n (by omega), U9 6 (by omega) (by omega) (by omega), G9 6 (by omega) (by omega)]; exact hI.2.2.1
    · rw [m_sr_n (by omega), U 143 _ (by omega), G 143 (by omega) (by omega) (by omega)]; exact hI.2.2.2 hs j hj
end -- [98y.one]
section -- [98za.both]
/-! Part 98za: both sides hold one state; loadTable keeps it so, and answers alike. -/
def j_T (S1 S2 : m_St) (h : q_F) : Prop := (m_I S1 ∧ c_I h S1) ∧ (m_I S2 ∧ r_I h S2) ∧ (∃ (B : Nat → Int) (n : Nat), s_ct B n h ∧ s_rt B n h) ∧ (h 3 4 = h 139 15 ∧ h 3 5 = h 139 16) ∧ 0 ≤ h 139 27 ∧ h 139 27 ≤ 300
theorem j_T_J {S1 S2 : m_St} {h : q_F} (J : j_T S1 S2 h) : j_J h ∧ h 1 1 = h 139 14 := by
  obtain ⟨⟨m1, i1⟩, ⟨m2, i2⟩, ⟨B, n, Tc, Tr⟩, -, o⟩ := J
  have := Tc.2.1
  exact ⟨⟨⟨S1, m1, i1⟩, ⟨S2, m2, i2⟩, by rw [Tc.1]; omega, by rw [Tr.1]; omega, o⟩, by rw [Tc.1, Tr.1]⟩
theorem s_text0 {h : q_F} (hc : h 1 1 = 0) (hr : h 139 14 = 0) : ∃ (B : Nat → Int) (n : Nat), s_ct B n h ∧ s_rt B n h := ⟨fun _ => 0, 0, ⟨hc, by omega, fun k hk => absurd hk (Nat.not_lt_zero k)⟩, ⟨hr, by omega, fun k hk => absurd hk (Nat.not_lt_zero k), fun k hk => absurd hk (Nat.not_lt_zero k)⟩⟩
theorem t_load {S : m_St} {h : q_F} (J : j_T S S h) : ∃ v h1 h2 S', fn187 h = some (v, h1) ∧ fn283 h1 = some (v, h2) ∧ j_T S' S' h2 := by
  obtain ⟨⟨hm, hc⟩, ⟨-, hr⟩, ⟨B, n, Tc, Tr⟩, -, o0, o1⟩ := J
  have hl : 0 ≤ h 1 1 ∧ h 1 1 ≤ 600 := by rw [Tc.1]; have := Tc.2.1; omega
  obtain ⟨c0, f1, G, f2, f3, f4, f5, f6⟩ := s_forget h
  obtain ⟨h1, p1, Z, F1⟩ := c_parse hl
  have p2 : fn117_6 1 q_fu (0 : Int) c0 = some (0, h1) := by rw [fn117, f1, Option.bind_some] at p1; exact p1
  have T0 : s_ct B n c0 := s_ct_F Tc G.1
  obtain ⟨-, -, z3, ⟨s, s1, s2, -⟩, z5, z6⟩ := Z
  have I2 : c_I (q_ud h1 1 1 0) S := c_I_k hc hm.2.1.1 (fun k hk => by funext j; rw [q_ud_n (by omega), F1 k (by omega)]) (by rw [q_ud_n (by omega), F1 0 (by omega)])
  rw [fn187, p1, Option.bind_some, m_let]
  dsimp only
  have e3 : q_ud h1 1 1 0 3 = h1 3 := by funext j; rw [q_ud_n (by omega)]
  have e4 : q_ud h1 1 1 0 4 = h1 4 := by funext j; rw [q_ud_n (by omega)]
  have e5 : q_ud h1 1 1 0 5 = h1 5 := by funext j; rw [q_ud_n (by omega)]
  have k1 : ∀ k, 139 ≤ k → q_ud h1 1 1 0 k = h k := fun k hk => by funext j; rw [q_ud_n (by omega), F1 k (by omega)]
  have l1 : q_ud h1 1 1 0 1 1 = 0 := q_ud_s _ _ _ _
  generalize q_ud h1 1 1 0 = g at I2 e3 e4 e5 k1 l1 ⊢
  -- what the reference makes of it, on any heap that holds its part
  have R : ∀ y : q_F, (∀ k, 139 ≤ k → y k = h k) → ∃ v h' w, fn283 y = some (v, h') ∧ (∀ k, k < 139 ∨ 152 ≤ k → h' k = y k) ∧ h' 139 14 = 0 ∧ h' 139 27 = h 139 27 ∧ h1 3 5 = h' 139 16 ∧ h1 3 4 = h' 139 15 ∧
    ((h1 3 4 = 0 ∧ r_I h' (m_mkS w 0 S.P 0 S.ws) ∧ m_RI w ∧ v = w 8 + w 9 + w 10 ∧ ∀ j, j < 122 → m_new (h1 3 2) ((s / 32 % 2 : Nat) : Int) ((s / 64 % 2 : Nat) : Int) (h1 4) (h1 5) j = w j) ∨
     (h1 3 4 ≠ 0 ∧ r_I h' (m_set S w) ∧ (∀ j, j < 122 → w j = S.w j) ∧ v = -1)) := fun y hy => by
    have y9 := hy 139 (by omega)
    obtain ⟨c', v, h', w, x1, x2, x3, x4, x5, x6, x7, x8⟩ := s_rload (h := y) (S := S) T0 G f2 f3 f4 f5 f6 ⟨by rw [y9]; exact Tr.1, Tr.2.1, fun k hk => by rw [hy 150 (by omega)]; exact Tr.2.2.1 k hk, Tr.2.2.2⟩ (r_I_k hr (fun k hk => hy k (by omega)) (by rw [y9]) (by rw [y9])) hm
    have e9 := Option.some.inj (x1.symm.trans p2)
    have ec : c' = h1 := congrArg Prod.snd e9
    subst ec
    refine ⟨v, h', w, x2, x3, x4, by rw [x5, y9], x6, x7, ?_⟩
    rcases x8 with ⟨q1, q2, q3, q4, t, t1, t2, t3⟩ | q
    · obtain rfl : s = t := by omega
      exact Or.inl ⟨q1, q2, q3, q4, t3⟩
    · exact Or.inr q
  by_cases z : g 3 4 = 0
  · obtain ⟨g2, b1, b2, b3, b4⟩ := s_setUp (h := g) s1 (by rw [e3]; exact s2) (by rw [e3]; exact z3) (by rw [e4]; exact z5) (by rw [e4, e5]; exact z6)
    rw [e3, e4, e5] at b3 b4
    obtain ⟨i1, ⟨i2, i3, i4, i5⟩, i6, i7⟩ := I2
    rw [if_pos z, b1, Option.bind_some, fn65, m_let, Option.bind_some, m_let, m_let]
    dsimp only
    have Y : ∀ k, k ≠ 0 → k ≠ 33 → k ≠ 137 → q_ud (q_ud (q_ud g2 33 1 0) 137 1 0) 0 9 0 k = g2 k := fun k x y z => by funext j; rw [q_ud_n (by omega), q_ud_n (by omega), q_ud_n (by omega)]
    have Y9 : q_ud (q_ud (q_ud g2 33 1 0) 137 1 0) 0 9 0 0 9 = 0 := q_ud_s _ _ _ _
    have Y331 : q_ud (q_ud (q_ud g2 33 1 0) 137 1 0) 0 9 0 33 1 = 0 := by rw [q_ud_n (by omega), q_ud_n (by omega), q_ud_s]
    have Y332 : q_ud (q_ud (q_ud g2 33 1 0) 137 1 0) 0 9 0 33 2 = g 33 2 := by rw [q_ud_n (by omega), q_ud_n (by omega), q_ud_n (by omega), b2 33 (by omega)]
    generalize q_ud (q_ud (q_ud g2 33 1 0) 137 1 0) 0 9 0 = y at Y Y9 Y331 Y332 ⊢
    have tb : c_tb y 6 (m_new (h1 3 2) ((s / 32 % 2 : Nat) : Int) ((s / 64 % 2 : Nat) : Int) (h1 4) (h1 5)) := c_tb_k b3 fun k x1 x2 => Y k (by omega) (by omega) (by omega)
    have hy : ∀ k, 139 ≤ k → y k = h k := fun k hk => by rw [Y k (by omega) (by omega) (by omega), b2 k (by omega), k1 k hk]
    obtain ⟨v, h', w, x2, x3, x4, x5, x6, x7, x8⟩ := R y hy
    rcases x8 with ⟨-, q2, q3, q4, q5⟩ | ⟨q1, -⟩
    · have tw : c_tb y 6 w := c_tb_c tb (by rw [m_new_0 (by omega)]; omega) (fun j hj => (q5 j hj).symm)
      have a0 : y 7 0 = w 8 := (tw.1 0 (by omega)).1 0 (by omega)
      have a1 : y 9 0 = w 9 := (tw.1 1 (by omega)).1 0 (by omega)
      have a2 : y 11 0 = w 10 := (tw.1 2 (by omega)).1 0 (by omega)
      have n0 : 1 ≤ w 8 ∧ w 8 ≤ 2000 := by rw [← q5 8 (by omega)]; exact (z5 0 (by omega) 0 (by omega)).1 rfl
      have n1 : 1 ≤ w 9 ∧ w 9 ≤ 2000 := by rw [← q5 9 (by omega)]; exact (z5 1 (by omega) 0 (by omega)).1 rfl
      have n2 : 1 ≤ w 10 ∧ w 10 ≤ 2000 := by rw [← q5 10 (by omega)]; exact (z5 2 (by omega) 0 (by omega)).1 rfl
      have mS : m_I (m_mkS w 0 S.P 0 S.ws) := ⟨q3, ⟨Nat.zero_le _, fun k hk => absurd hk (Nat.not_lt_zero k)⟩, Or.inl rfl, fun h9 => absurd rfl h9⟩
      refine ⟨v, y, h', m_mkS w 0 S.P 0 S.ws, ?_, x2, ⟨mS, ?_⟩, ⟨mS, q2⟩, s_text0 ?_ x4, ⟨?_, ?_⟩, ?_, ?_⟩
      · rw [a0, a1, a2, q_w32_id (z := w 8 + w 9) (by omega) (by omega), q_w32_id (by omega) (by omega), q4]
      · refine ⟨c_tb_k tw fun k y1 y2 => x3 k (by omega), ⟨?_, ?_, ?_, fun k hk => absurd hk (Nat.not_lt_zero k)⟩, ?_, fun h9 => absurd rfl h9⟩
        · rw [x3 33 (by omega), Y331]; rfl
        · rw [x3 33 (by omega), Y332]; exact i3
        · rw [x3 33 (by omega), Y332]; exact i4
        · rw [x3 0 (by omega), Y9]; rfl
      · rw [x3 1 (by omega), Y 1 (by omega) (by omega) (by omega), b2 1 (by omega)]; exact l1
      · rw [x3 3 (by omega), Y 3 (by omega) (by omega) (by omega), b2 3 (by omega), e3]; exact x7
      · rw [x3 3 (by omega), Y 3 (by omega) (by omega) (by omega), b2 3 (by omega), e3]; exact x6
      · rw [x5]; exact o0
      · rw [x5]; exact o1
    · rw [e3] at z; exact absurd z q1
  · rw [if_neg z]
    obtain ⟨v, h', w, x2, x3, x4, x5, x6, x7, x8⟩ := R g k1
    rcases x8 with ⟨q1, -⟩ | ⟨-, q2, q3, q4⟩
    · rw [e3] at z; exact absurd q1 z
    · have mS : m_I (m_set S w) := m_I_set hm (m_RI_c hm.1 q3)
      have cI : c_I g (m_set S w) := c_I_set I2 (fun _ _ => rfl) (c_tb_c I2.1 (m_R0_ok hm.1.1).2.1.2 q3)
      refine ⟨v, g, h', m_set S w, by rw [q4], x2, ⟨mS, ?_⟩, ⟨mS, q2⟩, s_text0 ?_ x4, ⟨?_, ?_⟩, ?_, ?_⟩
      · exact c_I_k cI hm.2.1.1 (fun k hk => x3 k (by omega)) (by rw [x3 0 (by omega)])
      · rw [x3 1 (by omega)]; exact l1
      · rw [x3 3 (by omega), e3]; exact x7
      · rw [x3 3 (by omega), e3]; exact x6
      · rw [x5]; exact o0
      · rw [x5]; exact o1
end -- [98za.both]
section -- [98zb.both]
/-! Part 98zb: the input's bytes are the same on both sides. -/
theorem s_255 : Int32.ofInt 255 = 255 := rfl
theorem s_255t (i : Nat) (h : ¬ i < 8) : Nat.testBit 255 i = false := Nat.testBit_lt_two_pow (Nat.lt_of_lt_of_le (by decide : 255 < 2 ^ 8) (Nat.pow_le_pow_right (by decide) (by omega)))
theorem s_and8 (x y : BitVec 32) (h : ∀ i, i < 8 → x.getLsbD i = y.getLsbD i) : x &&& 255#32 = y &&& 255#32 := by
  apply BitVec.eq_of_getLsbD_eq
  intro i hi
  rw [BitVec.getLsbD_and, BitVec.getLsbD_and, BitVec.getLsbD_ofNat]
  by_cases c : i < 8
  · rw [h i c]
  · rw [s_255t i c]; simp
theorem s_i8 (x : Int) : q_ian (q_i8 x) 255 = q_ian x 255 := by
  unfold q_ian q_i8
  rw [Int32.ofInt_toInt]
  congr 1
  generalize Int32.ofInt x = y
  apply Int32.toBitVec_inj.mp
  rw [Int32.toBitVec_and, Int32.toBitVec_and, Int8.toBitVec_toInt32, Int32.toBitVec_toInt8]
  refine s_and8 _ _ fun i h => ?_
  rw [BitVec.getLsbD_signExtend, BitVec.getLsbD_signExtend]
  have h2 : i < 32 := by omega
  simp [h, h2]
theorem s_sh (x : BitVec 32) (k : Nat) (hk : k ≤ 24) : x >>> k &&& 255#32 = x.sshiftRight k &&& 255#32 := by
  refine s_and8 _ _ fun i h => ?_
  rw [BitVec.getLsbD_ushiftRight, BitVec.getLsbD_sshiftRight, if_pos (by omega)]
  have h2 : ¬ 32 ≤ i := by omega
  simp [h2]
theorem s_by0 (x : Int) : 0 ≤ q_ian x 255 := by
  unfold q_ian
  have h : (Int32.ofInt x &&& Int32.ofInt 255).toBitVec.toNat ≤ 255 := by
    rw [Int32.toBitVec_and, BitVec.toNat_and]
    exact Nat.and_le_right
  have e : (Int32.ofInt x &&& Int32.ofInt 255).toInt = (Int32.ofInt x &&& Int32.ofInt 255).toBitVec.toInt := rfl
  rw [e, BitVec.toInt_eq_toNat_of_lt (by omega)]
  omega
theorem s_sh24 (x : Int) : q_ian (q_iushr x 24) 255 = q_ian (q_ishr x 24) 255 := by
  unfold q_ian q_iushr q_ishr
  rw [Int32.ofInt_toInt, Int32.ofInt_toInt]
  congr 1
  generalize Int32.ofInt x = y
  have e1 : ((Int32.ofInt 24).toUInt32 &&& Int32.toUInt32 31) = 24 := rfl
  have e2 : (Int32.ofInt 24 &&& 31) = 24 := rfl
  rw [e1, e2]
  apply Int32.toBitVec_inj.mp
  simp
  exact s_sh _ 24 (by omega)
theorem s_sh16 (x : Int) : q_ian (q_iushr x 16) 255 = q_ian (q_ishr x 16) 255 := by
  unfold q_ian q_iushr q_ishr
  rw [Int32.ofInt_toInt, Int32.ofInt_toInt]
  congr 1
  generalize Int32.ofInt x = y
  have e1 : ((Int32.ofInt 16).toUInt32 &&& Int32.toUInt32 31) = 16 := rfl
  have e2 : (Int32.ofInt 16 &&& 31) = 16 := rfl
  rw [e1, e2]
  apply Int32.toBitVec_inj.mp
  simp
  exact s_sh _ 16 (by omega)
theorem s_sh8 (x : Int) : q_ian (q_iushr x 8) 255 = q_ian (q_ishr x 8) 255 := by
  unfold q_ian q_iushr q_ishr
  rw [Int32.ofInt_toInt, Int32.ofInt_toInt]
  congr 1
  generalize Int32.ofInt x = y
  have e1 : ((Int32.ofInt 8).toUInt32 &&& Int32.toUInt32 31) = 8 := rfl
  have e2 : (Int32.ofInt 8 &&& 31) = 8 := rfl
  rw [e1, e2]
  apply Int32.toBitVec_inj.mp
  simp
  exact s_sh _ 8 (by omega)
theorem s_sh0 (x : Int) : q_ian x 255 = q_ian (q_ishr x 0) 255 := by
  unfold q_ian q_ishr
  rw [Int32.ofInt_toInt]
  congr 1
  generalize Int32.ofInt x = y
  have e2 : (Int32.ofInt 0 &&& 31) = 0 := rfl
  rw [e2]
  apply Int32.toBitVec_inj.mp
  simp
/-- one byte more -/
def s_p1 (B : Nat → Int) (n : Nat) (x : Int) : Nat → Int := fun k => if k = n then x else B k
theorem s_cb {B : Nat → Int} {n : Nat} {v x : Int} {g : q_F} (T : s_ct B n g) (h : n < 600) (hx : q_ian v 255 = x) : ∃ g', fn60 1 v g = some (0, g') ∧ s_ct (s_p1 B n x) (n + 1) g' ∧ c_FI g g' := by
  obtain ⟨t1, t2, t3⟩ := T
  rw [fn60, t1, if_neg (by omega), if_neg (by omega), if_pos (by omega), m_let, m_let, q_ud_n (show ¬ (1 = 1 + 1 ∧ 1 = ((n : Nat) : Int).toNat) by omega), t1, q_w32_id (by omega) (by omega), Int.toNat_natCast]
  refine ⟨_, rfl, ⟨by rw [q_ud_s]; omega, by omega, fun k hk => ?_⟩, fun k k1 k2 => by funext j; rw [q_ud_n (by omega), q_ud_n (by omega)]⟩
  rw [q_ud_n (show ¬ (2 = 1 ∧ k = 1) by omega)]
  unfold s_p1
  by_cases e : k = n
  · rw [if_pos e, e, show (1 + 1) = 2 from rfl, q_ud_s, s_i8, s_i8]; exact hx
  · rw [if_neg e, q_ud_n (by omega)]; exact t3 k (by omega)
noncomputable def s_pw (B : Nat → Int) (n : Nat) (v : Int) : Nat → Int := s_p1 (s_p1 (s_p1 (s_p1 B n (q_ian (q_ishr v 24) 255)) (n + 1) (q_ian (q_ishr v 16) 255)) (n + 2) (q_ian (q_ishr v 8) 255)) (n + 3) (q_ian (q_ishr v 0) 255)
theorem s_cword {B : Nat → Int} {n : Nat} {v : Int} {g : q_F} (T : s_ct B n g) (h : n + 4 ≤ 600) : ∃ g', fn62 1 v g = some (0, g') ∧ s_ct (s_pw B n v) (n + 4) g' ∧ c_FI g g' := by
  obtain ⟨g1, a1, a2, a3⟩ := s_cb (v := q_iushr v 24) T (by omega) (s_sh24 v)
  obtain ⟨g2, b1, b2, b3⟩ := s_cb (v := q_iushr v 16) a2 (by omega) (s_sh16 v)
  obtain ⟨g3, d1, d2, d3⟩ := s_cb (v := q_iushr v 8) b2 (by omega) (s_sh8 v)
  obtain ⟨g4, e1, e2, e3⟩ := s_cb (v := v) d2 (by omega) (s_sh0 v)
  refine ⟨g4, ?_, e2, c_FI_t a3 (c_FI_t b3 (c_FI_t d3 e3))⟩
  rw [fn62, a1, Option.bind_some, b1, Option.bind_some, d1, Option.bind_some, e1, Option.bind_some]
theorem s_rb {B : Nat → Int} {n f : Nat} {v u : Int} {g : q_F} (T : s_rt B n g) (h : n < 600) (hu : 0 ≤ u ∧ u ≤ 24) : ∃ g', fn238_3 (f + 1) v u g = fn238_3 f v (u - 8) g' ∧ s_rt (s_p1 B n (q_ian (q_ishr v u) 255)) (n + 1) g' ∧ r_FI g g' := by
  obtain ⟨t1, t2, t3, t4⟩ := T
  rw [fn238_3, if_neg (by omega), t1, if_pos (by omega), m_let, m_let, q_ud_n (show ¬ (139 = 150 ∧ 14 = ((n : Nat) : Int).toNat) by omega), t1, q_w32_id (z := (n : Int) + 1) (by omega) (by omega), q_w32_id (by omega) (by omega), show u + -8 = u - 8 by omega, Int.toNat_natCast]
  refine ⟨_, rfl, ⟨by rw [q_ud_s]; omega, by omega, fun k hk => ?_, fun k hk => ?_⟩, fun k k1 k2 => by funext j; rw [q_ud_n (by omega), q_ud_n (by omega)], fun j h7 h14 => by rw [q_ud_n (by omega), q_ud_n (by omega)]⟩
  · rw [q_ud_n (show ¬ (150 = 139 ∧ k = 14) by omega)]
    unfold s_p1
    by_cases e : k = n
    · rw [if_pos e, e, q_ud_s]
    · rw [if_neg e, q_ud_n (by omega)]; exact t3 k (by omega)
  · unfold s_p1
    by_cases e : k = n
    · rw [if_pos e]; exact s_by0 _
    · rw [if_neg e]; exact t4 k (by omega)
theorem s_rword {B : Nat → Int} {n : Nat} {v : Int} {g : q_F} (T : s_rt B n g) (h : n + 4 ≤ 600) : ∃ g', fn238 v g = some (0, g') ∧ s_rt (s_pw B n v) (n + 4) g' ∧ r_FI g g' := by
  obtain ⟨f, hf⟩ : ∃ f', q_fu = f' + 5 := ⟨q_fu - 5, by have := q_fu_ge; omega⟩
  rw [fn238, hf]
  obtain ⟨g1, a1, a2, a3⟩ := s_rb (f := f + 4) (v := v) (u := 24) T (by omega) (by omega)
  obtain ⟨g2, b1, b2, b3⟩ := s_rb (f := f + 3) (v := v) (u := 16) a2 (by omega) (by omega)
  obtain ⟨g3, d1, d2, d3⟩ := s_rb (f := f + 2) (v := v) (u := 8) b2 (by omega) (by omega)
  obtain ⟨g4, e1, e2, e3⟩ := s_rb (f := f + 1) (v := v) (u := 0) d2 (by omega) (by omega)
  refine ⟨g4, ?_, e2, r_FI_t a3 (r_FI_t b3 (r_FI_t d3 e3))⟩
  rw [a1, show (24 : Int) - 8 = 16 by decide, b1, show (16 : Int) - 8 = 8 by decide, d1, show (8 : Int) - 8 = 0 by decide, e1, fn238_3, if_pos (by decide)]
noncomputable def s_pa (B : Nat → Int) (n : Nat) (a b c d e : Int) : Nat → Int := s_pw (s_pw (s_pw (s_pw (s_pw B n a) (n + 4) b) (n + 4 + 4) c) (n + 4 + 4 + 4) d) (n + 4 + 4 + 4 + 4) e
theorem s_capp {B : Nat → Int} {n : Nat} {a b c d e : Int} {h : q_F} (T : s_ct B n h) : ∃ h' B' n', fn156 a b c d e h = some (if (n : Int) ≤ 580 then (n : Int) + 20 else -1, h') ∧ s_ct B' n' h' ∧ c_FI h h' ∧ (if n ≤ 580 then B' = s_pa B n a b c d e ∧ n' = n + 20 else B' = B ∧ n' = n) := by
  have t2 := T.2.1
  unfold fn156
  rw [T.1]
  by_cases c1 : n ≤ 580
  · obtain ⟨g1, x1, x2, x3⟩ := s_cword (v := a) T (by omega)
    obtain ⟨g2, y1, y2, y3⟩ := s_cword (v := b) x2 (by omega)
    obtain ⟨g3, z1, z2, z3⟩ := s_cword (v := c) y2 (by omega)
    obtain ⟨g4, u1, u2, u3⟩ := s_cword (v := d) z2 (by omega)
    obtain ⟨g5, w1, w2, w3⟩ := s_cword (v := e) u2 (by omega)
    rw [if_pos (show (n : Int) ≤ 580 by omega), if_pos (show (n : Int) ≤ 580 by omega), x1, Option.bind_some, y1, Option.bind_some, z1, Option.bind_some, u1, Option.bind_some, w1, Option.bind_some]
    dsimp only
    rw [w2.1]
    exact ⟨g5, _, _, by rw [show ((n + 4 + 4 + 4 + 4 + 4 : Nat) : Int) = (n : Int) + 20 by omega], w2, c_FI_t x3 (c_FI_t y3 (c_FI_t z3 (c_FI_t u3 w3))), by rw [if_pos c1]; exact ⟨rfl, rfl⟩⟩
  · rw [if_neg (show ¬ (n : Int) ≤ 580 by omega), if_neg (show ¬ (n : Int) ≤ 580 by omega)]
    exact ⟨h, B, n, rfl, T, fun _ _ _ => rfl, by rw [if_neg c1]; exact ⟨rfl, rfl⟩⟩
theorem s_rapp {B : Nat → Int} {n : Nat} {a b c d e : Int} {h : q_F} (T : s_rt B n h) : ∃ h' B' n', fn237 a b c d e h = some (if (n : Int) ≤ 580 then (n : Int) + 20 else -1, h') ∧ s_rt B' n' h' ∧ r_FI h h' ∧ (if n ≤ 580 then B' = s_pa B n a b c d e ∧ n' = n + 20 else B' = B ∧ n' = n) := by
  have t2 := T.2.1
  have T0 : s_rt B n (q_ud h 139 7 0) := ⟨by rw [q_ud_n (by omega)]; exact T.1, t2, fun k hk => by rw [q_ud_n (by omega)]; exact T.2.2.1 k hk, T.2.2.2⟩
  have F0 : r_FI h (q_ud h 139 7 0) := ⟨fun k k1 k2 => by funext j; rw [q_ud_n (by omega)], fun j h7 h14 => by rw [q_ud_n (by omega)]⟩
  unfold fn237
  rw [m_let, T0.1, q_w32_id (by omega) (by omega)]
  by_cases c1 : n ≤ 580
  · obtain ⟨g1, x1, x2, x3⟩ := s_rword (v := a) T0 (by omega)
    obtain ⟨g2, y1, y2, y3⟩ := s_rword (v := b) x2 (by omega)
    obtain ⟨g3, z1, z2, z3⟩ := s_rword (v := c) y2 (by omega)
    obtain ⟨g4, u1, u2, u3⟩ := s_rword (v := d) z2 (by omega)
    obtain ⟨g5, w1, w2, w3⟩ := s_rword (v := e) u2 (by omega)
    rw [if_pos (show (n : Int) + 20 ≤ 600 by omega), if_pos (show (n : Int) ≤ 580 by omega), x1, Option.bind_some, y1, Option.bind_some, z1, Option.bind_some, u1, Option.bind_some, w1, Option.bind_some]
    dsimp only
    rw [w2.1]
    exact ⟨g5, _, _, by rw [show ((n + 4 + 4 + 4 + 4 + 4 : Nat) : Int) = (n : Int) + 20 by omega], w2, r_FI_t F0 (r_FI_t x3 (r_FI_t y3 (r_FI_t z3 (r_FI_t u3 w3)))), by rw [if_pos c1]; exact ⟨rfl, rfl⟩⟩
  · rw [if_neg (show ¬ (n : Int) + 20 ≤ 600 by omega), if_neg (show ¬ (n : Int) ≤ 580 by omega)]
    exact ⟨_, B, n, rfl, T0, F0, by rw [if_neg c1]; exact ⟨rfl, rfl⟩⟩
end -- [98zb.both]
section -- [98zc.both]
/-! Part 98zc: what a call keeps of the state that both sides hold. -/
theorem s_ct_e {B : Nat → Int} {n : Nat} {h h' : q_F} (T : s_ct B n h) (e1 : h' 1 = h 1) (e2 : h' 2 = h 2) : s_ct B n h' := ⟨by rw [e1]; exact T.1, T.2.1, fun k hk => by rw [e2]; exact T.2.2 k hk⟩
theorem s_rt_e {B : Nat → Int} {n : Nat} {h h' : q_F} (T : s_rt B n h) (e1 : h' 139 14 = h 139 14) (e2 : h' 150 = h 150) : s_rt B n h' := ⟨by rw [e1]; exact T.1, T.2.1, fun k hk => by rw [e2]; exact T.2.2.1 k hk, T.2.2.2⟩
/-- a call ends, and the two states are then these -/
def t_W (f : Option (Int × q_F)) (S1 S2 : m_St) : Prop := ∃ v h', f = some (v, h') ∧ j_T S1 S2 h'
theorem t_cF {h h' : q_F} {S1 S2 S' : m_St} (J : j_T S1 S2 h) (F : c_F h h') (hI : c_I h' S') (hm : m_I S') : j_T S' S2 h' := by
  obtain ⟨-, ⟨r1, r2⟩, ⟨B, n, Tc, Tr⟩, j2, j3⟩ := J
  have e1 := F 1 (by omega)
  have e2 := F 2 (by omega)
  have e3 := F 3 (by omega)
  have e9 := F 139 (by omega)
  exact ⟨⟨hm, hI⟩, ⟨r1, r_I_k r2 (fun k hk => F k (by omega)) (by rw [e9]) (by rw [e9])⟩, ⟨B, n, s_ct_e Tc e1 e2, s_rt_e Tr (by rw [e9]) (F 150 (by omega))⟩, by rw [e3, e9]; exact j2, by rw [e9]; exact j3⟩
theorem t_rF {h h' : q_F} {S1 S2 S' : m_St} (J : j_T S1 S2 h) (F : r_F h h') (hI : r_I h' S') (hm : m_I S') : j_T S1 S' h' := by
  obtain ⟨⟨c1, c2⟩, -, ⟨B, n, Tc, Tr⟩, j2, j3⟩ := J
  exact ⟨⟨c1, c_I_k c2 c1.2.1.1 (fun k hk => F.1 k (by omega)) (by rw [F.1 0 (by omega)])⟩, ⟨hm, hI⟩, ⟨B, n, s_ct_e Tc (F.1 1 (by omega)) (F.1 2 (by omega)), s_rt_e Tr (F.2 14 (by omega)) (F.1 150 (by omega))⟩, by rw [F.1 3 (by omega), F.2 15 (by omega), F.2 16 (by omega)]; exact j2, by rw [F.2 27 (by omega)]; exact j3⟩
theorem t_out {h : q_F} {S1 S2 : m_St} {k j : Nat} {v : Int} (J : j_T S1 S2 h) (hk : k = 153 ∨ k = 154) : j_T S1 S2 (q_ud h k j v) := by
  obtain ⟨⟨c1, c2⟩, ⟨r1, r2⟩, ⟨B, n, Tc, Tr⟩, j2, j3⟩ := J
  have e : ∀ i, i < 153 → q_ud h k j v i = h i := fun i hi => by funext x; rw [q_ud_n (by omega)]
  exact ⟨⟨c1, c_I_k c2 c1.2.1.1 (fun i hi => e i (by omega)) (by rw [e 0 (by omega)])⟩, ⟨r1, r_I_k r2 (fun i hi => e i (by omega)) (by rw [e 139 (by omega)]) (by rw [e 139 (by omega)])⟩, ⟨B, n, s_ct_e Tc (e 1 (by omega)) (e 2 (by omega)), s_rt_e Tr (by rw [e 139 (by omega)]) (e 150 (by omega))⟩, by rw [e 3 (by omega), e 139 (by omega)]; exact j2, by rw [e 139 (by omega)]; exact j3⟩
theorem t_cW {f : Option (Int × q_F)} {h : q_F} {S1 S2 S' : m_St} (J : j_T S1 S2 h) (g : c_W f h S') (hm : m_I S') : t_W f S' S2 := by
  obtain ⟨v, h', a, b, c⟩ := g
  exact ⟨v, h', a, t_cF J c b hm⟩
theorem t_rW {f : Option (Int × q_F)} {h : q_F} {S1 S2 S' : m_St} (J : j_T S1 S2 h) (g : r_W f h S') (hm : m_I S') : t_W f S1 S' := by
  obtain ⟨v, h', a, b, c⟩ := g
  exact ⟨v, h', a, t_rF J c b hm⟩
theorem t_cE {f : Option (Nat × Int × q_F)} {h : q_F} {S1 S2 S' : m_St} {Q : Nat → Prop} (J : j_T S1 S2 h) (g : c_E f h S' Q) (hm : m_I S') : ∃ k v h', f = some (k, v, h') ∧ Q k ∧ j_T S' S2 h' ∧ j_T S' S2 (q_ud h' 153 0 v) ∧ j_T S' S2 (q_ud h' 154 0 v) := by
  obtain ⟨k, v, h', a, b, c, d⟩ := g
  have J1 := t_cF J d c hm
  exact ⟨k, v, h', a, b, J1, t_out J1 (Or.inl rfl), t_out J1 (Or.inr rfl)⟩
theorem t_print {h : q_F} {S1 S2 : m_St} (J : j_T S1 S2 h) : t_W (fn307 h) S1 S2 := by
  obtain ⟨⟨c1, c2⟩, ⟨r1, r2⟩, ⟨B, n, Tc, Tr⟩, j2, j3⟩ := J
  obtain ⟨v, h', e, i, F, p0, p1⟩ := r_print r2 r1
  exact ⟨v, h', e, ⟨c1, c_I_k c2 c1.2.1.1 (fun k hk => F.1 k (by omega)) (by rw [F.1 0 (by omega)])⟩, ⟨r1, i⟩, ⟨B, n, s_ct_e Tc (F.1 1 (by omega)) (F.1 2 (by omega)), s_rt_e Tr (F.2 14 (by omega)) (F.1 150 (by omega))⟩, by rw [F.1 3 (by omega), F.2 15 (by omega), F.2 16 (by omega)]; exact j2, p0, p1⟩
end -- [98zc.both]
section -- [98zd.both]
/-! Part 98zd: what each helper of the check makes of the class's state. Printed by wip/tools/gen98z.py. -/
theorem t_L0 {v1 v2 : Int} {h : q_F} {S1 S2 : m_St} (hA : q_Al 0 155 h) (J : j_T S1 S2 h) : t_W (fn0 v1 v2 h) S1 S2 := by
  obtain ⟨hm, hI⟩ := J.1
  unfold fn0
  obtain ⟨k, v, h', e, hk, J1, o3, o4⟩ := t_cE J (c_account hI) hm
  rw [e, Option.bind_some]
  rcases hk with rfl | rfl | rfl
  · exact ⟨_, _, rfl, o3⟩
  · exact ⟨_, _, rfl, J1⟩
  · exact ⟨_, _, rfl, J1⟩
theorem t_L1 {v1 v2 : Int} {h : q_F} {S1 S2 : m_St} (hA : q_Al 0 155 h) (J : j_T S1 S2 h) : t_W (fn1 v1 v2 h) S1 S2 := by
  obtain ⟨hm, hI⟩ := J.1
  unfold fn1
  obtain ⟨k, v, h', e, hk, J1, o3, o4⟩ := t_cE J (c_axisC hI) hm
  rw [e, Option.bind_some]
  rcases hk with rfl | rfl | rfl
  · exact ⟨_, _, rfl, o3⟩
  · exact ⟨_, _, rfl, J1⟩
  · exact ⟨_, _, rfl, J1⟩
theorem t_L2 {h : q_F} {S1 S2 : m_St} (hA : q_Al 0 155 h) (J : j_T S1 S2 h) : t_W (fn2 h) S1 S2 := by
  obtain ⟨hm, hI⟩ := J.1
  unfold fn2
  obtain ⟨k, v, h', e, hk, J1, o3, o4⟩ := t_cE J (c_bestS hI hm) hm
  rw [e, Option.bind_some]
  rcases hk with rfl | rfl
  · exact ⟨_, _, rfl, o3⟩
  · exact ⟨_, _, rfl, J1⟩
theorem t_L3 {v1 v2 : Int} {h : q_F} {S1 S2 : m_St} (hA : q_Al 0 155 h) (J : j_T S1 S2 h) : t_W (fn3 v1 v2 h) S1 S2 := by
  obtain ⟨hm, hI⟩ := J.1
  unfold fn3
  obtain ⟨k, v, h', e, hk, J1, o3, o4⟩ := t_cE J (c_bound hI hm) hm
  rw [e, Option.bind_some]
  rcases hk with rfl | rfl | rfl
  · exact ⟨_, _, rfl, o3⟩
  · exact ⟨_, _, rfl, J1⟩
  · exact ⟨_, _, rfl, J1⟩
theorem t_L4 {v1 : Int} {h : q_F} {S1 S2 : m_St} (hA : q_Al 0 155 h) (J : j_T S1 S2 h) : t_W (fn4 v1 h) S1 S2 := by
  obtain ⟨hm, hI⟩ := J.1
  unfold fn4
  obtain ⟨k, v, h', e, hk, J1, o3, o4⟩ := t_cE J (c_coordinate hI) hm
  rw [e, Option.bind_some]
  rcases hk with rfl | rfl | rfl
  · exact ⟨_, _, rfl, o3⟩
  · exact ⟨_, _, rfl, J1⟩
  · exact ⟨_, _, rfl, J1⟩
theorem t_L5 {v1 : Int} {h : q_F} {S1 S2 : m_St} (hA : q_Al 0 155 h) (J : j_T S1 S2 h) : t_W (fn5 v1 h) S1 S2 := by
  obtain ⟨hm, hI⟩ := J.1
  unfold fn5
  obtain ⟨k, v, h', e, hk, J1, o3, o4⟩ := t_cE J (c_count hI hm) hm
  rw [e, Option.bind_some]
  rcases hk with rfl | rfl
  · exact ⟨_, _, rfl, o3⟩
  · exact ⟨_, _, rfl, J1⟩
theorem t_L7 {v1 : Int} {h : q_F} {S1 S2 : m_St} (hA : q_Al 0 155 h) (J : j_T S1 S2 h) : t_W (fn7 v1 h) (m_oDrop v1 S1) S2 := by
  obtain ⟨hm, hI⟩ := J.1
  unfold fn7
  obtain ⟨k, v, h', e, hk, J1, o3, o4⟩ := t_cE J (c_dropC hI hm) (m_I_drop hm)
  rw [e, Option.bind_some]
  rcases hk with rfl | rfl | rfl
  · exact ⟨_, _, rfl, o3⟩
  · exact ⟨_, _, rfl, J1⟩
  · exact ⟨_, _, rfl, J1⟩
theorem t_L8 {v1 : Int} {h : q_F} {S1 S2 : m_St} (hA : q_Al 0 155 h) (J : j_T S1 S2 h) : t_W (fn8 v1 h) S1 S2 := by
  obtain ⟨hm, hI⟩ := J.1
  unfold fn8
  obtain ⟨k, v, h', e, hk, J1, o3, o4⟩ := t_cE J (c_errorC hI) hm
  rw [e, Option.bind_some]
  rcases hk with rfl | rfl | rfl
  · exact ⟨_, _, rfl, o3⟩
  · exact ⟨_, _, rfl, J1⟩
  · exact ⟨_, _, rfl, J1⟩
theorem t_L9 {v1 : Int} {h : q_F} {S1 S2 : m_St} (hA : q_Al 0 155 h) (J : j_T S1 S2 h) : t_W (fn9 v1 h) (m_oHome v1 S1) S2 := by
  obtain ⟨hm, hI⟩ := J.1
  unfold fn9
  obtain ⟨k, v, h', e, hk, J1, o3, o4⟩ := t_cE J (c_homeC hI hm (j_w5 hA hI)) (m_I_home hm)
  rw [e, Option.bind_some]
  rcases hk with rfl | rfl | rfl
  · exact ⟨_, _, rfl, o3⟩
  · exact ⟨_, _, rfl, J1⟩
  · exact ⟨_, _, rfl, J1⟩
theorem t_L10 {h : q_F} {S1 S2 : m_St} (hA : q_Al 0 155 h) (J : j_T S1 S2 h) : t_W (fn10 h) (m_oHomeAll S1) S2 := by
  obtain ⟨hm, hI⟩ := J.1
  unfold fn10
  obtain ⟨k, v, h', e, hk, J1, o3, o4⟩ := t_cE J (c_homeAllC hI hm (j_w5 hA hI)) (m_I_homeAll hm)
  rw [e, Option.bind_some]
  rcases hk with rfl | rfl
  · exact ⟨_, _, rfl, o3⟩
  · exact ⟨_, _, rfl, J1⟩
theorem t_L11 {v1 v2 v3 v4 : Int} {h : q_F} {S1 S2 : m_St} (hA : q_Al 0 155 h) (J : j_T S1 S2 h) : t_W (fn11 v1 v2 v3 v4 h) (m_oPut v1 v2 v3 v4 S1) S2 := by
  obtain ⟨hm, hI⟩ := J.1
  unfold fn11
  obtain ⟨k, v, h', e, hk, J1, o3, o4⟩ := t_cE J (c_insertC hI hm) (m_I_put hm)
  rw [e, Option.bind_some]
  rcases hk with rfl | rfl | rfl
  · exact ⟨_, _, rfl, o3⟩
  · exact ⟨_, _, rfl, J1⟩
  · exact ⟨_, _, rfl, J1⟩
theorem t_L12 {v1 v2 : Int} {h : q_F} {S1 S2 : m_St} (hA : q_Al 0 155 h) (J : j_T S1 S2 h) : t_W (fn12 v1 v2 h) (m_oJog v1 v2 S1) S2 := by
  obtain ⟨hm, hI⟩ := J.1
  unfold fn12
  obtain ⟨k, v, h', e, hk, J1, o3, o4⟩ := t_cE J (c_jogC hI hm (j_w5 hA hI)) (m_I_jog hm)
  rw [e, Option.bind_some]
  rcases hk with rfl | rfl | rfl | rfl
  · exact ⟨_, _, rfl, o3⟩
  · exact ⟨_, _, rfl, J1⟩
  · exact ⟨_, _, rfl, J1⟩
  · exact ⟨_, _, rfl, J1⟩
theorem t_L13 {v1 : Int} {h : q_F} {S1 S2 : m_St} (hA : q_Al 0 155 h) (J : j_T S1 S2 h) : t_W (fn13 v1 h) S1 S2 := by
  obtain ⟨hm, hI⟩ := J.1
  unfold fn13
  obtain ⟨k, v, h', e, hk, J1, o3, o4⟩ := t_cE J (c_lasts hI hm) hm
  rw [e, Option.bind_some]
  rcases hk with rfl | rfl
  · exact ⟨_, _, rfl, o3⟩
  · exact ⟨_, _, rfl, J1⟩
theorem t_L14 {v1 : Int} {h : q_F} {S1 S2 : m_St} (hA : q_Al 0 155 h) (J : j_T S1 S2 h) : t_W (fn14 v1 h) S1 S2 := by
  obtain ⟨hm, hI⟩ := J.1
  unfold fn14
  obtain ⟨k, v, h', e, hk, J1, o3, o4⟩ := t_cE J (c_line hI hm) hm
  rw [e, Option.bind_some]
  rcases hk with rfl | rfl
  · exact ⟨_, _, rfl, o4⟩
  · exact ⟨_, _, rfl, J1⟩
theorem t_L16 {v1 : Int} {h : q_F} {S1 S2 : m_St} (hA : q_Al 0 155 h) (J : j_T S1 S2 h) : t_W (fn16 v1 h) S1 S2 := by
  obtain ⟨hm, hI⟩ := J.1
  unfold fn16
  obtain ⟨k, v, h', e, hk, J1, o3, o4⟩ := t_cE J (c_mspeed hI hm) hm
  rw [e, Option.bind_some]
  rcases hk with rfl | rfl
  · exact ⟨_, _, rfl, o4⟩
  · exact ⟨_, _, rfl, J1⟩
theorem t_L17 {v1 v2 : Int} {h : q_F} {S1 S2 : m_St} (hA : q_Al 0 155 h) (J : j_T S1 S2 h) : t_W (fn17 v1 v2 h) S1 S2 := by
  obtain ⟨hm, hI⟩ := J.1
  unfold fn17
  obtain ⟨k, v, h', e, hk, J1, o3, o4⟩ := t_cE J (c_moveC hI hm) hm
  rw [e, Option.bind_some]
  rcases hk with rfl | rfl | rfl
  · exact ⟨_, _, rfl, o3⟩
  · exact ⟨_, _, rfl, J1⟩
  · exact ⟨_, _, rfl, J1⟩
theorem t_L18 {v1 : Int} {h : q_F} {S1 S2 : m_St} (hA : q_Al 0 155 h) (J : j_T S1 S2 h) : t_W (fn18 v1 h) S1 S2 := by
  obtain ⟨hm, hI⟩ := J.1
  unfold fn18
  obtain ⟨k, v, h', e, hk, J1, o3, o4⟩ := t_cE J (c_nord hI hm) hm
  rw [e, Option.bind_some]
  rcases hk with rfl | rfl
  · exact ⟨_, _, rfl, o3⟩
  · exact ⟨_, _, rfl, J1⟩
theorem t_L19 {v1 v2 v3 : Int} {h : q_F} {S1 S2 : m_St} (hA : q_Al 0 155 h) (J : j_T S1 S2 h) : t_W (fn19 v1 v2 v3 h) S1 S2 := by
  obtain ⟨hm, hI⟩ := J.1
  unfold fn19
  obtain ⟨k, v, h', e, hk, J1, o3, o4⟩ := t_cE J (c_pointAt hI hm) hm
  rw [e, Option.bind_some]
  rcases hk with rfl | rfl | rfl
  · exact ⟨_, _, rfl, o3⟩
  · exact ⟨_, _, rfl, J1⟩
  · exact ⟨_, _, rfl, J1⟩
theorem t_L20 {v1 v2 v3 : Int} {h : q_F} {S1 S2 : m_St} (hA : q_Al 0 155 h) (J : j_T S1 S2 h) : t_W (fn20 v1 v2 v3 h) (m_oPut (S1.w 4) v1 v2 v3 S1) S2 := by
  obtain ⟨hm, hI⟩ := J.1
  unfold fn20
  obtain ⟨k, v, h', e, hk, J1, o3, o4⟩ := t_cE J (c_queueC hI hm) (m_I_put hm)
  rw [e, Option.bind_some]
  rcases hk with rfl | rfl | rfl
  · exact ⟨_, _, rfl, o3⟩
  · exact ⟨_, _, rfl, J1⟩
  · exact ⟨_, _, rfl, J1⟩
theorem t_L21 {v1 v2 : Int} {h : q_F} {S1 S2 : m_St} (hA : q_Al 0 155 h) (J : j_T S1 S2 h) : t_W (fn21 v1 v2 h) S1 S2 := by
  obtain ⟨hm, hI⟩ := J.1
  unfold fn21
  obtain ⟨k, v, h', e, hk, J1, o3, o4⟩ := t_cE J (c_ramp hI hm) hm
  rw [e, Option.bind_some]
  rcases hk with rfl | rfl
  · exact ⟨_, _, rfl, o3⟩
  · exact ⟨_, _, rfl, J1⟩
theorem t_L22 {v1 : Int} {h : q_F} {S1 S2 : m_St} (hA : q_Al 0 155 h) (J : j_T S1 S2 h) : t_W (fn22 v1 h) S1 S2 := by
  obtain ⟨hm, hI⟩ := J.1
  unfold fn22
  obtain ⟨k, v, h', e, hk, J1, o3, o4⟩ := t_cE J (c_readsC hI) hm
  rw [e, Option.bind_some]
  rcases hk with rfl | rfl
  · dsimp only
    rw [if_pos rfl]
    have J0 := fun p => t_out (k := 153) (j := 0) (v := p) J1 (Or.inl rfl)
    by_cases hv : v = 0
    · rw [if_pos hv]; exact ⟨_, _, rfl, J0 0⟩
    · rw [if_neg hv]; exact ⟨_, _, rfl, J0 1⟩
  · exact ⟨_, _, rfl, J1⟩
theorem t_L23 {h : q_F} {S1 S2 : m_St} (hA : q_Al 0 155 h) (J : j_T S1 S2 h) : t_W (fn23 h) (m_oRest S1) S2 := by
  obtain ⟨hm, hI⟩ := J.1
  unfold fn23
  obtain ⟨k, v, h', e, hk, J1, o3, o4⟩ := t_cE J (c_rest hI hm) (m_I_rest hm)
  rw [e, Option.bind_some]
  rcases hk with rfl | rfl
  · exact ⟨_, _, rfl, o3⟩
  · exact ⟨_, _, rfl, J1⟩
theorem t_L24 {v1 : Int} {h : q_F} {S1 S2 : m_St} (hA : q_Al 0 155 h) (J : j_T S1 S2 h) : t_W (fn24 v1 h) (m_oRun v1 S1) S2 := by
  obtain ⟨hm, hI⟩ := J.1
  unfold fn24
  obtain ⟨k, v, h', e, hk, J1, o3, o4⟩ := t_cE J (c_runC hI hm) (m_I_run hm)
  rw [e, Option.bind_some]
  rcases hk with rfl | rfl | rfl
  · exact ⟨_, _, rfl, o3⟩
  · exact ⟨_, _, rfl, J1⟩
  · exact ⟨_, _, rfl, J1⟩
theorem t_L25 {v1 : Int} {h : q_F} {S1 S2 : m_St} (hA : q_Al 0 155 h) (J : j_T S1 S2 h) : t_W (fn25 v1 h) (m_oStart v1 S1) S2 := by
  obtain ⟨hm, hI⟩ := J.1
  unfold fn25
  obtain ⟨k, v, h', e, hk, J1, o3, o4⟩ := t_cE J (c_setStart hI hm) (m_I_start hm)
  rw [e, Option.bind_some]
  rcases hk with rfl | rfl
  · exact ⟨_, _, rfl, o3⟩
  · exact ⟨_, _, rfl, J1⟩
theorem t_L26 {v1 v2 : Int} {h : q_F} {S1 S2 : m_St} (hA : q_Al 0 155 h) (J : j_T S1 S2 h) : t_W (fn26 v1 v2 h) (m_oStuck v1 v2 S1) S2 := by
  obtain ⟨hm, hI⟩ := J.1
  unfold fn26
  obtain ⟨k, v, h', e, hk, J1, o3, o4⟩ := t_cE J (c_setStuck hI hm) (m_I_stuck hm)
  rw [e, Option.bind_some]
  rcases hk with rfl | rfl | rfl
  · exact ⟨_, _, rfl, o3⟩
  · exact ⟨_, _, rfl, J1⟩
  · exact ⟨_, _, rfl, J1⟩
theorem t_L27 {v1 v2 : Int} {h : q_F} {S1 S2 : m_St} (hA : q_Al 0 155 h) (J : j_T S1 S2 h) : t_W (fn27 v1 v2 h) S1 S2 := by
  obtain ⟨hm, hI⟩ := J.1
  unfold fn27
  obtain ⟨k, v, h', e, hk, J1, o3, o4⟩ := t_cE J (c_slackC hI) hm
  rw [e, Option.bind_some]
  rcases hk with rfl | rfl
  · exact ⟨_, _, rfl, o3⟩
  · exact ⟨_, _, rfl, J1⟩
theorem t_L28 {v1 : Int} {h : q_F} {S1 S2 : m_St} (hA : q_Al 0 155 h) (J : j_T S1 S2 h) : t_W (fn28 v1 h) S1 S2 := by
  obtain ⟨hm, hI⟩ := J.1
  unfold fn28
  obtain ⟨k, v, h', e, hk, J1, o3, o4⟩ := t_cE J (c_slowest hI hm) hm
  rw [e, Option.bind_some]
  rcases hk with rfl | rfl
  · exact ⟨_, _, rfl, o3⟩
  · exact ⟨_, _, rfl, J1⟩
theorem t_L29 {v1 v2 : Int} {h : q_F} {S1 S2 : m_St} (hA : q_Al 0 155 h) (J : j_T S1 S2 h) : t_W (fn29 v1 v2 h) S1 S2 := by
  obtain ⟨hm, hI⟩ := J.1
  unfold fn29
  obtain ⟨k, v, h', e, hk, J1, o3, o4⟩ := t_cE J (c_speed hI hm) hm
  rw [e, Option.bind_some]
  rcases hk with rfl | rfl | rfl
  · exact ⟨_, _, rfl, o3⟩
  · exact ⟨_, _, rfl, J1⟩
  · exact ⟨_, _, rfl, J1⟩
theorem t_L30 {v1 v2 v3 : Int} {h : q_F} {S1 S2 : m_St} (hA : q_Al 0 155 h) (J : j_T S1 S2 h) : t_W (fn30 v1 v2 v3 h) S1 S2 := by
  obtain ⟨hm, hI⟩ := J.1
  unfold fn30
  obtain ⟨k, v, h', e, hk, J1, o3, o4⟩ := t_cE J (c_behind hI hm) hm
  rw [e, Option.bind_some]
  rcases hk with rfl | rfl | rfl
  · exact ⟨_, _, rfl, o3⟩
  · exact ⟨_, _, rfl, J1⟩
  · exact ⟨_, _, rfl, J1⟩
theorem t_L31 {v1 v2 v3 : Int} {h : q_F} {S1 S2 : m_St} (hA : q_Al 0 155 h) (J : j_T S1 S2 h) : t_W (fn31 v1 v2 v3 h) S1 S2 := by
  obtain ⟨hm, hI⟩ := J.1
  unfold fn31
  obtain ⟨k, v, h', e, hk, J1, o3, o4⟩ := t_cE J (c_stTime hI hm) hm
  rw [e, Option.bind_some]
  rcases hk with rfl | rfl | rfl
  · exact ⟨_, _, rfl, o3⟩
  · exact ⟨_, _, rfl, J1⟩
  · exact ⟨_, _, rfl, J1⟩
theorem t_L32 {v1 v2 : Int} {h : q_F} {S1 S2 : m_St} (hA : q_Al 0 155 h) (J : j_T S1 S2 h) : t_W (fn32 v1 v2 h) (m_oSwap v1 v2 S1) S2 := by
  obtain ⟨hm, hI⟩ := J.1
  unfold fn32
  obtain ⟨k, v, h', e, hk, J1, o3, o4⟩ := t_cE J (c_swapC hI hm) (m_I_swap hm)
  rw [e, Option.bind_some]
  rcases hk with rfl | rfl | rfl
  · exact ⟨_, _, rfl, o3⟩
  · exact ⟨_, _, rfl, J1⟩
  · exact ⟨_, _, rfl, J1⟩
theorem t_L33 {v1 v2 : Int} {h : q_F} {S1 S2 : m_St} (hA : q_Al 0 155 h) (J : j_T S1 S2 h) : t_W (fn33 v1 v2 h) S1 S2 := by
  obtain ⟨hm, hI⟩ := J.1
  unfold fn33
  obtain ⟨k, v, h', e, hk, J1, o3, o4⟩ := t_cE J (c_target hI) hm
  rw [e, Option.bind_some]
  rcases hk with rfl | rfl
  · exact ⟨_, _, rfl, o3⟩
  · exact ⟨_, _, rfl, J1⟩
theorem t_L34 {v1 : Int} {h : q_F} {S1 S2 : m_St} (hA : q_Al 0 155 h) (J : j_T S1 S2 h) : t_W (fn34 v1 h) S1 S2 := by
  obtain ⟨hm, hI⟩ := J.1
  unfold fn34
  obtain ⟨k, v, h', e, hk, J1, o3, o4⟩ := t_cE J (c_travel hI hm) hm
  rw [e, Option.bind_some]
  rcases hk with rfl | rfl
  · exact ⟨_, _, rfl, o3⟩
  · exact ⟨_, _, rfl, J1⟩
theorem t_L35 {v1 : Int} {h : q_F} {S1 S2 : m_St} (hA : q_Al 0 155 h) (J : j_T S1 S2 h) : t_W (fn35 v1 h) S1 S2 := by
  obtain ⟨hm, hI⟩ := J.1
  unfold fn35
  obtain ⟨k, v, h', e, hk, J1, o3, o4⟩ := t_cE J (c_trueB hI hm) hm
  rw [e, Option.bind_some]
  rcases hk with rfl | rfl
  · exact ⟨_, _, rfl, o3⟩
  · exact ⟨_, _, rfl, J1⟩
theorem t_L36 {v1 : Int} {h : q_F} {S1 S2 : m_St} (hA : q_Al 0 155 h) (J : j_T S1 S2 h) : t_W (fn36 v1 h) S1 S2 := by
  obtain ⟨hm, hI⟩ := J.1
  unfold fn36
  obtain ⟨k, v, h', e, hk, J1, o3, o4⟩ := t_cE J (c_turnsA hI hm) hm
  rw [e, Option.bind_some]
  rcases hk with rfl | rfl
  · exact ⟨_, _, rfl, o3⟩
  · exact ⟨_, _, rfl, J1⟩
theorem t_L37 {h : q_F} {S1 S2 : m_St} (hA : q_Al 0 155 h) (J : j_T S1 S2 h) : t_W (fn37 h) (m_oUnq S1) S2 := by
  obtain ⟨hm, hI⟩ := J.1
  unfold fn37
  obtain ⟨k, v, h', e, hk, J1, o3, o4⟩ := t_cE J (c_unqueue hI hm) (m_I_unq hm)
  rw [e, Option.bind_some]
  rcases hk with rfl | rfl
  · exact ⟨_, _, rfl, o3⟩
  · exact ⟨_, _, rfl, J1⟩
theorem t_L38 {v1 v2 : Int} {h : q_F} {S1 S2 : m_St} (hA : q_Al 0 155 h) (J : j_T S1 S2 h) : t_W (fn38 v1 v2 h) S1 S2 := by
  obtain ⟨hm, hI⟩ := J.1
  unfold fn38
  obtain ⟨k, v, h', e, hk, J1, o3, o4⟩ := t_cE J (c_where hI hm) hm
  rw [e, Option.bind_some]
  rcases hk with rfl | rfl | rfl | rfl
  · exact ⟨_, _, rfl, o3⟩
  · exact ⟨_, _, rfl, J1⟩
  · exact ⟨_, _, rfl, J1⟩
  · exact ⟨_, _, rfl, J1⟩
theorem t_L39 {v1 : Int} {h : q_F} {S1 S2 : m_St} (hA : q_Al 0 155 h) (J : j_T S1 S2 h) : t_W (fn39 v1 h) S1 S2 := by
  obtain ⟨hm, hI⟩ := J.1
  unfold fn39
  obtain ⟨k, v, h', e, hk, J1, o3, o4⟩ := t_cE J (c_wErr hI hm) hm
  rw [e, Option.bind_some]
  rcases hk with rfl | rfl | rfl
  · exact ⟨_, _, rfl, o3⟩
  · exact ⟨_, _, rfl, J1⟩
  · exact ⟨_, _, rfl, J1⟩
theorem t_L40 {v1 : Int} {h : q_F} {S1 S2 : m_St} (hA : q_Al 0 155 h) (J : j_T S1 S2 h) : t_W (fn40 v1 h) S1 S2 := by
  obtain ⟨hm, hI⟩ := J.1
  unfold fn40
  obtain ⟨k, v, h', e, hk, J1, o3, o4⟩ := t_cE J (c_wHome hI hm (j_w5 hA hI)) hm
  rw [e, Option.bind_some]
  rcases hk with rfl | rfl
  · exact ⟨_, _, rfl, o3⟩
  · exact ⟨_, _, rfl, J1⟩
theorem t_L6 {v1 : Int} {h : q_F} {S1 S2 : m_St} (hA : q_Al 0 155 h) (J : j_T S1 S2 h) : t_W (fn6 v1 h) S1 S2 := by
  obtain ⟨hm, hI⟩ := J.1
  unfold fn6
  obtain ⟨k, v, h', e, hk, J1, -, -⟩ := t_cE J (c_dev hI hm) hm
  have V := g_f2d (c_dev_v e)
  have o := t_out (k := 154) (j := 0) (v := q_f2d v) J1 (Or.inr rfl)
  rw [e, Option.bind_some]
  rcases hk with rfl | rfl
  · dsimp only
    rw [if_pos rfl, if_pos V]
    exact ⟨_, _, rfl, o⟩
  · exact ⟨_, _, rfl, J1⟩
theorem t_L15 {v1 : Int} {h : q_F} {S1 S2 : m_St} (hA : q_Al 0 155 h) (J : j_T S1 S2 h) : t_W (fn15 v1 h) S1 S2 := by
  obtain ⟨hm, hI⟩ := J.1
  unfold fn15
  obtain ⟨k, v, h', e, hk, J1, -, -⟩ := t_cE J (c_lost2 hI) hm
  have V := g_f2d (c_lost_v e)
  have o := t_out (k := 154) (j := 0) (v := q_f2d v) J1 (Or.inr rfl)
  rw [e, Option.bind_some]
  rcases hk with rfl | rfl
  · dsimp only
    rw [if_pos rfl, if_pos V]
    exact ⟨_, _, rfl, o⟩
  · exact ⟨_, _, rfl, J1⟩
end -- [98zd.both]
section -- [98ze.both]
/-! Part 98ze: what each call of the reference, and each of the class that has no helper, makes of the two states. Printed by wip/tools/gen98z.py. -/
theorem t_c_reset {h : q_F} {S1 S2 : m_St} (hA : q_Al 0 155 h) (J : j_T S1 S2 h) : t_W (fn205 h) (m_oReset S1) S2 := by
  obtain ⟨hm, hI⟩ := J.1
  exact t_cW J (c_reset hI hm) (m_I_reset hm)
theorem t_r_reset {h : q_F} {S1 S2 : m_St} (hA : q_Al 0 155 h) (J : j_T S1 S2 h) : t_W (fn321 h) S1 (m_oReset S2) := by
  obtain ⟨hm, hI⟩ := J.2.1
  exact t_rW J (r_reset hI hm) (m_I_reset hm)
theorem t_r_setStart {v : Int} {h : q_F} {S1 S2 : m_St} (hA : q_Al 0 155 h) (J : j_T S1 S2 h) : t_W (fn330 v h) S1 (m_oStart v S2) := by
  obtain ⟨hm, hI⟩ := J.2.1
  exact t_rW J (r_setStart hI hm) (m_I_start hm)
theorem t_r_setStuck {a v : Int} {h : q_F} {S1 S2 : m_St} (hA : q_Al 0 155 h) (J : j_T S1 S2 h) : t_W (fn331 a v h) S1 (m_oStuck a v S2) := by
  obtain ⟨hm, hI⟩ := J.2.1
  exact t_rW J (r_setStuck hI hm) (m_I_stuck hm)
theorem t_r_homeC {a : Int} {h : q_F} {S1 S2 : m_St} (hA : q_Al 0 155 h) (J : j_T S1 S2 h) : t_W (fn263 a h) S1 (m_oHome a S2) := by
  obtain ⟨hm, hI⟩ := J.2.1
  exact t_rW J (r_homeC hI hm) (m_I_home hm)
theorem t_r_homeAllC {h : q_F} {S1 S2 : m_St} (hA : q_Al 0 155 h) (J : j_T S1 S2 h) : t_W (fn264 h) S1 (m_oHomeAll S2) := by
  obtain ⟨hm, hI⟩ := J.2.1
  exact t_rW J (r_homeAllC hI hm) (m_I_homeAll hm)
theorem t_r_unqueue {h : q_F} {S1 S2 : m_St} (hA : q_Al 0 155 h) (J : j_T S1 S2 h) : t_W (fn361 h) S1 (m_oUnq S2) := by
  obtain ⟨hm, hI⟩ := J.2.1
  exact t_rW J (r_unqueue hI hm) (m_I_unq hm)
theorem t_r_jogC {a v : Int} {h : q_F} {S1 S2 : m_St} (hA : q_Al 0 155 h) (J : j_T S1 S2 h) : t_W (fn274 a v h) S1 (m_oJog a v S2) := by
  obtain ⟨hm, hI⟩ := J.2.1
  exact t_rW J (r_jogC hI hm) (m_I_jog hm)
theorem t_r_runC {n : Int} {h : q_F} {S1 S2 : m_St} (hA : q_Al 0 155 h) (J : j_T S1 S2 h) : t_W (fn324 n h) S1 (m_oRun n S2) := by
  obtain ⟨hm, hI⟩ := J.2.1
  exact t_rW J (r_runC hI hm) (m_I_run hm)
theorem t_c_runAll {h : q_F} {S1 S2 : m_St} (hA : q_Al 0 155 h) (J : j_T S1 S2 h) : t_W (fn208 h) (m_oRunAll S1) S2 := by
  obtain ⟨hm, hI⟩ := J.1
  exact t_cW J (c_runAll hI hm) (m_I_runAll hm)
theorem t_r_runAll {h : q_F} {S1 S2 : m_St} (hA : q_Al 0 155 h) (J : j_T S1 S2 h) : t_W (fn325 h) S1 (m_oRunAll S2) := by
  obtain ⟨hm, hI⟩ := J.2.1
  exact t_rW J (r_runAll hI hm) (m_I_runAll hm)
theorem t_c_undo {h : q_F} {S1 S2 : m_St} (hA : q_Al 0 155 h) (J : j_T S1 S2 h) : t_W (fn228 h) (m_oUndo S1) S2 := by
  obtain ⟨hm, hI⟩ := J.1
  exact t_cW J (c_undo hI hm) (m_I_undo hm)
theorem t_r_undo {h : q_F} {S1 S2 : m_St} (hA : q_Al 0 155 h) (J : j_T S1 S2 h) : t_W (fn360 h) S1 (m_oUndo S2) := by
  obtain ⟨hm, hI⟩ := J.2.1
  exact t_rW J (r_undo hI hm) (m_I_undo hm)
theorem t_c_save {h : q_F} {S1 S2 : m_St} (hA : q_Al 0 155 h) (J : j_T S1 S2 h) : t_W (fn209 h) (m_oSave S1) S2 := by
  obtain ⟨hm, hI⟩ := J.1
  exact t_cW J (c_save hI hm) (m_I_save hm)
theorem t_r_save {h : q_F} {S1 S2 : m_St} (hA : q_Al 0 155 h) (J : j_T S1 S2 h) : t_W (fn326 h) S1 (m_oSave S2) := by
  obtain ⟨hm, hI⟩ := J.2.1
  exact t_rW J (r_save hI hm) (m_I_save hm)
theorem t_r_rest {h : q_F} {S1 S2 : m_St} (hA : q_Al 0 155 h) (J : j_T S1 S2 h) : t_W (fn322 h) S1 (m_oRest S2) := by
  obtain ⟨hm, hI⟩ := J.2.1
  exact t_rW J (r_rest hI hm) (m_I_rest hm)
theorem t_r_queueC {x y z : Int} {h : q_F} {S1 S2 : m_St} (hA : q_Al 0 155 h) (J : j_T S1 S2 h) : t_W (fn309 x y z h) S1 (m_oPut (S2.w 4) x y z S2) := by
  obtain ⟨hm, hI⟩ := J.2.1
  exact t_rW J (r_queueC hI hm) (m_I_put hm)
theorem t_r_insertC {i x y z : Int} {h : q_F} {S1 S2 : m_St} (hA : q_Al 0 155 h) (J : j_T S1 S2 h) : t_W (fn269 i x y z h) S1 (m_oPut i x y z S2) := by
  obtain ⟨hm, hI⟩ := J.2.1
  exact t_rW J (r_insertC hI hm) (m_I_put hm)
theorem t_r_dropC {m : Int} {h : q_F} {S1 S2 : m_St} (hA : q_Al 0 155 h) (J : j_T S1 S2 h) : t_W (fn252 m h) S1 (m_oDrop m S2) := by
  obtain ⟨hm, hI⟩ := J.2.1
  exact t_rW J (r_dropC hI hm) (m_I_drop hm)
theorem t_r_swapC {m o : Int} {h : q_F} {S1 S2 : m_St} (hA : q_Al 0 155 h) (J : j_T S1 S2 h) : t_W (fn346 m o h) S1 (m_oSwap m o S2) := by
  obtain ⟨hm, hI⟩ := J.2.1
  exact t_rW J (r_swapC hI hm) (m_I_swap hm)
theorem t_r_account {a v : Int} {h : q_F} {S1 S2 : m_St} (hA : q_Al 0 155 h) (J : j_T S1 S2 h) : t_W (fn234 a v h) S1 S2 := by
  obtain ⟨hm, hI⟩ := J.2.1
  exact t_rW J (r_account hI) hm
theorem t_r_axisC {a v : Int} {h : q_F} {S1 S2 : m_St} (hA : q_Al 0 155 h) (J : j_T S1 S2 h) : t_W (fn239 a v h) S1 S2 := by
  obtain ⟨hm, hI⟩ := J.2.1
  exact t_rW J (r_axisC hI) hm
theorem t_r_count {v : Int} {h : q_F} {S1 S2 : m_St} (hA : q_Al 0 155 h) (J : j_T S1 S2 h) : t_W (fn250 v h) S1 S2 := by
  obtain ⟨hm, hI⟩ := J.2.1
  exact t_rW J (r_count hI hm) hm
theorem t_r_coordinate {a : Int} {h : q_F} {S1 S2 : m_St} (hA : q_Al 0 155 h) (J : j_T S1 S2 h) : t_W (fn248 a h) S1 S2 := by
  obtain ⟨hm, hI⟩ := J.2.1
  exact t_rW J (r_coordinate hI) hm
theorem t_r_errorC {a : Int} {h : q_F} {S1 S2 : m_St} (hA : q_Al 0 155 h) (J : j_T S1 S2 h) : t_W (fn254 a h) S1 S2 := by
  obtain ⟨hm, hI⟩ := J.2.1
  exact t_rW J (r_errorC hI) hm
theorem t_r_readsC {a : Int} {h : q_F} {S1 S2 : m_St} (hA : q_Al 0 155 h) (J : j_T S1 S2 h) : t_W (fn319 a h) S1 S2 := by
  obtain ⟨hm, hI⟩ := J.2.1
  exact t_rW J (r_readsC hI) hm
theorem t_r_time {h : q_F} {S1 S2 : m_St} (hA : q_Al 0 155 h) (J : j_T S1 S2 h) : t_W (fn352 h) S1 S2 := by
  obtain ⟨hm, hI⟩ := J.2.1
  exact t_rW J (r_time hI) hm
theorem t_r_errCode {h : q_F} {S1 S2 : m_St} (hA : q_Al 0 155 h) (J : j_T S1 S2 h) : t_W (fn255 h) S1 S2 := by
  obtain ⟨hm, hI⟩ := J.2.1
  exact t_rW J (r_errCode hI) hm
theorem t_r_errOff {h : q_F} {S1 S2 : m_St} (hA : q_Al 0 155 h) (J : j_T S1 S2 h) : t_W (fn257 h) S1 S2 := by
  obtain ⟨hm, hI⟩ := J.2.1
  exact t_rW J (r_errOff hI) hm
theorem t_r_outByte {v : Int} {h : q_F} {S1 S2 : m_St} (hA : q_Al 0 155 h) (J : j_T S1 S2 h) : t_W (fn304 v h) S1 S2 := by
  obtain ⟨hm, hI⟩ := J.2.1
  exact t_rW J (r_outByte hI J.2.2.2.2) hm
theorem t_r_pairs {h : q_F} {S1 S2 : m_St} (hA : q_Al 0 155 h) (J : j_T S1 S2 h) : t_W (fn344 h) S1 S2 := by
  obtain ⟨hm, hI⟩ := J.2.1
  exact t_rW J (r_pairs hI hm) hm
theorem t_r_slack {a v : Int} {h : q_F} {S1 S2 : m_St} (hA : q_Al 0 155 h) (J : j_T S1 S2 h) : t_W (fn334 a v h) S1 S2 := by
  obtain ⟨hm, hI⟩ := J.2.1
  exact t_rW J (r_slack hI) hm
theorem t_r_target {m a : Int} {h : q_F} {S1 S2 : m_St} (hA : q_Al 0 155 h) (J : j_T S1 S2 h) : t_W (fn350 m a h) S1 S2 := by
  obtain ⟨hm, hI⟩ := J.2.1
  exact t_rW J (r_target hI hm) hm
theorem t_r_bound {a u : Int} {h : q_F} {S1 S2 : m_St} (hA : q_Al 0 155 h) (J : j_T S1 S2 h) : t_W (fn244 a u h) S1 S2 := by
  obtain ⟨hm, hI⟩ := J.2.1
  exact t_rW J (r_bound hI hm) hm
theorem t_r_nearest {x y z : Int} {h : q_F} {S1 S2 : m_St} (hA : q_Al 0 155 h) (J : j_T S1 S2 h) : t_W (fn295 x y z h) S1 S2 := by
  obtain ⟨hm, hI⟩ := J.2.1
  exact t_rW J (r_nearest hI hm) hm
theorem t_r_moveC {m v : Int} {h : q_F} {S1 S2 : m_St} (hA : q_Al 0 155 h) (J : j_T S1 S2 h) : t_W (fn294 m v h) S1 S2 := by
  obtain ⟨hm, hI⟩ := J.2.1
  exact t_rW J (r_moveC hI hm) hm
theorem t_r_speed {m k : Int} {h : q_F} {S1 S2 : m_St} (hA : q_Al 0 155 h) (J : j_T S1 S2 h) : t_W (fn337 m k h) S1 S2 := by
  obtain ⟨hm, hI⟩ := J.2.1
  exact t_rW J (r_speed hI hm) hm
theorem t_r_behind {m a k : Int} {h : q_F} {S1 S2 : m_St} (hA : q_Al 0 155 h) (J : j_T S1 S2 h) : t_W (fn341 m a k h) S1 S2 := by
  obtain ⟨hm, hI⟩ := J.2.1
  exact t_rW J (r_behind hI hm) hm
theorem t_r_pointAt {m a k : Int} {h : q_F} {S1 S2 : m_St} (hA : q_Al 0 155 h) (J : j_T S1 S2 h) : t_W (fn306 m a k h) S1 S2 := by
  obtain ⟨hm, hI⟩ := J.2.1
  exact t_rW J (r_pointAt hI hm) hm
theorem t_r_ramp {m v : Int} {h : q_F} {S1 S2 : m_St} (hA : q_Al 0 155 h) (J : j_T S1 S2 h) : t_W (fn313 m v h) S1 S2 := by
  obtain ⟨hm, hI⟩ := J.2.1
  exact t_rW J (r_ramp hI hm) hm
theorem t_r_travel {a : Int} {h : q_F} {S1 S2 : m_St} (hA : q_Al 0 155 h) (J : j_T S1 S2 h) : t_W (fn356 a h) S1 S2 := by
  obtain ⟨hm, hI⟩ := J.2.1
  exact t_rW J (r_travel hI hm) hm
theorem t_r_turns {a : Int} {h : q_F} {S1 S2 : m_St} (hA : q_Al 0 155 h) (J : j_T S1 S2 h) : t_W (fn359 a h) S1 S2 := by
  obtain ⟨hm, hI⟩ := J.2.1
  exact t_rW J (r_turns hI hm) hm
theorem t_r_slowest {m : Int} {h : q_F} {S1 S2 : m_St} (hA : q_Al 0 155 h) (J : j_T S1 S2 h) : t_W (fn336 m h) S1 S2 := by
  obtain ⟨hm, hI⟩ := J.2.1
  exact t_rW J (r_slowest hI hm) hm
theorem t_r_lasts {m : Int} {h : q_F} {S1 S2 : m_St} (hA : q_Al 0 155 h) (J : j_T S1 S2 h) : t_W (fn276 m h) S1 S2 := by
  obtain ⟨hm, hI⟩ := J.2.1
  exact t_rW J (r_lasts hI hm) hm
theorem t_r_queueTime {h : q_F} {S1 S2 : m_St} (hA : q_Al 0 155 h) (J : j_T S1 S2 h) : t_W (fn311 h) S1 S2 := by
  obtain ⟨hm, hI⟩ := J.2.1
  exact t_rW J (r_queueTime hI hm) hm
theorem t_r_trueB {a : Int} {h : q_F} {S1 S2 : m_St} (hA : q_Al 0 155 h) (J : j_T S1 S2 h) : t_W (fn357 a h) S1 S2 := by
  obtain ⟨hm, hI⟩ := J.2.1
  exact t_rW J (r_trueB hI hm) hm
theorem t_r_wErr {a : Int} {h : q_F} {S1 S2 : m_St} (hA : q_Al 0 155 h) (J : j_T S1 S2 h) : t_W (fn363 a h) S1 S2 := by
  obtain ⟨hm, hI⟩ := J.2.1
  exact t_rW J (r_wErr hI hm) hm
theorem t_r_wLose {h : q_F} {S1 S2 : m_St} (hA : q_Al 0 155 h) (J : j_T S1 S2 h) : t_W (fn365 h) S1 S2 := by
  obtain ⟨hm, hI⟩ := J.2.1
  exact t_rW J (r_wLose hI hm) hm
theorem t_r_wHome {a : Int} {h : q_F} {S1 S2 : m_St} (hA : q_Al 0 155 h) (J : j_T S1 S2 h) : t_W (fn364 a h) S1 S2 := by
  obtain ⟨hm, hI⟩ := J.2.1
  exact t_rW J (r_wHome hI hm) hm
theorem t_r_stTime {x y z : Int} {h : q_F} {S1 S2 : m_St} (hA : q_Al 0 155 h) (J : j_T S1 S2 h) : t_W (fn345 x y z h) S1 S2 := by
  obtain ⟨hm, hI⟩ := J.2.1
  exact t_rW J (r_stTime hI hm) hm
theorem t_r_bestF {h : q_F} {S1 S2 : m_St} (hA : q_Al 0 155 h) (J : j_T S1 S2 h) : t_W (fn242 h) S1 S2 := by
  obtain ⟨hm, hI⟩ := J.2.1
  exact t_rW J (r_bestF hI hm) hm
theorem t_r_bestS {h : q_F} {S1 S2 : m_St} (hA : q_Al 0 155 h) (J : j_T S1 S2 h) : t_W (fn243 h) S1 S2 := by
  obtain ⟨hm, hI⟩ := J.2.1
  exact t_rW J (r_bestS hI hm) hm
theorem t_r_where {a t : Int} {h : q_F} {S1 S2 : m_St} (hA : q_Al 0 155 h) (J : j_T S1 S2 h) : t_W (fn362 a t h) S1 S2 := by
  obtain ⟨hm, hI⟩ := J.2.1
  exact t_rW J (r_where hI hm) hm
theorem t_r_nord {i : Int} {h : q_F} {S1 S2 : m_St} (hA : q_Al 0 155 h) (J : j_T S1 S2 h) : t_W (fn297 i h) S1 S2 := by
  obtain ⟨hm, hI⟩ := J.2.1
  exact t_rW J (r_nord hI hm) hm
theorem t_c_pairs {h : q_F} {S1 S2 : m_St} (hA : q_Al 0 155 h) (J : j_T S1 S2 h) : t_W (fn218 h) S1 S2 := by
  obtain ⟨hm, hI⟩ := J.1
  exact t_cW J (c_pairs hI hm) hm
theorem t_c_queueTime {h : q_F} {S1 S2 : m_St} (hA : q_Al 0 155 h) (J : j_T S1 S2 h) : t_W (fn200 h) S1 S2 := by
  obtain ⟨hm, hI⟩ := J.1
  exact t_cW J (c_queueTime hI hm) hm
theorem t_c_wLose {h : q_F} {S1 S2 : m_St} (hA : q_Al 0 155 h) (J : j_T S1 S2 h) : t_W (fn233 h) S1 S2 := by
  obtain ⟨hm, hI⟩ := J.1
  exact t_cW J (c_wLose hI hm) hm
theorem t_c_bestF {h : q_F} {S1 S2 : m_St} (hA : q_Al 0 155 h) (J : j_T S1 S2 h) : t_W (fn158 h) S1 S2 := by
  obtain ⟨hm, hI⟩ := J.1
  exact t_cW J (c_bestF hI hm) hm
theorem t_c_print {h : q_F} {S1 S2 : m_St} (hA : q_Al 0 155 h) (J : j_T S1 S2 h) : t_W (fn197 h) S1 S2 := by
  obtain ⟨hm, hI⟩ := J.1
  exact t_cW J (c_print hI hm) hm
theorem t_c_qlen {h : q_F} {S1 S2 : m_St} (hA : q_Al 0 155 h) (J : j_T S1 S2 h) : t_W (fn199 h) S1 S2 := by
  obtain ⟨hm, hI⟩ := J.1
  exact t_cW J (c_qlen hI hm) hm
theorem t_r_line {m : Int} {h : q_F} {S1 S2 : m_St} (hA : q_Al 0 155 h) (J : j_T S1 S2 h) : t_W (fn281 m h) S1 S2 := by
  obtain ⟨hm, hI⟩ := J.2.1
  exact t_rW J (r_line hI hm) hm
theorem t_r_qlen {h : q_F} {S1 S2 : m_St} (hA : q_Al 0 155 h) (J : j_T S1 S2 h) : t_W (fn310 h) S1 S2 := by
  obtain ⟨hm, hI⟩ := J.2.1
  exact t_rW J (r_qlen hI hm) hm
theorem t_r_msp {m : Int} {h : q_F} {S1 S2 : m_St} (hA : q_Al 0 155 h) (J : j_T S1 S2 h) : t_W (fn293 m h) S1 S2 := by
  obtain ⟨hm, hI⟩ := J.2.1
  exact t_rW J (r_msp hI hm) hm
theorem t_r_mdur {h : q_F} {S1 S2 : m_St} (hA : q_Al 0 155 h) (J : j_T S1 S2 h) : t_W (fn292 h) S1 S2 := by
  obtain ⟨hm, hI⟩ := J.2.1
  exact t_rW J (r_mdur hI (j_r6 hA hI) (j_r7 hA hI)) hm
theorem t_r_lost2 {a : Int} {h : q_F} {S1 S2 : m_St} (hA : q_Al 0 155 h) (J : j_T S1 S2 h) : t_W (fn285 a h) S1 S2 := by
  obtain ⟨hm, hI⟩ := J.2.1
  exact t_rW J (r_lost2 hI) hm
theorem t_r_dev {m : Int} {h : q_F} {S1 S2 : m_St} (hA : q_Al 0 155 h) (J : j_T S1 S2 h) : t_W (fn251 m h) S1 S2 := by
  obtain ⟨hm, hI⟩ := J.2.1
  exact t_rW J (r_dev hI hm) hm
theorem t_c_setC {v : Int} {h : q_F} {S1 S2 : m_St} (hv : v = 0 ∨ v = 1) (J : j_T S1 S2 h) : t_W (fn210 v h) (m_oSet 1 v S1) S2 := by
  obtain ⟨hm, hI⟩ := J.1
  exact t_cW J (c_setC hI hm) (m_I_oSet hm (m_pv_12 (by omega) hv) (by omega))
theorem t_c_setD {v : Int} {h : q_F} {S1 S2 : m_St} (hv : v = 0 ∨ v = 1) (J : j_T S1 S2 h) : t_W (fn211 v h) (m_oSet 2 v S1) S2 := by
  obtain ⟨hm, hI⟩ := J.1
  exact t_cW J (c_setD hI hm) (m_I_oSet hm (m_pv_12 (by omega) hv) (by omega))
theorem t_r_setC {v : Int} {h : q_F} {S1 S2 : m_St} (hv : v = 0 ∨ v = 1) (J : j_T S1 S2 h) : t_W (fn328 v h) S1 (m_oSet 1 v S2) := by
  obtain ⟨hm, hI⟩ := J.2.1
  exact t_rW J (r_setC hv hI hm) (m_I_oSet hm (m_pv_12 (by omega) hv) (by omega))
theorem t_r_setD {v : Int} {h : q_F} {S1 S2 : m_St} (hv : v = 0 ∨ v = 1) (J : j_T S1 S2 h) : t_W (fn329 v h) S1 (m_oSet 2 v S2) := by
  obtain ⟨hm, hI⟩ := J.2.1
  exact t_rW J (r_setD hv hI hm) (m_I_oSet hm (m_pv_12 (by omega) hv) (by omega))
end -- [98ze.both]
section -- [98zf.both]
/-! Part 98zf: the input's calls, on both sides at once; errorCode, errorOffset. -/
def t_J (h : q_F) : Prop := ∃ S, j_T S S h
theorem t_io {h h2 : q_F} {S : m_St} (J : j_T S S h) (fr : ∀ k, k ≠ 1 → k ≠ 2 → k ≠ 139 → k ≠ 150 → h2 k = h k) (f9 : ∀ j, j ≠ 7 → j ≠ 14 → h2 139 j = h 139 j) (T : ∃ (B : Nat → Int) (n : Nat), s_ct B n h2 ∧ s_rt B n h2) : j_T S S h2 := by
  obtain ⟨⟨c1, c2⟩, ⟨r1, r2⟩, -, j2, j3⟩ := J
  exact ⟨⟨c1, c_I_k c2 c1.2.1.1 (fun k hk => fr k (by omega) (by omega) (by omega) (by omega)) (by rw [fr 0 (by omega) (by omega) (by omega) (by omega)])⟩, ⟨r1, r_I_k r2 (fun k hk => fr k (by omega) (by omega) (by omega) (by omega)) (f9 5 (by omega) (by omega)) (f9 6 (by omega) (by omega))⟩, T, by rw [fr 3 (by omega) (by omega) (by omega) (by omega), f9 15 (by omega) (by omega), f9 16 (by omega) (by omega)]; exact j2, by rw [f9 27 (by omega) (by omega)]; exact j3⟩
theorem t_app {a b c d e : Int} {h : q_F} {S : m_St} (J : j_T S S h) : ∃ v h1 h2 S', fn156 a b c d e h = some (v, h1) ∧ fn237 a b c d e h1 = some (v, h2) ∧ j_T S' S' h2 := by
  obtain ⟨B, n, Tc, Tr⟩ := J.2.2.1
  obtain ⟨h1, B1, n1, e1, T1, F1, q1⟩ := s_capp (a := a) (b := b) (c := c) (d := d) (e := e) Tc
  obtain ⟨h2, B2, n2, e2, T2, F2, q2⟩ := s_rapp (a := a) (b := b) (c := c) (d := d) (e := e) (s_rt_e Tr (by rw [F1 139 (by omega) (by omega)]) (F1 150 (by omega) (by omega)))
  have eq : B1 = B2 ∧ n1 = n2 := by
    by_cases c : n ≤ 580
    · rw [if_pos c] at q1 q2; exact ⟨q1.1.trans q2.1.symm, q1.2.trans q2.2.symm⟩
    · rw [if_neg c] at q1 q2; exact ⟨q1.1.trans q2.1.symm, q1.2.trans q2.2.symm⟩
  obtain ⟨rfl, rfl⟩ := eq
  refine ⟨_, h1, h2, S, e1, e2, t_io J (fun k k1 k2 k3 k4 => by rw [F2.1 k k3 k4, F1 k k1 k2]) (fun j j1 j2 => by rw [F2.2 j j1 j2, F1 139 (by omega) (by omega)]) ⟨B1, n1, s_ct_e T1 (F2.1 1 (by omega) (by omega)) (F2.1 2 (by omega) (by omega)), T2⟩⟩
theorem s_ctru {B : Nat → Int} {n : Nat} {v : Int} {h : q_F} (T : s_ct B n h) : ∃ h' n', fn226 v h = some (if 0 ≤ v ∧ v ≤ n then 1 else 0, h') ∧ s_ct B n' h' ∧ c_FI h h' ∧ n' = (if 0 ≤ v ∧ v ≤ n then v.toNat else n) := by
  obtain ⟨t1, t2, t3⟩ := T
  unfold fn226
  rw [t1]
  by_cases c : 0 ≤ v ∧ v ≤ n
  · rw [if_neg (show ¬ v < 0 by omega), if_pos c.2, m_let, if_pos c, if_pos c]
    exact ⟨_, v.toNat, rfl, ⟨by rw [q_ud_s]; omega, by omega, fun k hk => by rw [q_ud_n (by omega)]; exact t3 k (by omega)⟩, fun k k1 k2 => by funext j; rw [q_ud_n (by omega)], rfl⟩
  · rw [if_neg c, if_neg c]
    refine ⟨h, n, ?_, ⟨t1, t2, t3⟩, fun _ _ _ => rfl, rfl⟩
    (repeat' split) <;> first | rfl | omega
theorem s_rtru {B : Nat → Int} {n : Nat} {v : Int} {h : q_F} (T : s_rt B n h) : ∃ h' n', fn358 v h = some (if 0 ≤ v ∧ v ≤ n then 1 else 0, h') ∧ s_rt B n' h' ∧ r_FI h h' ∧ n' = (if 0 ≤ v ∧ v ≤ n then v.toNat else n) := by
  obtain ⟨t1, t2, t3, t4⟩ := T
  have F0 : r_FI h (q_ud h 139 7 0) := ⟨fun k k1 k2 => by funext j; rw [q_ud_n (by omega)], fun j h7 h14 => by rw [q_ud_n (by omega)]⟩
  have e0 : q_ud h 139 7 0 139 14 = (n : Int) := by rw [q_ud_n (by omega)]; exact t1
  unfold fn358
  rw [m_let, e0, r_rng, Option.bind_some]
  by_cases c : 0 ≤ v ∧ v ≤ n
  · rw [if_pos c, if_neg (by decide), m_let, if_pos c]
    exact ⟨_, v.toNat, rfl, ⟨by rw [q_ud_s]; omega, by omega, fun k hk => by rw [q_ud_n (by omega), q_ud_n (by omega)]; exact t3 k (by omega), fun k hk => t4 k (by omega)⟩, r_FI_t F0 ⟨fun k k1 k2 => by funext j; rw [q_ud_n (by omega)], fun j h7 h14 => by rw [q_ud_n (by omega)]⟩, rfl⟩
  · rw [if_neg c, if_pos rfl, if_neg c]
    exact ⟨_, n, rfl, ⟨e0, t2, fun k hk => by rw [q_ud_n (by omega)]; exact t3 k hk, t4⟩, F0, rfl⟩
theorem t_tru {v : Int} {h : q_F} {S : m_St} (J : j_T S S h) : ∃ w h1 h2 S', fn226 v h = some (w, h1) ∧ fn358 v h1 = some (w, h2) ∧ j_T S' S' h2 := by
  obtain ⟨B, n, Tc, Tr⟩ := J.2.2.1
  obtain ⟨h1, n1, e1, T1, F1, q1⟩ := s_ctru (v := v) Tc
  obtain ⟨h2, n2, e2, T2, F2, q2⟩ := s_rtru (v := v) (s_rt_e Tr (by rw [F1 139 (by omega) (by omega)]) (F1 150 (by omega) (by omega)))
  obtain rfl : n1 = n2 := q1.trans q2.symm
  exact ⟨_, h1, h2, S, e1, e2, t_io J (fun k k1 k2 k3 k4 => by rw [F2.1 k k3 k4, F1 k k1 k2]) (fun j j1 j2 => by rw [F2.2 j j1 j2, F1 139 (by omega) (by omega)]) ⟨B, n1, s_ct_e T1 (F2.1 1 (by omega) (by omega)) (F2.1 2 (by omega) (by omega)), T2⟩⟩
end -- [98zf.both]
