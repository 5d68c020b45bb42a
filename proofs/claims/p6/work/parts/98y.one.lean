/-! Part 98y: loadTable of the reference beside that of the class. -/
theorem s_rows {s : Nat} {c g : q_F} (X : s_X c g) (W : s_W s g) (Y : r_Y (g 140)) {j : Nat} (hj : j < 122) : m_new (c 3 2) ((s / 32 % 2 : Nat) : Int) ((s / 64 % 2 : Nat) : Int) (c 4) (c 5) j = m_cls (g 140) j := by
  have N : ∀ a i, a < 3 → i < 6 → c 4 (6 * a + i) = g 140 (8 + 3 * i + a) := fun a i ha hi => by
    have := X a i (Or.inl ⟨ha, hi⟩)
    unfold s_c1 s_c2 s_pl' at this
    rw [if_pos ha, if_pos ha, if_pos ha] at this
    exact this
  have Bg : ∀ a, a < 3 → c 5 a = g 140 (26 + a) := fun a ha => by
    have := X 3 a (Or.inr (Or.inl ⟨rfl, ha⟩))
    unfold s_c1 s_c2 s_pl' at this
    rw [if_neg (show ¬ (3 : Nat) < 3 by omega), if_neg (show ¬ (3 : Nat) < 3 by omega), if_neg (show ¬ (3 : Nat) < 3 by omega), if_pos rfl, if_pos rfl, if_pos rfl] at this
    exact this
  have St : c 3 2 = g 140 0 := by
    have := X 4 0 (Or.inr (Or.inr ⟨rfl, rfl⟩))
    unfold s_c1 s_c2 s_pl' at this
    rw [if_neg (show ¬ (4 : Nat) < 3 by omega), if_neg (show ¬ (4 : Nat) < 3 by omega), if_neg (show ¬ (4 : Nat) < 3 by omega), if_neg (show ¬ (4 : Nat) = 3 by omega), if_neg (show ¬ (4 : Nat) = 3 by omega), if_neg (show ¬ (4 : Nat) = 3 by omega)] at this
    exact this
  obtain ⟨-, -, -, -, -, Y44, Y0⟩ := Y
  by_cases c53 : 53 ≤ j ∧ j < 56
  · have e := m_new_c (st := c 3 2) (cp := ((s / 32 % 2 : Nat) : Int)) (dt := ((s / 64 % 2 : Nat) : Int)) (N := c 4) (B := c 5) (a := j - 53) (by omega)
    rw [show 53 + (j - 53) = j by omega] at e
    rw [e, N (j - 53) 4 (by omega) (by omega), Bg (j - 53) (by omega)]
    unfold m_cls
    rw [if_pos c53, show 8 + 3 * 4 + (j - 53) = 20 + (j - 53) by omega]
  · have ec : m_cls (g 140) j = g 140 j := by unfold m_cls; rw [if_neg c53]
    rw [ec]
    by_cases c0 : j = 0
    · subst c0; exact St
    · by_cases c1 : j = 1
      · subst c1; exact W.1.symm
      · by_cases c2 : j = 2
        · subst c2; exact W.2.symm
        · by_cases c8 : 8 ≤ j ∧ j < 26
          · have e := m_new_n (st := c 3 2) (cp := ((s / 32 % 2 : Nat) : Int)) (dt := ((s / 64 % 2 : Nat) : Int)) (N := c 4) (B := c 5) (a := (j - 8) % 3) (i := (j - 8) / 3) (by omega) (by omega)
            have ej : 8 + 3 * ((j - 8) / 3) + (j - 8) % 3 = j := by omega
            rw [ej] at e
            rw [e, N _ _ (by omega) (by omega), ej]
          · by_cases c26 : 26 ≤ j ∧ j < 29
            · have e := m_new_b (st := c 3 2) (cp := ((s / 32 % 2 : Nat) : Int)) (dt := ((s / 64 % 2 : Nat) : Int)) (N := c 4) (B := c 5) (a := j - 26) (by omega)
              rw [show 26 + (j - 26) = j by omega] at e
              rw [e, Bg (j - 26) (by omega), show 26 + (j - 26) = j by omega]
            · by_cases c44 : 44 ≤ j ∧ j < 47
              · have e := m_new_d (st := c 3 2) (cp := ((s / 32 % 2 : Nat) : Int)) (dt := ((s / 64 % 2 : Nat) : Int)) (N := c 4) (B := c 5) (a := j - 44) (by omega)
                have y := Y44 (j - 44) (by omega)
                rw [show 44 + (j - 44) = j by omega] at e y
                rw [e, y]
              · rw [m_new_0 (by omega), Y0 j (by omega)]
theorem s_rload {B : Nat → Int} {n : Nat} {c0 hh h : q_F} {S : m_St} (T : s_ct B n c0) (GF : c_fgt hh c0 3) (f2 : c0 3 2 = 100) (f3 : c0 3 3 = 0) (f4 : c0 3 4 = 0) (f5 : c0 3 5 = -1) (f6 : c0 3 6 = 0) (Tr : s_rt B n h) (hI : r_I h S) (hm : m_I S) : ∃ c' v h' w, fn117_6 1 q_fu 0 c0 = some (0, c') ∧ fn283 h = some (v, h') ∧ (∀ k, k < 139 ∨ 152 ≤ k → h' k = h k) ∧ h' 139 14 = 0 ∧ h' 139 27 = h 139 27 ∧ c' 3 5 = h' 139 16 ∧ c' 3 4 = h' 139 15 ∧
    ((c' 3 4 = 0 ∧ r_I h' (m_mkS w 0 S.P 0 S.ws) ∧ m_RI w ∧ v = w 8 + w 9 + w 10 ∧ ∃ s : Nat, s < 128 ∧ c' 3 3 = (s : Int) ∧ ∀ j, j < 122 → m_new (c' 3 2) ((s / 32 % 2 : Nat) : Int) ((s / 64 % 2 : Nat) : Int) (c' 4) (c' 5) j = w j) ∨
     (c' 3 4 ≠ 0 ∧ r_I h' (m_set S w) ∧ (∀ j, j < 122 → w j = S.w j) ∧ v = -1)) := by
  have hl : 0 ≤ h 139 14 ∧ h 139 14 ≤ 600 := by rw [Tr.1]; have := Tr.2.1; omega
  unfold fn283
  rw [m_let, fn249_i (by omega) (by omega) (by omega) (by omega) (by omega) (by omega) (by omega) (by omega), Option.bind_some]
  dsimp only
  -- the row kept
  have K1 : ∀ k, k ≠ 139 → k ≠ 141 → m_sr (q_ud h 139 7 0) 141 (m_cp (q_ud h 139 7 0 140) (q_ud h 139 7 0 141) (0 : Int).toNat (0 : Int).toNat (122 : Int).toNat) k = h k := fun k a b => by rw [m_sr_n b]; funext j; rw [q_ud_n (by omega)]
  have K2 : ∀ j, j ≠ 7 → m_sr (q_ud h 139 7 0) 141 (m_cp (q_ud h 139 7 0 140) (q_ud h 139 7 0 141) (0 : Int).toNat (0 : Int).toNat (122 : Int).toNat) 139 j = h 139 j := fun j a => by rw [m_sr_n (by omega), q_ud_n (by omega)]
  have K3 : ∀ j, j < 122 → m_sr (q_ud h 139 7 0) 141 (m_cp (q_ud h 139 7 0 140) (q_ud h 139 7 0 141) (0 : Int).toNat (0 : Int).toNat (122 : Int).toNat) 141 j = S.w j := fun j hj => by
    rw [m_sr_s]; unfold m_cp
    rw [show (0 : Int).toNat = 0 from rfl, show (122 : Int).toNat = 122 from rfl, if_pos (by omega), q_ud_n (by omega), hI.1]; congr 1; omega
  generalize m_sr (q_ud h 139 7 0) 141 (m_cp (q_ud h 139 7 0 140) (q_ud h 139 7 0 141) (0 : Int).toNat (0 : Int).toNat (122 : Int).toNat) = g1 at K1 K2 K3 ⊢
  obtain ⟨g2, a1, a2, a3⟩ := r_clear g1
  rw [a1, Option.bind_some, m_let, m_let, m_let, m_let]
  dsimp only
  -- the places before the first token
  have F : ∀ k j, k ≠ 139 → q_ud (q_ud (q_ud (q_ud g2 139 17 0) 139 18 (-1)) 139 19 0) 139 23 0 k j = g2 k j := fun k j hk => by rw [q_ud_n (by omega), q_ud_n (by omega), q_ud_n (by omega), q_ud_n (by omega)]
  have F9 : ∀ j, j < 17 ∨ 24 ≤ j → q_ud (q_ud (q_ud (q_ud g2 139 17 0) 139 18 (-1)) 139 19 0) 139 23 0 139 j = g2 139 j := fun j hj => by rw [q_ud_n (by omega), q_ud_n (by omega), q_ud_n (by omega), q_ud_n (by omega)]
  have F19 : q_ud (q_ud (q_ud (q_ud g2 139 17 0) 139 18 (-1)) 139 19 0) 139 23 0 139 19 = 0 := by rw [q_ud_n (by omega), q_ud_s]
  have F23 : q_ud (q_ud (q_ud (q_ud g2 139 17 0) 139 18 (-1)) 139 19 0) 139 23 0 139 23 = 0 := q_ud_s _ _ _ _
  have F17 : q_ud (q_ud (q_ud (q_ud g2 139 17 0) 139 18 (-1)) 139 19 0) 139 23 0 139 17 = 0 := by rw [q_ud_n (by omega), q_ud_n (by omega), q_ud_n (by omega), q_ud_s]
  have F18 : q_ud (q_ud (q_ud (q_ud g2 139 17 0) 139 18 (-1)) 139 19 0) 139 23 0 139 18 = -1 := by rw [q_ud_n (by omega), q_ud_n (by omega), q_ud_s]
  generalize q_ud (q_ud (q_ud (q_ud g2 139 17 0) 139 18 (-1)) 139 19 0) 139 23 0 = g3 at F F9 F19 F23 F17 F18 ⊢
  have e14 : g3 139 14 = h 139 14 := by rw [F9 14 (by omega), a2 139 (by omega), K2 14 (by omega)]
  obtain ⟨g4, b1, b2, b3, b4, b5, b6⟩ := r_adv0 600 q_fu g3 (by rw [e14, F19]; omega) (by have := q_fu_ge; omega) (by rw [F19]; omega) (by rw [F19, e14]; omega) (by rw [e14]; exact hl.2)
  have c14 : g4 139 14 = h 139 14 := (b2.2 14 (by omega) (by omega) (by omega) (by omega)).trans e14
  have c23 : g4 139 23 = ((0 : Nat) : Int) := (b2.2 23 (by omega) (by omega) (by omega) (by omega)).trans F23
  have c140 : ∀ j, j < 122 → g4 140 j = m_clr 3 j := fun j hj => by rw [b2.1 140 (by omega), F 140 j (by omega), a3 j hj]
  have Q4 : r_Q g4 := ⟨by rw [c14]; exact hl, by rw [c14]; rw [F19] at b3; rw [e14] at b5; omega, b6, 0, by omega, c23⟩
  have S4 : r_S g4 := ⟨r_Y_c r_Y_clr.1 c140, fun s e z a ha => by rw [c140 _ (by omega)]; exact r_Y_clr.2 a ha⟩
  have b1' : fn235 g3 = some (0, g4) := b1
  have e150 : g3 150 = h 150 := by funext j; rw [F 150 j (by omega), a2 150 (by omega), K1 150 (by omega) (by omega)]
  have Tg3 : s_rt B n g3 := ⟨e14.trans Tr.1, Tr.2.1, fun k hk => by rw [e150]; exact Tr.2.2.1 k hk, Tr.2.2.2⟩
  obtain ⟨g4', t1, t2, t3⟩ := s_tok (p := 0) Tg3 F19 (Nat.zero_le _)
  have e9 := b1'.symm.trans t1
  cases e9
  have R0 : s_R B n 0 0 c0 g4 := ⟨T, f6, t3, s_X_fg GF f2 c140, ⟨f4, (b2.2 17 (by omega) (by omega) (by omega) (by omega)).trans F17⟩, ⟨f5, (b2.2 18 (by omega) (by omega) (by omega) (by omega)).trans F18⟩, by omega, f3, c23⟩
  have W0 : s_W 0 g4 := ⟨by rw [c140 1 (by omega)]; rfl, by rw [c140 2 (by omega)]; rfl⟩
  obtain ⟨cc, gg, vv, x1, x2, x3⟩ := s_text 600 q_fu q_fu 0 0 0 c0 g4 (by have := T.2.1; omega) (by have := q_fu_ge; omega) (by have := q_fu_ge; omega) (Nat.le_refl _) R0 W0
  rw [b1', Option.bind_some]
  dsimp only
  obtain ⟨v, g5, d1, d2, d3, d4⟩ := r_text 600 q_fu g4 (by have := Q4.1; have := Q4.2.1; omega) (by have := q_fu_ge; omega) Q4 S4
  have d1' : fn317 g4 = some (v, g5) := d1
  have e9 := Option.some.inj (d1.symm.trans x2)
  have hv : v = vv := congrArg Prod.fst e9
  have hg : g5 = gg := congrArg Prod.snd e9
  subst hv
  subst hg
  rw [d1', Option.bind_some, m_let, m_let, m_let]
  dsimp only
  -- what stands behind the text
  have G : ∀ k, k ≠ 139 → k ≠ 140 → k ≠ 141 → g5 k = h k := fun k x y z => by
    rw [d3.1 k x y, b2.1 k x]; funext j; rw [F k j x, a2 k y, K1 k x z]
  have G9' : ∀ k, k < 139 ∨ 152 ≤ k → g5 k = h k := fun k hk => G k (by omega) (by omega) (by omega)
  have G9 : ∀ j, j < 17 ∨ 24 ≤ j → j ≠ 7 → g5 139 j = h 139 j := fun j hj h7 => by
    rw [d3.2.1 j hj, b2.2 j (by omega) (by omega) (by omega) (by omega), F9 j hj, a2 139 (by omega), K2 j h7]
  have G141 : ∀ j, j < 122 → g5 141 j = S.w j := fun j hj => by
    rw [d3.1 141 (by omega) (by omega), b2.1 141 (by omega), F 141 j (by omega), a2 141 (by omega), K3 j hj]
  have U : ∀ k j, k ≠ 139 → q_ud (q_ud (q_ud g5 139 14 0) 139 15 (q_ud g5 139 14 0 139 17)) 139 16 (q_ud (q_ud g5 139 14 0) 139 15 (q_ud g5 139 14 0 139 17) 139 18) k j = g5 k j := fun k j hk => by rw [q_ud_n (by omega), q_ud_n (by omega), q_ud_n (by omega)]
  have U9 : ∀ j, j ≠ 14 → j ≠ 15 → j ≠ 16 → q_ud (q_ud (q_ud g5 139 14 0) 139 15 (q_ud g5 139 14 0 139 17)) 139 16 (q_ud (q_ud g5 139 14 0) 139 15 (q_ud g5 139 14 0 139 17) 139 18) 139 j = g5 139 j := fun j x y z => by rw [q_ud_n (by omega), q_ud_n (by omega), q_ud_n (by omega)]
  have U14 : q_ud (q_ud (q_ud g5 139 14 0) 139 15 (q_ud g5 139 14 0 139 17)) 139 16 (q_ud (q_ud g5 139 14 0) 139 15 (q_ud g5 139 14 0 139 17) 139 18) 139 14 = 0 := by rw [q_ud_n (by omega), q_ud_n (by omega), q_ud_s]
  have U15 : q_ud (q_ud (q_ud g5 139 14 0) 139 15 (q_ud g5 139 14 0 139 17)) 139 16 (q_ud (q_ud g5 139 14 0) 139 15 (q_ud g5 139 14 0 139 17) 139 18) 139 15 = g5 139 17 := by rw [q_ud_n (by omega), q_ud_s, q_ud_n (by omega)]
  have U16 : q_ud (q_ud (q_ud g5 139 14 0) 139 15 (q_ud g5 139 14 0 139 17)) 139 16 (q_ud (q_ud g5 139 14 0) 139 15 (q_ud g5 139 14 0 139 17) 139 18) 139 16 = g5 139 18 := by rw [q_ud_s, q_ud_n (by omega), q_ud_n (by omega)]
  generalize q_ud (q_ud (q_ud g5 139 14 0) 139 15 (q_ud g5 139 14 0 139 17)) 139 16 (q_ud (q_ud g5 139 14 0) 139 15 (q_ud g5 139 14 0 139 17) 139 18) = g6 at U U9 U14 U15 U16 ⊢
  have U140 : g6 140 = g5 140 := by funext j; exact U 140 j (by omega)
  rcases x3 with ⟨rfl, p', s', R1, W1⟩ | ⟨rfl, E⟩
  · have d5 : r_S g5 := by
      rcases d4 with h9 | ⟨-, d4⟩
      · exact absurd h9 (by decide)
      · exact d4
    have Y := d5.1
    have R := r_RI_cls Y
    obtain ⟨-, -, -, X, ⟨q1, q2⟩, ⟨q3, q4⟩, q5, q6, q7⟩ := R1
    rw [if_neg (show ¬ (1 : Int) = 0 by decide), r_closes U140, Option.bind_some, m_let, m_let]
    dsimp only
    rw [fn303_i (by omega) (by omega), Option.bind_some, fn303_i (by omega) (by omega), Option.bind_some, fn303_i (by omega) (by omega), Option.bind_some]
    have y0 : 1 ≤ g5 140 8 ∧ g5 140 8 ≤ 2000 := r_Y_len Y (a := 0) (by omega)
    have y1 : 1 ≤ g5 140 9 ∧ g5 140 9 ≤ 2000 := r_Y_len Y (a := 1) (by omega)
    have y2 : 1 ≤ g5 140 10 ∧ g5 140 10 ≤ 2000 := r_Y_len Y (a := 2) (by omega)
    have c8 : ∀ j, j < 53 → m_cls (g5 140) j = g5 140 j := fun j hj => by unfold m_cls; rw [if_neg (by omega)]
    refine ⟨cc, _, _, m_cls (g5 140), x1, rfl, fun k hk => ?_, ?_, ?_, ?_, ?_, Or.inl ⟨q1, ⟨?_, ⟨?_, fun k hk => absurd hk (Nat.not_lt_zero k)⟩, q_ud_s _ _ _ _, fun h9 => absurd rfl h9⟩, R, ?_, s', q5, q6, fun j hj => ?_⟩⟩
    · funext j; rw [q_ud_n (by omega), q_ud_n (by omega), m_sr_n (by omega), U k j (by omega), G9' k hk]
    · rw [q_ud_n (by omega), q_ud_n (by omega), m_sr_n (by omega)]; exact U14
    · rw [q_ud_n (by omega), q_ud_n (by omega), m_sr_n (by omega), U9 27 (by omega) (by omega) (by omega), G9 27 (by omega) (by omega)]
    · rw [q_ud_n (by omega), q_ud_n (by omega), m_sr_n (by omega), U16, q3, q4]
    · rw [q_ud_n (by omega), q_ud_n (by omega), m_sr_n (by omega), U15, q1, q2]
    · funext j; rw [q_ud_n (by omega), q_ud_n (by omega), m_sr_s]; rfl
    · rw [q_ud_n (by omega), q_ud_s]; rfl
    · have z : ∀ j, j < 53 → q_ud (q_ud (m_sr g6 140 (m_cls (g5 140))) 139 5 0) 139 6 0 140 j = g5 140 j := fun j hj => by rw [q_ud_n (by omega), q_ud_n (by omega), m_sr_s, c8 j hj]
      rw [show (8 : Int).toNat = 8 from rfl, show (9 : Int).toNat = 9 from rfl, show (10 : Int).toNat = 10 from rfl, z 8 (by omega), z 9 (by omega), z 10 (by omega), c8 8 (by omega), c8 9 (by omega), c8 10 (by omega), q_w32_id (z := g5 140 8) (by omega) (by omega), q_w32_id (z := g5 140 9) (by omega) (by omega), q_w32_id (z := g5 140 10) (by omega) (by omega), q_w32_id (z := g5 140 8 + g5 140 9) (by omega) (by omega), q_w32_id (by omega) (by omega)]
    · exact s_rows X W1 Y hj
  · obtain ⟨kk, k0, k1, k2, k3⟩ := E
    rw [if_pos rfl, fn249_i (by omega) (by omega) (by omega) (by omega) (by omega) (by omega) (by omega) (by omega), Option.bind_some]
    have ew : ∀ j, j < 122 → m_cp (g6 141) (g6 140) (0 : Int).toNat (0 : Int).toNat (122 : Int).toNat j = S.w j := fun j hj => by
      unfold m_cp
      rw [show (0 : Int).toNat = 0 from rfl, show (122 : Int).toNat = 122 from rfl, if_pos (by omega), U 141 _ (by omega), show 0 + (j - 0) = j by omega]; exact G141 j hj
    dsimp only
    refine ⟨cc, _, _, m_cp (g6 141) (g6 140) (0 : Int).toNat (0 : Int).toNat (122 : Int).toNat, x1, rfl, fun k hk => ?_, ?_, ?_, ?_, ?_, Or.inr ⟨by rw [k1]; exact k0, ⟨m_sr_s _ _ _, ⟨?_, fun k hk j hj => ?_⟩, ?_, fun hs j hj => ?_⟩, ew, rfl⟩⟩
    · rw [m_sr_n (by omega)]; funext j; rw [U k j (by omega), G9' k hk]
    · rw [m_sr_n (by omega)]; exact U14
    · rw [m_sr_n (by omega), U9 27 (by omega) (by omega) (by omega), G9 27 (by omega) (by omega)]
    · rw [m_sr_n (by omega), U16]; exact k3
    · rw [m_sr_n (by omega), U15, k1, k2]
    · rw [m_sr_n (by omega), U9 5 (by omega) (by omega) (by omega), G9 5 (by omega) (by omega)]; exact hI.2.1.1
    · rw [m_sr_n (by omega), U 144 _ (by omega), G 144 (by omega) (by omega) (by omega)]; exact hI.2.1.2 k hk j hj
    · rw [m_sr_n (by omega), U9 6 (by omega) (by omega) (by omega), G9 6 (by omega) (by omega)]; exact hI.2.2.1
    · rw [m_sr_n (by omega), U 143 _ (by omega), G 143 (by omega) (by omega) (by omega)]; exact hI.2.2.2 hs j hj
