/-! Part 98c: the reference's loadTable, whole. -/
theorem r_load {h : q_F} {S : m_St} (hI : r_I h S) (hm : m_I S) (hl : 0 ≤ h 139 14 ∧ h 139 14 ≤ 600) : ∃ v h' S', fn283 h = some (v, h') ∧ r_I h' S' ∧ m_I S' ∧ h' 139 14 = 0 ∧ (∀ k, k < 139 ∨ 152 ≤ k → h' k = h k) ∧ h' 139 27 = h 139 27 := by
  unfold fn283
  rw [m_let, fn249_i (by omega) (by omega) (by omega) (by omega) (by omega) (by omega) (by omega) (by omega), Option.bind_some]
  dsimp only
  -- the row kept
  have K1 : ∀ k, k ≠ 139 → k ≠ 141 → m_sr (q_ud h 139 7 0) 141 (m_cp (q_ud h 139 7 0 140) (q_ud h 139 7 0 141) (0 : Int).toNat (0 : Int).toNat (122 : Int).toNat) k = h k := fun k a b => by rw [m_sr_n b]; funext j; rw [q_ud_n (by omega)]
  have K2 : ∀ j, j ≠ 7 → m_sr (q_ud h 139 7 0) 141 (m_cp (q_ud h 139 7 0 140) (q_ud h 139 7 0 141) (0 : Int).toNat (0 : Int).toNat (122 : Int).toNat) 139 j = h 139 j := fun j a => by rw [m_sr_n (by omega), q_ud_n (by omega)]
  have K3 : ∀ j, j < 122 → m_sr (q_ud h 139 7 0) 141 (m_cp (q_ud h 139 7 0 140) (q_ud h 139 7 0 141) (0 : Int).toNat (0 : Int).toNat (122 : Int).toNat) 141 j = S.w j := fun j hj => by
    rw [m_sr_s]; unfold m_cp
    rw [show (0 : Int).toNat = 0 from rfl, show (122 : Int).toNat = 122 from rfl, if_pos (by omega), q_ud_n (by omega), hI.1]; congr 1; omega
  generalize m_sr (q_ud h 139 7 0) 141 (m_cp (q_ud h 139 7 0 140) (q_ud h 139 7 0 141) (0 : Int).toNat (0 : Int).toNat (122 : Int).toNat) = g1 at K1 K2 K3 ⊢
  obtain ⟨g2, a1, a2, a3⟩ := r_clear g1
  rw [a1, Option.bind_some, m_let, m_let, m_let, m_let]
  dsimp only
  -- the places before the first token
  have F : ∀ k j, k ≠ 139 → q_ud (q_ud (q_ud (q_ud g2 139 17 0) 139 18 (-1)) 139 19 0) 139 23 0 k j = g2 k j := fun k j hk => by rw [q_ud_n (by omega), q_ud_n (by omega), q_ud_n (by omega), q_ud_n (by omega)]
  have F9 : ∀ j, j < 17 ∨ 24 ≤ j → q_ud (q_ud (q_ud (q_ud g2 139 17 0) 139 18 (-1)) 139 19 0) 139 23 0 139 j = g2 139 j := fun j hj => by rw [q_ud_n (by omega), q_ud_n (by omega), q_ud_n (by omega), q_ud_n (by omega)]
  have F19 : q_ud (q_ud (q_ud (q_ud g2 139 17 0) 139 18 (-1)) 139 19 0) 139 23 0 139 19 = 0 := by rw [q_ud_n (by omega), q_ud_s]
  have F23 : q_ud (q_ud (q_ud (q_ud g2 139 17 0) 139 18 (-1)) 139 19 0) 139 23 0 139 23 = 0 := q_ud_s _ _ _ _
  generalize q_ud (q_ud (q_ud (q_ud g2 139 17 0) 139 18 (-1)) 139 19 0) 139 23 0 = g3 at F F9 F19 F23 ⊢
  have e14 : g3 139 14 = h 139 14 := by rw [F9 14 (by omega), a2 139 (by omega), K2 14 (by omega)]
  obtain ⟨g4, b1, b2, b3, b4, b5, b6⟩ := r_adv0 600 q_fu g3 (by rw [e14, F19]; omega) (by have := q_fu_ge; omega) (by rw [F19]; omega) (by rw [F19, e14]; omega) (by rw [e14]; exact hl.2)
  have c14 : g4 139 14 = h 139 14 := (b2.2 14 (by omega) (by omega) (by omega) (by omega)).trans e14
  have c23 : g4 139 23 = ((0 : Nat) : Int) := (b2.2 23 (by omega) (by omega) (by omega) (by omega)).trans F23
  have c140 : ∀ j, j < 122 → g4 140 j = m_clr 3 j := fun j hj => by rw [b2.1 140 (by omega), F 140 j (by omega), a3 j hj]
  have Q4 : r_Q g4 := ⟨by rw [c14]; exact hl, by rw [c14]; rw [F19] at b3; rw [e14] at b5; omega, b6, 0, by omega, c23⟩
  have S4 : r_S g4 := ⟨r_Y_c r_Y_clr.1 c140, fun s e z a ha => by rw [c140 _ (by omega)]; exact r_Y_clr.2 a ha⟩
  have b1' : fn235 g3 = some (0, g4) := b1
  rw [b1', Option.bind_some]
  dsimp only
  obtain ⟨v, g5, d1, d2, d3, d4⟩ := r_text 600 q_fu g4 (by have := Q4.1; have := Q4.2.1; omega) (by have := q_fu_ge; omega) Q4 S4
  have d1' : fn317 g4 = some (v, g5) := d1
  rw [d1', Option.bind_some, m_let, m_let, m_let]
  dsimp only
  -- what stands behind the text
  have G : ∀ k, k ≠ 139 → k ≠ 140 → k ≠ 141 → g5 k = h k := fun k x y z => by
    rw [d3.1 k x y, b2.1 k x]; funext j; rw [F k j x, a2 k y, K1 k x z]
  have G9 : ∀ j, j < 17 ∨ 24 ≤ j → j ≠ 7 → g5 139 j = h 139 j := fun j hj h7 => by
    rw [d3.2.1 j hj, b2.2 j (by omega) (by omega) (by omega) (by omega), F9 j hj, a2 139 (by omega), K2 j h7]
  have G141 : ∀ j, j < 122 → g5 141 j = S.w j := fun j hj => by
    rw [d3.1 141 (by omega) (by omega), b2.1 141 (by omega), F 141 j (by omega), a2 141 (by omega), K3 j hj]
  have U : ∀ k j, k ≠ 139 → q_ud (q_ud (q_ud g5 139 14 0) 139 15 (q_ud g5 139 14 0 139 17)) 139 16 (q_ud (q_ud g5 139 14 0) 139 15 (q_ud g5 139 14 0 139 17) 139 18) k j = g5 k j := fun k j hk => by rw [q_ud_n (by omega), q_ud_n (by omega), q_ud_n (by omega)]
  have U9 : ∀ j, j ≠ 14 → j ≠ 15 → j ≠ 16 → q_ud (q_ud (q_ud g5 139 14 0) 139 15 (q_ud g5 139 14 0 139 17)) 139 16 (q_ud (q_ud g5 139 14 0) 139 15 (q_ud g5 139 14 0 139 17) 139 18) 139 j = g5 139 j := fun j x y z => by rw [q_ud_n (by omega), q_ud_n (by omega), q_ud_n (by omega)]
  have U14 : q_ud (q_ud (q_ud g5 139 14 0) 139 15 (q_ud g5 139 14 0 139 17)) 139 16 (q_ud (q_ud g5 139 14 0) 139 15 (q_ud g5 139 14 0 139 17) 139 18) 139 14 = 0 := by rw [q_ud_n (by omega), q_ud_n (by omega), q_ud_s]
  generalize q_ud (q_ud (q_ud g5 139 14 0) 139 15 (q_ud g5 139 14 0 139 17)) 139 16 (q_ud (q_ud g5 139 14 0) 139 15 (q_ud g5 139 14 0 139 17) 139 18) = g6 at U U9 U14 ⊢
  have U140 : g6 140 = g5 140 := by funext j; exact U 140 j (by omega)
  rcases d4 with rfl | ⟨rfl, d4⟩
  · rw [if_pos rfl, fn249_i (by omega) (by omega) (by omega) (by omega) (by omega) (by omega) (by omega) (by omega), Option.bind_some]
    have ew : ∀ j, j < 122 → m_cp (g6 141) (g6 140) (0 : Int).toNat (0 : Int).toNat (122 : Int).toNat j = S.w j := fun j hj => by
      unfold m_cp
      rw [show (0 : Int).toNat = 0 from rfl, show (122 : Int).toNat = 122 from rfl, if_pos (by omega), U 141 _ (by omega), show 0 + (j - 0) = j by omega]; exact G141 j hj
    dsimp only
    refine ⟨_, _, m_set S (m_cp (g6 141) (g6 140) (0 : Int).toNat (0 : Int).toNat (122 : Int).toNat), rfl, ⟨m_sr_s _ _ _, ⟨?_, fun k hk j hj => ?_⟩, ?_, fun hs j hj => ?_⟩, m_I_set hm (m_RI_c hm.1 ew), ?_, fun k hk => ?_, ?_⟩
    · rw [m_sr_n (by omega), U9 5 (by omega) (by omega) (by omega), G9 5 (by omega) (by omega)]; exact hI.2.1.1
    · rw [m_sr_n (by omega), U 144 _ (by omega), G 144 (by omega) (by omega) (by omega)]; exact hI.2.1.2 k hk j hj
    · rw [m_sr_n (by omega), U9 6 (by omega) (by omega) (by omega), G9 6 (by omega) (by omega)]; exact hI.2.2.1
    · rw [m_sr_n (by omega), U 143 _ (by omega), G 143 (by omega) (by omega) (by omega)]; exact hI.2.2.2 hs j hj
    · rw [m_sr_n (by omega)]; exact U14
    · rw [m_sr_n (by omega)]; funext j; rw [U k j (by omega), G k (by omega) (by omega) (by omega)]
    · rw [m_sr_n (by omega), U9 27 (by omega) (by omega) (by omega), G9 27 (by omega) (by omega)]
  · have R := r_RI_cls d4.1
    rw [if_neg (show ¬ (1 : Int) = 0 by decide), r_closes U140, Option.bind_some, m_let, m_let]
    dsimp only
    rw [fn303_i (by omega) (by omega), Option.bind_some, fn303_i (by omega) (by omega), Option.bind_some, fn303_i (by omega) (by omega), Option.bind_some]
    refine ⟨_, _, m_mkS (m_cls (g5 140)) 0 S.P 0 S.ws, rfl, ⟨?_, ⟨?_, fun k hk => absurd hk (Nat.not_lt_zero k)⟩, q_ud_s _ _ _ _, fun h9 => absurd rfl h9⟩, ⟨R, ⟨Nat.zero_le _, fun k hk => absurd hk (Nat.not_lt_zero k)⟩, Or.inl rfl, fun h9 => absurd rfl h9⟩, ?_, fun k hk => ?_, ?_⟩
    · funext j; rw [q_ud_n (by omega), q_ud_n (by omega), m_sr_s]; rfl
    · rw [q_ud_n (by omega), q_ud_s]; rfl
    · rw [q_ud_n (by omega), q_ud_n (by omega), m_sr_n (by omega)]; exact U14
    · funext j; rw [q_ud_n (by omega), q_ud_n (by omega), m_sr_n (by omega), U k j (by omega), G k (by omega) (by omega) (by omega)]
    · rw [q_ud_n (by omega), q_ud_n (by omega), m_sr_n (by omega), U9 27 (by omega) (by omega) (by omega), G9 27 (by omega) (by omega)]
