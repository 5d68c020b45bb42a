/-! Part 61: a step of the class's motor is the model's. -/
theorem c_u6 {h : q_F} {o a : Nat} {w : Nat → Int} {v : Int} (hc : c_ax h o w a) : c_ax (q_ud h o 6 v) o (m_u w (26 + a) v) a := c_uo (j := 6) (by omega) hc
theorem c_u7 {h : q_F} {o a : Nat} {w : Nat → Int} {v : Int} (hc : c_ax h o w a) : c_ax (q_ud h o 7 v) o (m_u w (29 + a) v) a := c_uo (j := 7) (by omega) hc
theorem c_u8 {h : q_F} {o a : Nat} {w : Nat → Int} {v : Int} (hc : c_ax h o w a) : c_ax (q_ud h o 8 v) o (m_u w (44 + a) v) a := c_uo (j := 8) (by omega) hc
theorem c_lost {h : q_F} {o a : Nat} {w : Nat → Int} (hc : c_ax h o w a) : c_ax (q_ud h (o + 1) 2 (q_w32 (h (o + 1) 2 + 1))) o (m_u w (35 + a) (q_w64 (w (35 + a) + 1))) a :=
  c_ua (j := 2) (by omega) (by rw [hc.2 2 (by omega)]; exact m_inc _) hc
theorem c_fwd {h : q_F} {o a : Nat} {w : Nat → Int} (hc : c_ax h o w a) : c_ax (q_ud h (o + 1) 0 (q_w32 (h (o + 1) 0 + 1))) o (m_u w (56 + a) (q_w64 (w (56 + a) + 1))) a :=
  c_ua (j := 0) (by omega) (by rw [hc.2 0 (by omega)]; exact m_inc _) hc
theorem c_bwd {h : q_F} {o a : Nat} {w : Nat → Int} (hc : c_ax h o w a) : c_ax (q_ud h (o + 1) 1 (q_w32 (h (o + 1) 1 + 1))) o (m_u w (59 + a) (q_w64 (w (59 + a) + 1))) a :=
  c_ua (j := 1) (by omega) (by rw [hc.2 1 (by omega)]; exact m_inc _) hc
/-- the switch agrees with the place -/
def m_sok (w : Nat → Int) (a : Nat) : Prop := (0 ≤ w (26 + a) ∧ w (26 + a) ≤ 2000) ∧ (0 ≤ w (20 + a) ∧ w (20 + a) ≤ 2000 ∧ 0 ≤ w (23 + a) ∧ w (23 + a) ≤ 20)
theorem c_tail {h : q_F} {o a : Nat} {w w9 : Nat → Int} {z : Int} (ha : a < 3) (hc : c_ax h o w a) (hs : m_sok w a) (hz : z ≠ 0) (e : m_sx a w = w9) : ∃ h', fn49_21 o z h = some (z, h') ∧ c_ax h' o w9 a ∧ c_fo o h h' := by
  subst e
  unfold fn49_21
  rw [if_neg hz]
  exact c_close ha hc hs.1 hs.2
theorem c_tail0 {h : q_F} {o a : Nat} {w w9 : Nat → Int} (ha : a < 3) (hc : c_ax h o w a) (hs : m_sok w a) (e : m_sx a (m_u w (35 + a) (q_w64 (w (35 + a) + 1))) = w9) : ∃ h', fn49_21 o 0 h = some (0, h') ∧ c_ax h' o w9 a ∧ c_fo o h h' := by
  subst e
  unfold fn49_21
  rw [if_pos rfl, m_let]
  obtain ⟨h', g1, g2, g3⟩ := c_close (z := 0) ha (c_lost hc) (w := m_u w (35 + a) (q_w64 (w (35 + a) + 1))) (by rw [m_u_n (by omega)]; exact hs.1) (by rw [m_u_n (by omega), m_u_n (by omega)]; exact hs.2)
  exact ⟨h', g1, g2, c_fo_t (c_fo_u c_fo_r (Or.inr rfl)) g3⟩
/-- places that the account and the direction of a step change -/
theorem m_s0_o {a c : Nat} {d : Int} {w : Nat → Int} {j : Nat} (h1 : j ≠ 32 + a) (h2 : j ≠ 44 + a) (h3 : j ≠ c + a) : m_s0 a c d w j = w j := by
  unfold m_s0; rw [m_u_n h3, m_u_n h2, m_u_n h1]
theorem m_ai_sok {w : Nat → Int} {a : Nat} (hi : m_ai w a) : m_sok w a := ⟨⟨hi.2.1.1, by have := hi.2.1; omega⟩, hi.2.2.2.2.2.1⟩
theorem m_same {w : Nat → Int} {a : Nat} (hs : m_sok w a) (h1 : w (26 + a) ≤ w (20 + a) → w (53 + a) = 1) (h2 : w (20 + a) + w (23 + a) < w (26 + a) → w (53 + a) = 0) : m_sx a w = w := by
  obtain ⟨h26, h20⟩ := hs
  unfold m_sx m_sw
  by_cases c1 : w (20 + a) < w (26 + a)
  · rw [if_pos c1, q_w64_id (by omega) (by omega)]
    split
    · rfl
    · rw [← h2 (by omega), m_u_id]
  · rw [if_neg c1, ← h1 (by omega), m_u_id, q_w64_id (by omega) (by omega), if_pos (by omega)]
theorem m_same_u {w : Nat → Int} {a j : Nat} {v : Int} (hj : j = 29 ∨ j = 35) (hs : m_sok w a) (h1 : w (26 + a) ≤ w (20 + a) → w (53 + a) = 1) (h2 : w (20 + a) + w (23 + a) < w (26 + a) → w (53 + a) = 0) : m_sx a (m_u w (j + a) v) = m_u w (j + a) v := by
  have e26 : m_u w (j + a) v (26 + a) = w (26 + a) := m_u_n (by omega)
  have e20 : m_u w (j + a) v (20 + a) = w (20 + a) := m_u_n (by omega)
  have e23 : m_u w (j + a) v (23 + a) = w (23 + a) := m_u_n (by omega)
  have e53 : m_u w (j + a) v (53 + a) = w (53 + a) := m_u_n (by omega)
  apply m_same
  · unfold m_sok; rw [e26, e20, e23]; exact hs
  · rw [e26, e20, e53]; exact h1
  · rw [e26, e20, e23, e53]; exact h2
/-- the pushes behind the account, beside the model's -/
theorem c_push {g : q_F} {o a : Nat} {w : Nat → Int} {d e s : Int} (ha : a < 3) (hc : c_ax g o w a) (hs : m_sok w a) (h1 : w (26 + a) ≤ w (20 + a) → w (53 + a) = 1) (h2 : w (20 + a) + w (23 + a) < w (26 + a) → w (53 + a) = 0) (h29 : -1 ≤ w (29 + a) + d ∧ w (29 + a) + d ≤ 21) (h26 : w (26 + a) ≠ s → 0 ≤ w (26 + a) + d ∧ w (26 + a) + d ≤ 2000) :
    (w (29 + a) = e → w (26 + a) = s → ∃ h', fn49_21 o 0 g = some (0, h') ∧ c_ax h' o (m_sm a d e s w).2 a ∧ c_fo o g h' ∧ (m_sm a d e s w).1 = 1) ∧
    (w (29 + a) = e → w (26 + a) ≠ s → ∃ h', fn49_21 o 1 (q_ud g o 6 (w (26 + a) + d)) = some (1, h') ∧ c_ax h' o (m_sm a d e s w).2 a ∧ c_fo o g h' ∧ (m_sm a d e s w).1 = 0) ∧
    (w (29 + a) ≠ e → ∃ h', fn49_21 o 1 (q_ud g o 7 (w (29 + a) + d)) = some (1, h') ∧ c_ax h' o (m_sm a d e s w).2 a ∧ c_fo o g h' ∧ (m_sm a d e s w).1 = 0) := by
  unfold m_sm
  refine ⟨fun e1 e2 => ?_, fun e1 e2 => ?_, fun e1 => ?_⟩
  · rw [if_pos e1, if_pos e2]
    obtain ⟨h', g1, g2, g3⟩ := c_tail0 (w9 := m_u w (35 + a) (q_w64 (w (35 + a) + 1))) ha hc hs (m_same_u (Or.inr rfl) hs h1 h2)
    exact ⟨h', g1, g2, g3, rfl⟩
  · rw [if_pos e1, if_neg e2]
    have hd := h26 e2
    obtain ⟨h', g1, g2, g3⟩ := c_tail (h := q_ud g o 6 (w (26 + a) + d)) (z := 1) ha (c_u6 (v := w (26 + a) + d) hc) (by
      refine ⟨by rw [m_u_s]; exact hd, ?_⟩
      rw [m_u_n (by omega), m_u_n (by omega)]; exact hs.2) (by decide) rfl
    rw [q_w64_id (by omega) (by omega)]
    exact ⟨h', g1, g2, c_fo_t (c_fo_u c_fo_r (Or.inl rfl)) g3, rfl⟩
  · rw [if_neg e1, q_w64_id (by omega) (by omega)]
    obtain ⟨h', g1, g2, g3⟩ := c_tail (h := q_ud g o 7 (w (29 + a) + d)) (z := 1) ha (c_u7 (v := w (29 + a) + d) hc) (by
      refine ⟨by rw [m_u_n (by omega)]; exact hs.1, ?_⟩
      rw [m_u_n (by omega), m_u_n (by omega)]; exact hs.2) (by decide) (m_same_u (Or.inl rfl) hs h1 h2)
    exact ⟨h', g1, g2, c_fo_t (c_fo_u c_fo_r (Or.inl rfl)) g3, rfl⟩
theorem c_step {h : q_F} {o a : Nat} {w : Nat → Int} {d : Int} (ha : a < 3) (hc : c_ax h o w a) (hi : m_ai w a) (hd : d = 1 ∨ d = -1) :
    ∃ h', fn49 o d h = some (1 - (m_step a d w).1, h') ∧ c_ax h' o (m_step a d w).2 a ∧ c_fo o h h' := by
  obtain ⟨⟨i1, i2, i3⟩, ⟨i4, i5, i6⟩, i7, i8, i9, i10, i14, i15⟩ := hi
  rcases hd with rfl | rfl
  · have hc3 : c_ax (q_ud (q_ud h o 8 1) (o + 1) 0 (q_w32 (q_ud h o 8 1 (o + 1) 0 + 1))) o (m_s0 a 56 1 w) a := c_fwd (c_u8 (c_un (i := 32 + a) (by omega) ha hc))
    have hf3 : c_fo o h (q_ud (q_ud h o 8 1) (o + 1) 0 (q_w32 (q_ud h o 8 1 (o + 1) 0 + 1))) := c_fo_u (c_fo_u c_fo_r (Or.inl rfl)) (Or.inr rfl)
    unfold fn49 fn52 m_step
    rw [m_let, if_pos rfl, m_let, if_neg (show ¬ (1 : Int) ≤ 0 by decide)]
    generalize q_ud (q_ud h o 8 1) (o + 1) 0 (q_w32 (q_ud h o 8 1 (o + 1) 0 + 1)) = g at hc3 hf3 ⊢
    have o26 : m_s0 a 56 1 w (26 + a) = w (26 + a) := m_s0_o (by omega) (by omega) (by omega)
    have o29 : m_s0 a 56 1 w (29 + a) = w (29 + a) := m_s0_o (by omega) (by omega) (by omega)
    have o20 : m_s0 a 56 1 w (20 + a) = w (20 + a) := m_s0_o (by omega) (by omega) (by omega)
    have o23 : m_s0 a 56 1 w (23 + a) = w (23 + a) := m_s0_o (by omega) (by omega) (by omega)
    have o53 : m_s0 a 56 1 w (53 + a) = w (53 + a) := m_s0_o (by omega) (by omega) (by omega)
    have o8 : m_s0 a 56 1 w (8 + a) = w (8 + a) := m_s0_o (by omega) (by omega) (by omega)
    have o11 : m_s0 a 56 1 w (11 + a) = w (11 + a) := m_s0_o (by omega) (by omega) (by omega)
    generalize m_s0 a 56 1 w = w3 at hc3 o26 o29 o20 o23 o53 o8 o11 ⊢
    have e0 : g o 0 = w (8 + a) := (hc3.1 0 (by omega)).trans o8
    have e1 : g o 1 = w (11 + a) := (hc3.1 1 (by omega)).trans o11
    have e6 : g o 6 = w (26 + a) := (hc3.1 6 (by omega)).trans o26
    have e7 : g o 7 = w (29 + a) := (hc3.1 7 (by omega)).trans o29
    have hs : m_sok w3 a := by unfold m_sok; rw [o26, o20, o23]; exact ⟨by omega, i10⟩
    obtain ⟨k1, k2, k3⟩ := c_push (g := g) (d := 1) (e := w (11 + a)) (s := w (8 + a)) ha hc3 hs (by rw [o26, o20, o53]; exact i8) (by rw [o26, o20, o23, o53]; exact i9) (by omega) (by omega)
    rw [o26, o29] at k1 k2
    rw [o29] at k3
    rw [e0, e1, e6, e7, q_w32_id (z := w (26 + a) + 1) (by omega) (by omega), q_w32_id (z := w (29 + a) + 1) (by omega) (by omega)]
    by_cases c1 : w (29 + a) = w (11 + a)
    · rw [if_pos (show w (11 + a) ≤ w (29 + a) by omega)]
      by_cases c2 : w (26 + a) = w (8 + a)
      · rw [if_pos (show w (8 + a) ≤ w (26 + a) by omega), Option.bind_some]
        obtain ⟨h', g1, g2, g3, g4⟩ := k1 c1 c2
        exact ⟨h', by rw [g4]; exact g1, g2, c_fo_t hf3 g3⟩
      · rw [if_neg (show ¬ w (8 + a) ≤ w (26 + a) by omega), m_let, Option.bind_some]
        obtain ⟨h', g1, g2, g3, g4⟩ := k2 c1 c2
        exact ⟨h', by rw [g4]; exact g1, g2, c_fo_t hf3 g3⟩
    · rw [if_neg (show ¬ w (11 + a) ≤ w (29 + a) by omega), m_let, Option.bind_some]
      obtain ⟨h', g1, g2, g3, g4⟩ := k3 c1
      exact ⟨h', by rw [g4]; exact g1, g2, c_fo_t hf3 g3⟩
  · have hc3 : c_ax (q_ud (q_ud h o 8 (-1)) (o + 1) 1 (q_w32 (q_ud h o 8 (-1) (o + 1) 1 + 1))) o (m_s0 a 59 (-1) w) a := c_bwd (c_u8 (c_un (i := 32 + a) (by omega) ha hc))
    have hf3 : c_fo o h (q_ud (q_ud h o 8 (-1)) (o + 1) 1 (q_w32 (q_ud h o 8 (-1) (o + 1) 1 + 1))) := c_fo_u (c_fo_u c_fo_r (Or.inl rfl)) (Or.inr rfl)
    unfold fn49 fn51 m_step
    rw [m_let, if_neg (show ¬ (-1 : Int) = 1 by decide), m_let, if_pos (show (-1 : Int) ≤ 0 by decide)]
    generalize q_ud (q_ud h o 8 (-1)) (o + 1) 1 (q_w32 (q_ud h o 8 (-1) (o + 1) 1 + 1)) = g at hc3 hf3 ⊢
    have o26 : m_s0 a 59 (-1) w (26 + a) = w (26 + a) := m_s0_o (by omega) (by omega) (by omega)
    have o29 : m_s0 a 59 (-1) w (29 + a) = w (29 + a) := m_s0_o (by omega) (by omega) (by omega)
    have o20 : m_s0 a 59 (-1) w (20 + a) = w (20 + a) := m_s0_o (by omega) (by omega) (by omega)
    have o23 : m_s0 a 59 (-1) w (23 + a) = w (23 + a) := m_s0_o (by omega) (by omega) (by omega)
    have o53 : m_s0 a 59 (-1) w (53 + a) = w (53 + a) := m_s0_o (by omega) (by omega) (by omega)
    generalize m_s0 a 59 (-1) w = w3 at hc3 o26 o29 o20 o23 o53 ⊢
    have e6 : g o 6 = w (26 + a) := (hc3.1 6 (by omega)).trans o26
    have e7 : g o 7 = w (29 + a) := (hc3.1 7 (by omega)).trans o29
    have hs : m_sok w3 a := by unfold m_sok; rw [o26, o20, o23]; exact ⟨by omega, i10⟩
    obtain ⟨k1, k2, k3⟩ := c_push (g := g) (d := -1) (e := 0) (s := 0) ha hc3 hs (by rw [o26, o20, o53]; exact i8) (by rw [o26, o20, o23, o53]; exact i9) (by omega) (by omega)
    rw [o26, o29] at k1 k2
    rw [o29] at k3
    rw [e6, e7, q_w32_id (z := w (26 + a) - 1) (by omega) (by omega), q_w32_id (z := w (29 + a) - 1) (by omega) (by omega)]
    by_cases c1 : w (29 + a) = 0
    · rw [if_pos (show w (29 + a) ≤ 0 by omega)]
      by_cases c2 : w (26 + a) = 0
      · rw [if_pos (show w (26 + a) ≤ 0 by omega), Option.bind_some]
        obtain ⟨h', g1, g2, g3, g4⟩ := k1 c1 c2
        exact ⟨h', by rw [g4]; exact g1, g2, c_fo_t hf3 g3⟩
      · rw [if_neg (show ¬ w (26 + a) ≤ 0 by omega), m_let, Option.bind_some]
        obtain ⟨h', g1, g2, g3, g4⟩ := k2 c1 c2
        exact ⟨h', by rw [g4]; exact g1, g2, c_fo_t hf3 g3⟩
    · rw [if_neg (show ¬ w (29 + a) ≤ 0 by omega), m_let, Option.bind_some]
      obtain ⟨h', g1, g2, g3, g4⟩ := k3 c1
      exact ⟨h', by rw [g4]; exact g1, g2, c_fo_t hf3 g3⟩
