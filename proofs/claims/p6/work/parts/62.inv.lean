/-! Part 62: what a step keeps of an axis. -/
/-- only places of the axis a have changed that a step changes -/
def m_fx (a : Nat) (w w' : Nat → Int) : Prop := ∀ j, (j % 3 ≠ (2 + a) % 3 ∨ j < 26 ∨ 61 < j) → w' j = w j
theorem m_fx_r {a : Nat} {w : Nat → Int} : m_fx a w w := fun _ _ => rfl
theorem m_fx_u {a j : Nat} {w w1 : Nat → Int} {v : Int} (h : m_fx a w w1) (hj : j % 3 = (2 + a) % 3 ∧ 26 ≤ j ∧ j ≤ 61) : m_fx a w (m_u w1 j v) := fun k hk => by
  rw [m_u_n (by omega)]; exact h k hk
theorem m_fx_t {a : Nat} {w w1 w2 : Nat → Int} (h1 : m_fx a w w1) (h2 : m_fx a w1 w2) : m_fx a w w2 := fun j hj => (h2 j hj).trans (h1 j hj)
theorem m_sw_fx {a : Nat} (w : Nat → Int) (ha : a < 3) : m_fx a w (m_sw a w) := by
  unfold m_sw; split
  · exact m_fx_r
  · exact m_fx_u m_fx_r (by omega)
theorem m_sx_fx {a : Nat} (w : Nat → Int) (ha : a < 3) : m_fx a w (m_sx a w) := by
  unfold m_sx
  refine m_fx_t ?_ (m_sw_fx _ ha)
  split
  · exact m_fx_r
  · exact m_fx_u m_fx_r (by omega)
theorem m_sm_fx {a : Nat} (d e s : Int) (w : Nat → Int) (ha : a < 3) : m_fx a w (m_sm a d e s w).2 := by
  unfold m_sm; split
  · split
    · exact m_fx_u m_fx_r (by omega)
    · exact m_fx_t (m_fx_u m_fx_r (by omega)) (m_sx_fx _ ha)
  · exact m_fx_u m_fx_r (by omega)
theorem m_step_fx {a : Nat} (d : Int) (w : Nat → Int) (ha : a < 3) : m_fx a w (m_step a d w).2 := by
  unfold m_step m_s0
  split
  · exact m_fx_t (m_fx_u (m_fx_u (m_fx_u m_fx_r (by omega)) (by omega)) (by omega)) (m_sm_fx _ _ _ _ ha)
  · exact m_fx_t (m_fx_u (m_fx_u (m_fx_u m_fx_r (by omega)) (by omega)) (by omega)) (m_sm_fx _ _ _ _ ha)
theorem m_ai_fx {a b : Nat} {w w' : Nat → Int} (ha : a < 3) (hb : b < 3) (hab : a ≠ b) (h : m_ai w b) (hf : m_fx a w w') : m_ai w' b := by
  have e : ∀ k, k % 3 = 2 → w' (k + b) = w (k + b) := fun k hk => hf _ (by omega)
  unfold m_ai
  rw [e 29 rfl, e 11 rfl, e 26 rfl, e 8 rfl, e 53 rfl, e 20 rfl, e 23 rfl, e 44 rfl, e 32 rfl, e 56 rfl, e 59 rfl]
  exact h
/-- an axis beside its direction and its account -/
def m_co1 (w : Nat → Int) (a : Nat) : Prop :=
  (0 ≤ w (29 + a) ∧ w (29 + a) ≤ w (11 + a) ∧ w (11 + a) ≤ 20) ∧ (0 ≤ w (26 + a) ∧ w (26 + a) ≤ w (8 + a) ∧ w (8 + a) ≤ 2000) ∧ (w (53 + a) = 0 ∨ w (53 + a) = 1) ∧ (w (26 + a) ≤ w (20 + a) → w (53 + a) = 1) ∧ (w (20 + a) + w (23 + a) < w (26 + a) → w (53 + a) = 0) ∧ (0 ≤ w (20 + a) ∧ w (20 + a) ≤ 2000 ∧ 0 ≤ w (23 + a) ∧ w (23 + a) ≤ 20)
theorem m_sx_co {w : Nat → Int} {a : Nat} (h1 : 0 ≤ w (29 + a) ∧ w (29 + a) ≤ w (11 + a) ∧ w (11 + a) ≤ 20) (h2 : 0 ≤ w (26 + a) ∧ w (26 + a) ≤ w (8 + a) ∧ w (8 + a) ≤ 2000) (h3 : w (53 + a) = 0 ∨ w (53 + a) = 1) (h4 : 0 ≤ w (20 + a) ∧ w (20 + a) ≤ 2000 ∧ 0 ≤ w (23 + a) ∧ w (23 + a) ≤ 20) : m_co1 (m_sx a w) a := by
  have e20 : q_w64 (w (20 + a) + w (23 + a)) = w (20 + a) + w (23 + a) := q_w64_id (by omega) (by omega)
  unfold m_sx m_sw
  by_cases c1 : w (20 + a) < w (26 + a)
  · rw [if_pos c1, e20]
    by_cases c2 : w (26 + a) ≤ w (20 + a) + w (23 + a)
    · rw [if_pos c2]
      exact ⟨h1, h2, h3, fun h => by omega, fun h => by omega, h4⟩
    · rw [if_neg c2]
      unfold m_co1
      rw [m_u_s, m_u_n (show 29 + a ≠ 53 + a by omega), m_u_n (show 11 + a ≠ 53 + a by omega), m_u_n (show 26 + a ≠ 53 + a by omega), m_u_n (show 8 + a ≠ 53 + a by omega), m_u_n (show 20 + a ≠ 53 + a by omega), m_u_n (show 23 + a ≠ 53 + a by omega)]
      exact ⟨h1, h2, Or.inl rfl, fun h => by omega, fun h => rfl, h4⟩
  · rw [if_neg c1, m_u_n (show 26 + a ≠ 53 + a by omega), m_u_n (show 20 + a ≠ 53 + a by omega), m_u_n (show 23 + a ≠ 53 + a by omega), e20, if_pos (by omega)]
    unfold m_co1
    rw [m_u_s, m_u_n (show 29 + a ≠ 53 + a by omega), m_u_n (show 11 + a ≠ 53 + a by omega), m_u_n (show 26 + a ≠ 53 + a by omega), m_u_n (show 8 + a ≠ 53 + a by omega), m_u_n (show 20 + a ≠ 53 + a by omega), m_u_n (show 23 + a ≠ 53 + a by omega)]
    exact ⟨h1, h2, Or.inr rfl, fun h => rfl, fun h => by omega, h4⟩
theorem m_sm_co {w : Nat → Int} {a : Nat} {d e s : Int} (hc : m_co1 w a) (h1 : w (29 + a) ≠ e → 0 ≤ w (29 + a) + d ∧ w (29 + a) + d ≤ w (11 + a)) (h2 : w (26 + a) ≠ s → 0 ≤ w (26 + a) + d ∧ w (26 + a) + d ≤ w (8 + a)) : m_co1 (m_sm a d e s w).2 a := by
  obtain ⟨i1, i2, i3, i4, i5, i6⟩ := hc
  unfold m_sm
  by_cases c1 : w (29 + a) = e
  · rw [if_pos c1]
    by_cases c2 : w (26 + a) = s
    · rw [if_pos c2]
      unfold m_co1
      dsimp only
      rw [m_u_n (show 29 + a ≠ 35 + a by omega), m_u_n (show 11 + a ≠ 35 + a by omega), m_u_n (show 26 + a ≠ 35 + a by omega), m_u_n (show 8 + a ≠ 35 + a by omega), m_u_n (show 20 + a ≠ 35 + a by omega), m_u_n (show 23 + a ≠ 35 + a by omega), m_u_n (show 53 + a ≠ 35 + a by omega)]
      exact ⟨i1, i2, i3, i4, i5, i6⟩
    · have g := h2 c2
      rw [if_neg c2, q_w64_id (by omega) (by omega)]
      apply m_sx_co
      · rw [m_u_n (show 29 + a ≠ 26 + a by omega), m_u_n (show 11 + a ≠ 26 + a by omega)]; exact i1
      · rw [m_u_s, m_u_n (show 8 + a ≠ 26 + a by omega)]; omega
      · rw [m_u_n (show 53 + a ≠ 26 + a by omega)]; exact i3
      · rw [m_u_n (show 20 + a ≠ 26 + a by omega), m_u_n (show 23 + a ≠ 26 + a by omega)]; exact i6
  · have g := h1 c1
    rw [if_neg c1, q_w64_id (by omega) (by omega)]
    unfold m_co1
    dsimp only
    rw [m_u_s, m_u_n (show 11 + a ≠ 29 + a by omega), m_u_n (show 26 + a ≠ 29 + a by omega), m_u_n (show 8 + a ≠ 29 + a by omega), m_u_n (show 20 + a ≠ 29 + a by omega), m_u_n (show 23 + a ≠ 29 + a by omega), m_u_n (show 53 + a ≠ 29 + a by omega)]
    exact ⟨by omega, i2, i3, i4, i5, i6⟩
/-- the push leaves direction and account alone -/
theorem m_sm_o {w : Nat → Int} {a j : Nat} {d e s : Int} (h1 : j ≠ 29 + a) (h2 : j ≠ 26 + a) (h3 : j ≠ 35 + a) (h4 : j ≠ 53 + a) : (m_sm a d e s w).2 j = w j := by
  unfold m_sm
  split
  · split
    · exact m_u_n h3
    · show m_sx a (m_u w (26 + a) (q_w64 (w (26 + a) + d))) j = w j
      unfold m_sx m_sw
      (repeat' split) <;> simp [m_u, h1, h2, h3, h4]
  · exact m_u_n h1
theorem m_step_ai {w : Nat → Int} {a : Nat} {d : Int} (hi : m_ai w a) (hd : d = 1 ∨ d = -1) : m_ai (m_step a d w).2 a := by
  obtain ⟨i1, i2, i3, i4, i5, i6, i7, i8⟩ := hi
  have key : ∀ (c : Nat) (e s f b : Int), (c = 56 ∧ f = 1 ∧ b = 0) ∨ (c = 59 ∧ f = 0 ∧ b = 1) → d = f - b → (w (29 + a) ≠ e → 0 ≤ w (29 + a) + d ∧ w (29 + a) + d ≤ w (11 + a)) → (w (26 + a) ≠ s → 0 ≤ w (26 + a) + d ∧ w (26 + a) + d ≤ w (8 + a)) → m_ai (m_sm a d e s (m_s0 a c d w)).2 a := by
    intro c e s f b hcf hfb h1 h2
    have o : ∀ k, k < 26 ∨ k = 26 ∨ k = 29 ∨ k = 53 → m_s0 a c d w (k + a) = w (k + a) := fun k hk => m_s0_o (by omega) (by omega) (by omega)
    have hc := m_sm_co (w := m_s0 a c d w) (a := a) (d := d) (e := e) (s := s) (by
      unfold m_co1
      rw [o 29 (by omega), o 11 (by omega), o 26 (by omega), o 8 (by omega), o 53 (by omega), o 20 (by omega), o 23 (by omega)]
      exact ⟨i1, i2, i3, i4, i5, i6⟩) (by rw [o 29 (by omega), o 11 (by omega)]; exact h1) (by rw [o 26 (by omega), o 8 (by omega)]; exact h2)
    obtain ⟨k1, k2, k3, k4, k5, k6⟩ := hc
    refine ⟨k1, k2, k3, k4, k5, k6, ?_, ?_⟩
    · rw [m_sm_o (by omega) (by omega) (by omega) (by omega)]
      have : m_s0 a c d w (44 + a) = d := by unfold m_s0; rw [m_u_n (by omega), m_u_s]
      rw [this]; exact hd
    · rw [m_sm_o (by omega) (by omega) (by omega) (by omega), m_sm_o (by omega) (by omega) (by omega) (by omega), m_sm_o (by omega) (by omega) (by omega) (by omega)]
      have e32 : m_s0 a c d w (32 + a) = q_w64 (w (32 + a) + d) := by unfold m_s0; rw [m_u_n (by omega), m_u_n (by omega), m_u_s]
      have id0 : ∀ z : Int, q_w32 (q_w64 (z + 0)) = q_w32 z := fun z => by rw [m_w32_64, Int.add_zero]
      rw [e32]
      rcases hcf with ⟨rfl, rfl, rfl⟩ | ⟨rfl, rfl, rfl⟩
      · have e56 : m_s0 a 56 d w (56 + a) = q_w64 (w (56 + a) + 1) := by unfold m_s0; rw [m_u_s, m_u_n (by omega), m_u_n (by omega)]
        have e59 : m_s0 a 56 d w (59 + a) = w (59 + a) := m_s0_o (by omega) (by omega) (by omega)
        rw [e56, e59, m_mot i8 hfb]
        obtain ⟨h1, h2, k, h3⟩ := q_w64_s (w (59 + a) + 0)
        obtain ⟨a1, a2, j2, a3⟩ := q_w32_s (q_w64 (w (56 + a) + 1) - q_w64 (w (59 + a) + 0))
        obtain ⟨b1, b2, j3, b3⟩ := q_w32_s (q_w64 (w (56 + a) + 1) - w (59 + a))
        omega
      · have e59 : m_s0 a 59 d w (59 + a) = q_w64 (w (59 + a) + 1) := by unfold m_s0; rw [m_u_s, m_u_n (by omega), m_u_n (by omega)]
        have e56 : m_s0 a 59 d w (56 + a) = w (56 + a) := m_s0_o (by omega) (by omega) (by omega)
        rw [e56, e59, m_mot i8 hfb]
        obtain ⟨h1, h2, k, h3⟩ := q_w64_s (w (56 + a) + 0)
        obtain ⟨a1, a2, j2, a3⟩ := q_w32_s (q_w64 (w (56 + a) + 0) - q_w64 (w (59 + a) + 1))
        obtain ⟨b1, b2, j3, b3⟩ := q_w32_s (w (56 + a) - q_w64 (w (59 + a) + 1))
        omega
  unfold m_step
  rcases hd with rfl | rfl
  · rw [if_neg (by decide)]
    exact key 56 _ _ 1 0 (Or.inl ⟨rfl, rfl, rfl⟩) rfl (fun h => by omega) (fun h => by omega)
  · rw [if_pos (by decide)]
    exact key 59 _ _ 0 1 (Or.inr ⟨rfl, rfl, rfl⟩) rfl (fun h => by omega) (fun h => by omega)
/-- all three axes -/
def m_a3 (w : Nat → Int) : Prop := m_ai w 0 ∧ m_ai w 1 ∧ m_ai w 2
theorem m_a3_i {w : Nat → Int} (h : m_a3 w) {a : Nat} (ha : a < 3) : m_ai w a := by
  rcases m_c3 ha with rfl | rfl | rfl
  · exact h.1
  · exact h.2.1
  · exact h.2.2
theorem m_a3_of {w : Nat → Int} (h : ∀ a, a < 3 → m_ai w a) : m_a3 w := ⟨h 0 (by omega), h 1 (by omega), h 2 (by omega)⟩
theorem m_step_a3 {w : Nat → Int} {a : Nat} {d : Int} (ha : a < 3) (h : m_a3 w) (hd : d = 1 ∨ d = -1) : m_a3 (m_step a d w).2 := m_a3_of fun b hb => by
  by_cases e : a = b
  · subst e; exact m_step_ai (m_a3_i h ha) hd
  · exact m_ai_fx ha hb e (m_a3_i h hb) (m_step_fx d w ha)
theorem m_ai_u {w : Nat → Int} {a j : Nat} {v : Int} (h : m_ai w a) (ha : a < 3) (hj : j < 8 ∨ 62 ≤ j ∨ (14 ≤ j ∧ j < 20) ∨ (35 ≤ j ∧ j < 44) ∨ (47 ≤ j ∧ j < 53)) : m_ai (m_u w j v) a := by
  have e : ∀ k, (8 ≤ k ∧ k < 14) ∨ (20 ≤ k ∧ k < 35) ∨ (44 ≤ k ∧ k < 47) ∨ (53 ≤ k ∧ k < 62) → m_u w j v k = w k := fun k hk => m_u_n (by omega)
  unfold m_ai
  rw [e (29 + a) (by omega), e (11 + a) (by omega), e (26 + a) (by omega), e (8 + a) (by omega), e (53 + a) (by omega), e (20 + a) (by omega), e (23 + a) (by omega), e (44 + a) (by omega), e (32 + a) (by omega), e (56 + a) (by omega), e (59 + a) (by omega)]
  exact h
theorem m_a3_u {w : Nat → Int} {j : Nat} {v : Int} (h : m_a3 w) (hj : j < 8 ∨ 62 ≤ j ∨ (14 ≤ j ∧ j < 20) ∨ (35 ≤ j ∧ j < 44) ∨ (47 ≤ j ∧ j < 53)) : m_a3 (m_u w j v) := m_a3_of fun a ha => m_ai_u (m_a3_i h ha) ha hj
