section -- [60.caxis]
/-! Part 60: the class's axes beside the rows. -/
def c_f (j : Nat) : Nat := [8, 11, 14, 17, 20, 23, 26, 29, 44, 38, 53, 41, 47, 50].getD j 0
def c_g (j : Nat) : Nat := [56, 59, 35, 62, 65, 68, 71].getD j 0
/-- the cells o and o + 1 hold the axis a of the row w -/
def c_ax (h : q_F) (o : Nat) (w : Nat → Int) (a : Nat) : Prop := (∀ j, j < 14 → h o j = w (c_f j + a)) ∧ ∀ j, j < 7 → h (o + 1) j = q_w32 (w (c_g j + a))
theorem c_f_i : ∀ j, j < 14 → ∀ i, i < 14 → c_f j = c_f i → j = i := by decide
theorem c_g_i : ∀ j, j < 7 → ∀ i, i < 7 → c_g j = c_g i → j = i := by decide
theorem c_fg : ∀ j, j < 14 → ∀ i, i < 7 → c_f j ≠ c_g i := by decide
theorem c_f_m : ∀ j, j < 14 → c_f j % 3 = 2 ∧ 8 ≤ c_f j ∧ c_f j < 72 ∧ c_f j ≠ 32 := by decide
theorem c_g_m : ∀ j, j < 7 → c_g j % 3 = 2 ∧ 8 ≤ c_g j ∧ c_g j < 72 ∧ c_g j ≠ 32 := by decide
theorem c_uo {h : q_F} {o a j : Nat} {w : Nat → Int} {v : Int} (hj : j < 14) (hc : c_ax h o w a) : c_ax (q_ud h o j v) o (m_u w (c_f j + a) v) a := by
  refine ⟨fun i hi => ?_, fun i hi => ?_⟩
  · by_cases e : i = j
    · subst e; rw [q_ud_s, m_u_s]
    · rw [q_ud_n (by omega), m_u_n (by intro h9; exact e (c_f_i i hi j hj (by omega)))]; exact hc.1 i hi
  · rw [q_ud_n (by omega), m_u_n (by have := c_fg j hj i hi; omega)]; exact hc.2 i hi
theorem c_ua {h : q_F} {o a j : Nat} {w : Nat → Int} {v v' : Int} (hj : j < 7) (hv : v = q_w32 v') (hc : c_ax h o w a) : c_ax (q_ud h (o + 1) j v) o (m_u w (c_g j + a) v') a := by
  refine ⟨fun i hi => ?_, fun i hi => ?_⟩
  · rw [q_ud_n (by omega), m_u_n (by have := c_fg i hi j hj; omega)]; exact hc.1 i hi
  · by_cases e : i = j
    · subst e; rw [q_ud_s, m_u_s, hv]
    · rw [q_ud_n (by omega), m_u_n (by intro h9; exact e (c_g_i i hi j hj (by omega)))]; exact hc.2 i hi
theorem c_un {h : q_F} {o a i : Nat} {w : Nat → Int} {v : Int} (hi : i < 8 ∨ 74 ≤ i ∨ i = 32 + a ∨ i % 3 ≠ (2 + a) % 3) (ha : a < 3) (hc : c_ax h o w a) : c_ax h o (m_u w i v) a := by
  refine ⟨fun j hj => ?_, fun j hj => ?_⟩
  · have := c_f_m j hj; rw [m_u_n (by omega)]; exact hc.1 j hj
  · have := c_g_m j hj; rw [m_u_n (by omega)]; exact hc.2 j hj
/-- what holds of an axis at any time -/
def m_ai (w : Nat → Int) (a : Nat) : Prop :=
  (0 ≤ w (29 + a) ∧ w (29 + a) ≤ w (11 + a) ∧ w (11 + a) ≤ 20) ∧ (0 ≤ w (26 + a) ∧ w (26 + a) ≤ w (8 + a) ∧ w (8 + a) ≤ 2000) ∧ (w (53 + a) = 0 ∨ w (53 + a) = 1) ∧ (w (26 + a) ≤ w (20 + a) → w (53 + a) = 1) ∧ (w (20 + a) + w (23 + a) < w (26 + a) → w (53 + a) = 0) ∧ (0 ≤ w (20 + a) ∧ w (20 + a) ≤ 2000 ∧ 0 ≤ w (23 + a) ∧ w (23 + a) ≤ 20) ∧ (w (44 + a) = 1 ∨ w (44 + a) = -1) ∧ q_w32 (w (32 + a)) = q_w32 (w (56 + a) - w (59 + a))
theorem m_w32_64 (z : Int) : q_w32 (q_w64 z) = q_w32 z := by
  obtain ⟨h1, h2, k, h3⟩ := q_w64_s z
  obtain ⟨g1, g2, j, g3⟩ := q_w32_s (q_w64 z)
  obtain ⟨e1, e2, i, e3⟩ := q_w32_s z
  omega
theorem m_w32_a (x y : Int) : q_w32 (q_w32 x + y) = q_w32 (x + y) := by
  obtain ⟨h1, h2, k, h3⟩ := q_w32_s x
  obtain ⟨g1, g2, j, g3⟩ := q_w32_s (q_w32 x + y)
  obtain ⟨e1, e2, i, e3⟩ := q_w32_s (x + y)
  omega
theorem m_inc (z : Int) : q_w32 (q_w32 z + 1) = q_w32 (q_w64 (z + 1)) := by rw [m_w32_a, m_w32_64]
theorem m_mot {m f b d e g : Int} (h : q_w32 m = q_w32 (f - b)) (hd : d = e - g) : q_w32 (q_w64 (m + d)) = q_w32 (q_w64 (f + e) - q_w64 (b + g)) := by
  obtain ⟨h1, h2, k, h3⟩ := q_w64_s (m + d)
  obtain ⟨h4, h5, k2, h6⟩ := q_w64_s (f + e)
  obtain ⟨h7, h8, k3, h9⟩ := q_w64_s (b + g)
  obtain ⟨g1, g2, j, g3⟩ := q_w32_s m
  obtain ⟨e1, e2, i, e3⟩ := q_w32_s (f - b)
  obtain ⟨a1, a2, j2, a3⟩ := q_w32_s (q_w64 (m + d))
  obtain ⟨b1, b2, j3, b3⟩ := q_w32_s (q_w64 (f + e) - q_w64 (b + g))
  omega
/-- only the cells o and o + 1 have changed -/
def c_fo (o : Nat) (h h' : q_F) : Prop := ∀ k, k ≠ o → k ≠ o + 1 → h' k = h k
theorem c_fo_r {o : Nat} {h : q_F} : c_fo o h h := fun _ _ _ => rfl
theorem c_fo_u {o k j : Nat} {v : Int} {h h' : q_F} (f : c_fo o h h') (hk : k = o ∨ k = o + 1) : c_fo o h (q_ud h' k j v) := by
  intro i h1 h2
  funext j'
  rw [q_ud_n (by omega), f i h1 h2]
theorem c_fo_t {o : Nat} {h h1 h2 : q_F} (f : c_fo o h h1) (g : c_fo o h1 h2) : c_fo o h h2 := fun k h3 h4 => (g k h3 h4).trans (f k h3 h4)
theorem c_close {h : q_F} {o a : Nat} {w : Nat → Int} {z : Int} (ha : a < 3) (hc : c_ax h o w a) (h26 : 0 ≤ w (26 + a) ∧ w (26 + a) ≤ 2000) (h20 : 0 ≤ w (20 + a) ∧ w (20 + a) ≤ 2000 ∧ 0 ≤ w (23 + a) ∧ w (23 + a) ≤ 20) :
    ∃ h', fn49_39 o z h = some (z, h') ∧ c_ax h' o (m_sx a w) a ∧ c_fo o h h' := by
  have e4 : h o 4 = w (20 + a) := hc.1 4 (by omega)
  have e5 : h o 5 = w (23 + a) := hc.1 5 (by omega)
  have e6 : h o 6 = w (26 + a) := hc.1 6 (by omega)
  unfold fn49_39 m_sx m_sw
  rw [e4, e5, e6, q_w32_id (z := w (20 + a) + w (23 + a)) (by omega) (by omega)]
  by_cases c1 : w (20 + a) < w (26 + a)
  · rw [if_pos c1, if_pos c1, q_w64_id (by omega) (by omega)]
    by_cases c2 : w (26 + a) ≤ w (20 + a) + w (23 + a)
    · rw [if_pos c2, if_pos c2]
      exact ⟨h, rfl, hc, c_fo_r⟩
    · rw [if_neg c2, if_neg c2]
      exact ⟨_, rfl, c_uo (j := 10) (by omega) hc, c_fo_u c_fo_r (Or.inl rfl)⟩
  · rw [if_neg c1, if_neg c1, m_u_n (show 26 + a ≠ 53 + a by omega), m_u_n (show 20 + a ≠ 53 + a by omega), m_u_n (show 23 + a ≠ 53 + a by omega), q_w64_id (by omega) (by omega), if_pos (by omega)]
    exact ⟨_, rfl, c_uo (j := 10) (by omega) hc, c_fo_u c_fo_r (Or.inl rfl)⟩
theorem c_same {h : q_F} {o a : Nat} {w : Nat → Int} (ha : a < 3) (hc : c_ax h o w a) (h26 : 0 ≤ w (26 + a) ∧ w (26 + a) ≤ 2000) (h20 : 0 ≤ w (20 + a) ∧ w (20 + a) ≤ 2000 ∧ 0 ≤ w (23 + a) ∧ w (23 + a) ≤ 20) (h53 : (w (26 + a) ≤ w (20 + a) → w (53 + a) = 1) ∧ (w (20 + a) + w (23 + a) < w (26 + a) → w (53 + a) = 0)) : m_sx a w = w := by
  unfold m_sx m_sw
  by_cases c1 : w (20 + a) < w (26 + a)
  · rw [if_pos c1, q_w64_id (by omega) (by omega)]
    split
    · rfl
    · rw [← h53.2 (by omega), m_u_id]
  · rw [if_neg c1, ← h53.1 (by omega), m_u_id, q_w64_id (by omega) (by omega), if_pos (by omega)]
end -- [60.caxis]
section -- [61.caxis]
/-! Part 61: a step of the class's motor is the model's. -/
theorem c_u6 {h : q_F} {o a : Nat} {w : Nat → Int} {v : Int} (hc : c_ax h o w a) : c_ax (q_ud h o 6 v) o (m_u w (26 + a) v) a := c_uo (j := 6) (by omega) hc
theorem c_u7 {h : q_F} {o a : Nat} {w : Nat → Int} {v : Int} (hc : c_ax h o w a) : c_ax (q_ud h o 7 v) o (m_u w (29 + a) v) a := c_uo (j := 7) (by omega) hc
theorem c_u8 {h : q_F} {o a : Nat} {w : Nat → Int} {v : Int} (hc : c_ax h o w a) : c_ax (q_ud h o 8 v) o (m_u w (44 + a) v) a := c_uo (j := 8) (by omega) hc
theorem c_lost {h : q_F} {o a : Nat} {w : Nat → Int} (hc : c_ax h o w a) : c_ax (q_ud h (o + 1) 2 (q_w32 (h (o + 1) 2 + 1))) o (m_u w (35 + a) (q_w64 (w (35 + a) + 1))) a :=
  c_ua (j := 2) (by omega) (by rw [hc.2 2 (by omega)]; exact m_inc _) hc
theorem c_fwd {h : q_F} {o a : Nat} {w : Nat → Int} (hc : c_ax h o w a) : c_ax (q_ud h (o + 1) 0 (q_w32 (h (o + 1) 0 + 1))) o (m_u w (56 + a) (q_w64 (w (56 + a) + 1))) a :=
  c_ua (j := 0) (by omega) (by rw [hc.2 0 (by omega)]; exact m_inc _) hc
theorem c_bwd {h : q_F} {o a : Nat} {w : Nat → Int} (hc : c_ax h o w a) : c_ax (q_ud h (o + 1) 1 (q_w32 (h (o + 1) 1 + 1))) o (m_u w (59 + a) (q_w64 (w (59 + a) + 1))) a :=
  c_ua (j := 1) (by omega) (by rw [hc.2 1 (by omega)]; exact m_inc _) hc
/-- the switch agrees with the place -/
def m_sok (w : Nat → Int) (a : Nat) : Prop := (0 ≤ w (26 + a) ∧ w (26 + a) ≤ 2000) ∧ (0 ≤ w (20 + a) ∧ w (20 + a) ≤ 2000 ∧ 0 ≤ w (23 + a) ∧ w (23 + a) ≤ 20)
theorem c_tail {h : q_F} {o a : Nat} {w w9 : Nat → Int} {z : Int} (ha : a < 3) (hc : c_ax h o w a) (hs : m_sok w a) (hz : z ≠ 0) (e : m_sx a w = w9) : ∃ h', fn49_21 o z h = some (z, h') ∧ c_ax h' o w9 a ∧ c_fo o h h' := by
  subst e
  unfold fn49_21
  rw [if_neg hz]
  exact c_close ha hc hs.1 hs.2
theorem c_tail0 {h : q_F} {o a : Nat} {w w9 : Nat → Int} (ha : a < 3) (hc : c_ax h o w a) (hs : m_sok w a) (e : m_sx a (m_u w (35 + a) (q_w64 (w (35 + a) + 1))) = w9) : ∃ h', fn49_21 o 0 h = some (0, h') ∧ c_ax h' o w9 a ∧ c_fo o h h' := by
  subst e
  unfold fn49_21
  rw [if_pos rfl, m_let]
  obtain ⟨h', g1, g2, g3⟩ := c_close (z := 0) ha (c_lost hc) (w := m_u w (35 + a) (q_w64 (w (35 + a) + 1))) (by rw [m_u_n (by omega)]; exact hs.1) (by rw [m_u_n (by omega), m_u_n (by omega)]; exact hs.2)
  exact ⟨h', g1, g2, c_fo_t (c_fo_u c_fo_r (Or.inr rfl)) g3⟩
/-- places that the account and the direction of a step change -/
theorem m_s0_o {a c : Nat} {d : Int} {w : Nat → Int} {j : Nat} (h1 : j ≠ 32 + a) (h2 : j ≠ 44 + a) (h3 : j ≠ c + a) : m_s0 a c d w j = w j := by
  unfold m_s0; rw [m_u_n h3, m_u_n h2, m_u_n h1]
theorem m_ai_sok {w : Nat → Int} {a : Nat} (hi : m_ai w a) : m_sok w a := ⟨⟨hi.2.1.1, by have := hi.2.1; omega⟩, hi.2.2.2.2.2.1⟩
theorem m_same {w : Nat → Int} {a : Nat} (hs : m_sok w a) (h1 : w (26 + a) ≤ w (20 + a) → w (53 + a) = 1) (h2 : w (20 + a) + w (23 + a) < w (26 + a) → w (53 + a) = 0) : m_sx a w = w := by
  obtain ⟨h26, h20⟩ := hs
  unfold m_sx m_sw
  by_cases c1 : w (20 + a) < w (26 + a)
  · rw [if_pos c1, q_w64_id (by omega) (by omega)]
    split
    · rfl
    · rw [← h2 (by omega), m_u_id]
  · rw [if_neg c1, ← h1 (by omega), m_u_id, q_w64_id (by omega) (by omega), if_pos (by omega)]
theorem m_same_u {w : Nat → Int} {a j : Nat} {v : Int} (hj : j = 29 ∨ j = 35) (hs : m_sok w a) (h1 : w (26 + a) ≤ w (20 + a) → w (53 + a) = 1) (h2 : w (20 + a) + w (23 + a) < w (26 + a) → w (53 + a) = 0) : m_sx a (m_u w (j + a) v) = m_u w (j + a) v := by
  have e26 : m_u w (j + a) v (26 + a) = w (26 + a) := m_u_n (by omega)
  have e20 : m_u w (j + a) v (20 + a) = w (20 + a) := m_u_n (by omega)
  have e23 : m_u w (j + a) v (23 + a) = w (23 + a) := m_u_n (by omega)
  have e53 : m_u w (j + a) v (53 + a) = w (53 + a) := m_u_n (by omega)
  apply m_same
  · unfold m_sok; rw [e26, e20, e23]; exact hs
  · rw [e26, e20, e53]; exact h1
  · rw [e26, e20, e23, e53]; exact h2
/-- the pushes behind the account, beside the model's -/
theorem c_push {g : q_F} {o a : Nat} {w : Nat → Int} {d e s : Int} (ha : a < 3) (hc : c_ax g o w a) (hs : m_sok w a) (h1 : w (26 + a) ≤ w (20 + a) → w (53 + a) = 1) (h2 : w (20 + a) + w (23 + a) < w (26 + a) → w (53 + a) = 0) (h29 : -1 ≤ w (29 + a) + d ∧ w (29 + a) + d ≤ 21) (h26 : w (26 + a) ≠ s → 0 ≤ w (26 + a) + d ∧ w (26 + a) + d ≤ 2000) :
    (w (29 + a) = e → w (26 + a) = s → ∃ h', fn49_21 o 0 g = some (0, h') ∧ c_ax h' o (m_sm a d e s w).2 a ∧ c_fo o g h' ∧ (m_sm a d e s w).1 = 1) ∧
    (w (29 + a) = e → w (26 + a) ≠ s → ∃ h', fn49_21 o 1 (q_ud g o 6 (w (26 + a) + d)) = some (1, h') ∧ c_ax h' o (m_sm a d e s w).2 a ∧ c_fo o g h' ∧ (m_sm a d e s w).1 = 0) ∧
    (w (29 + a) ≠ e → ∃ h', fn49_21 o 1 (q_ud g o 7 (w (29 + a) + d)) = some (1, h') ∧ c_ax h' o (m_sm a d e s w).2 a ∧ c_fo o g h' ∧ (m_sm a d e s w).1 = 0) := by
  unfold m_sm
  refine ⟨fun e1 e2 => ?_, fun e1 e2 => ?_, fun e1 => ?_⟩
  · rw [if_pos e1, if_pos e2]
    obtain ⟨h', g1, g2, g3⟩ := c_tail0 (w9 := m_u w (35 + a) (q_w64 (w (35 + a) + 1))) ha hc hs (m_same_u (Or.inr rfl) hs h1 h2)
    exact ⟨h', g1, g2, g3, rfl⟩
  · rw [if_pos e1, if_neg e2]
    have hd := h26 e2
    obtain ⟨h', g1, g2, g3⟩ := c_tail (h := q_ud g o 6 (w (26 + a) + d)) (z := 1) ha (c_u6 (v := w (26 + a) + d) hc) (by
      refine ⟨by rw [m_u_s]; exact hd, ?_⟩
      rw [m_u_n (by omega), m_u_n (by omega)]; exact hs.2) (by decide) rfl
    rw [q_w64_id (by omega) (by omega)]
    exact ⟨h', g1, g2, c_fo_t (c_fo_u c_fo_r (Or.inl rfl)) g3, rfl⟩
  · rw [if_neg e1, q_w64_id (by omega) (by omega)]
    obtain ⟨h', g1, g2, g3⟩ := c_tail (h := q_ud g o 7 (w (29 + a) + d)) (z := 1) ha (c_u7 (v := w (29 + a) + d) hc) (by
      refine ⟨by rw [m_u_n (by omega)]; exact hs.1, ?_⟩
      rw [m_u_n (by omega), m_u_n (by omega)]; exact hs.2) (by decide) (m_same_u (Or.inl rfl) hs h1 h2)
    exact ⟨h', g1, g2, c_fo_t (c_fo_u c_fo_r (Or.inl rfl)) g3, rfl⟩
theorem c_step {h : q_F} {o a : Nat} {w : Nat → Int} {d : Int} (ha : a < 3) (hc : c_ax h o w a) (hi : m_ai w a) (hd : d = 1 ∨ d = -1) :
    ∃ h', fn49 o d h = some (1 - (m_step a d w).1, h') ∧ c_ax h' o (m_step a d w).2 a ∧ c_fo o h h' := by
  obtain ⟨⟨i1, i2, i3⟩, ⟨i4, i5, i6⟩, i7, i8, i9, i10, i14, i15⟩ := hi
  rcases hd with rfl | rfl
  · have hc3 : c_ax (q_ud (q_ud h o 8 1) (o + 1) 0 (q_w32 (q_ud h o 8 1 (o + 1) 0 + 1))) o (m_s0 a 56 1 w) a := c_fwd (c_u8 (c_un (i := 32 + a) (by omega) ha hc))
    have hf3 : c_fo o h (q_ud (q_ud h o 8 1) (o + 1) 0 (q_w32 (q_ud h o 8 1 (o + 1) 0 + 1))) := c_fo_u (c_fo_u c_fo_r (Or.inl rfl)) (Or.inr rfl)
    unfold fn49 fn52 m_step
    rw [m_let, if_pos rfl, m_let, if_neg (show ¬ (1 : Int) ≤ 0 by decide)]
    generalize q_ud (q_ud h o 8 1) (o + 1) 0 (q_w32 (q_ud h o 8 1 (o + 1) 0 + 1)) = g at hc3 hf3 ⊢
    have o26 : m_s0 a 56 1 w (26 + a) = w (26 + a) := m_s0_o (by omega) (by omega) (by omega)
    have o29 : m_s0 a 56 1 w (29 + a) = w (29 + a) := m_s0_o (by omega) (by omega) (by omega)
    have o20 : m_s0 a 56 1 w (20 + a) = w (20 + a) := m_s0_o (by omega) (by omega) (by omega)
    have o23 : m_s0 a 56 1 w (23 + a) = w (23 + a) := m_s0_o (by omega) (by omega) (by omega)
    have o53 : m_s0 a 56 1 w (53 + a) = w (53 + a) := m_s0_o (by omega) (by omega) (by omega)
    have o8 : m_s0 a 56 1 w (8 + a) = w (8 + a) := m_s0_o (by omega) (by omega) (by omega)
    have o11 : m_s0 a 56 1 w (11 + a) = w (11 + a) := m_s0_o (by omega) (by omega) (by omega)
    generalize m_s0 a 56 1 w = w3 at hc3 o26 o29 o20 o23 o53 o8 o11 ⊢
    have e0 : g o 0 = w (8 + a) := (hc3.1 0 (by omega)).trans o8
    have e1 : g o 1 = w (11 + a) := (hc3.1 1 (by omega)).trans o11
    have e6 : g o 6 = w (26 + a) := (hc3.1 6 (by omega)).trans o26
    have e7 : g o 7 = w (29 + a) := (hc3.1 7 (by omega)).trans o29
    have hs : m_sok w3 a := by unfold m_sok; rw [o26, o20, o23]; exact ⟨by omega, i10⟩
    obtain ⟨k1, k2, k3⟩ := c_push (g := g) (d := 1) (e := w (11 + a)) (s := w (8 + a)) ha hc3 hs (by rw [o26, o20, o53]; exact i8) (by rw [o26, o20, o23, o53]; exact i9) (by omega) (by omega)
    rw [o26, o29] at k1 k2
    rw [o29] at k3
    rw [e0, e1, e6, e7, q_w32_id (z := w (26 + a) + 1) (by omega) (by omega), q_w32_id (z := w (29 + a) + 1) (by omega) (by omega)]
    by_cases c1 : w (29 + a) = w (11 + a)
    · rw [if_pos (show w (11 + a) ≤ w (29 + a) by omega)]
      by_cases c2 : w (26 + a) = w (8 + a)
      · rw [if_pos (show w (8 + a) ≤ w (26 + a) by omega), Option.bind_some]
        obtain ⟨h', g1, g2, g3, g4⟩ := k1 c1 c2
        exact ⟨h', by rw [g4]; exact g1, g2, c_fo_t hf3 g3⟩
      · rw [if_neg (show ¬ w (8 + a) ≤ w (26 + a) by omega), m_let, Option.bind_some]
        obtain ⟨h', g1, g2, g3, g4⟩ := k2 c1 c2
        exact ⟨h', by rw [g4]; exact g1, g2, c_fo_t hf3 g3⟩
    · rw [if_neg (show ¬ w (11 + a) ≤ w (29 + a) by omega), m_let, Option.bind_some]
      obtain ⟨h', g1, g2, g3, g4⟩ := k3 c1
      exact ⟨h', by rw [g4]; exact g1, g2, c_fo_t hf3 g3⟩
  · have hc3 : c_ax (q_ud (q_ud h o 8 (-1)) (o + 1) 1 (q_w32 (q_ud h o 8 (-1) (o + 1) 1 + 1))) o (m_s0 a 59 (-1) w) a := c_bwd (c_u8 (c_un (i := 32 + a) (by omega) ha hc))
    have hf3 : c_fo o h (q_ud (q_ud h o 8 (-1)) (o + 1) 1 (q_w32 (q_ud h o 8 (-1) (o + 1) 1 + 1))) := c_fo_u (c_fo_u c_fo_r (Or.inl rfl)) (Or.inr rfl)
    unfold fn49 fn51 m_step
    rw [m_let, if_neg (show ¬ (-1 : Int) = 1 by decide), m_let, if_pos (show (-1 : Int) ≤ 0 by decide)]
    generalize q_ud (q_ud h o 8 (-1)) (o + 1) 1 (q_w32 (q_ud h o 8 (-1) (o + 1) 1 + 1)) = g at hc3 hf3 ⊢
    have o26 : m_s0 a 59 (-1) w (26 + a) = w (26 + a) := m_s0_o (by omega) (by omega) (by omega)
    have o29 : m_s0 a 59 (-1) w (29 + a) = w (29 + a) := m_s0_o (by omega) (by omega) (by omega)
    have o20 : m_s0 a 59 (-1) w (20 + a) = w (20 + a) := m_s0_o (by omega) (by omega) (by omega)
    have o23 : m_s0 a 59 (-1) w (23 + a) = w (23 + a) := m_s0_o (by omega) (by omega) (by omega)
    have o53 : m_s0 a 59 (-1) w (53 + a) = w (53 + a) := m_s0_o (by omega) (by omega) (by omega)
    generalize m_s0 a 59 (-1) w = w3 at hc3 o26 o29 o20 o23 o53 ⊢
    have e6 : g o 6 = w (26 + a) := (hc3.1 6 (by omega)).trans o26
    have e7 : g o 7 = w (29 + a) := (hc3.1 7 (by omega)).trans o29
    have hs : m_sok w3 a := by unfold m_sok; rw [o26, o20, o23]; exact ⟨by omega, i10⟩
    obtain ⟨k1, k2, k3⟩ := c_push (g := g) (d := -1) (e := 0) (s := 0) ha hc3 hs (by rw [o26, o20, o53]; exact i8) (by rw [o26, o20, o23, o53]; exact i9) (by omega) (by omega)
    rw [o26, o29] at k1 k2
    rw [o29] at k3
    rw [e6, e7, q_w32_id (z := w (26 + a) - 1) (by omega) (by omega), q_w32_id (z := w (29 + a) - 1) (by omega) (by omega)]
    by_cases c1 : w (29 + a) = 0
    · rw [if_pos (show w (29 + a) ≤ 0 by omega)]
      by_cases c2 : w (26 + a) = 0
      · rw [if_pos (show w (26 + a) ≤ 0 by omega), Option.bind_some]
        obtain ⟨h', g1, g2, g3, g4⟩ := k1 c1 c2
        exact ⟨h', by rw [g4]; exact g1, g2, c_fo_t hf3 g3⟩
      · rw [if_neg (show ¬ w (26 + a) ≤ 0 by omega), m_let, Option.bind_some]
        obtain ⟨h', g1, g2, g3, g4⟩ := k2 c1 c2
        exact ⟨h', by rw [g4]; exact g1, g2, c_fo_t hf3 g3⟩
    · rw [if_neg (show ¬ w (29 + a) ≤ 0 by omega), m_let, Option.bind_some]
      obtain ⟨h', g1, g2, g3, g4⟩ := k3 c1
      exact ⟨h', by rw [g4]; exact g1, g2, c_fo_t hf3 g3⟩
end -- [61.caxis]
section -- [62.inv]
/-! Part 62: what a step keeps of an axis. -/
/-- only places of the axis a have changed that a step changes -/
def m_fx (a : Nat) (w w' : Nat → Int) : Prop := ∀ j, (j % 3 ≠ (2 + a) % 3 ∨ j < 26 ∨ 61 < j) → w' j = w j
theorem m_fx_r {a : Nat} {w : Nat → Int} : m_fx a w w := fun _ _ => rfl
theorem m_fx_u {a j : Nat} {w w1 : Nat → Int} {v : Int} (h : m_fx a w w1) (hj : j % 3 = (2 + a) % 3 ∧ 26 ≤ j ∧ j ≤ 61) : m_fx a w (m_u w1 j v) := fun k hk => by
  rw [m_u_n (by omega)]; exact h k hk
theorem m_fx_t {a : Nat} {w w1 w2 : Nat → Int} (h1 : m_fx a w w1) (h2 : m_fx a w1 w2) : m_fx a w w2 := fun j hj => (h2 j hj).trans (h1 j hj)
theorem m_sw_fx {a : Nat} (w : Nat → Int) (ha : a < 3) : m_fx a w (m_sw a w) := by
  unfold m_sw; split
  · exact m_fx_r
  · exact m_fx_u m_fx_r (by omega)
theorem m_sx_fx {a : Nat} (w : Nat → Int) (ha : a < 3) : m_fx a w (m_sx a w) := by
  unfold m_sx
  refine m_fx_t ?_ (m_sw_fx _ ha)
  split
  · exact m_fx_r
  · exact m_fx_u m_fx_r (by omega)
theorem m_sm_fx {a : Nat} (d e s : Int) (w : Nat → Int) (ha : a < 3) : m_fx a w (m_sm a d e s w).2 := by
  unfold m_sm; split
  · split
    · exact m_fx_u m_fx_r (by omega)
    · exact m_fx_t (m_fx_u m_fx_r (by omega)) (m_sx_fx _ ha)
  · exact m_fx_u m_fx_r (by omega)
theorem m_step_fx {a : Nat} (d : Int) (w : Nat → Int) (ha : a < 3) : m_fx a w (m_step a d w).2 := by
  unfold m_step m_s0
  split
  · exact m_fx_t (m_fx_u (m_fx_u (m_fx_u m_fx_r (by omega)) (by omega)) (by omega)) (m_sm_fx _ _ _ _ ha)
  · exact m_fx_t (m_fx_u (m_fx_u (m_fx_u m_fx_r (by omega)) (by omega)) (by omega)) (m_sm_fx _ _ _ _ ha)
theorem m_ai_fx {a b : Nat} {w w' : Nat → Int} (ha : a < 3) (hb : b < 3) (hab : a ≠ b) (h : m_ai w b) (hf : m_fx a w w') : m_ai w' b := by
  have e : ∀ k, k % 3 = 2 → w' (k + b) = w (k + b) := fun k hk => hf _ (by omega)
  unfold m_ai
  rw [e 29 rfl, e 11 rfl, e 26 rfl, e 8 rfl, e 53 rfl, e 20 rfl, e 23 rfl, e 44 rfl, e 32 rfl, e 56 rfl, e 59 rfl]
  exact h
/-- an axis beside its direction and its account -/
def m_co1 (w : Nat → Int) (a : Nat) : Prop :=
  (0 ≤ w (29 + a) ∧ w (29 + a) ≤ w (11 + a) ∧ w (11 + a) ≤ 20) ∧ (0 ≤ w (26 + a) ∧ w (26 + a) ≤ w (8 + a) ∧ w (8 + a) ≤ 2000) ∧ (w (53 + a) = 0 ∨ w (53 + a) = 1) ∧ (w (26 + a) ≤ w (20 + a) → w (53 + a) = 1) ∧ (w (20 + a) + w (23 + a) < w (26 + a) → w (53 + a) = 0) ∧ (0 ≤ w (20 + a) ∧ w (20 + a) ≤ 2000 ∧ 0 ≤ w (23 + a) ∧ w (23 + a) ≤ 20)
theorem m_sx_co {w : Nat → Int} {a : Nat} (h1 : 0 ≤ w (29 + a) ∧ w (29 + a) ≤ w (11 + a) ∧ w (11 + a) ≤ 20) (h2 : 0 ≤ w (26 + a) ∧ w (26 + a) ≤ w (8 + a) ∧ w (8 + a) ≤ 2000) (h3 : w (53 + a) = 0 ∨ w (53 + a) = 1) (h4 : 0 ≤ w (20 + a) ∧ w (20 + a) ≤ 2000 ∧ 0 ≤ w (23 + a) ∧ w (23 + a) ≤ 20) : m_co1 (m_sx a w) a := by
  have e20 : q_w64 (w (20 + a) + w (23 + a)) = w (20 + a) + w (23 + a) := q_w64_id (by omega) (by omega)
  unfold m_sx m_sw
  by_cases c1 : w (20 + a) < w (26 + a)
  · rw [if_pos c1, e20]
    by_cases c2 : w (26 + a) ≤ w (20 + a) + w (23 + a)
    · rw [if_pos c2]
      exact ⟨h1, h2, h3, fun h => by omega, fun h => by omega, h4⟩
    · rw [if_neg c2]
      unfold m_co1
      rw [m_u_s, m_u_n (show 29 + a ≠ 53 + a by omega), m_u_n (show 11 + a ≠ 53 + a by omega), m_u_n (show 26 + a ≠ 53 + a by omega), m_u_n (show 8 + a ≠ 53 + a by omega), m_u_n (show 20 + a ≠ 53 + a by omega), m_u_n (show 23 + a ≠ 53 + a by omega)]
      exact ⟨h1, h2, Or.inl rfl, fun h => by omega, fun h => rfl, h4⟩
  · rw [if_neg c1, m_u_n (show 26 + a ≠ 53 + a by omega), m_u_n (show 20 + a ≠ 53 + a by omega), m_u_n (show 23 + a ≠ 53 + a by omega), e20, if_pos (by omega)]
    unfold m_co1
    rw [m_u_s, m_u_n (show 29 + a ≠ 53 + a by omega), m_u_n (show 11 + a ≠ 53 + a by omega), m_u_n (show 26 + a ≠ 53 + a by omega), m_u_n (show 8 + a ≠ 53 + a by omega), m_u_n (show 20 + a ≠ 53 + a by omega), m_u_n (show 23 + a ≠ 53 + a by omega)]
    exact ⟨h1, h2, Or.inr rfl, fun h => rfl, fun h => by omega, h4⟩
theorem m_sm_co {w : Nat → Int} {a : Nat} {d e s : Int} (hc : m_co1 w a) (h1 : w (29 + a) ≠ e → 0 ≤ w (29 + a) + d ∧ w (29 + a) + d ≤ w (11 + a)) (h2 : w (26 + a) ≠ s → 0 ≤ w (26 + a) + d ∧ w (26 + a) + d ≤ w (8 + a)) : m_co1 (m_sm a d e s w).2 a := by
  obtain ⟨i1, i2, i3, i4, i5, i6⟩ := hc
  unfold m_sm
  by_cases c1 : w (29 + a) = e
  · rw [if_pos c1]
    by_cases c2 : w (26 + a) = s
    · rw [if_pos c2]
      unfold m_co1
      dsimp only
      rw [m_u_n (show 29 + a ≠ 35 + a by omega), m_u_n (show 11 + a ≠ 35 + a by omega), m_u_n (show 26 + a ≠ 35 + a by omega), m_u_n (show 8 + a ≠ 35 + a by omega), m_u_n (show 20 + a ≠ 35 + a by omega), m_u_n (show 23 + a ≠ 35 + a by omega), m_u_n (show 53 + a ≠ 35 + a by omega)]
      exact ⟨i1, i2, i3, i4, i5, i6⟩
    · have g := h2 c2
      rw [if_neg c2, q_w64_id (by omega) (by omega)]
      apply m_sx_co
      · rw [m_u_n (show 29 + a ≠ 26 + a by omega), m_u_n (show 11 + a ≠ 26 + a by omega)]; exact i1
      · rw [m_u_s, m_u_n (show 8 + a ≠ 26 + a by omega)]; omega
      · rw [m_u_n (show 53 + a ≠ 26 + a by omega)]; exact i3
      · rw [m_u_n (show 20 + a ≠ 26 + a by omega), m_u_n (show 23 + a ≠ 26 + a by omega)]; exact i6
  · have g := h1 c1
    rw [if_neg c1, q_w64_id (by omega) (by omega)]
    unfold m_co1
    dsimp only
    rw [m_u_s, m_u_n (show 11 + a ≠ 29 + a by omega), m_u_n (show 26 + a ≠ 29 + a by omega), m_u_n (show 8 + a ≠ 29 + a by omega), m_u_n (show 20 + a ≠ 29 + a by omega), m_u_n (show 23 + a ≠ 29 + a by omega), m_u_n (show 53 + a ≠ 29 + a by omega)]
    exact ⟨by omega, i2, i3, i4, i5, i6⟩
/-- the push leaves direction and account alone -/
theorem m_sm_o {w : Nat → Int} {a j : Nat} {d e s : Int} (h1 : j ≠ 29 + a) (h2 : j ≠ 26 + a) (h3 : j ≠ 35 + a) (h4 : j ≠ 53 + a) : (m_sm a d e s w).2 j = w j := by
  unfold m_sm
  split
  · split
    · exact m_u_n h3
    · show m_sx a (m_u w (26 + a) (q_w64 (w (26 + a) + d))) j = w j
      unfold m_sx m_sw
      (repeat' split) <;> simp [m_u, h1, h2, h3, h4]
  · exact m_u_n h1
theorem m_step_ai {w : Nat → Int} {a : Nat} {d : Int} (hi : m_ai w a) (hd : d = 1 ∨ d = -1) : m_ai (m_step a d w).2 a := by
  obtain ⟨i1, i2, i3, i4, i5, i6, i7, i8⟩ := hi
  have key : ∀ (c : Nat) (e s f b : Int), (c = 56 ∧ f = 1 ∧ b = 0) ∨ (c = 59 ∧ f = 0 ∧ b = 1) → d = f - b → (w (29 + a) ≠ e → 0 ≤ w (29 + a) + d ∧ w (29 + a) + d ≤ w (11 + a)) → (w (26 + a) ≠ s → 0 ≤ w (26 + a) + d ∧ w (26 + a) + d ≤ w (8 + a)) → m_ai (m_sm a d e s (m_s0 a c d w)).2 a := by
    intro c e s f b hcf hfb h1 h2
    have o : ∀ k, k < 26 ∨ k = 26 ∨ k = 29 ∨ k = 53 → m_s0 a c d w (k + a) = w (k + a) := fun k hk => m_s0_o (by omega) (by omega) (by omega)
    have hc := m_sm_co (w := m_s0 a c d w) (a := a) (d := d) (e := e) (s := s) (by
      unfold m_co1
      rw [o 29 (by omega), o 11 (by omega), o 26 (by omega), o 8 (by omega), o 53 (by omega), o 20 (by omega), o 23 (by omega)]
      exact ⟨i1, i2, i3, i4, i5, i6⟩) (by rw [o 29 (by omega), o 11 (by omega)]; exact h1) (by rw [o 26 (by omega), o 8 (by omega)]; exact h2)
    obtain ⟨k1, k2, k3, k4, k5, k6⟩ := hc
    refine ⟨k1, k2, k3, k4, k5, k6, ?_, ?_⟩
    · rw [m_sm_o (by omega) (by omega) (by omega) (by omega)]
      have : m_s0 a c d w (44 + a) = d := by unfold m_s0; rw [m_u_n (by omega), m_u_s]
      rw [this]; exact hd
    · rw [m_sm_o (by omega) (by omega) (by omega) (by omega), m_sm_o (by omega) (by omega) (by omega) (by omega), m_sm_o (by omega) (by omega) (by omega) (by omega)]
      have e32 : m_s0 a c d w (32 + a) = q_w64 (w (32 + a) + d) := by unfold m_s0; rw [m_u_n (by omega), m_u_n (by omega), m_u_s]
      have id0 : ∀ z : Int, q_w32 (q_w64 (z + 0)) = q_w32 z := fun z => by rw [m_w32_64, Int.add_zero]
      rw [e32]
      rcases hcf with ⟨rfl, rfl, rfl⟩ | ⟨rfl, rfl, rfl⟩
      · have e56 : m_s0 a 56 d w (56 + a) = q_w64 (w (56 + a) + 1) := by unfold m_s0; rw [m_u_s, m_u_n (by omega), m_u_n (by omega)]
        have e59 : m_s0 a 56 d w (59 + a) = w (59 + a) := m_s0_o (by omega) (by omega) (by omega)
        rw [e56, e59, m_mot i8 hfb]
        obtain ⟨h1, h2, k, h3⟩ := q_w64_s (w (59 + a) + 0)
        obtain ⟨a1, a2, j2, a3⟩ := q_w32_s (q_w64 (w (56 + a) + 1) - q_w64 (w (59 + a) + 0))
        obtain ⟨b1, b2, j3, b3⟩ := q_w32_s (q_w64 (w (56 + a) + 1) - w (59 + a))
        omega
      · have e59 : m_s0 a 59 d w (59 + a) = q_w64 (w (59 + a) + 1) := by unfold m_s0; rw [m_u_s, m_u_n (by omega), m_u_n (by omega)]
        have e56 : m_s0 a 59 d w (56 + a) = w (56 + a) := m_s0_o (by omega) (by omega) (by omega)
        rw [e56, e59, m_mot i8 hfb]
        obtain ⟨h1, h2, k, h3⟩ := q_w64_s (w (56 + a) + 0)
        obtain ⟨a1, a2, j2, a3⟩ := q_w32_s (q_w64 (w (56 + a) + 0) - q_w64 (w (59 + a) + 1))
        obtain ⟨b1, b2, j3, b3⟩ := q_w32_s (w (56 + a) - q_w64 (w (59 + a) + 1))
        omega
  unfold m_step
  rcases hd with rfl | rfl
  · rw [if_neg (by decide)]
    exact key 56 _ _ 1 0 (Or.inl ⟨rfl, rfl, rfl⟩) rfl (fun h => by omega) (fun h => by omega)
  · rw [if_pos (by decide)]
    exact key 59 _ _ 0 1 (Or.inr ⟨rfl, rfl, rfl⟩) rfl (fun h => by omega) (fun h => by omega)
/-- all three axes -/
def m_a3 (w : Nat → Int) : Prop := m_ai w 0 ∧ m_ai w 1 ∧ m_ai w 2
theorem m_a3_i {w : Nat → Int} (h : m_a3 w) {a : Nat} (ha : a < 3) : m_ai w a := by
  rcases m_c3 ha with rfl | rfl | rfl
  · exact h.1
  · exact h.2.1
  · exact h.2.2
theorem m_a3_of {w : Nat → Int} (h : ∀ a, a < 3 → m_ai w a) : m_a3 w := ⟨h 0 (by omega), h 1 (by omega), h 2 (by omega)⟩
theorem m_step_a3 {w : Nat → Int} {a : Nat} {d : Int} (ha : a < 3) (h : m_a3 w) (hd : d = 1 ∨ d = -1) : m_a3 (m_step a d w).2 := m_a3_of fun b hb => by
  by_cases e : a = b
  · subst e; exact m_step_ai (m_a3_i h ha) hd
  · exact m_ai_fx ha hb e (m_a3_i h hb) (m_step_fx d w ha)
theorem m_ai_u {w : Nat → Int} {a j : Nat} {v : Int} (h : m_ai w a) (ha : a < 3) (hj : j < 8 ∨ 62 ≤ j ∨ (14 ≤ j ∧ j < 20) ∨ (35 ≤ j ∧ j < 44) ∨ (47 ≤ j ∧ j < 53)) : m_ai (m_u w j v) a := by
  have e : ∀ k, (8 ≤ k ∧ k < 14) ∨ (20 ≤ k ∧ k < 35) ∨ (44 ≤ k ∧ k < 47) ∨ (53 ≤ k ∧ k < 62) → m_u w j v k = w k := fun k hk => m_u_n (by omega)
  unfold m_ai
  rw [e (29 + a) (by omega), e (11 + a) (by omega), e (26 + a) (by omega), e (8 + a) (by omega), e (53 + a) (by omega), e (20 + a) (by omega), e (23 + a) (by omega), e (44 + a) (by omega), e (32 + a) (by omega), e (56 + a) (by omega), e (59 + a) (by omega)]
  exact h
theorem m_a3_u {w : Nat → Int} {j : Nat} {v : Int} (h : m_a3 w) (hj : j < 8 ∨ 62 ≤ j ∨ (14 ≤ j ∧ j < 20) ∨ (35 ≤ j ∧ j < 44) ∨ (47 ≤ j ∧ j < 53)) : m_a3 (m_u w j v) := m_a3_of fun a ha => m_ai_u (m_a3_i h ha) ha hj
end -- [62.inv]
section -- [63.chome]
/-! Part 63: the class's tables beside the rows; seeking, homing, jogging. -/
theorem q_axn_e {t a : Nat} (ha : a < 3) : q_axn t (a : Int) = t + 1 + 2 * a := by
  unfold q_axn
  rcases m_c3 ha with rfl | rfl | rfl
  · rw [if_pos (by decide)]
  · rw [if_neg (by decide), if_pos (by decide)]
  · rw [if_neg (by omega), if_neg (by omega)]
def c_tb (h : q_F) (t : Nat) (w : Nat → Int) : Prop := (∀ a, a < 3 → c_ax h (t + 1 + 2 * a) w a) ∧ (h t 4 = w 0 ∧ h t 5 = w 1 ∧ h t 6 = w 2 ∧ h t 7 = w 3 ∧ h t 8 = w 5 ∧ h t 9 = w 6 ∧ h t 10 = w 7) ∧ h (t + 7) 1 = w 4 ∧ ∀ j, j < 3 * (w 4).toNat → h (t + 8) j = w (74 + j)
/-- only places of the axis a have changed -/
def m_fy (a : Nat) (w w' : Nat → Int) : Prop := ∀ j, (j % 3 ≠ (2 + a) % 3 ∨ j < 8 ∨ 74 ≤ j) → w' j = w j
theorem m_fy_x {a : Nat} {w w' : Nat → Int} (h : m_fx a w w') : m_fy a w w' := fun j hj => h j (by omega)
theorem m_fy_r {a : Nat} {w : Nat → Int} : m_fy a w w := fun _ _ => rfl
theorem m_fy_t {a : Nat} {w w1 w2 : Nat → Int} (h1 : m_fy a w w1) (h2 : m_fy a w1 w2) : m_fy a w w2 := fun j hj => (h2 j hj).trans (h1 j hj)
theorem m_fy_u {a j : Nat} {w w1 : Nat → Int} {v : Int} (h : m_fy a w w1) (hj : j % 3 = (2 + a) % 3 ∧ 8 ≤ j ∧ j < 74) : m_fy a w (m_u w1 j v) := fun k hk => by
  rw [m_u_n (by omega)]; exact h k hk
theorem c_ax_fy {h : q_F} {o a b : Nat} {w w' : Nat → Int} (ha : a < 3) (hb : b < 3) (hab : a ≠ b) (hc : c_ax h o w b) (hf : m_fy a w w') : c_ax h o w' b :=
  ⟨fun j hj => by have := c_f_m j hj; rw [hf _ (by omega)]; exact hc.1 j hj, fun j hj => by have := c_g_m j hj; rw [hf _ (by omega)]; exact hc.2 j hj⟩
theorem c_ax_h {h h' : q_F} {o a : Nat} {w : Nat → Int} (hc : c_ax h o w a) (h1 : h' o = h o) (h2 : h' (o + 1) = h (o + 1)) : c_ax h' o w a :=
  ⟨fun j hj => by rw [h1]; exact hc.1 j hj, fun j hj => by rw [h2]; exact hc.2 j hj⟩
theorem c_ax_w {h : q_F} {o a : Nat} {w w' : Nat → Int} (hc : c_ax h o w a) (he : ∀ j, 8 ≤ j → j < 74 → w' j = w j) (ha : a < 3) : c_ax h o w' a :=
  ⟨fun j hj => by have := c_f_m j hj; rw [he _ (by omega) (by omega)]; exact hc.1 j hj, fun j hj => by have := c_g_m j hj; rw [he _ (by omega) (by omega)]; exact hc.2 j hj⟩
/-- an axis of a table has changed -/
theorem c_tb_ax {h h' : q_F} {t a : Nat} {w w' : Nat → Int} (ha : a < 3) (hc : c_tb h t w) (hf : c_fo (t + 1 + 2 * a) h h') (hx : c_ax h' (t + 1 + 2 * a) w' a) (hw : m_fy a w w') : c_tb h' t w' := by
  obtain ⟨h1, ⟨h2, h3, h4, h5, h6, h7, h8⟩, h9, h10⟩ := hc
  refine ⟨fun b hb => ?_, ⟨?_, ?_, ?_, ?_, ?_, ?_, ?_⟩, ?_, fun j hj => ?_⟩
  · by_cases e : a = b
    · subst e; exact hx
    · exact c_ax_h (c_ax_fy ha hb e (h1 b hb) hw) (hf _ (by omega) (by omega)) (hf _ (by omega) (by omega))
  · rw [hf t (by omega) (by omega), hw 0 (by omega)]; exact h2
  · rw [hf t (by omega) (by omega), hw 1 (by omega)]; exact h3
  · rw [hf t (by omega) (by omega), hw 2 (by omega)]; exact h4
  · rw [hf t (by omega) (by omega), hw 3 (by omega)]; exact h5
  · rw [hf t (by omega) (by omega), hw 5 (by omega)]; exact h6
  · rw [hf t (by omega) (by omega), hw 6 (by omega)]; exact h7
  · rw [hf t (by omega) (by omega), hw 7 (by omega)]; exact h8
  · rw [hf (t + 7) (by omega) (by omega), hw 4 (by omega)]; exact h9
  · rw [hw 4 (by omega)] at hj
    rw [hf (t + 8) (by omega) (by omega), hw (74 + j) (by omega)]; exact h10 j hj
/-- only a table's cells have changed -/
def c_ft (t : Nat) (h h' : q_F) : Prop := ∀ k, k < t ∨ t + 8 < k → h' k = h k
theorem c_ft_r {t : Nat} {h : q_F} : c_ft t h h := fun _ _ => rfl
theorem c_ft_t {t : Nat} {h h1 h2 : q_F} (f : c_ft t h h1) (g : c_ft t h1 h2) : c_ft t h h2 := fun k hk => (g k hk).trans (f k hk)
theorem c_ft_o {t o : Nat} {h h' : q_F} (f : c_fo o h h') (h1 : t ≤ o) (h2 : o + 1 ≤ t + 8) : c_ft t h h' := fun k hk => f k (by omega) (by omega)
theorem c_ft_u {t k j : Nat} {v : Int} {h h' : q_F} (f : c_ft t h h') (h1 : t ≤ k) (h2 : k ≤ t + 8) : c_ft t h (q_ud h' k j v) := fun i hi => by
  funext j'; rw [q_ud_n (by omega), f i hi]
/-- fields of the table itself: 4 start, 5 compensation, 6 detection, 7 the alarm, 8 to 10 the times -/
def c_h (j : Nat) : Nat := [0, 0, 0, 0, 0, 1, 2, 3, 5, 6, 7].getD j 0
theorem c_tb_u {h : q_F} {t j : Nat} {w : Nat → Int} {v : Int} (hj : 4 ≤ j ∧ j ≤ 10) (hc : c_tb h t w) : c_tb (q_ud h t j v) t (m_u w (c_h j) v) := by
  obtain ⟨h1, ⟨h2, h3, h4, h5, h6, h7, h8⟩, h9, h10⟩ := hc
  have ax : ∀ i v, i < 8 → (∀ a, a < 3 → c_ax (q_ud h t j v) (t + 1 + 2 * a) (m_u w i v) a) := fun i v hi a ha =>
    c_ax_h (c_ax_w (h1 a ha) (fun k hk _ => m_u_n (by omega)) ha) (by funext k; rw [q_ud_n (by omega)]) (by funext k; rw [q_ud_n (by omega)])
  have e7 : q_ud h t j v (t + 7) 1 = h (t + 7) 1 := q_ud_n (by omega)
  have e8 : ∀ k, q_ud h t j v (t + 8) k = h (t + 8) k := fun k => q_ud_n (by omega)
  obtain rfl | rfl | rfl | rfl | rfl | rfl | rfl : j = 4 ∨ j = 5 ∨ j = 6 ∨ j = 7 ∨ j = 8 ∨ j = 9 ∨ j = 10 := by omega
  all_goals
    refine ⟨ax _ _ (by decide), ?_, ?_, fun k hk => ?_⟩
    · simp [q_ud, m_u, c_h, *]
    · rw [e7]; simp [m_u, c_h, *]
    · rw [m_u_n (show 4 ≠ _ by decide)] at hk
      rw [e8, m_u_n (show 74 + k ≠ _ by simp [c_h] <;> omega)]; exact h10 k hk
theorem c_reads {h : q_F} {o a : Nat} {w : Nat → Int} (hc : c_ax h o w a) (h53 : w (53 + a) = 0 ∨ w (53 + a) = 1) : fn54 o h = some (m_reads a w) := by
  have e9 : h o 9 = w (38 + a) := hc.1 9 (by omega)
  have e10 : h o 10 = w (53 + a) := hc.1 10 (by omega)
  unfold fn54 m_reads
  rw [e9, e10]
  by_cases c0 : w (38 + a) = 0
  · rw [if_pos c0]
    rcases h53 with e | e
    · rw [if_neg (by omega), e]
    · rw [if_pos (Or.inr ⟨c0, e⟩), e]
  · rw [if_neg c0]
    by_cases c2 : w (38 + a) = 2
    · rw [if_pos c2, if_pos (Or.inl c2)]
    · rw [if_neg c2, if_neg (by omega)]
theorem c_seek {o a : Nat} {c d t M : Int} (ha : a < 3) (hd : (c = 1 ∧ d = -1) ∨ (c = 0 ∧ d = 1)) (hM : M ≤ 5000) : ∀ (n : Nat) (k : Int) (f : Nat) (h : q_F) (w : Nat → Int), 0 ≤ k → k + n = M → n < f → c_ax h o w a → m_ai w a →
    ∃ h', fn55_14 o f c M k h = some (k + (m_skl a c d t n w).1, h') ∧ c_ax h' o (m_skl a c d t n w).2 a ∧ c_fo o h h' ∧ m_ai (m_skl a c d t n w).2 a := by
  intro n
  induction n with
  | zero =>
    intro k f h w hk hn hf hc hi
    obtain ⟨f, rfl⟩ : ∃ f', f = f' + 1 := ⟨f - 1, by omega⟩
    refine ⟨h, ?_, hc, c_fo_r, hi⟩
    rw [fn55_14, if_pos (by omega)]
    unfold m_skl; simp
  | succ n ih =>
    intro k f h w hk hn hf hc hi
    obtain ⟨f, rfl⟩ : ∃ f', f = f' + 1 := ⟨f - 1, by omega⟩
    unfold m_skl
    by_cases hr : m_reads a w = c
    · rw [if_pos hr]
      refine ⟨h, ?_, hc, c_fo_r, hi⟩
      rw [fn55_14, if_neg (by omega), c_reads hc hi.2.2.1, Option.bind_some, if_pos hr]
      simp
    · rw [if_neg hr]
      obtain ⟨h1, g1, g2, g3⟩ := c_step (d := d) ha hc hi (by omega)
      have g4 := m_step_ai (d := d) hi (by omega)
      obtain ⟨h', k1, k2, k3, k4⟩ := ih (k + 1) f h1 (m_u (m_step a d w).2 5 (q_w64 ((m_step a d w).2 5 + t))) (by omega) (by omega) (by omega) (c_un (by omega) ha g2) (m_ai_u g4 ha (by omega))
      refine ⟨h', ?_, k2, c_fo_t g3 k3, k4⟩
      rw [fn55_14, if_neg (by omega), c_reads hc hi.2.2.1, Option.bind_some, if_neg hr]
      rcases hd with ⟨rfl, rfl⟩ | ⟨rfl, rfl⟩
      · rw [if_neg (by decide), fn55_37, g1, Option.bind_some]
        dsimp only
        rw [q_w32_id (by omega) (by omega), k1]
        congr 2; omega
      · rw [if_pos rfl, fn55_37, g1, Option.bind_some]
        dsimp only
        rw [q_w32_id (by omega) (by omega), k1]
        congr 2; omega
/-- the time of a search -/
theorem m_step_5 (a : Nat) (d : Int) (w : Nat → Int) (ha : a < 3) : (m_step a d w).2 5 = w 5 := m_step_fx d w ha 5 (by omega)
theorem m_skl_5 {a : Nat} {c d t : Int} (ha : a < 3) : ∀ (n : Nat) (w : Nat → Int), q_r64 (w 5) → (m_skl a c d t n w).2 5 = q_w64 (w 5 + (m_skl a c d t n w).1 * t) := by
  intro n
  induction n with
  | zero => intro w hr; unfold m_skl; simp only; rw [q_w64_r]; simp; simp; exact hr
  | succ n ih =>
    intro w hr
    unfold m_skl
    split
    · simp only; rw [q_w64_r]; simp; simp; exact hr
    · simp only
      rw [ih _ (by rw [m_u_s]; exact q_wr64 _), m_u_s, m_step_5 a d w ha]
      obtain ⟨h1, h2, k, h3⟩ := q_w64_s (w 5 + t)
      generalize (m_skl a c d t n (m_u (m_step a d w).2 5 (q_w64 (w 5 + t)))).1 = N
      have e : ((N + 1 : Nat) : Int) * t = (N : Int) * t + t := by rw [m_s1, Int.add_mul, Int.one_mul]
      rw [e]
      obtain ⟨a1, a2, k2, a3⟩ := q_w64_s (q_w64 (w 5 + t) + (N : Int) * t)
      obtain ⟨b1, b2, k3, b3⟩ := q_w64_s (w 5 + ((N : Int) * t + t))
      omega
end -- [63.chome]
section -- [64.chome]
/-! Part 64: the class's homing. -/
/-- the same but for one place -/
def m_eq (j : Nat) (w w' : Nat → Int) : Prop := ∀ k, k ≠ j → w k = w' k
theorem m_eq_u {j k : Nat} {w w' : Nat → Int} {v : Int} (h : m_eq j w w') : m_eq j (m_u w k v) (m_u w' k v) := fun i hi => by
  unfold m_u; split
  · rfl
  · exact h i hi
theorem m_sw_e {a j : Nat} {w w' : Nat → Int} (hj : j = 41 + a) (h : m_eq j w w') : m_eq j (m_sw a w) (m_sw a w') := by
  unfold m_sw; rw [h (26 + a) (by omega), h (20 + a) (by omega), h (23 + a) (by omega)]
  split
  · exact h
  · exact m_eq_u h
theorem m_sx_e {a j : Nat} {w w' : Nat → Int} (hj : j = 41 + a) (h : m_eq j w w') : m_eq j (m_sx a w) (m_sx a w') := by
  unfold m_sx; rw [h (26 + a) (by omega), h (20 + a) (by omega)]
  split
  · exact m_sw_e hj h
  · exact m_sw_e hj (m_eq_u h)
theorem m_sm_e {a j : Nat} {d e s : Int} {w w' : Nat → Int} (hj : j = 41 + a) (h : m_eq j w w') : (m_sm a d e s w).1 = (m_sm a d e s w').1 ∧ m_eq j (m_sm a d e s w).2 (m_sm a d e s w').2 := by
  unfold m_sm; rw [h (29 + a) (by omega), h (26 + a) (by omega), h (35 + a) (by omega)]
  split
  · split
    · exact ⟨rfl, m_eq_u h⟩
    · exact ⟨rfl, m_sx_e hj (m_eq_u h)⟩
  · exact ⟨rfl, m_eq_u h⟩
theorem m_s0_e {a c j : Nat} {d : Int} {w w' : Nat → Int} (hj : j = 41 + a) (hc : c = 56 ∨ c = 59) (h : m_eq j w w') : m_eq j (m_s0 a c d w) (m_s0 a c d w') := by
  unfold m_s0
  rw [h (32 + a) (by omega)]
  have g : m_eq j (m_u (m_u w (32 + a) (q_w64 (w' (32 + a) + d))) (44 + a) d) (m_u (m_u w' (32 + a) (q_w64 (w' (32 + a) + d))) (44 + a) d) := m_eq_u (m_eq_u h)
  dsimp only
  rw [g (c + a) (by omega)]
  exact m_eq_u g
theorem m_step_e {a j : Nat} {d : Int} {w w' : Nat → Int} (hj : j = 41 + a) (h : m_eq j w w') : (m_step a d w).1 = (m_step a d w').1 ∧ m_eq j (m_step a d w).2 (m_step a d w').2 := by
  unfold m_step
  rw [h (11 + a) (by omega), h (8 + a) (by omega)]
  split
  · exact m_sm_e hj (m_s0_e hj (Or.inr rfl) h)
  · exact m_sm_e hj (m_s0_e hj (Or.inl rfl) h)
theorem m_reads_e {a j : Nat} {w w' : Nat → Int} (hj : j = 41 + a) (h : m_eq j w w') : m_reads a w = m_reads a w' := by
  unfold m_reads; rw [h (38 + a) (by omega), h (53 + a) (by omega)]
theorem m_skl_e {a j : Nat} {c d t : Int} (ha : a < 3) (hj : j = 41 + a) : ∀ (n : Nat) (w w' : Nat → Int), m_eq j w w' → (m_skl a c d t n w).1 = (m_skl a c d t n w').1 ∧ m_eq j (m_skl a c d t n w).2 (m_skl a c d t n w').2 := by
  intro n
  induction n with
  | zero => intro w w' h; exact ⟨rfl, h⟩
  | succ n ih =>
    intro w w' h
    unfold m_skl
    rw [m_reads_e hj h]
    split
    · exact ⟨rfl, h⟩
    · obtain ⟨g1, g2⟩ := m_step_e (d := d) hj h
      have e5 := g2 5 (by omega)
      rw [e5]
      obtain ⟨k1, k2⟩ := ih _ _ (m_eq_u (k := 5) (v := q_w64 ((m_step a d w').2 5 + t)) g2)
      exact ⟨by simp only; rw [k1], k2⟩
theorem m_skl_fy {a : Nat} {c d t : Int} (ha : a < 3) : ∀ (n : Nat) (w : Nat → Int), ∀ j, j ≠ 5 → (j % 3 ≠ (2 + a) % 3 ∨ j < 26 ∨ 61 < j ∨ j = 41 + a) → (m_skl a c d t n w).2 j = w j := by
  intro n
  induction n with
  | zero => intro w j h5 hj; rfl
  | succ n ih =>
    intro w j h5 hj
    unfold m_skl
    split
    · rfl
    · simp only
      rw [ih _ j h5 hj, m_u_n h5]
      by_cases e : j = 41 + a
      · exact m_step_fr ha d w j (by unfold m_dy; omega)
      · exact m_step_fx d w ha j (by omega)
/-- the search of a table's axis with its time -/
theorem c_tseek {t a : Nat} {c d lt : Int} {h : q_F} {w : Nat → Int} (ha : a < 3) (hd : (c = 1 ∧ d = -1) ∨ (c = 0 ∧ d = 1)) (hc : c_tb h t w) (ok : m_ok w) (hi : m_a3 w) :
    ∃ h', fn55 (q_axn t a) c h = some (((m_skl a c d lt (w (8 + a) + w (11 + a) + 1).toNat w).1 : Int), h') ∧ c_tb h' t (m_u (m_skl a c d lt (w (8 + a) + w (11 + a) + 1).toNat w).2 5 (w 5)) ∧ c_ft t h h' ∧ m_a3 (m_skl a c d lt (w (8 + a) + w (11 + a) + 1).toNat w).2 := by
  have o := ok.2.2.1 a ha
  have hx := hc.1 a ha
  have e0 : h (t + 1 + 2 * a) 0 = w (8 + a) := hx.1 0 (by omega)
  have e1 : h (t + 1 + 2 * a) 1 = w (11 + a) := hx.1 1 (by omega)
  obtain ⟨h', g1, g2, g3, g4⟩ := c_seek (t := lt) (M := w (8 + a) + w (11 + a) + 1) ha hd (by omega) (w (8 + a) + w (11 + a) + 1).toNat 0 q_fu h w (by omega) (by omega) (by have := q_fu_ge; omega) hx (m_a3_i hi ha)
  refine ⟨h', ?_, ?_, c_ft_o g3 (by omega) (by omega), ?_⟩
  · rw [q_axn_e ha, fn55, e0, e1, q_w32_id (z := w (8 + a) + w (11 + a)) (by omega) (by omega), q_w32_id (by omega) (by omega), g1]
    simp
  · refine c_tb_ax ha hc g3 (c_un (by omega) ha g2) (fun j hj => ?_)
    by_cases e : j = 5
    · subst e; rw [m_u_s]
    · rw [m_u_n e]; exact m_skl_fy ha _ _ j e (by omega)
  · refine m_a3_of fun b hb => ?_
    by_cases e : a = b
    · subst e; exact g4
    · have gb := m_a3_i hi hb
      have e9 : ∀ k, k % 3 = 2 → 8 ≤ k → (m_skl a c d lt (w (8 + a) + w (11 + a) + 1).toNat w).2 (k + b) = w (k + b) := fun k hk hk2 => m_skl_fy ha _ _ _ (by omega) (by omega)
      unfold m_ai
      rw [e9 29 rfl (by omega), e9 11 rfl (by omega), e9 26 rfl (by omega), e9 8 rfl (by omega), e9 53 rfl (by omega), e9 20 rfl (by omega), e9 23 rfl (by omega), e9 44 rfl (by omega), e9 32 rfl (by omega), e9 56 rfl (by omega), e9 59 rfl (by omega)]
      exact gb
theorem c_slow {h : q_F} {t : Nat} {w : Nat → Int} (hc : c_tb h t w) (h0 : 1 ≤ w 0 ∧ w 0 ≤ 1000) : fn140 t h = some (q_ldv 1000000 (w 0)) ∧ 0 ≤ q_ldv 1000000 (w 0) ∧ q_ldv 1000000 (w 0) ≤ 1000000 := by
  have e := hc.2.1.1
  have g := m_ldv (a := 1000000) (b := w 0) (by omega) (by omega) (by omega) (by omega)
  have g0 : 0 ≤ 1000000 / w 0 := Int.ediv_nonneg (by omega) (by omega)
  have g1 : 1000000 / w 0 ≤ 1000000 := Int.ediv_le_self _ (by omega)
  refine ⟨?_, by omega, by omega⟩
  rw [fn140, e, fn201, if_neg (by omega), if_pos (by omega), Option.bind_some, m_idv (by omega) (by omega) (by omega) (by omega), g]
theorem m_eq_same {j : Nat} {v : Int} {w w' : Nat → Int} (h : m_eq j w w') : m_u w j v = m_u w' j v := by
  funext k; unfold m_u; split
  · rfl
  · rename_i e; exact h k e
theorem m_u_c {w : Nat → Int} {i j : Nat} {v v' : Int} (e : i ≠ j) : m_u (m_u w i v) j v' = m_u (m_u w j v') i v := by
  funext k; unfold m_u
  by_cases h1 : k = j
  · rw [if_pos h1, if_neg (by omega), if_pos h1]
  · rw [if_neg h1]; by_cases h2 : k = i
    · rw [if_pos h2, if_pos h2]
    · rw [if_neg h2, if_neg h2, if_neg h1]
/-- an axis' field of a table -/
theorem c_tb_f {h : q_F} {t a j : Nat} {w : Nat → Int} {v : Int} (ha : a < 3) (hj : j < 14) (hc : c_tb h t w) : c_tb (q_ud h (t + 1 + 2 * a) j v) t (m_u w (c_f j + a) v) := by
  have m := c_f_m j hj
  exact c_tb_ax ha hc (c_fo_u c_fo_r (Or.inl rfl)) (c_uo hj (hc.1 a ha)) (m_fy_u m_fy_r (by omega))
theorem c_tb_g {h : q_F} {t a j : Nat} {w : Nat → Int} {v v' : Int} (ha : a < 3) (hj : j < 7) (hv : v = q_w32 v') (hc : c_tb h t w) : c_tb (q_ud h (t + 1 + 2 * a + 1) j v) t (m_u w (c_g j + a) v') := by
  have m := c_g_m j hj
  exact c_tb_ax ha hc (c_fo_u c_fo_r (Or.inr rfl)) (c_ua hj hv (hc.1 a ha)) (m_fy_u m_fy_r (by omega))
theorem c_fail {h : q_F} {t a : Nat} {al : Int} {w : Nat → Int} (ha : a < 3) (hc : c_tb h t w) : ∃ h', fn130 t (t + 1 + 2 * a) al h = some (-1, h') ∧ c_tb h' t (m_hf a al (m_u w (41 + a) 0)) ∧ c_ft t h h' := by
  have g1 := c_tb_u (j := 7) (v := al) (by omega) hc
  have g2 := c_tb_f (j := 11) (v := 0) ha (by omega) g1
  have g3 := c_tb_g (j := 5) (v := q_w32 (q_ud (q_ud h t 7 al) (t + 1 + 2 * a) 11 0 (t + 1 + 2 * a + 1) 5 + 1)) (v' := q_w64 (w (68 + a) + 1)) ha (by omega) (by
    have e := (g2.1 a ha).2 5 (by omega)
    rw [e, m_inc]
    show q_w32 (q_w64 (m_u (m_u w 3 al) (41 + a) 0 (68 + a) + 1)) = _
    rw [m_u_n (by omega), m_u_n (by omega)]) g2
  refine ⟨_, by rw [fn130, m_let, m_let, m_let], ?_, ?_⟩
  · have e : m_hf a al (m_u w (41 + a) 0) = m_u (m_u (m_u w 3 al) (41 + a) 0) (68 + a) (q_w64 (w (68 + a) + 1)) := by
      unfold m_hf
      rw [m_u_n (show 68 + a ≠ 41 + a by omega), m_u_c (show 41 + a ≠ 3 by omega)]
    rw [e]; exact g3
  · exact c_ft_u (c_ft_u (c_ft_u c_ft_r (by omega) (by omega)) (by omega) (by omega)) (by omega) (by omega)
theorem c_good {h : q_F} {t a : Nat} {w : Nat → Int} (ha : a < 3) (hc : c_tb h t w) : ∃ h', fn59 (t + 1 + 2 * a) h = some (0, h') ∧ c_tb (q_ud h' (t + 1 + 2 * a + 1) 4 (q_w32 (h' (t + 1 + 2 * a + 1) 4 + 1))) t (m_ho a w) ∧ c_ft t h h' := by
  have g1 := c_tb_f (j := 11) (v := 1) ha (by omega) hc
  have g2 := c_tb_f (j := 12) (v := 0) ha (by omega) g1
  have e6 : q_ud (q_ud h (t + 1 + 2 * a) 11 1) (t + 1 + 2 * a) 12 0 (t + 1 + 2 * a) 6 = w (26 + a) := by
    rw [q_ud_n (by omega), q_ud_n (by omega)]; exact (hc.1 a ha).1 6 (by omega)
  have g3 := c_tb_f (j := 13) (v := w (26 + a)) ha (by omega) g2
  have g4 := c_tb_g (j := 4) (v := q_w32 (q_ud (q_ud (q_ud h (t + 1 + 2 * a) 11 1) (t + 1 + 2 * a) 12 0) (t + 1 + 2 * a) 13 (w (26 + a)) (t + 1 + 2 * a + 1) 4 + 1)) (v' := q_w64 (w (65 + a) + 1)) ha (by omega) (by
    have e := (g3.1 a ha).2 4 (by omega)
    rw [e, m_inc]
    show q_w32 (q_w64 (m_u (m_u (m_u w (41 + a) 1) (47 + a) 0) (50 + a) (w (26 + a)) (65 + a) + 1)) = _
    rw [m_u_n (by omega), m_u_n (by omega), m_u_n (by omega)]) g3
  refine ⟨_, by rw [fn59, m_let, m_let, m_let, e6], g4, ?_⟩
  exact c_ft_u (c_ft_u (c_ft_u c_ft_r (by omega) (by omega)) (by omega) (by omega)) (by omega) (by omega)
end -- [64.chome]
section -- [65.chome]
/-! Part 65: the class's homing, whole. -/
theorem m_reads_01 (a : Nat) (w : Nat → Int) : m_reads a w = 0 ∨ m_reads a w = 1 := by
  unfold m_reads; split
  · exact Or.inr rfl
  · exact Or.inl rfl
theorem m_w64_b (x y : Int) : q_w64 (x + q_w64 y) = q_w64 (x + y) := by
  obtain ⟨h1, h2, k, h3⟩ := q_w64_s y
  obtain ⟨g1, g2, j, g3⟩ := q_w64_s (x + q_w64 y)
  obtain ⟨e1, e2, i, e3⟩ := q_w64_s (x + y)
  omega
theorem m_a3_hf {w : Nat → Int} {a : Nat} {al : Int} (h : m_a3 w) (ha : a < 3) : m_a3 (m_hf a al w) := m_a3_u (m_a3_u h (by omega)) (by omega)
theorem m_a3_ho {w : Nat → Int} {a : Nat} (h : m_a3 w) (ha : a < 3) : m_a3 (m_ho a w) := m_a3_u (m_a3_u (m_a3_u (m_a3_u h (by omega)) (by omega)) (by omega)) (by omega)
theorem c_home {h : q_F} {t a : Nat} {w : Nat → Int} (ht : q_isT t) (ha : a < 3) (hc : c_tb h t w) (ok : m_ok w) (hi : m_a3 w) (h5 : q_r64 (w 5)) :
    ∃ h', fn131 t a h = some ((m_home a w).1, h') ∧ c_tb h' t (m_home a w).2 ∧ c_ft t h h' ∧ m_a3 (m_home a w).2 := by
  have o := ok.2.2.1 a ha
  have sl := c_slow hc ok.1
  obtain ⟨h1, g1, g2, g3, g4⟩ := c_tseek (c := 1) (d := -1) (lt := q_ldv 1000000 (w 0)) ha (Or.inl ⟨rfl, rfl⟩) hc ok hi
  have q5 := m_skl_5 (c := 1) (d := -1) (t := q_ldv 1000000 (w 0)) ha (w (8 + a) + w (11 + a) + 1).toNat w h5
  have qe := m_skl_e (c := 1) (d := -1) (t := q_ldv 1000000 (w 0)) ha rfl (w (8 + a) + w (11 + a) + 1).toNat w (m_u w (41 + a) 0) (fun k hk => (m_u_n hk).symm)
  have q41 := m_skl_fy (c := 1) (d := -1) (t := q_ldv 1000000 (w 0)) ha (w (8 + a) + w (11 + a) + 1).toNat (m_u w (41 + a) 0) (41 + a) (by omega) (by omega)
  have qf := m_skl_fr ha 1 (-1) (q_ldv 1000000 (w 0)) (w (8 + a) + w (11 + a) + 1).toNat w
  have qn := m_skl_n (a := a) 1 (-1) (q_ldv 1000000 (w 0)) (w (8 + a) + w (11 + a) + 1).toNat w
  rw [m_u_s] at q41
  have es : ∀ c d t, m_seek a c d t (m_u w (41 + a) 0) = (if m_reads a (m_skl a c d t (w (8 + a) + w (11 + a) + 1).toNat (m_u w (41 + a) 0)).2 = c then ((m_skl a c d t (w (8 + a) + w (11 + a) + 1).toNat (m_u w (41 + a) 0)).1 : Int) else -1, (m_skl a c d t (w (8 + a) + w (11 + a) + 1).toNat (m_u w (41 + a) 0)).2) := fun c d t => by
    unfold m_seek
    rw [m_u_n (show 8 + a ≠ 41 + a by omega), m_u_n (show 11 + a ≠ 41 + a by omega)]
  unfold m_home
  dsimp only
  rw [es, fn131, g1, Option.bind_some]
  dsimp only
  generalize m_skl a 1 (-1) (q_ldv 1000000 (w 0)) (w (8 + a) + w (11 + a) + 1).toNat w = R at g2 g4 q5 qe qf qn ⊢
  generalize m_skl a 1 (-1) (q_ldv 1000000 (w 0)) (w (8 + a) + w (11 + a) + 1).toNat (m_u w (41 + a) 0) = R0 at qe q41 ⊢
  obtain ⟨N, r⟩ := R
  obtain ⟨N0, r0⟩ := R0
  dsimp only at g2 g4 q5 qe qf qn q41 ⊢
  obtain ⟨rfl, qe⟩ := qe
  have er0 : r 0 = w 0 := qf 0 (by unfold m_dy; omega)
  have okr := m_fr_ok ok qf
  have e0 : r0 = m_u r (41 + a) 0 := by rw [m_eq_same qe, ← q41, m_u_id]
  have s1 := c_slow g2 (by rw [m_u_n (by omega), er0]; exact ok.1)
  rw [m_u_n (show 0 ≠ 5 by omega), er0] at s1
  have et : h1 t 8 = w 5 := by have := g2.2.1.2.2.2.2.1; rw [m_u_s] at this; exact this
  rw [s1.1, Option.bind_some, et, m_w64_b, ← q5, m_let]
  have g5 : c_tb (q_ud h1 t 8 (r 5)) t r := by
    have := c_tb_u (j := 8) (v := r 5) (by omega) g2
    rw [show c_h 8 = 5 from rfl, m_u_u, m_u_id] at this
    exact this
  have f5 : c_ft t h (q_ud h1 t 8 (r 5)) := c_ft_u g3 (by omega) (by omega)
  generalize q_ud h1 t 8 (r 5) = h2 at g5 f5 ⊢
  have i53 := (m_a3_i g4 ha).2.2.1
  rw [q_axn_e ha, c_reads (g5.1 a ha) i53, Option.bind_some]
  have rr : m_reads a r0 = m_reads a r := (m_reads_e rfl qe).symm
  rw [rr]
  rcases m_reads_01 a r with c0 | c0
  · rw [if_pos c0, if_neg (show ¬ m_reads a r = 1 by omega), if_pos rfl]
    obtain ⟨h', k1, k2, k3⟩ := c_fail (al := 1) ha g5
    refine ⟨h', ?_, ?_, c_ft_t f5 k3, ?_⟩
    · rw [k1, Option.bind_some]
    · rw [e0]; exact k2
    · rw [e0]; exact m_a3_hf (m_a3_u g4 (by omega)) ha
  · rw [if_neg (show ¬ m_reads a r = 0 by omega), if_pos c0, if_neg (show ¬ (N : Int) = -1 by omega)]
    -- the second part
    have hr5 : q_r64 (r 5) := by rw [q5]; exact q_wr64 _
    obtain ⟨h3, k1, k2, k3, k4⟩ := c_tseek (c := 0) (d := 1) (lt := q_w64 (4 * q_ldv 1000000 (w 0))) ha (Or.inr ⟨rfl, rfl⟩) g5 okr g4
    rw [q_axn_e ha] at k1
    have p5 := m_skl_5 (c := 0) (d := 1) (t := q_w64 (4 * q_ldv 1000000 (w 0))) ha (r (8 + a) + r (11 + a) + 1).toNat r hr5
    have pe := m_skl_e (c := 0) (d := 1) (t := q_w64 (4 * q_ldv 1000000 (w 0))) ha rfl (r (8 + a) + r (11 + a) + 1).toNat r r0 qe
    have p41 := m_skl_fy (c := 0) (d := 1) (t := q_w64 (4 * q_ldv 1000000 (w 0))) ha (r (8 + a) + r (11 + a) + 1).toNat r0 (41 + a) (by omega) (by omega)
    have pf := m_skl_fr ha 0 1 (q_w64 (4 * q_ldv 1000000 (w 0))) (r (8 + a) + r (11 + a) + 1).toNat r
    have pn := m_skl_n (a := a) 0 1 (q_w64 (4 * q_ldv 1000000 (w 0))) (r (8 + a) + r (11 + a) + 1).toNat r
    have es2 : m_seek a 0 1 (q_w64 (4 * q_ldv 1000000 (w 0))) r0 = (if m_reads a (m_skl a 0 1 (q_w64 (4 * q_ldv 1000000 (w 0))) (r (8 + a) + r (11 + a) + 1).toNat r0).2 = 0 then ((m_skl a 0 1 (q_w64 (4 * q_ldv 1000000 (w 0))) (r (8 + a) + r (11 + a) + 1).toNat r0).1 : Int) else -1, (m_skl a 0 1 (q_w64 (4 * q_ldv 1000000 (w 0))) (r (8 + a) + r (11 + a) + 1).toNat r0).2) := by
      unfold m_seek
      rw [← qe (8 + a) (by omega), ← qe (11 + a) (by omega)]
    have o2 := okr.2.2.1 a ha
    rw [es2, k1, Option.bind_some]
    dsimp only
    generalize m_skl a 0 1 (q_w64 (4 * q_ldv 1000000 (w 0))) (r (8 + a) + r (11 + a) + 1).toNat r = S at k2 k4 p5 pe pf pn ⊢
    generalize m_skl a 0 1 (q_w64 (4 * q_ldv 1000000 (w 0))) (r (8 + a) + r (11 + a) + 1).toNat r0 = S0 at pe p41 ⊢
    obtain ⟨M, s⟩ := S
    obtain ⟨M0, s0⟩ := S0
    dsimp only at k2 k4 p5 pe pf pn p41 ⊢
    obtain ⟨rfl, pe⟩ := pe
    have es0 : s 0 = w 0 := (pf 0 (by unfold m_dy; omega)).trans er0
    have e1 : s0 = m_u s (41 + a) 0 := by rw [m_eq_same pe, ← q41, ← p41, m_u_id]
    have s2 := c_slow k2 (by rw [m_u_n (by omega), es0]; exact ok.1)
    rw [m_u_n (show 0 ≠ 5 by omega), es0] at s2
    have et2 : h3 t 8 = r 5 := by have := k2.2.1.2.2.2.2.1; rw [m_u_s] at this; exact this
    have em : q_w64 (q_w64 (4 * (M : Int)) * q_ldv 1000000 (w 0)) = q_w64 ((M : Int) * q_w64 (4 * q_ldv 1000000 (w 0))) := by
      rw [q_w64_id (z := 4 * (M : Int)) (by omega) (by omega), q_w64_id (z := 4 * q_ldv 1000000 (w 0)) (by omega) (by omega)]
      congr 1
      rw [Int.mul_comm 4 (M : Int), Int.mul_assoc]
    rw [s2.1, Option.bind_some, et2, em, m_w64_b, ← p5, m_let]
    have g6 : c_tb (q_ud h3 t 8 (s 5)) t s := by
      have := c_tb_u (j := 8) (v := s 5) (by omega) k2
      rw [show c_h 8 = 5 from rfl, m_u_u, m_u_id] at this
      exact this
    have f6 : c_ft t h (q_ud h3 t 8 (s 5)) := c_ft_t f5 (c_ft_u k3 (by omega) (by omega))
    generalize q_ud h3 t 8 (s 5) = h4 at g6 f6 ⊢
    have j53 := (m_a3_i k4 ha).2.2.1
    rw [c_reads (g6.1 a ha) j53, Option.bind_some]
    have rs : m_reads a s0 = m_reads a s := (m_reads_e rfl pe).symm
    rw [rs]
    rcases m_reads_01 a s with c1 | c1
    · rw [if_pos c1, if_pos c1, if_neg (show ¬ (M : Int) = -1 by omega)]
      obtain ⟨h', l1, l2, l3⟩ := c_good ha g6
      have eho : m_ho a s0 = m_ho a s := by
        unfold m_ho
        rw [e1, m_u_u, m_u_n (show 26 + a ≠ 41 + a by omega), m_u_n (show 65 + a ≠ 41 + a by omega)]
      rw [l1, Option.bind_some]
      dsimp only
      rw [m_let]
      refine ⟨_, rfl, ?_, c_ft_t f6 (c_ft_u l3 (by omega) (by omega)), ?_⟩
      · rw [eho]; exact l2
      · rw [eho]; exact m_a3_ho k4 ha
    · rw [if_neg (by omega), if_neg (show ¬ m_reads a s = 0 by omega), if_pos rfl]
      obtain ⟨h', l1, l2, l3⟩ := c_fail (al := 2) ha g6
      refine ⟨h', ?_, ?_, c_ft_t f6 l3, ?_⟩
      · rw [l1, Option.bind_some]
      · rw [e1]; exact l2
      · rw [e1]; exact m_a3_hf (m_a3_u k4 (by omega)) ha
end -- [65.chome]
section -- [66.cplan]
/-! Part 66: the class's plan beside the model's: distances, leads, cruises, gains. -/
theorem c_ent {o N : Nat} {z : Int} {h : q_F} (h0 : 0 ≤ z) (h1 : z < N) : fn175 o N z h = some (h o z.toNat) := by
  rw [fn175, if_neg (by omega), if_neg (by omega), if_pos ⟨h0, h1⟩]
theorem c_ent_t (o N : Nat) (z : Int) (h : q_F) : ∃ r, fn175 o N z h = some r := by
  unfold fn175; (repeat' split) <;> first | exact ⟨_, rfl⟩ | (exfalso; omega)
theorem c_put {o N : Nat} {z v : Int} {h : q_F} (h0 : 0 ≤ z) (h1 : z < N) : fn174 o N z v h = some (0, q_ud h o z.toNat v) := by
  rw [fn174, if_neg (by omega), if_neg (by omega), if_pos ⟨h0, h1⟩, m_let]
theorem c_quo {a b : Int} {h : q_F} (hb : b ≠ 0) : fn201 a b h = some (q_idv a b) := by
  rw [fn201, if_neg hb, if_pos hb]
theorem c_abs {z : Int} (h0 : -2147483648 < z) (h1 : z < 2147483648) : qx_ab z = m_abs z := by
  unfold qx_ab m_abs; split
  · rfl
  · rw [q_w32_id (by omega) (by omega)]
/-- a table and a row of targets, as the row p says -/
def c_src (h : q_F) (t g : Nat) (p : Nat → Int) : Prop := (∀ a, a < 3 → h (t + 1 + 2 * a) 12 = p (47 + a) ∧ h (t + 1 + 2 * a) 8 = p (44 + a) ∧ h (t + 1 + 2 * a) 2 = p (14 + a) ∧ h (t + 1 + 2 * a) 3 = p (17 + a) ∧ h (t + 1 + 2 * a) 1 = p (11 + a)) ∧ h t 5 = p 1 ∧ h g 1 = p 4 ∧ ∀ j, j < 3 * (p 4).toNat → h (g + 1) j = p (74 + j)
theorem c_src_tb {h : q_F} {t : Nat} {w : Nat → Int} (hc : c_tb h t w) : c_src h t (t + 7) w :=
  ⟨fun a ha => ⟨(hc.1 a ha).1 12 (by omega), (hc.1 a ha).1 8 (by omega), (hc.1 a ha).1 2 (by omega), (hc.1 a ha).1 3 (by omega), (hc.1 a ha).1 1 (by omega)⟩, hc.2.1.2.1, hc.2.2.1, hc.2.2.2⟩
/-- only the plan's cells have changed -/
def c_fp (h h' : q_F) : Prop := ∀ k, k < 125 ∨ 134 < k → h' k = h k
theorem c_fp_r {h : q_F} : c_fp h h := fun _ _ => rfl
theorem c_fp_t {h h1 h2 : q_F} (f : c_fp h h1) (g : c_fp h1 h2) : c_fp h h2 := fun k hk => (g k hk).trans (f k hk)
theorem c_fp_u {k j : Nat} {v : Int} {h h' : q_F} (f : c_fp h h') (hk : 125 ≤ k ∧ k ≤ 134) : c_fp h (q_ud h' k j v) := fun i hi => by
  funext j'; rw [q_ud_n (by omega), f i hi]
theorem c_src_fp {h h' : q_F} {t g : Nat} {p : Nat → Int} (hs : c_src h t g p) (ht : t + 6 < 125) (hg : g + 1 < 125 ∨ 134 < g) (f : c_fp h h') : c_src h' t g p := by
  obtain ⟨h1, h2, h3, h4⟩ := hs
  refine ⟨fun a ha => ?_, ?_, ?_, fun j hj => ?_⟩
  · rw [f _ (by omega)]; exact h1 a ha
  · rw [f _ (by omega)]; exact h2
  · rw [f _ (by omega)]; exact h3
  · rw [f _ (by omega)]; exact h4 j hj
theorem c_get {h : q_F} {t g m a : Nat} {p : Nat → Int} (hs : c_src h t g p) (h4 : (p 4) ≤ 16) (hm : (m : Int) < p 4) (ha : a < 3) : fn148 g m a h = some (m_beg p (m + 1) a) := by
  rw [fn148, q_w32_id (z := (m : Int) * 3) (by omega) (by omega), q_w32_id (z := (m : Int) * 3 + a) (by omega) (by omega), c_ent (by omega) (by omega), Option.bind_some, show ((m : Int) * 3 + a).toNat = 3 * m + a by omega, hs.2.2.2 _ (by omega)]
  unfold m_beg
  rw [if_neg (by omega)]
  congr 2; omega
/-- the direction of an axis ahead of a move -/
noncomputable def m_dir (p : Nat → Int) (a : Nat) : Nat → Int
  | 0 => p (44 + a)
  | m + 1 => if m_d p m a = 0 then m_dir p a m else m_sg (m_d p m a)
noncomputable def m_tn (p : Nat → Int) (m a : Nat) : Int := if m_dir p a (m + 1) = m_dir p a m then 0 else 1
theorem c_dirOf {v l : Int} {h : q_F} : fn72 v l h = some (if v = 0 then l else m_sg v) := by
  unfold fn72 m_sg
  by_cases e : v = 0
  · rw [if_pos e, if_pos e]
  · rw [if_neg e, if_neg e]
    split
    · rw [if_neg (by omega)]
    · rfl
/-- what the measuring of an axis leaves -/
def c_me (h : q_F) (p : Nat → Int) (a n : Nat) : Prop := ∀ m, m < n → h 126 (3 * m + a) = m_beg p m a ∧ h 127 (3 * m + a) = m_d p m a ∧ h 128 (3 * m + a) = m_tn p m a
/-- only the three rows' places of the axis a have changed -/
def c_fm (a : Nat) (h h' : q_F) : Prop := ∀ k j, (k < 126 ∨ 128 < k ∨ j % 3 ≠ a) → h' k j = h k j
theorem c_fm_fp {a : Nat} {h h' : q_F} (f : c_fm a h h') : c_fp h h' := fun k hk => by funext j; exact f k j (by omega)
theorem c_meas {t g a : Nat} {p : Nat → Int} (hg : g + 1 < 125 ∨ 134 < g) (ht : t + 6 < 125) (ok : m_ok p) (ha : a < 3) (o : Nat) : ∀ (d m f : Nat) (h : q_F), m + d = (p 4).toNat → d < f → c_src h t g p → h 125 9 = p 4 → c_me h p a m → ∃ h', fn85_15 o g f a (m_beg p m a) (m_dir p a m) m h = some (0, h') ∧ c_me h' p a (p 4).toNat ∧ c_fm a h h' := by
  have h16 := ok.2.1
  intro d
  induction d with
  | zero =>
    intro m f h hm hf hs hn hme
    obtain ⟨f, rfl⟩ : ∃ f', f = f' + 1 := ⟨f - 1, by omega⟩
    rw [fn85_15, if_pos (by omega)]
    exact ⟨h, rfl, by rw [show (p 4).toNat = m by omega]; exact hme, fun _ _ _ => rfl⟩
  | succ d ih =>
    intro m f h hm hf hs hn hme
    obtain ⟨f, rfl⟩ : ∃ f', f = f' + 1 := ⟨f - 1, by omega⟩
    have hd := m_d_r ok (m := m) (by omega) ha
    have ed : q_w32 (m_beg p (m + 1) a - m_beg p m a) = m_d p m a := q_w32_id (by unfold m_d at hd; omega) (by unfold m_d at hd; omega)
    have ei : q_w32 (q_w32 ((m : Int) * 3) + a) = (m : Int) * 3 + a := by rw [q_w32_id (z := (m : Int) * 3) (by omega) (by omega), q_w32_id (by omega) (by omega)]
    have et : ((m : Int) * 3 + a).toNat = 3 * m + a := by omega
    rw [fn85_15, if_neg (by omega), c_get hs (by omega) (by omega) ha, Option.bind_some, ed, c_dirOf, Option.bind_some, ei, c_put (by omega) (by omega), Option.bind_some, et]
    dsimp only
    rw [c_put (by omega) (by omega), Option.bind_some, et]
    dsimp only
    have en : (if m_d p m a = 0 then m_dir p a m else m_sg (m_d p m a)) = m_dir p a (m + 1) := rfl
    rw [en]
    have key : ∀ v, v = m_tn p m a → ∃ h', fn85_93 o g (fn85_15 o g f) a m (m_dir p a (m + 1)) v ((m : Int) * 3 + a) (q_ud (q_ud h 126 (3 * m + a) (m_beg p m a)) 127 (3 * m + a) (m_d p m a)) = some (0, h') ∧ c_me h' p a (p 4).toNat ∧ c_fm a h h' := by
      intro v hv
      have fm : c_fm a h (q_ud (q_ud (q_ud h 126 (3 * m + a) (m_beg p m a)) 127 (3 * m + a) (m_d p m a)) 128 (3 * m + a) v) := fun k j hk => by
        rw [q_ud_n (by omega), q_ud_n (by omega), q_ud_n (by omega)]
      have hs' := c_src_fp hs ht hg (c_fm_fp fm)
      rw [fn85_93, c_put (by omega) (by omega), Option.bind_some, et]
      dsimp only
      rw [c_get hs' (by omega) (by omega) ha, Option.bind_some, q_w32_id (z := (m : Int) + 1) (by omega) (by omega), ← m_s1]
      obtain ⟨h', g1, g2, g3⟩ := ih (m + 1) f _ (by omega) (by omega) hs' (by rw [fm 125 9 (by omega)]; exact hn) (fun j hj => by
        by_cases e : j = m
        · subst e
          refine ⟨?_, ?_, ?_⟩
          · rw [q_ud_n (by omega), q_ud_n (by omega), q_ud_s]
          · rw [q_ud_n (by omega), q_ud_s]
          · rw [q_ud_s, hv]
        · obtain ⟨x1, x2, x3⟩ := hme j (by omega)
          refine ⟨?_, ?_, ?_⟩
          · rw [q_ud_n (by omega), q_ud_n (by omega), q_ud_n (by omega)]; exact x1
          · rw [q_ud_n (by omega), q_ud_n (by omega), q_ud_n (by omega)]; exact x2
          · rw [q_ud_n (by omega), q_ud_n (by omega), q_ud_n (by omega)]; exact x3)
      exact ⟨h', g1, g2, fun k j hk => (g3 k j hk).trans (fm k j hk)⟩
    unfold m_tn at key
    split
    · rename_i e; exact key _ (by rw [if_pos e])
    · rename_i e; exact key _ (by rw [if_neg e])
end -- [66.cplan]
section -- [67.cplan]
/-! Part 67: the class's plan: leads, cruises, gains. -/
def m_mxv (c : Int) : Int := if c = -1 then 2147483647 else c
noncomputable def m_st (p : Nat → Int) (m a : Nat) : Int := if m_d p m a = 0 then 0 else if m_tn p m a = 0 then 0 else p (11 + a)
noncomputable def m_cmp (p : Nat → Int) (m : Nat) : Int := if p 1 = 0 then 0 else m_st p m 0 + m_st p m 1 + m_st p m 2
theorem c_dist {h : q_F} {p : Nat → Int} {m a : Nat} (hd : h 127 (3 * m + a) = m_d p m a) (hm : m < 16) (ha : a < 3) : fn73 m a h = some (m_d p m a) := by
  rw [fn73, q_w32_id (z := (m : Int) * 3) (by omega) (by omega), q_w32_id (z := (m : Int) * 3 + a) (by omega) (by omega), c_ent (by omega) (by omega), Option.bind_some, show ((m : Int) * 3 + a).toNat = 3 * m + a by omega, hd]
theorem c_turns {h : q_F} {p : Nat → Int} {m a : Nat} (hd : h 128 (3 * m + a) = m_tn p m a) (hm : m < 16) (ha : a < 3) : fn100 m a h = some (m_tn p m a) := by
  rw [fn100, q_w32_id (z := (m : Int) * 3) (by omega) (by omega), q_w32_id (z := (m : Int) * 3 + a) (by omega) (by omega), c_ent (by omega) (by omega), Option.bind_some, show ((m : Int) * 3 + a).toNat = 3 * m + a by omega, hd]
  unfold m_tn
  split
  · rw [if_neg (by decide)]
  · rw [if_pos rfl]
theorem c_cf_v {p : Nat → Int} {kk m a : Nat} {c : Int} (h : m_abs (m_d p m a) ≠ 0) (hq : 0 ≤ q_idv (p (kk + a) * m_l p m) (m_abs (m_d p m a)) ∧ q_idv (p (kk + a) * m_l p m) (m_abs (m_d p m a)) ≤ 2147483647) : qx_mn (m_mxv c) (q_idv (p (kk + a) * m_l p m) (m_abs (m_d p m a))) = m_mxv (m_cf p kk m a c) := by
  unfold m_cf m_mxv
  rw [if_neg h]
  by_cases e : c = -1
  · rw [if_pos e, if_pos e, if_neg (by omega)]
    unfold qx_mn; split <;> omega
  · rw [if_neg e, if_neg e]
    unfold qx_mn
    split
    · first | rfl | rw [if_neg e]
    · rw [if_neg (by omega)]
theorem m_q_r {p : Nat → Int} {kk m a : Nat} (ok : m_ok p) (hm : m < 16) (ha : a < 3) (h1 : 1 ≤ p (kk + a)) (h2 : p (kk + a) ≤ 5000) (h : m_abs (m_d p m a) ≠ 0) : 0 ≤ q_idv (p (kk + a) * m_l p m) (m_abs (m_d p m a)) ∧ q_idv (p (kk + a) * m_l p m) (m_abs (m_d p m a)) ≤ 2147483647 := by
  have hl := m_l_r ok hm
  have h0 := m_abs_0 (m_d p m a)
  have hr := m_abs_r (m_d_r ok hm ha)
  have hp := m_mulr (x := p (kk + a)) (l := m_l p m) (a := 5000) (b := 2000) (by omega) h2 hl.1 hl.2.1
  rw [m_idv hp.1 (by omega) (by omega) (by omega)]
  have g0 : 0 ≤ p (kk + a) * m_l p m / m_abs (m_d p m a) := Int.ediv_nonneg hp.1 (by omega)
  have g1 : p (kk + a) * m_l p m / m_abs (m_d p m a) ≤ p (kk + a) * m_l p m := Int.ediv_le_self _ hp.1
  omega
theorem c_rate46s {o m a n t g : Nat} {p : Nat → Int} {c c' s : Int} {h : q_F} (ho : o = t) (hs : c_src h t g p) (ok : m_ok p) (hm : m < 16) (ha : a < 3) (hd : h 127 (3 * m + a) = m_d p m a) (ht : h 128 (3 * m + a) = m_tn p m a) (hs0 : 0 ≤ s ∧ s ≤ 1000) :
    fn89_46 o (n + 1) m (m_l p m) (m_mxv c) (m_mxv c') s a h = fn89_46 o n m (m_l p m) (m_mxv (m_cf p 14 m a c)) (m_mxv (m_cf p 17 m a c')) (s + m_st p m a) ((a + 1 : Nat) : Int) h := by
  subst ho
  have hr := m_d_r ok hm ha
  have h0 := m_abs_0 (m_d p m a)
  have hok := ok.2.2.1 a ha
  have hl := m_l_r ok hm
  obtain ⟨-, -, s2, s3, s1⟩ := hs.1 a ha
  rw [fn89_46, if_neg (by omega), c_dist hd hm ha, Option.bind_some, c_abs (by omega) (by omega)]
  by_cases hz : m_abs (m_d p m a) = 0
  · have hz' := m_abs_z.mp hz
    rw [if_pos (by omega), fn89_139, q_w32_id (by omega) (by omega), m_s1]
    have e1 : ∀ kk c, m_cf p kk m a c = c := fun kk c => by unfold m_cf; rw [if_pos hz]
    rw [e1, e1]
    unfold m_st; rw [if_pos hz', Int.add_zero]
  · have hz' : m_d p m a ≠ 0 := fun h9 => hz (m_abs_z.mpr h9)
    have hp1 := m_mulr (x := p (14 + a)) (a := 5000) (b := 2000) (by omega) (by omega) hl.1 hl.2.1
    have hp2 := m_mulr (x := p (17 + a)) (a := 500) (b := 2000) (by omega) (by omega) hl.1 hl.2.1
    rw [if_neg (by omega), q_axn_e ha, s2, s3, q_w32_id (z := p (14 + a) * m_l p m) (by omega) (by omega), q_w32_id (z := p (17 + a) * m_l p m) (by omega) (by omega), c_quo hz, Option.bind_some, c_quo hz, Option.bind_some, c_turns ht hm ha, Option.bind_some, c_cf_v hz (m_q_r ok hm ha (by omega) (by omega) hz), c_cf_v hz (m_q_r ok hm ha (by omega) (by omega) hz)]
    unfold m_st
    rw [if_neg hz']
    split
    · rw [fn89_136, fn89_139, q_w32_id (z := (a : Int) + 1) (by omega) (by omega), m_s1, q_w32_id (by omega) (by omega)]
    · rw [s1, fn89_136, fn89_139, q_w32_id (z := (a : Int) + 1) (by omega) (by omega), m_s1, q_w32_id (by omega) (by omega)]
theorem m_st_r {p : Nat → Int} (ok : m_ok p) {m a : Nat} (ha : a < 3) : 0 ≤ m_st p m a ∧ m_st p m a ≤ 20 := by
  have := ok.2.2.1 a ha
  unfold m_st; (repeat' split) <;> omega
/-- behind the rating of the first n moves -/
def c_ra (h : q_F) (p : Nat → Int) (n : Nat) : Prop := ∀ m, m < n → h 129 m = m_l p m ∧ h 130 m = m_c p 14 m ∧ h 131 m = m_c p 17 m ∧ h 133 m = m_cmp p m
theorem c_rate {t g m : Nat} {p : Nat → Int} {h : q_F} (hs : c_src h t g p) (ht : t + 6 < 125) (ok : m_ok p) (hm : m < 16) (hv : m_mv p m) (hd : ∀ a, a < 3 → h 127 (3 * m + a) = m_d p m a ∧ h 128 (3 * m + a) = m_tn p m a) :
    fn89 t m h = some (0, q_ud (q_ud (q_ud (q_ud h 129 m (m_l p m)) 130 m (m_c p 14 m)) 131 m (m_c p 17 m)) 133 m (m_cmp p m)) := by
  obtain ⟨n, e⟩ := m_fu3
  have r0 := m_d_r ok hm (show 0 < 3 by omega)
  have r1 := m_d_r ok hm (show 1 < 3 by omega)
  have r2 := m_d_r ok hm (show 2 < 3 by omega)
  have s0 := m_st_r (m := m) ok (show 0 < 3 by omega)
  have s1 := m_st_r (m := m) ok (show 1 < 3 by omega)
  have s2 := m_st_r (m := m) ok (show 2 < 3 by omega)
  have s1' : 0 ≤ m_st p m (0 + 1) ∧ m_st p m (0 + 1) ≤ 20 := s1
  have a5 : ∀ f l (a : Nat), a < 3 → fn89_5 t (f + 1) m l a h = fn89_5 t f m (qx_mx l (m_abs (m_d p m a))) ((a + 1 : Nat) : Int) h := fun f l a ha => by
    have r := m_d_r ok hm ha
    rw [fn89_5, if_neg (by omega), c_dist (hd a ha).1 hm ha, Option.bind_some, c_abs (by omega) (by omega), q_w32_id (by omega) (by omega), m_s1]
  have b5 : fn89_5 t q_fu m 0 ((0 : Nat) : Int) h = fn89_46 t q_fu m (m_l p m) (m_mxv (-1)) (m_mxv (-1)) 0 ((0 : Nat) : Int) h := by
    rw [e, a5 _ _ 0 (by omega), a5 _ _ 1 (by omega), a5 _ _ 2 (by omega), fn89_5, if_pos (by decide), ← e]
    rfl
  rw [fn89]
  refine b5.trans ?_
  rw [e, c_rate46s rfl hs ok hm (show 0 < 3 by omega) (hd 0 (by omega)).1 (hd 0 (by omega)).2 (by omega), c_rate46s rfl hs ok hm (show 0 + 1 < 3 by omega) (hd 1 (by omega)).1 (hd 1 (by omega)).2 (by omega), c_rate46s rfl hs ok hm (show 0 + 1 + 1 < 3 by omega) (hd 2 (by omega)).1 (hd 2 (by omega)).2 (by omega)]
  have ec : m_mxv (m_cf p 14 m (0 + 1 + 1) (m_cf p 14 m (0 + 1) (m_cf p 14 m 0 (-1)))) = m_c p 14 m := by
    have := m_cru_r ok hm hv
    show m_mxv (m_c p 14 m) = _
    unfold m_mxv; rw [if_neg (by omega)]
  have eg : m_mxv (m_cf p 17 m (0 + 1 + 1) (m_cf p 17 m (0 + 1) (m_cf p 17 m 0 (-1)))) = m_c p 17 m := by
    have := m_gain_r ok hm hv
    show m_mxv (m_c p 17 m) = _
    unfold m_mxv; rw [if_neg (by omega)]
  rw [ec, eg, fn89_46, if_pos (by omega), c_put (by omega) (by omega), Option.bind_some]
  dsimp only
  rw [c_put (by omega) (by omega), Option.bind_some]
  dsimp only
  rw [c_put (by omega) (by omega), Option.bind_some]
  dsimp only
  rw [Int.toNat_natCast]
  have e5 : q_ud (q_ud (q_ud h 129 m (m_l p m)) 130 m (m_c p 14 m)) 131 m (m_c p 17 m) t 5 = p 1 := by
    rw [q_ud_n (by omega), q_ud_n (by omega), q_ud_n (by omega)]; exact hs.2.1
  unfold m_cmp
  by_cases h1 : p 1 = 0
  · rw [if_pos (e5.trans h1), if_pos h1, fn89_192, c_put (by omega) (by omega), Option.bind_some, Int.toNat_natCast]
  · rw [if_neg (fun h9 => h1 (e5.symm.trans h9)), if_neg h1, fn89_192, c_put (by omega) (by omega), Option.bind_some, Int.toNat_natCast, Int.zero_add]
theorem c_rate_s {h : q_F} {p : Nat → Int} {m : Nat} (hr : c_ra h p m) : c_ra (q_ud (q_ud (q_ud (q_ud h 129 m (m_l p m)) 130 m (m_c p 14 m)) 131 m (m_c p 17 m)) 133 m (m_cmp p m)) p (m + 1) := by
  intro j hj
  by_cases e : j = m
  · subst e
    refine ⟨?_, ?_, ?_, ?_⟩
    · rw [q_ud_n (by omega), q_ud_n (by omega), q_ud_n (by omega), q_ud_s]
    · rw [q_ud_n (by omega), q_ud_n (by omega), q_ud_s]
    · rw [q_ud_n (by omega), q_ud_s]
    · rw [q_ud_s]
  · obtain ⟨h1, h2, h3, h4⟩ := hr j (by omega)
    refine ⟨?_, ?_, ?_, ?_⟩ <;> (rw [q_ud_n (by omega), q_ud_n (by omega), q_ud_n (by omega), q_ud_n (by omega)]; assumption)
end -- [67.cplan]
section -- [68.cplan]
/-! Part 68: the class's plan: straight moves, links, the passes. -/
theorem m_mn_c (a b : Int) : qx_mn a b = qx_mn b a := by unfold qx_mn; (repeat' split) <;> omega
/-- distances of all axes, leads -/
def c_dl (h : q_F) (p : Nat → Int) : Prop := (∀ a, a < 3 → c_me h p a (p 4).toNat) ∧ c_ra h p (p 4).toNat
theorem c_lead {h : q_F} {p : Nat → Int} {m : Nat} (hr : h 129 m = m_l p m) (hm : m < 16) : fn79 m h = some (m_l p m) := by
  rw [fn79, c_ent (by omega) (by omega), Option.bind_some, Int.toNat_natCast, hr]
theorem c_str0 {h : q_F} : ∀ (d a f : Nat) (m : Int), a + d = 3 → d < f → fn74_18 h f m 0 a = some 0 := by
  intro d
  induction d with
  | zero =>
    intro a f m ha hf
    obtain ⟨f, rfl⟩ : ∃ f', f = f' + 1 := ⟨f - 1, by omega⟩
    rw [fn74_18, if_pos (by omega)]
  | succ d ih =>
    intro a f m ha hf
    obtain ⟨f, rfl⟩ : ∃ f', f = f' + 1 := ⟨f - 1, by omega⟩
    rw [fn74_18, if_neg (by omega), if_pos rfl, fn74_62, fn74_63, q_w32_id (by omega) (by omega), ← m_s1]
    exact ih (a + 1) f m (by omega) (by omega)
theorem c_str1 {h : q_F} {p : Nat → Int} {m a f : Nat} (ok : m_ok p) (hc : c_dl h p) (hm : (m : Int) + 1 < p 4) (ha : a < 3) (hf : 4 ≤ f) : fn74_18 h (f + 1) m 1 a = if m_d p m a * m_l p (m + 1) = m_d p (m + 1) a * m_l p m then fn74_18 h f m 1 ((a + 1 : Nat) : Int) else some 0 := by
  have h16 := ok.2.1
  have d1 := m_d_r ok (m := m) (by omega) ha
  have d2 := m_d_r ok (m := m + 1) (by omega) ha
  have l1 := m_l_r ok (m := m) (by omega)
  have l2 := m_l_r ok (m := m + 1) (by omega)
  have p1 := m_mul2 (a := 2000) (b := 2000) d1.1 d1.2 l2.1 l2.2.1 (by omega)
  have p2 := m_mul2 (a := 2000) (b := 2000) d2.1 d2.2 l1.1 l1.2.1 (by omega)
  rw [fn74_18, if_neg (by omega), if_neg (by decide), c_dist (hc.1 a ha m (by omega)).2.1 (by omega) ha, Option.bind_some, q_w32_id (z := (m : Int) + 1) (by omega) (by omega), ← m_s1, c_lead (hc.2 (m + 1) (by omega)).1 (by omega), Option.bind_some, c_dist (hc.1 a ha (m + 1) (by omega)).2.1 (by omega) ha, Option.bind_some, c_lead (hc.2 m (by omega)).1 (by omega), Option.bind_some, q_w32_id (by omega) (by omega), q_w32_id (by omega) (by omega)]
  split
  · rw [fn74_63, q_w32_id (by omega) (by omega), m_s1]
  · rw [fn74_62, fn74_63, q_w32_id (by omega) (by omega), ← m_s1]
    exact c_str0 (3 - (a + 1)) (a + 1) f m (by omega) (by omega)
theorem c_straight {h : q_F} {p : Nat → Int} {m : Nat} (ok : m_ok p) (hc : c_dl h p) (hn : h 125 9 = p 4) (hm : (m : Int) < p 4) : fn74 m h = some (m_str p m) := by
  have h16 := ok.2.1
  obtain ⟨n, hn5⟩ : ∃ n, q_fu = n + 4 + 1 + 1 + 1 := ⟨q_fu - 7, by have := q_fu_ge; omega⟩
  rw [fn74, hn, q_w32_id (by omega) (by omega)]
  unfold m_str
  by_cases hlt : (m : Int) + 1 < p 4
  · rw [if_neg (by omega), if_pos hlt, fn74_15]
    have e0 := c_str1 (f := n + 4 + 1 + 1) (a := 0) ok hc hlt (by omega) (by omega)
    rw [c_str1 (f := n + 4 + 1) (a := 0 + 1) ok hc hlt (by omega) (by omega), c_str1 (f := n + 4) (a := 0 + 1 + 1) ok hc hlt (by omega) (by omega)] at e0
    have e3 : fn74_18 h (n + 4) m 1 ((0 + 1 + 1 + 1 : Nat) : Int) = some 1 := by rw [fn74_18, if_pos (by decide)]
    rw [e3] at e0
    rw [hn5]
    refine e0.trans ?_
    clear e0 e3
    (repeat' split) <;> simp_all
  · rw [if_pos (by omega), if_neg hlt, fn74_15]
    exact c_str0 3 0 q_fu m (by omega) (by have := q_fu_ge; omega)
/-- behind the links of the first n moves -/
def c_li (h : q_F) (p : Nat → Int) (n : Nat) : Prop := (0 < p 4 → h 134 0 = m_b0 p 0) ∧ ∀ m, m < n → h 132 m = m_str p m ∧ h 134 (m + 1) = m_b0 p (m + 1)
theorem m_str_01 (p : Nat → Int) (m : Nat) : m_str p m = 0 ∨ m_str p m = 1 := by
  unfold m_str; (repeat' split) <;> simp
theorem c_dl_u {h : q_F} {p : Nat → Int} {k j : Nat} {v : Int} (hc : c_dl h p) (hk : k = 132 ∨ k = 134 ∨ k = 125) : c_dl (q_ud h k j v) p := by
  refine ⟨fun a ha m hm => ?_, fun m hm => ?_⟩
  · obtain ⟨h1, h2, h3⟩ := hc.1 a ha m hm
    refine ⟨?_, ?_, ?_⟩ <;> (rw [q_ud_n (by omega)]; assumption)
  · obtain ⟨h1, h2, h3, h4⟩ := hc.2 m hm
    refine ⟨?_, ?_, ?_, ?_⟩ <;> (rw [q_ud_n (by omega)]; assumption)
theorem c_link {h : q_F} {p : Nat → Int} {m : Nat} (ok : m_ok p) (hc : c_dl h p) (hn : h 125 9 = p 4) (hst : h 125 10 = p 0) (hm : (m : Int) < p 4) : fn82 m h = some (0, q_ud (q_ud h 132 m (m_str p m)) 134 (m + 1) (m_b0 p (m + 1))) := by
  have h16 := ok.2.1
  have key : ∀ u3, (if m_str p m = 0 then qx_mn u3 (p 0) else u3) = m_b0 p (m + 1) → fn82_40 m (m_str p m) u3 h = some (0, q_ud (q_ud h 132 m (m_str p m)) 134 (m + 1) (m_b0 p (m + 1))) := by
    intro u3 hu
    rw [← hu, fn82_40]
    rcases m_str_01 p m with e | e
    · rw [e, if_pos rfl, if_pos rfl, fn82_54, c_put (by omega) (by omega), Option.bind_some]
      dsimp only
      rw [if_pos rfl, q_ud_n (by omega), hst, fn82_80, q_w32_id (by omega) (by omega), c_put (by omega) (by omega), Option.bind_some, m_tn1, Int.toNat_natCast]
    · rw [e, if_neg (by decide), if_neg (by decide), fn82_54, c_put (by omega) (by omega), Option.bind_some]
      dsimp only
      rw [if_neg (by decide), fn82_80, q_w32_id (by omega) (by omega), c_put (by omega) (by omega), Option.bind_some, m_tn1, Int.toNat_natCast]
  rw [fn82, c_straight ok hc hn hm, Option.bind_some, c_ent (by omega) (by omega), Option.bind_some, hn, q_w32_id (by omega) (by omega), Int.toNat_natCast, (hc.2 m (by omega)).2.1]
  by_cases hlt : (m : Int) + 1 < p 4
  · rw [if_neg (by omega), c_ent (by omega) (by omega), Option.bind_some, m_tn1, (hc.2 (m + 1) (by omega)).2.1]
    have eb : m_b0 p (m + 1) = if m_str p m = 0 then qx_mn (p 0) (qx_mn (m_c p 14 m) (m_c p 14 (m + 1))) else qx_mn (m_c p 14 m) (m_c p 14 (m + 1)) := by
      unfold m_b0
      rw [if_neg (show ¬ m + 1 = 0 by omega), if_neg (show ¬ ((m + 1 : Nat) : Int) = p 4 by omega), Nat.add_sub_cancel]
    apply key
    rw [eb]
    split
    · exact m_mn_c _ _
    · rfl
  · rw [if_pos (by omega)]
    have e0 : m_str p m = 0 := by unfold m_str; rw [if_neg hlt]
    have eb : m_b0 p (m + 1) = qx_mn (p 0) (m_c p 14 m) := by
      unfold m_b0
      rw [if_neg (show ¬ m + 1 = 0 by omega), if_pos (show ((m + 1 : Nat) : Int) = p 4 by omega), Nat.add_sub_cancel]
    apply key
    rw [eb, if_pos e0]
    exact m_mn_c _ _
theorem c_links {p : Nat → Int} {t g : Nat} (ok : m_ok p) : ∀ (d m f : Nat) (h : q_F), m + d = (p 4).toNat → d < f → c_dl h p → h 125 9 = p 4 → h 125 10 = p 0 → c_li h p m → ∃ h', fn84_92 t g f m h = (fn91 h').bind (fun x8 => some ((0 : Int), x8.2)) ∧ c_dl h' p ∧ h' 125 9 = p 4 ∧ h' 125 10 = p 0 ∧ c_li h' p (p 4).toNat ∧ c_fp h h' := by
  have h16 := ok.2.1
  intro d
  induction d with
  | zero =>
    intro m f h hm hf hc hn hst hl
    obtain ⟨f, rfl⟩ : ∃ f', f = f' + 1 := ⟨f - 1, by omega⟩
    exact ⟨h, by rw [fn84_92, if_pos (by omega)], hc, hn, hst, by rw [show (p 4).toNat = m by omega]; exact hl, c_fp_r⟩
  | succ d ih =>
    intro m f h hm hf hc hn hst hl
    obtain ⟨f, rfl⟩ : ∃ f', f = f' + 1 := ⟨f - 1, by omega⟩
    obtain ⟨h', g1, g2, g3, g4, g5, g6⟩ := ih (m + 1) f (q_ud (q_ud h 132 m (m_str p m)) 134 (m + 1) (m_b0 p (m + 1))) (by omega) (by omega) (c_dl_u (c_dl_u hc (by omega)) (by omega)) (by rw [q_ud_n (by omega), q_ud_n (by omega)]; exact hn) (by rw [q_ud_n (by omega), q_ud_n (by omega)]; exact hst) (by
      refine ⟨fun h0 => by rw [q_ud_n (by omega), q_ud_n (by omega)]; exact hl.1 h0, fun j hj => ?_⟩
      by_cases e : j = m
      · subst e
        exact ⟨by rw [q_ud_n (by omega), q_ud_s], by rw [q_ud_s]⟩
      · obtain ⟨x1, x2⟩ := hl.2 j (by omega)
        exact ⟨by rw [q_ud_n (by omega), q_ud_n (by omega)]; exact x1, by rw [q_ud_n (by omega), q_ud_n (by omega)]; exact x2⟩)
    refine ⟨h', ?_, g2, g3, g4, g5, c_fp_t (c_fp_u (c_fp_u c_fp_r (by omega)) (by omega)) g6⟩
    rw [fn84_92, if_neg (by omega), c_link ok hc hn hst (by omega), Option.bind_some]
    dsimp only
    rw [q_w32_id (by omega) (by omega), ← m_s1, g1]
/-- only the row of speeds has changed -/
def c_fs (h h' : q_F) : Prop := ∀ k, k ≠ 134 → h' k = h k
theorem c_reach {h : q_F} {p : Nat → Int} {m : Nat} (ok : m_ok p) (nn : m_nn p) (hr : c_ra h p (p 4).toNat) (hm : (m : Int) < p 4) : fn90 m h = some (m_c p 17 m * m_l p m) := by
  have h16 := ok.2.1
  obtain ⟨h1, h2, h3, h4⟩ := hr m (by omega)
  have r := m_reach_r ok nn hm
  rw [fn90, c_ent (by omega) (by omega), Option.bind_some, c_ent (by omega) (by omega), Option.bind_some, Int.toNat_natCast, h1, h3, q_w32_id (by omega) (by omega)]
theorem c_ra_fs {h h' : q_F} {p : Nat → Int} {n : Nat} (hr : c_ra h p n) (f : c_fs h h') : c_ra h' p n := fun m hm => by
  rw [f 129 (by omega), f 130 (by omega), f 131 (by omega), f 133 (by omega)]; exact hr m hm
theorem c_smooth48 {p : Nat → Int} (ok : m_ok p) (nn : m_nn p) (h0 : 0 < p 4) : ∀ (d m f : Nat) (h : q_F), m + d = (p 4).toNat → d < f → c_ra h p (p 4).toNat → h 125 9 = p 4 → (∀ j, j ≤ m → h 134 j = m_b p j) → (∀ j, m < j → j ≤ (p 4).toNat → h 134 j = m_b1 p j) → ∃ h', fn91_48 f m h = some (0, h') ∧ (∀ j, j ≤ (p 4).toNat → h' 134 j = m_b p j) ∧ c_fs h h' := by
  have h16 := ok.2.1
  intro d
  induction d with
  | zero =>
    intro m f h hm hf hr hn h1 h2
    obtain ⟨f, rfl⟩ : ∃ f', f = f' + 1 := ⟨f - 1, by omega⟩
    exact ⟨h, by rw [fn91_48, if_pos (by omega)], fun j hj => h1 j (by omega), fun _ _ => rfl⟩
  | succ d ih =>
    intro m f h hm hf hr hn h1 h2
    obtain ⟨f, rfl⟩ : ∃ f', f = f' + 1 := ⟨f - 1, by omega⟩
    have r := m_reach_r ok nn (m := m) (by omega)
    have b := m_b_r ok nn h0 m (by omega)
    have fs : c_fs h (q_ud h 134 (m + 1) (m_b p (m + 1))) := fun k hk => by funext j; rw [q_ud_n (by omega)]
    obtain ⟨h', g1, g2, g3⟩ := ih (m + 1) f _ (by omega) (by omega) (c_ra_fs hr fs) (by rw [fs 125 (by omega)]; exact hn) (by
      intro j hj
      by_cases e : j = m + 1
      · subst e; rw [q_ud_s]
      · rw [q_ud_n (by omega)]; exact h1 j (by omega)) (by
      intro j hj hj2; rw [q_ud_n (by omega)]; exact h2 j (by omega) hj2)
    refine ⟨h', ?_, g2, fun k hk => (g3 k hk).trans (fs k hk)⟩
    rw [fn91_48, if_neg (by omega), fn92, c_ent (by omega) (by omega), Option.bind_some, Option.bind_some, c_reach ok nn hr (by omega), Option.bind_some, fn94, q_w32_id (z := (m : Int) + 1) (by omega) (by omega), c_ent (by omega) (by omega), Option.bind_some, Option.bind_some, c_put (by omega) (by omega), Option.bind_some]
    dsimp only
    rw [m_tn1, Int.toNat_natCast, h1 m (by omega), h2 (m + 1) (by omega) (by omega), q_w32_id (by omega) (by omega), ← m_s1]
    exact g1
theorem c_smooth7 {p : Nat → Int} (ok : m_ok p) (nn : m_nn p) (h0 : 0 < p 4) : ∀ (m f : Nat) (h : q_F), m ≤ (p 4).toNat → m < f → c_ra h p (p 4).toNat → h 125 9 = p 4 → (∀ j, j < m → h 134 j = m_b0 p j) → (∀ j, m ≤ j → j ≤ (p 4).toNat → h 134 j = m_b1 p j) → ∃ h', fn91_7 f ((m : Int) - 1) h = some (0, h') ∧ (∀ j, j ≤ (p 4).toNat → h' 134 j = m_b p j) ∧ c_fs h h' := by
  have h16 := ok.2.1
  intro m
  induction m with
  | zero =>
    intro f h hm hf hr hn h1 h2
    obtain ⟨f, rfl⟩ : ∃ f', f = f' + 1 := ⟨f - 1, by omega⟩
    rw [fn91_7, if_pos (by omega)]
    exact c_smooth48 ok nn h0 (p 4).toNat 0 q_fu h (by omega) (by have := q_fu_ge; omega) hr hn (by
      intro j hj
      have e : j = 0 := by omega
      subst e
      exact h2 0 (by omega) (by omega)) (fun j hj hj2 => h2 j (by omega) hj2)
  | succ m ih =>
    intro f h hm hf hr hn h1 h2
    obtain ⟨f, rfl⟩ : ∃ f', f = f' + 1 := ⟨f - 1, by omega⟩
    have r := m_reach_r ok nn (m := m) (by omega)
    have b := m_b1_r ok nn (m := m + 1) (by omega) h0
    have fs : c_fs h (q_ud h 134 m (m_b1 p m)) := fun k hk => by funext j; rw [q_ud_n (by omega)]
    obtain ⟨h', g1, g2, g3⟩ := ih f _ (by omega) (by omega) (c_ra_fs hr fs) (by rw [fs 125 (by omega)]; exact hn) (by
      intro j hj; rw [q_ud_n (by omega)]; exact h1 j (by omega)) (by
      intro j hj hj2
      by_cases e : j = m
      · subst e; rw [q_ud_s]
      · rw [q_ud_n (by omega)]; exact h2 j (by omega) hj2)
    refine ⟨h', ?_, g2, fun k hk => (g3 k hk).trans (fs k hk)⟩
    rw [show ((m + 1 : Nat) : Int) - 1 = (m : Int) by omega]
    rw [fn91_7, if_neg (by omega), fn94, q_w32_id (z := (m : Int) + 1) (by omega) (by omega), c_ent (by omega) (by omega), Option.bind_some, Option.bind_some, c_reach ok nn hr (by omega), Option.bind_some, fn92, c_ent (by omega) (by omega), Option.bind_some, Option.bind_some, c_put (by omega) (by omega), Option.bind_some]
    dsimp only
    rw [m_tn1, Int.toNat_natCast, h1 m (by omega), h2 (m + 1) (by omega) (by omega), q_w32_id (z := m_b1 p (m + 1) + m_c p 17 m * m_l p m) (by omega) (by omega), ← m_b1_s (w := p) (j := m) (by omega) (by omega), q_w32_id (by omega) (by omega), show (m : Int) + -1 = (m : Int) - 1 by omega]
    exact g1
end -- [68.cplan]
section -- [69.cplan]
/-! Part 69: the class's plan, whole. -/
def c_Plan (h : q_F) (p : Nat → Int) : Prop := c_dl h p ∧ (∀ m, m < (p 4).toNat → h 132 m = m_str p m) ∧ (∀ m, m ≤ (p 4).toNat → 0 < p 4 → h 134 m = m_b p m) ∧ h 125 9 = p 4 ∧ h 125 10 = p 0
theorem c_me_fm {h h' : q_F} {p : Nat → Int} {a b n : Nat} (hm : c_me h p b n) (f : c_fm a h h') (hab : a ≠ b) (ha : a < 3) (hb : b < 3) : c_me h' p b n := fun m hmn => by
  rw [f 126 _ (by omega), f 127 _ (by omega), f 128 _ (by omega)]; exact hm m hmn
theorem c_rates {p : Nat → Int} {t g : Nat} (ht : t + 6 < 125) (hg : g + 1 < 125 ∨ 134 < g) (ok : m_ok p) (nn : m_nn p) : ∀ (d m f : Nat) (h : q_F), m + d = (p 4).toNat → d < f → c_src h t g p → (∀ a, a < 3 → c_me h p a (p 4).toNat) → h 125 9 = p 4 → h 125 10 = p 0 → c_ra h p m → ∃ h', fn84_44 t g f m h = (fn175 130 16 (0 : Int) h').bind (fun x5 => (fn174 134 17 (0 : Int) (qx_mn (h' 125 10) x5) h').bind fun x6 => fn84_92 t g q_fu (0 : Int) x6.2) ∧ c_dl h' p ∧ h' 125 9 = p 4 ∧ h' 125 10 = p 0 ∧ c_fp h h' := by
  have h16 := ok.2.1
  intro d
  induction d with
  | zero =>
    intro m f h hm hf hs hme hn hst hr
    obtain ⟨f, rfl⟩ : ∃ f', f = f' + 1 := ⟨f - 1, by omega⟩
    exact ⟨h, by rw [fn84_44, if_pos (by omega)], ⟨hme, by rw [show (p 4).toNat = m by omega]; exact hr⟩, hn, hst, c_fp_r⟩
  | succ d ih =>
    intro m f h hm hf hs hme hn hst hr
    obtain ⟨f, rfl⟩ : ∃ f', f = f' + 1 := ⟨f - 1, by omega⟩
    have e := c_rate (m := m) hs ht ok (by omega) (nn m (by omega)) (fun a ha => ⟨(hme a ha m (by omega)).2.1, (hme a ha m (by omega)).2.2⟩)
    have fp : c_fp h (q_ud (q_ud (q_ud (q_ud h 129 m (m_l p m)) 130 m (m_c p 14 m)) 131 m (m_c p 17 m)) 133 m (m_cmp p m)) := c_fp_u (c_fp_u (c_fp_u (c_fp_u c_fp_r (by omega)) (by omega)) (by omega)) (by omega)
    obtain ⟨h', g1, g2, g3, g4, g5⟩ := ih (m + 1) f _ (by omega) (by omega) (c_src_fp hs ht hg fp) (fun a ha j hj => by
      obtain ⟨x1, x2, x3⟩ := hme a ha j hj
      refine ⟨?_, ?_, ?_⟩ <;> (rw [q_ud_n (by omega), q_ud_n (by omega), q_ud_n (by omega), q_ud_n (by omega)]; assumption)) (by rw [q_ud_n (by omega), q_ud_n (by omega), q_ud_n (by omega), q_ud_n (by omega)]; exact hn) (by rw [q_ud_n (by omega), q_ud_n (by omega), q_ud_n (by omega), q_ud_n (by omega)]; exact hst) (c_rate_s hr)
    refine ⟨h', ?_, g2, g3, g4, c_fp_t fp g5⟩
    rw [fn84_44, if_neg (by omega), e, Option.bind_some]
    dsimp only
    rw [q_w32_id (by omega) (by omega), ← m_s1, g1]
theorem c_make {p : Nat → Int} {t g : Nat} {h : q_F} (ht : t + 6 < 125) (hg : g + 1 < 125 ∨ 134 < g) (ok : m_ok p) (nn : m_nn p) (hs : c_src h t g p) : ∃ h', fn84 t g (p 0) h = some (0, h') ∧ c_Plan h' p ∧ c_fp h h' := by
  have h16 := ok.2.1
  obtain ⟨n, e⟩ := m_fu3
  have fp2 : c_fp h (q_ud (q_ud h 125 9 (p 4)) 125 10 (p 0)) := c_fp_u (c_fp_u c_fp_r (by omega)) (by omega)
  -- the axes
  have ax : ∀ (a : Nat) (h1 : q_F), a < 3 → c_src h1 t g p → h1 125 9 = p 4 → ∃ h2, fn85 (q_axn t a) g a h1 = some (0, h2) ∧ c_me h2 p a (p 4).toNat ∧ c_fm a h1 h2 := by
    intro a h1 ha hs1 hn1
    obtain ⟨s12, s8, -⟩ := hs1.1 a ha
    rw [fn85, q_axn_e ha, s12, s8]
    have b0 : p (47 + a) = m_beg p 0 a := by unfold m_beg; rw [if_pos rfl]
    rw [b0]
    exact c_meas hg ht ok ha _ (p 4).toNat 0 q_fu h1 (by omega) (by have := q_fu_ge; omega) hs1 hn1 (fun m hm => absurd hm (by omega))
  have hs2 := c_src_fp hs ht hg fp2
  obtain ⟨h3, a1, a2, a3⟩ := ax 0 _ (by omega) hs2 (by rw [q_ud_n (by omega), q_ud_s])
  have n3 : h3 125 9 = p 4 := by rw [a3 125 9 (by omega), q_ud_n (by omega), q_ud_s]
  have t3 : h3 125 10 = p 0 := by rw [a3 125 10 (by omega), q_ud_s]
  obtain ⟨h4, b1, b2, b3⟩ := ax 1 h3 (by omega) (c_src_fp hs2 ht hg (c_fm_fp a3)) n3
  have n4 : h4 125 9 = p 4 := by rw [b3 125 9 (by omega)]; exact n3
  have t4 : h4 125 10 = p 0 := by rw [b3 125 10 (by omega)]; exact t3
  obtain ⟨h5, c1, c2, c3⟩ := ax 2 h4 (by omega) (c_src_fp (c_src_fp hs2 ht hg (c_fm_fp a3)) ht hg (c_fm_fp b3)) n4
  have n5 : h5 125 9 = p 4 := by rw [c3 125 9 (by omega)]; exact n4
  have t5 : h5 125 10 = p 0 := by rw [c3 125 10 (by omega)]; exact t4
  have fp5 : c_fp h h5 := c_fp_t fp2 (c_fp_t (c_fm_fp a3) (c_fp_t (c_fm_fp b3) (c_fm_fp c3)))
  have me : ∀ a, a < 3 → c_me h5 p a (p 4).toNat := fun a ha => by
    rcases m_c3 ha with rfl | rfl | rfl
    · exact c_me_fm (c_me_fm a2 b3 (by omega) (by omega) (by omega)) c3 (by omega) (by omega) (by omega)
    · exact c_me_fm b2 c3 (by omega) (by omega) (by omega)
    · exact c2
  obtain ⟨h6, d1, d2, d3, d4, d5⟩ := c_rates ht hg ok nn (p 4).toNat 0 q_fu h5 (by omega) (by have := q_fu_ge; omega) (c_src_fp hs ht hg fp5) me n5 t5 (fun m hm => absurd hm (by omega))
  have e16 : fn84 t g (p 0) h = fn84_44 t g q_fu ((0 : Nat) : Int) h5 := by
    rw [fn84, m_let, m_let, hs.2.2.1, e]
    show fn84_16 t g (n + 1 + 1 + 1 + 1) ((0 : Nat) : Int) _ = _
    rw [fn84_16, if_neg (by decide), a1, Option.bind_some]
    dsimp only
    show fn84_16 t g (n + 1 + 1 + 1) ((1 : Nat) : Int) _ = _
    rw [fn84_16, if_neg (by decide), b1, Option.bind_some]
    dsimp only
    show fn84_16 t g (n + 1 + 1) ((2 : Nat) : Int) _ = _
    rw [fn84_16, if_neg (by decide), c1, Option.bind_some]
    dsimp only
    show fn84_16 t g (n + 1) ((3 : Nat) : Int) _ = _
    rw [fn84_16, if_pos (by decide), ← e]
    rfl
  rw [e16, d1, c_ent (by omega) (by omega), Option.bind_some, c_put (by omega) (by omega), Option.bind_some]
  dsimp only
  obtain ⟨h8, l1, l2, l3, l4, l5, l6⟩ := c_links (t := t) (g := g) ok (p 4).toNat 0 q_fu (q_ud h6 134 (0 : Int).toNat (qx_mn (h6 125 10) (h6 130 (0 : Int).toNat))) (by omega) (by have := q_fu_ge; omega) (c_dl_u d2 (by omega)) (by rw [q_ud_n (by omega)]; exact d3) (by rw [q_ud_n (by omega)]; exact d4) ⟨fun h0 => by
    show q_ud h6 134 0 _ 134 0 = _
    rw [q_ud_s, d4]
    have := (d2.2 0 (by omega)).2.1
    show qx_mn (p 0) (h6 130 0) = _
    rw [this]; unfold m_b0; rw [if_pos rfl], fun m hm => absurd hm (by omega)⟩
  have fp8 : c_fp h h8 := c_fp_t (c_fp_t fp5 d5) (c_fp_t (c_fp_u c_fp_r (by omega)) l6)
  have fin : ∃ h9, fn91 h8 = some (0, h9) ∧ (∀ j, j ≤ (p 4).toNat → 0 < p 4 → h9 134 j = m_b p j) ∧ c_fs h8 h9 := by
    rw [fn91, l3, q_w32_id (by omega) (by omega)]
    by_cases h0 : 0 < p 4
    · obtain ⟨h9, k1, k2, k3⟩ := c_smooth7 ok nn h0 (p 4).toNat q_fu h8 (by omega) (by have := q_fu_ge; omega) l2.2 l3 (fun j hj => by
        by_cases e : j = 0
        · subst e; exact l5.1 h0
        · have := (l5.2 (j - 1) (by omega)).2
          rw [show j - 1 + 1 = j by omega] at this; exact this) (fun j hj hj2 => by
        have ej : j = (p 4).toNat := by omega
        subst ej
        have := (l5.2 ((p 4).toNat - 1) (by omega)).2
        rw [show (p 4).toNat - 1 + 1 = (p 4).toNat by omega] at this
        rw [this, m_b1_n])
      rw [show (((p 4).toNat : Nat) : Int) - 1 = p 4 - 1 by omega] at k1
      exact ⟨h9, k1, fun j hj _ => k2 j hj, k3⟩
    · obtain ⟨f, ef⟩ := m_fu 2 (by omega)
      refine ⟨h8, ?_, fun j hj h9 => absurd h9 h0, fun _ _ => rfl⟩
      rw [ef, fn91_7, if_pos (by omega), ef, fn91_48, if_pos (by omega)]
  obtain ⟨h9, k1, k2, k3⟩ := fin
  refine ⟨h9, ?_, ⟨⟨fun a ha m hm => ?_, c_ra_fs l2.2 k3⟩, fun m hm => ?_, k2, ?_, ?_⟩, c_fp_t fp8 (fun k hk => k3 k (by omega))⟩
  · refine l1.trans ?_
    rw [k1, Option.bind_some]
  · rw [k3 126 (by omega), k3 127 (by omega), k3 128 (by omega)]; exact l2.1 a ha m hm
  · rw [k3 132 (by omega)]; exact (l5.2 m hm).1
  · rw [k3 125 (by omega)]; exact l3
  · rw [k3 125 (by omega)]; exact l4
end -- [69.cplan]
