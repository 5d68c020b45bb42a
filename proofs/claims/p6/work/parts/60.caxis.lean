/-! Part 60: the class's axes beside the rows. -/
def c_f (j : Nat) : Nat := [8, 11, 14, 17, 20, 23, 26, 29, 44, 38, 53, 41, 47, 50].getD j 0
def c_g (j : Nat) : Nat := [56, 59, 35, 62, 65, 68, 71].getD j 0
/-- the cells o and o + 1 hold the axis a of the row w -/
def c_ax (h : q_F) (o : Nat) (w : Nat → Int) (a : Nat) : Prop := (∀ j, j < 14 → h o j = w (c_f j + a)) ∧ ∀ j, j < 7 → h (o + 1) j = q_w32 (w (c_g j + a))
theorem c_f_i : ∀ j, j < 14 → ∀ i, i < 14 → c_f j = c_f i → j = i := by decide
theorem c_g_i : ∀ j, j < 7 → ∀ i, i < 7 → c_g j = c_g i → j = i := by decide
theorem c_fg : ∀ j, j < 14 → ∀ i, i < 7 → c_f j ≠ c_g i := by decide
theorem c_f_m : ∀ j, j < 14 → c_f j % 3 = 2 ∧ 8 ≤ c_f j ∧ c_f j < 72 ∧ c_f j ≠ 32 := by decide
theorem c_g_m : ∀ j, j < 7 → c_g j % 3 = 2 ∧ 8 ≤ c_g j ∧ c_g j < 72 ∧ c_g j ≠ 32 := by decide
theorem c_uo {h : q_F} {o a j : Nat} {w : Nat → Int} {v : Int} (hj : j < 14) (hc : c_ax h o w a) : c_ax (q_ud h o j v) o (m_u w (c_f j + a) v) a := by
  refine ⟨fun i hi => ?_, fun i hi => ?_⟩
  · by_cases e : i = j
    · subst e; rw [q_ud_s, m_u_s]
    · rw [q_ud_n (by omega), m_u_n (by intro h9; exact e (c_f_i i hi j hj (by omega)))]; exact hc.1 i hi
  · rw [q_ud_n (by omega), m_u_n (by have := c_fg j hj i hi; omega)]; exact hc.2 i hi
theorem c_ua {h : q_F} {o a j : Nat} {w : Nat → Int} {v v' : Int} (hj : j < 7) (hv : v = q_w32 v') (hc : c_ax h o w a) : c_ax (q_ud h (o + 1) j v) o (m_u w (c_g j + a) v') a := by
  refine ⟨fun i hi => ?_, fun i hi => ?_⟩
  · rw [q_ud_n (by omega), m_u_n (by have := c_fg i hi j hj; omega)]; exact hc.1 i hi
  · by_cases e : i = j
    · subst e; rw [q_ud_s, m_u_s, hv]
    · rw [q_ud_n (by omega), m_u_n (by intro h9; exact e (c_g_i i hi j hj (by omega)))]; exact hc.2 i hi
theorem c_un {h : q_F} {o a i : Nat} {w : Nat → Int} {v : Int} (hi : i < 8 ∨ 74 ≤ i ∨ i = 32 + a ∨ i % 3 ≠ (2 + a) % 3) (ha : a < 3) (hc : c_ax h o w a) : c_ax h o (m_u w i v) a := by
  refine ⟨fun j hj => ?_, fun j hj => ?_⟩
  · have := c_f_m j hj; rw [m_u_n (by omega)]; exact hc.1 j hj
  · have := c_g_m j hj; rw [m_u_n (by omega)]; exact hc.2 j hj
/-- what holds of an axis at any time -/
def m_ai (w : Nat → Int) (a : Nat) : Prop :=
  (0 ≤ w (29 + a) ∧ w (29 + a) ≤ w (11 + a) ∧ w (11 + a) ≤ 20) ∧ (0 ≤ w (26 + a) ∧ w (26 + a) ≤ w (8 + a) ∧ w (8 + a) ≤ 2000) ∧ (w (53 + a) = 0 ∨ w (53 + a) = 1) ∧ (w (26 + a) ≤ w (20 + a) → w (53 + a) = 1) ∧ (w (20 + a) + w (23 + a) < w (26 + a) → w (53 + a) = 0) ∧ (0 ≤ w (20 + a) ∧ w (20 + a) ≤ 2000 ∧ 0 ≤ w (23 + a) ∧ w (23 + a) ≤ 20) ∧ (w (44 + a) = 1 ∨ w (44 + a) = -1) ∧ q_w32 (w (32 + a)) = q_w32 (w (56 + a) - w (59 + a))
theorem m_w32_64 (z : Int) : q_w32 (q_w64 z) = q_w32 z := by
  obtain ⟨h1, h2, k, h3⟩ := q_w64_s z
  obtain ⟨g1, g2, j, g3⟩ := q_w32_s (q_w64 z)
  obtain ⟨e1, e2, i, e3⟩ := q_w32_s z
  omega
theorem m_w32_a (x y : Int) : q_w32 (q_w32 x + y) = q_w32 (x + y) := by
  obtain ⟨h1, h2, k, h3⟩ := q_w32_s x
  obtain ⟨g1, g2, j, g3⟩ := q_w32_s (q_w32 x + y)
  obtain ⟨e1, e2, i, e3⟩ := q_w32_s (x + y)
  omega
theorem m_inc (z : Int) : q_w32 (q_w32 z + 1) = q_w32 (q_w64 (z + 1)) := by rw [m_w32_a, m_w32_64]
theorem m_mot {m f b d e g : Int} (h : q_w32 m = q_w32 (f - b)) (hd : d = e - g) : q_w32 (q_w64 (m + d)) = q_w32 (q_w64 (f + e) - q_w64 (b + g)) := by
  obtain ⟨h1, h2, k, h3⟩ := q_w64_s (m + d)
  obtain ⟨h4, h5, k2, h6⟩ := q_w64_s (f + e)
  obtain ⟨h7, h8, k3, h9⟩ := q_w64_s (b + g)
  obtain ⟨g1, g2, j, g3⟩ := q_w32_s m
  obtain ⟨e1, e2, i, e3⟩ := q_w32_s (f - b)
  obtain ⟨a1, a2, j2, a3⟩ := q_w32_s (q_w64 (m + d))
  obtain ⟨b1, b2, j3, b3⟩ := q_w32_s (q_w64 (f + e) - q_w64 (b + g))
  omega
/-- only the cells o and o + 1 have changed -/
def c_fo (o : Nat) (h h' : q_F) : Prop := ∀ k, k ≠ o → k ≠ o + 1 → h' k = h k
theorem c_fo_r {o : Nat} {h : q_F} : c_fo o h h := fun _ _ _ => rfl
theorem c_fo_u {o k j : Nat} {v : Int} {h h' : q_F} (f : c_fo o h h') (hk : k = o ∨ k = o + 1) : c_fo o h (q_ud h' k j v) := by
  intro i h1 h2
  funext j'
  rw [q_ud_n (by omega), f i h1 h2]
theorem c_fo_t {o : Nat} {h h1 h2 : q_F} (f : c_fo o h h1) (g : c_fo o h1 h2) : c_fo o h h2 := fun k h3 h4 => (g k h3 h4).trans (f k h3 h4)
theorem c_close {h : q_F} {o a : Nat} {w : Nat → Int} {z : Int} (ha : a < 3) (hc : c_ax h o w a) (h26 : 0 ≤ w (26 + a) ∧ w (26 + a) ≤ 2000) (h20 : 0 ≤ w (20 + a) ∧ w (20 + a) ≤ 2000 ∧ 0 ≤ w (23 + a) ∧ w (23 + a) ≤ 20) :
    ∃ h', fn49_39 o z h = some (z, h') ∧ c_ax h' o (m_sx a w) a ∧ c_fo o h h' := by
  have e4 : h o 4 = w (20 + a) := hc.1 4 (by omega)
  have e5 : h o 5 = w (23 + a) := hc.1 5 (by omega)
  have e6 : h o 6 = w (26 + a) := hc.1 6 (by omega)
  unfold fn49_39 m_sx m_sw
  rw [e4, e5, e6, q_w32_id (z := w (20 + a) + w (23 + a)) (by omega) (by omega)]
  by_cases c1 : w (20 + a) < w (26 + a)
  · rw [if_pos c1, if_pos c1, q_w64_id (by omega) (by omega)]
    by_cases c2 : w (26 + a) ≤ w (20 + a) + w (23 + a)
    · rw [if_pos c2, if_pos c2]
      exact ⟨h, rfl, hc, c_fo_r⟩
    · rw [if_neg c2, if_neg c2]
      exact ⟨_, rfl, c_uo (j := 10) (by omega) hc, c_fo_u c_fo_r (Or.inl rfl)⟩
  · rw [if_neg c1, if_neg c1, m_u_n (show 26 + a ≠ 53 + a by omega), m_u_n (show 20 + a ≠ 53 + a by omega), m_u_n (show 23 + a ≠ 53 + a by omega), q_w64_id (by omega) (by omega), if_pos (by omega)]
    exact ⟨_, rfl, c_uo (j := 10) (by omega) hc, c_fo_u c_fo_r (Or.inl rfl)⟩
theorem c_same {h : q_F} {o a : Nat} {w : Nat → Int} (ha : a < 3) (hc : c_ax h o w a) (h26 : 0 ≤ w (26 + a) ∧ w (26 + a) ≤ 2000) (h20 : 0 ≤ w (20 + a) ∧ w (20 + a) ≤ 2000 ∧ 0 ≤ w (23 + a) ∧ w (23 + a) ≤ 20) (h53 : (w (26 + a) ≤ w (20 + a) → w (53 + a) = 1) ∧ (w (20 + a) + w (23 + a) < w (26 + a) → w (53 + a) = 0)) : m_sx a w = w := by
  unfold m_sx m_sw
  by_cases c1 : w (20 + a) < w (26 + a)
  · rw [if_pos c1, q_w64_id (by omega) (by omega)]
    split
    · rfl
    · rw [← h53.2 (by omega), m_u_id]
  · rw [if_neg c1, ← h53.1 (by omega), m_u_id, q_w64_id (by omega) (by omega), if_pos (by omega)]
