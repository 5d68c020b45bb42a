/-! Part 64: the class's homing. -/
/-- the same but for one place -/
def m_eq (j : Nat) (w w' : Nat → Int) : Prop := ∀ k, k ≠ j → w k = w' k
theorem m_eq_u {j k : Nat} {w w' : Nat → Int} {v : Int} (h : m_eq j w w') : m_eq j (m_u w k v) (m_u w' k v) := fun i hi => by
  unfold m_u; split
  · rfl
  · exact h i hi
theorem m_sw_e {a j : Nat} {w w' : Nat → Int} (hj : j = 41 + a) (h : m_eq j w w') : m_eq j (m_sw a w) (m_sw a w') := by
  unfold m_sw; rw [h (26 + a) (by omega), h (20 + a) (by omega), h (23 + a) (by omega)]
  split
  · exact h
  · exact m_eq_u h
theorem m_sx_e {a j : Nat} {w w' : Nat → Int} (hj : j = 41 + a) (h : m_eq j w w') : m_eq j (m_sx a w) (m_sx a w') := by
  unfold m_sx; rw [h (26 + a) (by omega), h (20 + a) (by omega)]
  split
  · exact m_sw_e hj h
  · exact m_sw_e hj (m_eq_u h)
theorem m_sm_e {a j : Nat} {d e s : Int} {w w' : Nat → Int} (hj : j = 41 + a) (h : m_eq j w w') : (m_sm a d e s w).1 = (m_sm a d e s w').1 ∧ m_eq j (m_sm a d e s w).2 (m_sm a d e s w').2 := by
  unfold m_sm; rw [h (29 + a) (by omega), h (26 + a) (by omega), h (35 + a) (by omega)]
  split
  · split
    · exact ⟨rfl, m_eq_u h⟩
    · exact ⟨rfl, m_sx_e hj (m_eq_u h)⟩
  · exact ⟨rfl, m_eq_u h⟩
theorem m_s0_e {a c j : Nat} {d : Int} {w w' : Nat → Int} (hj : j = 41 + a) (hc : c = 56 ∨ c = 59) (h : m_eq j w w') : m_eq j (m_s0 a c d w) (m_s0 a c d w') := by
  unfold m_s0
  rw [h (32 + a) (by omega)]
  have g : m_eq j (m_u (m_u w (32 + a) (q_w64 (w' (32 + a) + d))) (44 + a) d) (m_u (m_u w' (32 + a) (q_w64 (w' (32 + a) + d))) (44 + a) d) := m_eq_u (m_eq_u h)
  dsimp only
  rw [g (c + a) (by omega)]
  exact m_eq_u g
theorem m_step_e {a j : Nat} {d : Int} {w w' : Nat → Int} (hj : j = 41 + a) (h : m_eq j w w') : (m_step a d w).1 = (m_step a d w').1 ∧ m_eq j (m_step a d w).2 (m_step a d w').2 := by
  unfold m_step
  rw [h (11 + a) (by omega), h (8 + a) (by omega)]
  split
  · exact m_sm_e hj (m_s0_e hj (Or.inr rfl) h)
  · exact m_sm_e hj (m_s0_e hj (Or.inl rfl) h)
theorem m_reads_e {a j : Nat} {w w' : Nat → Int} (hj : j = 41 + a) (h : m_eq j w w') : m_reads a w = m_reads a w' := by
  unfold m_reads; rw [h (38 + a) (by omega), h (53 + a) (by omega)]
theorem m_skl_e {a j : Nat} {c d t : Int} (ha : a < 3) (hj : j = 41 + a) : ∀ (n : Nat) (w w' : Nat → Int), m_eq j w w' → (m_skl a c d t n w).1 = (m_skl a c d t n w').1 ∧ m_eq j (m_skl a c d t n w).2 (m_skl a c d t n w').2 := by
  intro n
  induction n with
  | zero => intro w w' h; exact ⟨rfl, h⟩
  | succ n ih =>
    intro w w' h
    unfold m_skl
    rw [m_reads_e hj h]
    split
    · exact ⟨rfl, h⟩
    · obtain ⟨g1, g2⟩ := m_step_e (d := d) hj h
      have e5 := g2 5 (by omega)
      rw [e5]
      obtain ⟨k1, k2⟩ := ih _ _ (m_eq_u (k := 5) (v := q_w64 ((m_step a d w').2 5 + t)) g2)
      exact ⟨by simp only; rw [k1], k2⟩
theorem m_skl_fy {a : Nat} {c d t : Int} (ha : a < 3) : ∀ (n : Nat) (w : Nat → Int), ∀ j, j ≠ 5 → (j % 3 ≠ (2 + a) % 3 ∨ j < 26 ∨ 61 < j ∨ j = 41 + a) → (m_skl a c d t n w).2 j = w j := by
  intro n
  induction n with
  | zero => intro w j h5 hj; rfl
  | succ n ih =>
    intro w j h5 hj
    unfold m_skl
    split
    · rfl
    · simp only
      rw [ih _ j h5 hj, m_u_n h5]
      by_cases e : j = 41 + a
      · exact m_step_fr ha d w j (by unfold m_dy; omega)
      · exact m_step_fx d w ha j (by omega)
/-- the search of a table's axis with its time -/
theorem c_tseek {t a : Nat} {c d lt : Int} {h : q_F} {w : Nat → Int} (ha : a < 3) (hd : (c = 1 ∧ d = -1) ∨ (c = 0 ∧ d = 1)) (hc : c_tb h t w) (ok : m_ok w) (hi : m_a3 w) :
    ∃ h', fn55 (q_axn t a) c h = some (((m_skl a c d lt (w (8 + a) + w (11 + a) + 1).toNat w).1 : Int), h') ∧ c_tb h' t (m_u (m_skl a c d lt (w (8 + a) + w (11 + a) + 1).toNat w).2 5 (w 5)) ∧ c_ft t h h' ∧ m_a3 (m_skl a c d lt (w (8 + a) + w (11 + a) + 1).toNat w).2 := by
  have o := ok.2.2.1 a ha
  have hx := hc.1 a ha
  have e0 : h (t + 1 + 2 * a) 0 = w (8 + a) := hx.1 0 (by omega)
  have e1 : h (t + 1 + 2 * a) 1 = w (11 + a) := hx.1 1 (by omega)
  obtain ⟨h', g1, g2, g3, g4⟩ := c_seek (t := lt) (M := w (8 + a) + w (11 + a) + 1) ha hd (by omega) (w (8 + a) + w (11 + a) + 1).toNat 0 q_fu h w (by omega) (by omega) (by have := q_fu_ge; omega) hx (m_a3_i hi ha)
  refine ⟨h', ?_, ?_, c_ft_o g3 (by omega) (by omega), ?_⟩
  · rw [q_axn_e ha, fn55, e0, e1, q_w32_id (z := w (8 + a) + w (11 + a)) (by omega) (by omega), q_w32_id (by omega) (by omega), g1]
    simp
  · refine c_tb_ax ha hc g3 (c_un (by omega) ha g2) (fun j hj => ?_)
    by_cases e : j = 5
    · subst e; rw [m_u_s]
    · rw [m_u_n e]; exact m_skl_fy ha _ _ j e (by omega)
  · refine m_a3_of fun b hb => ?_
    by_cases e : a = b
    · subst e; exact g4
    · have gb := m_a3_i hi hb
      have e9 : ∀ k, k % 3 = 2 → 8 ≤ k → (m_skl a c d lt (w (8 + a) + w (11 + a) + 1).toNat w).2 (k + b) = w (k + b) := fun k hk hk2 => m_skl_fy ha _ _ _ (by omega) (by omega)
      unfold m_ai
      rw [e9 29 rfl (by omega), e9 11 rfl (by omega), e9 26 rfl (by omega), e9 8 rfl (by omega), e9 53 rfl (by omega), e9 20 rfl (by omega), e9 23 rfl (by omega), e9 44 rfl (by omega), e9 32 rfl (by omega), e9 56 rfl (by omega), e9 59 rfl (by omega)]
      exact gb
theorem c_slow {h : q_F} {t : Nat} {w : Nat → Int} (hc : c_tb h t w) (h0 : 1 ≤ w 0 ∧ w 0 ≤ 1000) : fn140 t h = some (q_ldv 1000000 (w 0)) ∧ 0 ≤ q_ldv 1000000 (w 0) ∧ q_ldv 1000000 (w 0) ≤ 1000000 := by
  have e := hc.2.1.1
  have g := m_ldv (a := 1000000) (b := w 0) (by omega) (by omega) (by omega) (by omega)
  have g0 : 0 ≤ 1000000 / w 0 := Int.ediv_nonneg (by omega) (by omega)
  have g1 : 1000000 / w 0 ≤ 1000000 := Int.ediv_le_self _ (by omega)
  refine ⟨?_, by omega, by omega⟩
  rw [fn140, e, fn201, if_neg (by omega), if_pos (by omega), Option.bind_some, m_idv (by omega) (by omega) (by omega) (by omega), g]
theorem m_eq_same {j : Nat} {v : Int} {w w' : Nat → Int} (h : m_eq j w w') : m_u w j v = m_u w' j v := by
  funext k; unfold m_u; split
  · rfl
  · rename_i e; exact h k e
theorem m_u_c {w : Nat → Int} {i j : Nat} {v v' : Int} (e : i ≠ j) : m_u (m_u w i v) j v' = m_u (m_u w j v') i v := by
  funext k; unfold m_u
  by_cases h1 : k = j
  · rw [if_pos h1, if_neg (by omega), if_pos h1]
  · rw [if_neg h1]; by_cases h2 : k = i
    · rw [if_pos h2, if_pos h2]
    · rw [if_neg h2, if_neg h2, if_neg h1]
/-- an axis' field of a table -/
theorem c_tb_f {h : q_F} {t a j : Nat} {w : Nat → Int} {v : Int} (ha : a < 3) (hj : j < 14) (hc : c_tb h t w) : c_tb (q_ud h (t + 1 + 2 * a) j v) t (m_u w (c_f j + a) v) := by
  have m := c_f_m j hj
  exact c_tb_ax ha hc (c_fo_u c_fo_r (Or.inl rfl)) (c_uo hj (hc.1 a ha)) (m_fy_u m_fy_r (by omega))
theorem c_tb_g {h : q_F} {t a j : Nat} {w : Nat → Int} {v v' : Int} (ha : a < 3) (hj : j < 7) (hv : v = q_w32 v') (hc : c_tb h t w) : c_tb (q_ud h (t + 1 + 2 * a + 1) j v) t (m_u w (c_g j + a) v') := by
  have m := c_g_m j hj
  exact c_tb_ax ha hc (c_fo_u c_fo_r (Or.inr rfl)) (c_ua hj hv (hc.1 a ha)) (m_fy_u m_fy_r (by omega))
theorem c_fail {h : q_F} {t a : Nat} {al : Int} {w : Nat → Int} (ha : a < 3) (hc : c_tb h t w) : ∃ h', fn130 t (t + 1 + 2 * a) al h = some (-1, h') ∧ c_tb h' t (m_hf a al (m_u w (41 + a) 0)) ∧ c_ft t h h' := by
  have g1 := c_tb_u (j := 7) (v := al) (by omega) hc
  have g2 := c_tb_f (j := 11) (v := 0) ha (by omega) g1
  have g3 := c_tb_g (j := 5) (v := q_w32 (q_ud (q_ud h t 7 al) (t + 1 + 2 * a) 11 0 (t + 1 + 2 * a + 1) 5 + 1)) (v' := q_w64 (w (68 + a) + 1)) ha (by omega) (by
    have e := (g2.1 a ha).2 5 (by omega)
    rw [e, m_inc]
    show q_w32 (q_w64 (m_u (m_u w 3 al) (41 + a) 0 (68 + a) + 1)) = _
    rw [m_u_n (by omega), m_u_n (by omega)]) g2
  refine ⟨_, by rw [fn130, m_let, m_let, m_let], ?_, ?_⟩
  · have e : m_hf a al (m_u w (41 + a) 0) = m_u (m_u (m_u w 3 al) (41 + a) 0) (68 + a) (q_w64 (w (68 + a) + 1)) := by
      unfold m_hf
      rw [m_u_n (show 68 + a ≠ 41 + a by omega), m_u_c (show 41 + a ≠ 3 by omega)]
    rw [e]; exact g3
  · exact c_ft_u (c_ft_u (c_ft_u c_ft_r (by omega) (by omega)) (by omega) (by omega)) (by omega) (by omega)
theorem c_good {h : q_F} {t a : Nat} {w : Nat → Int} (ha : a < 3) (hc : c_tb h t w) : ∃ h', fn59 (t + 1 + 2 * a) h = some (0, h') ∧ c_tb (q_ud h' (t + 1 + 2 * a + 1) 4 (q_w32 (h' (t + 1 + 2 * a + 1) 4 + 1))) t (m_ho a w) ∧ c_ft t h h' := by
  have g1 := c_tb_f (j := 11) (v := 1) ha (by omega) hc
  have g2 := c_tb_f (j := 12) (v := 0) ha (by omega) g1
  have e6 : q_ud (q_ud h (t + 1 + 2 * a) 11 1) (t + 1 + 2 * a) 12 0 (t + 1 + 2 * a) 6 = w (26 + a) := by
    rw [q_ud_n (by omega), q_ud_n (by omega)]; exact (hc.1 a ha).1 6 (by omega)
  have g3 := c_tb_f (j := 13) (v := w (26 + a)) ha (by omega) g2
  have g4 := c_tb_g (j := 4) (v := q_w32 (q_ud (q_ud (q_ud h (t + 1 + 2 * a) 11 1) (t + 1 + 2 * a) 12 0) (t + 1 + 2 * a) 13 (w (26 + a)) (t + 1 + 2 * a + 1) 4 + 1)) (v' := q_w64 (w (65 + a) + 1)) ha (by omega) (by
    have e := (g3.1 a ha).2 4 (by omega)
    rw [e, m_inc]
    show q_w32 (q_w64 (m_u (m_u (m_u w (41 + a) 1) (47 + a) 0) (50 + a) (w (26 + a)) (65 + a) + 1)) = _
    rw [m_u_n (by omega), m_u_n (by omega), m_u_n (by omega)]) g3
  refine ⟨_, by rw [fn59, m_let, m_let, m_let, e6], g4, ?_⟩
  exact c_ft_u (c_ft_u (c_ft_u c_ft_r (by omega) (by omega)) (by omega) (by omega)) (by omega) (by omega)
