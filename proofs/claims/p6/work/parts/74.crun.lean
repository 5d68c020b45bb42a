/-! Part 74: the class's run of the queue. -/
theorem c_tb_g7 {h h' : q_F} {t : Nat} {w w' : Nat → Int} (hc : c_tb h t w) (f : ∀ k, k ≠ t + 7 → k ≠ t + 8 → h' k = h k) (hw : ∀ j, j < 74 → j ≠ 4 → w' j = w j) (h9 : h' (t + 7) 1 = w' 4) (h10 : ∀ j, j < 3 * (w' 4).toNat → h' (t + 8) j = w' (74 + j)) : c_tb h' t w' := by
  obtain ⟨h1, ⟨h2, h3, h4, h5, h6, h7, h8⟩, -, -⟩ := hc
  refine ⟨fun a ha => c_ax_h (c_ax_w (h1 a ha) (fun j hj hj2 => hw j hj2 (by omega)) ha) (f _ (by omega) (by omega)) (f _ (by omega) (by omega)), ⟨?_, ?_, ?_, ?_, ?_, ?_, ?_⟩, h9, h10⟩
  · rw [f t (by omega) (by omega), hw 0 (by omega) (by omega)]; exact h2
  · rw [f t (by omega) (by omega), hw 1 (by omega) (by omega)]; exact h3
  · rw [f t (by omega) (by omega), hw 2 (by omega) (by omega)]; exact h4
  · rw [f t (by omega) (by omega), hw 3 (by omega) (by omega)]; exact h5
  · rw [f t (by omega) (by omega), hw 5 (by omega) (by omega)]; exact h6
  · rw [f t (by omega) (by omega), hw 6 (by omega) (by omega)]; exact h7
  · rw [f t (by omega) (by omega), hw 7 (by omega) (by omega)]; exact h8
theorem c_tb_w {h : q_F} {t : Nat} {w w' : Nat → Int} (hc : c_tb h t w) (hw : ∀ j, j < 74 → w' j = w j) (h4 : w 4 = 0) : c_tb h t w' :=
  c_tb_g7 hc (fun _ _ _ => rfl) (fun j hj _ => hw j hj) (by rw [hw 4 (by omega)]; exact hc.2.2.1) (fun j hj => by rw [hw 4 (by omega), h4] at hj; exact absurd hj (by omega))
theorem c_clear {h : q_F} {t : Nat} {w : Nat → Int} (hc : c_tb h t w) : c_tb (q_ud h (t + 7) 1 0) t (m_u w 4 0) := by
  refine c_tb_g7 hc (fun k h1 h2 => by funext j; rw [q_ud_n (by omega)]) (fun j hj hj2 => m_u_n hj2) (by rw [q_ud_s, m_u_s]) (fun j hj => by rw [m_u_s] at hj; exact absurd hj (by omega))
theorem c_stop {h : q_F} {t : Nat} {w : Nat → Int} {v : Int} (hc : c_tb h t w) : ∃ h', fn142 t v h = some (0, h') ∧ c_tb h' t (m_stops (m_u w 3 v)) ∧ c_ft t h h' := by
  have g1 := c_tb_u (j := 7) (v := v) (by omega) hc
  have g2 := c_clear g1
  have g3 := c_tb_f (a := 0) (j := 11) (v := 0) (by omega) (by omega) g2
  have g4 := c_tb_f (a := 1) (j := 11) (v := 0) (by omega) (by omega) g3
  have g5 := c_tb_f (a := 2) (j := 11) (v := 0) (by omega) (by omega) g4
  refine ⟨_, by rw [fn142, m_let, fn143, m_let, Option.bind_some, m_let, m_let, m_let], g5, ?_⟩
  exact c_ft_u (c_ft_u (c_ft_u (c_ft_u (c_ft_u c_ft_r (by omega) (by omega)) (by omega) (by omega)) (by omega) (by omega)) (by omega) (by omega)) (by omega) (by omega)
theorem c_fin {h : q_F} {t m : Nat} {w : Nat → Int} (hc : c_tb h t w) (h4 : 0 ≤ w 4 ∧ w 4 ≤ 16) (hm : (m : Int) ≤ w 4) : ∃ h', fn153 (t + 7) m h = some (0, h') ∧ c_tb h' t (m_fin m w) ∧ c_ft t h h' := by
  have e1 : h (t + 7) 1 = ((w 4).toNat : Int) := by rw [hc.2.2.1]; omega
  have g := c_rmf (o := t + 7) (m := m) (v := h (t + 8)) (s := (w 4).toNat) (by omega) (by omega) ((w 4).toNat - m) m q_fu h (by omega) (by omega) (by have := q_fu_ge; omega) e1 (by rw [Nat.sub_self]; exact (m_cp_0 _ _ _ _).symm)
  refine ⟨_, g, ?_, ?_⟩
  · have f4 : m_fin m w 4 = w 4 - m := by unfold m_fin; rw [m_u_s]
    refine c_tb_g7 hc (fun k h1 h2 => by funext j; rw [q_ud_n (by omega), m_sr_n (by omega)]) (fun j hj hj2 => ?_) ?_ (fun j hj => ?_)
    · unfold m_fin; rw [m_u_n hj2]; unfold m_cp; rw [if_neg (by omega)]
    · rw [q_ud_s, f4]; omega
    · rw [f4] at hj
      rw [q_ud_n (by omega), show t + 7 + 1 = t + 8 from rfl, m_sr_s]
      unfold m_fin
      rw [m_u_n (by omega)]
      unfold m_cp
      rw [if_pos (by omega), if_pos (by omega), show 3 * m + (j - 0) = 3 * m + j by omega, hc.2.2.2 _ (by omega)]
      congr 1; omega
  · intro k hk
    funext j
    rw [q_ud_n (by omega), m_sr_n (by omega)]
theorem m_a3_fin {w : Nat → Int} {m : Nat} (h : m_a3 w) : m_a3 (m_fin m w) := m_a3_of fun a ha => by
  have g := m_a3_i h ha
  have e : ∀ k, 8 ≤ k → k < 72 → m_fin m w (k + a) = w (k + a) := fun k h1 h2 => by
    unfold m_fin; rw [m_u_n (by omega)]; unfold m_cp; rw [if_neg (by omega)]
  unfold m_ai
  rw [e 29 (by omega) (by omega), e 11 (by omega) (by omega), e 26 (by omega) (by omega), e 8 (by omega) (by omega), e 53 (by omega) (by omega), e 20 (by omega) (by omega), e 23 (by omega) (by omega), e 44 (by omega) (by omega), e 32 (by omega) (by omega), e 56 (by omega) (by omega), e 59 (by omega) (by omega)]
  exact g
theorem m_a3_stops {w : Nat → Int} (h : m_a3 w) : m_a3 (m_stops w) := m_a3_u (m_a3_u (m_a3_u (m_a3_u h (by omega)) (by omega)) (by omega)) (by omega)
theorem c_mk {t n : Nat} {p : Nat → Int} (ht : t + 8 < 125) (ok : m_ok p) (nn : m_nn p) (hn : (n : Int) ≤ p 4) : ∀ (d m f : Nat) (h : q_F) (w : Nat → Int), m + d = n → d < f → c_S h t p w → m_iq p m w →
    ∃ h', fn138_2 t f n m h = some ((m_mk p n d m w).1, h') ∧ c_tb h' t (m_mk p n d m w).2 ∧ c_ft t h h' ∧ m_a3 (m_mk p n d m w).2 := by
  have h16 := ok.2.1
  intro d
  induction d with
  | zero =>
    intro m f h w hm hf hs hq
    obtain ⟨f, rfl⟩ : ∃ f', f = f' + 1 := ⟨f - 1, by omega⟩
    obtain rfl : m = n := by omega
    have w4 := hs.2.2.2.1.2
    obtain ⟨h1, a1, a2, a3⟩ := c_fin (m := m) hs.1 (by omega) (by omega)
    refine ⟨h1, ?_, a2, a3, m_a3_fin hs.2.2.1⟩
    rw [fn138_2, if_pos (by omega), fn138_22, a1, Option.bind_some, if_pos (by omega)]
    rfl
  | succ d ih =>
    intro m f h w hm hf hs hq
    obtain ⟨f, rfl⟩ : ∃ f', f = f' + 1 := ⟨f - 1, by omega⟩
    rw [fn138_2, if_neg (by omega)]
    obtain ⟨h1, a1, a2, a3, a4⟩ := c_mm ht ok nn (m := m) (by omega) hs hq
    rw [a1, Option.bind_some]
    dsimp only
    unfold m_mk
    rcases m_mm_z p m w with z | z
    · rw [if_pos z, if_pos z]
      have s := a2 z
      have w4 := s.2.2.2.1.2
      generalize (m_mm p m w).2 = w1 at s w4 ⊢
      obtain ⟨h2, b1, b2, b3⟩ := c_fin (m := m) s.1 (by omega) (by omega)
      obtain ⟨h3, d1, d2, d3⟩ := c_stop (v := 3) b2
      refine ⟨h3, ?_, c_tb_w d2 (fun j hj => ?_) ?_, c_ft_t a4 (c_ft_t b3 d3), ?_⟩
      · rw [fn138_22, b1, Option.bind_some, if_neg (by omega), d1, Option.bind_some]
      · unfold m_stops
        have e : j ≠ 4 → m_fin m w1 j = w1 j := fun h9 => by unfold m_fin; rw [m_u_n h9]; unfold m_cp; rw [if_neg (by omega)]
        simp only [m_u]
        (repeat' split) <;> first | rfl | exact (e (by assumption)).symm
      · simp [m_stops, m_u]
      · exact m_a3_stops (m_a3_u s.2.2.1 (by omega))
    · rw [if_neg (by omega), if_neg (by omega)]
      obtain ⟨s, q⟩ := a3 z
      obtain ⟨h2, b1, b2, b3, b4⟩ := ih (m + 1) f h1 _ (by omega) (by omega) s q
      refine ⟨h2, ?_, b2, c_ft_t a4 b3, b4⟩
      rw [q_w32_id (by omega) (by omega), ← m_s1, b1]
theorem c_run {h : q_F} {t n : Nat} {w : Nat → Int} (ht : t + 8 < 125) (ok : m_ok w) (nn : m_nn w) (a3 : m_a3 w) (tv : w 2 = 0 ∨ w 2 = 1) (hn : (n : Int) ≤ w 4) (hc : c_tb h t w) (hP : c_Plan h w) :
    ∃ h', fn138 t n h = some ((m_run n w).1, h') ∧ c_tb h' t (m_run n w).2 ∧ c_ft t h h' ∧ m_a3 (m_run n w).2 :=
  c_mk ht ok nn hn n 0 q_fu h w (by omega) (by have := q_fu_ge; have := ok.2.1; omega) ⟨hc, hP, a3, ⟨m_ok_row ok, rfl⟩, tv⟩ ⟨ok.1, fun a ha => by unfold m_beg; rw [if_pos rfl], fun _ _ => rfl⟩
