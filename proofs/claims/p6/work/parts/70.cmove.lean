/-! Part 70: the class's moves: the plan's answers, reversals, compensation. -/
theorem c_Plan_fr {h h' : q_F} {p : Nat → Int} (hP : c_Plan h p) (e : ∀ k, 125 ≤ k → k ≤ 134 → h' k = h k) : c_Plan h' p := by
  obtain ⟨⟨h1, h2⟩, h3, h4, h5, h6⟩ := hP
  refine ⟨⟨fun a ha m hm => ?_, fun m hm => ?_⟩, fun m hm => ?_, fun m hm h0 => ?_, ?_, ?_⟩
  · rw [e 126 (by omega) (by omega), e 127 (by omega) (by omega), e 128 (by omega) (by omega)]; exact h1 a ha m hm
  · rw [e 129 (by omega) (by omega), e 130 (by omega) (by omega), e 131 (by omega) (by omega), e 133 (by omega) (by omega)]; exact h2 m hm
  · rw [e 132 (by omega) (by omega)]; exact h3 m hm
  · rw [e 134 (by omega) (by omega)]; exact h4 m hm h0
  · rw [e 125 (by omega) (by omega)]; exact h5
  · rw [e 125 (by omega) (by omega)]; exact h6
theorem c_sp {h : q_F} {p : Nat → Int} (ok : m_ok p) (nn : m_nn p) (hP : c_Plan h p) {m : Nat} {k : Int} (hm : (m : Int) < p 4) (h0 : 0 ≤ k) (h1 : k < m_l p m) : fn93 m k h = some (m_sp p m k) := by
  have h16 := ok.2.1
  obtain ⟨p2, p3, p4, -⟩ := hP.1.2 m (by omega)
  have q1 := hP.2.2.1 m (by omega) (by omega)
  have q2 := hP.2.2.1 (m + 1) (by omega) (by omega)
  have b1 := m_b_r ok nn (by omega) m (by omega)
  have b2 := m_b_r ok nn (by omega) (m + 1) (by omega)
  have g1 := m_gk_r ok nn hm h0 (by omega)
  have g2 := m_gk_r ok nn (k := m_l p m - 1 - k) hm (by omega) (by omega)
  have l := m_l_r ok (m := m) (by omega)
  rw [fn93, c_ent (by omega) (by omega), Option.bind_some, c_ent (by omega) (by omega), Option.bind_some, q_w32_id (z := (m : Int) + 1) (by omega) (by omega), c_ent (by omega) (by omega), Option.bind_some, c_ent (by omega) (by omega), Option.bind_some, c_ent (by omega) (by omega), Option.bind_some, m_tn1, Int.toNat_natCast, p2, p3, p4, q1, q2]
  rw [q_w32_id (z := m_c p 17 m * k) (by omega) (by omega), q_w32_id (z := m_l p m - 1) (by omega) (by omega), q_w32_id (z := m_l p m - 1 - k) (by omega) (by omega), q_w32_id (z := m_c p 17 m * (m_l p m - 1 - k)) (by omega) (by omega), q_w32_id (by omega) (by omega), q_w32_id (by omega) (by omega)]
  rfl
theorem c_t {h : q_F} {p : Nat → Int} (ok : m_ok p) (nn : m_nn p) (hP : c_Plan h p) {m : Nat} {k : Int} (hm : (m : Int) < p 4) (h0 : 0 ≤ k) (h1 : k < m_l p m) : fn95 m k h = some (m_t p m k) := by
  have s := m_sp_r ok nn hm h0 h1
  rw [fn95, c_sp ok nn hP hm h0 h1, Option.bind_some, c_quo (by omega), Option.bind_some]
  unfold m_t
  rw [m_idv (by omega) (by omega) (by omega) (by omega), m_ldv (by omega) (by omega) (by omega) (by omega)]
theorem c_made {h : q_F} {p : Nat → Int} (ok : m_ok p) (nn : m_nn p) (hP : c_Plan h p) {m a : Nat} {k : Int} (hm : (m : Int) < p 4) (ha : a < 3) (h0 : 0 ≤ k) (h1 : k ≤ m_l p m) : fn83 m a k h = some (m_made p m a k) := by
  have h16 := ok.2.1
  obtain ⟨p2, -, -, -⟩ := hP.1.2 m (by omega)
  obtain ⟨-, p1, -⟩ := hP.1.1 a ha m (by omega)
  have l := m_l_r ok (m := m) (by omega)
  have l1 := m_l_1 ok (m := m) (by omega) (nn m hm)
  have d := m_d_r ok (m := m) (by omega) ha
  have da := m_abs_r d
  have g := m_mulr (x := 2 * k) (l := m_abs (m_d p m a)) (a := 4000) (b := 2000) (by omega) (by omega) (by omega) (by omega)
  rw [fn83, c_ent (by omega) (by omega), Option.bind_some, q_w32_id (z := (m : Int) * 3) (by omega) (by omega), q_w32_id (z := (m : Int) * 3 + a) (by omega) (by omega), c_ent (by omega) (by omega), Option.bind_some, show ((m : Int) * 3 + a).toNat = 3 * m + a by omega, p1, Int.toNat_natCast, p2, c_abs (by omega) (by omega), q_w32_id (z := 2 * m_l p m) (by omega) (by omega), q_w32_id (z := 2 * k) (by omega) (by omega), q_w32_id (z := 2 * k * m_abs (m_d p m a)) (by omega) (by omega), q_w32_id (by omega) (by omega), c_quo (by omega), Option.bind_some]
  rfl
theorem c_dis {h : q_F} {p : Nat → Int} (ok : m_ok p) (hP : c_Plan h p) {m a : Nat} (hm : (m : Int) < p 4) (ha : a < 3) : fn73 m a h = some (m_d p m a) := by
  have h16 := ok.2.1
  exact c_dist (hP.1.1 a ha m (by omega)).2.1 (by omega) ha
theorem c_way {h : q_F} {p : Nat → Int} (ok : m_ok p) (hP : c_Plan h p) {m a : Nat} (hm : (m : Int) < p 4) (ha : a < 3) (hd : m_sg (m_d p m a) ≠ 0) : fn101 m a h = some (m_sg (m_d p m a)) := by
  have h16 := ok.2.1
  obtain ⟨-, p1, -⟩ := hP.1.1 a ha m (by omega)
  rw [fn101, q_w32_id (z := (m : Int) * 3) (by omega) (by omega), q_w32_id (z := (m : Int) * 3 + a) (by omega) (by omega), c_ent (by omega) (by omega), Option.bind_some, show ((m : Int) * 3 + a).toNat = 3 * m + a by omega, p1]
  unfold m_sg at hd ⊢
  by_cases c : 0 ≤ m_d p m a
  · rw [if_pos c]
    by_cases c2 : m_d p m a ≤ 0
    · rw [if_pos c2, if_pos c] at hd; exact absurd rfl hd
    · rw [if_neg c2]
  · rw [if_neg c, if_pos (by omega), if_neg c]
theorem m_sg_r {v : Int} (h : m_sg v ≠ 0) : m_sg v = 1 ∨ m_sg v = -1 := by
  unfold m_sg at *; (repeat' split at h) <;> (repeat' split) <;> omega
theorem c_tf {h : q_F} {o : Nat} {v d : Int} (e : h o 8 = d) (hd : d = 1 ∨ d = -1) : fn58 o v h = some (if m_sg v = 0 then 0 else if m_sg v = d then 0 else 1) := by
  unfold fn58 fn58_12 fn58_24 m_sg
  rw [e]
  rcases hd with rfl | rfl
  · by_cases c : v ≤ 0
    · rw [if_pos c, if_pos c]
      by_cases c2 : 0 ≤ v
      · rw [if_pos c2, if_pos c2, if_pos rfl]
      · rw [if_neg c2, if_neg c2, if_pos rfl, if_neg (by decide), if_neg (by decide)]
    · rw [if_neg c, if_neg c, if_neg (by decide), if_pos (by omega), if_neg (by decide), if_pos rfl]
  · by_cases c : v ≤ 0
    · rw [if_pos c, if_pos c]
      by_cases c2 : 0 ≤ v
      · rw [if_pos c2, if_pos c2, if_pos rfl]
      · rw [if_neg c2, if_neg c2, if_neg (by decide), if_neg (by decide), if_pos rfl]
    · rw [if_neg c, if_neg c, if_pos rfl, if_neg (by decide), if_neg (by decide)]
def m_iw (p w : Nat → Int) : Prop := m_iv p w ∧ (w 2 = 0 ∨ w 2 = 1)
theorem m_fr_iw {p w w' : Nat → Int} (h : m_iw p w) (hf : m_fr w w') : m_iw p w' := ⟨m_fr_iv h.1 hf, by rw [hf 2 (by unfold m_dy; omega)]; exact h.2⟩
/-- the state of a run: a table beside its row, a plan -/
def c_S (h : q_F) (t : Nat) (p w : Nat → Int) : Prop := c_tb h t w ∧ c_Plan h p ∧ m_a3 w ∧ m_iw p w
theorem c_ft_plan {h h' : q_F} {t : Nat} {p : Nat → Int} (f : c_ft t h h') (ht : t + 8 < 125) (hP : c_Plan h p) : c_Plan h' p := c_Plan_fr hP fun k h1 _ => f k (by omega)
theorem c_S_step {h : q_F} {t a : Nat} {p w : Nat → Int} {d : Int} (ht : t + 8 < 125) (ha : a < 3) (hs : c_S h t p w) (hd : d = 1 ∨ d = -1) : ∃ h', fn49 (q_axn t a) d h = some (1 - (m_step a d w).1, h') ∧ c_S h' t p (m_step a d w).2 ∧ c_ft t h h' := by
  obtain ⟨h1, h2, h3, h4⟩ := hs
  obtain ⟨h', g1, g2, g3⟩ := c_step (d := d) ha (h1.1 a ha) (m_a3_i h3 ha) hd
  have f : c_ft t h h' := c_ft_o g3 (by omega) (by omega)
  exact ⟨h', by rw [q_axn_e ha]; exact g1, ⟨c_tb_ax ha h1 g3 g2 (m_fy_x (m_step_fx d w ha)), c_ft_plan f ht h2, m_step_a3 ha h3 hd, m_fr_iw h4 (m_step_fr ha d w)⟩, f⟩
theorem c_S_time {h : q_F} {t j : Nat} {p w : Nat → Int} {v : Int} (ht : t + 8 < 125) (hs : c_S h t p w) (hj : 8 ≤ j ∧ j ≤ 10) : c_S (q_ud h t j v) t p (m_u w (c_h j) v) := by
  obtain ⟨h1, h2, h3, h4⟩ := hs
  have e : c_h j = 5 ∨ c_h j = 6 ∨ c_h j = 7 := by
    obtain rfl | rfl | rfl : j = 8 ∨ j = 9 ∨ j = 10 := by omega
    all_goals simp [c_h]
  exact ⟨c_tb_u (by omega) h1, c_ft_plan (t := t) (c_ft_u c_ft_r (by omega) (by omega)) ht h2, m_a3_u h3 (by omega), m_fr_iw h4 (m_fr_u m_fr_r (by unfold m_dy; omega))⟩
theorem c_S_acc {h : q_F} {t a j : Nat} {p w : Nat → Int} {v v' : Int} (ht : t + 8 < 125) (ha : a < 3) (hj : j = 3 ∨ j = 6) (hv : v = q_w32 v') (hs : c_S h t p w) : c_S (q_ud h (q_axn t a + 1) j v) t p (m_u w (c_g j + a) v') ∧ c_ft t h (q_ud h (q_axn t a + 1) j v) := by
  obtain ⟨h1, h2, h3, h4⟩ := hs
  have e : c_g j = 62 ∨ c_g j = 71 := by rcases hj with rfl | rfl <;> simp [c_g]
  have f : c_ft t h (q_ud h (q_axn t a + 1) j v) := by rw [q_axn_e ha]; exact c_ft_u c_ft_r (by omega) (by omega)
  refine ⟨⟨?_, c_ft_plan f ht h2, m_a3_u h3 (by omega), m_fr_iw h4 (m_fr_u m_fr_r (by unfold m_dy; omega))⟩, f⟩
  rw [q_axn_e ha]; exact c_tb_g ha (by omega) hv h1
theorem c_S_g {h : q_F} {t a j : Nat} {p w : Nat → Int} (ha : a < 3) (hj : j < 7) (hs : c_S h t p w) : h (q_axn t a + 1) j = q_w32 (w (c_g j + a)) := by
  rw [q_axn_e ha]; exact (hs.1.1 a ha).2 j hj
theorem c_S_f {h : q_F} {t a j : Nat} {p w : Nat → Int} (ha : a < 3) (hj : j < 14) (hs : c_S h t p w) : h (q_axn t a) j = w (c_f j + a) := by
  rw [q_axn_e ha]; exact (hs.1.1 a ha).1 j hj
theorem q_w32_w (z : Int) : q_w32 (q_w32 z) = q_w32 z := by
  have := q_w32_s z
  exact q_w32_id (by omega) (by omega)
/-- reversals -/
theorem c_rv1 {h : q_F} {t a m f : Nat} {p w : Nat → Int} (ht : t + 8 < 125) (ok : m_ok p) (ha : a < 3) (hm : (m : Int) < p 4) (hs : c_S h t p w) : ∃ h', fn128_2 t (f + 1) m a h = fn128_2 t f m ((a + 1 : Nat) : Int) h' ∧ c_S h' t p (m_rv p m a w) ∧ c_ft t h h' := by
  have dir := (m_a3_i hs.2.2.1 ha).2.2.2.2.2.2.1
  have e8 : h (q_axn t a) 8 = w (44 + a) := c_S_f (j := 8) ha (by omega) hs
  have e6 : h (q_axn t a + 1) 6 = q_w32 (w (71 + a)) := c_S_g (j := 6) ha (by omega) hs
  rw [fn128_2, if_neg (by omega), c_dis ok hs.2.1 hm ha, Option.bind_some, c_tf e8 dir, Option.bind_some]
  unfold m_rv
  by_cases c1 : m_sg (m_d p m a) = 0
  · rw [if_pos c1, if_pos c1, if_pos rfl, fn128_42, m_let, e6]
    obtain ⟨g1, g2⟩ := c_S_acc (v := q_w32 (q_w32 (w (71 + a)) + 0)) (v' := w (71 + a)) ht ha (Or.inr rfl) (by rw [Int.add_zero, q_w32_w]) hs
    rw [show c_g 6 = 71 from rfl, m_u_id] at g1
    exact ⟨_, by rw [q_w32_id (z := (a : Int) + 1) (by omega) (by omega), ← m_s1], g1, g2⟩
  · rw [if_neg c1, if_neg c1]
    by_cases c2 : m_sg (m_d p m a) = w (44 + a)
    · rw [if_pos c2, if_pos c2, if_pos rfl, fn128_42, m_let, e6]
      obtain ⟨g1, g2⟩ := c_S_acc (v := q_w32 (q_w32 (w (71 + a)) + 0)) (v' := w (71 + a)) ht ha (Or.inr rfl) (by rw [Int.add_zero, q_w32_w]) hs
      rw [show c_g 6 = 71 from rfl, m_u_id] at g1
      exact ⟨_, by rw [q_w32_id (z := (a : Int) + 1) (by omega) (by omega), ← m_s1], g1, g2⟩
    · rw [if_neg c2, if_neg c2, if_neg (by decide), fn128_42, m_let, e6]
      obtain ⟨g1, g2⟩ := c_S_acc (v := q_w32 (q_w32 (w (71 + a)) + 1)) (v' := q_w64 (w (71 + a) + 1)) ht ha (Or.inr rfl) (m_inc _) hs
      exact ⟨_, by rw [q_w32_id (z := (a : Int) + 1) (by omega) (by omega), ← m_s1], g1, g2⟩
theorem c_rv {h : q_F} {t m : Nat} {p w : Nat → Int} (ht : t + 8 < 125) (ok : m_ok p) (hm : (m : Int) < p 4) (hs : c_S h t p w) : ∃ h', fn128 t m h = some (0, h') ∧ c_S h' t p (m_rv p m 2 (m_rv p m 1 (m_rv p m 0 w))) ∧ c_ft t h h' := by
  obtain ⟨n, e⟩ := m_fu3
  obtain ⟨h1, a1, a2, a3⟩ := c_rv1 (f := n + 1 + 1 + 1) (a := 0) ht ok (by omega) hm hs
  obtain ⟨h2, b1, b2, b3⟩ := c_rv1 (f := n + 1 + 1) (a := 0 + 1) ht ok (by omega) hm a2
  obtain ⟨h3, d1, d2, d3⟩ := c_rv1 (f := n + 1) (a := 0 + 1 + 1) ht ok (by omega) hm b2
  refine ⟨h3, ?_, d2, c_ft_t a3 (c_ft_t b3 d3)⟩
  rw [fn128, e]
  refine a1.trans (b1.trans (d1.trans ?_))
  rw [fn128_2, if_pos (by omega)]
