section -- [70.cmove]
/-! Part 70: the class's moves: the plan's answers, reversals, compensation. -/
theorem c_Plan_fr {h h' : q_F} {p : Nat → Int} (hP : c_Plan h p) (e : ∀ k, 125 ≤ k → k ≤ 134 → h' k = h k) : c_Plan h' p := by
  obtain ⟨⟨h1, h2⟩, h3, h4, h5, h6⟩ := hP
  refine ⟨⟨fun a ha m hm => ?_, fun m hm => ?_⟩, fun m hm => ?_, fun m hm h0 => ?_, ?_, ?_⟩
  · rw [e 126 (by omega) (by omega), e 127 (by omega) (by omega), e 128 (by omega) (by omega)]; exact h1 a ha m hm
  · rw [e 129 (by omega) (by omega), e 130 (by omega) (by omega), e 131 (by omega) (by omega), e 133 (by omega) (by omega)]; exact h2 m hm
  · rw [e 132 (by omega) (by omega)]; exact h3 m hm
  · rw [e 134 (by omega) (by omega)]; exact h4 m hm h0
  · rw [e 125 (by omega) (by omega)]; exact h5
  · rw [e 125 (by omega) (by omega)]; exact h6
theorem c_sp {h : q_F} {p : Nat → Int} (ok : m_ok p) (nn : m_nn p) (hP : c_Plan h p) {m : Nat} {k : Int} (hm : (m : Int) < p 4) (h0 : 0 ≤ k) (h1 : k < m_l p m) : fn93 m k h = some (m_sp p m k) := by
  have h16 := ok.2.1
  obtain ⟨p2, p3, p4, -⟩ := hP.1.2 m (by omega)
  have q1 := hP.2.2.1 m (by omega) (by omega)
  have q2 := hP.2.2.1 (m + 1) (by omega) (by omega)
  have b1 := m_b_r ok nn (by omega) m (by omega)
  have b2 := m_b_r ok nn (by omega) (m + 1) (by omega)
  have g1 := m_gk_r ok nn hm h0 (by omega)
  have g2 := m_gk_r ok nn (k := m_l p m - 1 - k) hm (by omega) (by omega)
  have l := m_l_r ok (m := m) (by omega)
  rw [fn93, c_ent (by omega) (by omega), Option.bind_some, c_ent (by omega) (by omega), Option.bind_some, q_w32_id (z := (m : Int) + 1) (by omega) (by omega), c_ent (by omega) (by omega), Option.bind_some, c_ent (by omega) (by omega), Option.bind_some, c_ent (by omega) (by omega), Option.bind_some, m_tn1, Int.toNat_natCast, p2, p3, p4, q1, q2]
  rw [q_w32_id (z := m_c p 17 m * k) (by omega) (by omega), q_w32_id (z := m_l p m - 1) (by omega) (by omega), q_w32_id (z := m_l p m - 1 - k) (by omega) (by omega), q_w32_id (z := m_c p 17 m * (m_l p m - 1 - k)) (by omega) (by omega), q_w32_id (by omega) (by omega), q_w32_id (by omega) (by omega)]
  rfl
theorem c_t {h : q_F} {p : Nat → Int} (ok : m_ok p) (nn : m_nn p) (hP : c_Plan h p) {m : Nat} {k : Int} (hm : (m : Int) < p 4) (h0 : 0 ≤ k) (h1 : k < m_l p m) : fn95 m k h = some (m_t p m k) := by
  have s := m_sp_r ok nn hm h0 h1
  rw [fn95, c_sp ok nn hP hm h0 h1, Option.bind_some, c_quo (by omega), Option.bind_some]
  unfold m_t
  rw [m_idv (by omega) (by omega) (by omega) (by omega), m_ldv (by omega) (by omega) (by omega) (by omega)]
theorem c_made {h : q_F} {p : Nat → Int} (ok : m_ok p) (nn : m_nn p) (hP : c_Plan h p) {m a : Nat} {k : Int} (hm : (m : Int) < p 4) (ha : a < 3) (h0 : 0 ≤ k) (h1 : k ≤ m_l p m) : fn83 m a k h = some (m_made p m a k) := by
  have h16 := ok.2.1
  obtain ⟨p2, -, -, -⟩ := hP.1.2 m (by omega)
  obtain ⟨-, p1, -⟩ := hP.1.1 a ha m (by omega)
  have l := m_l_r ok (m := m) (by omega)
  have l1 := m_l_1 ok (m := m) (by omega) (nn m hm)
  have d := m_d_r ok (m := m) (by omega) ha
  have da := m_abs_r d
  have g := m_mulr (x := 2 * k) (l := m_abs (m_d p m a)) (a := 4000) (b := 2000) (by omega) (by omega) (by omega) (by omega)
  rw [fn83, c_ent (by omega) (by omega), Option.bind_some, q_w32_id (z := (m : Int) * 3) (by omega) (by omega), q_w32_id (z := (m : Int) * 3 + a) (by omega) (by omega), c_ent (by omega) (by omega), Option.bind_some, show ((m : Int) * 3 + a).toNat = 3 * m + a by omega, p1, Int.toNat_natCast, p2, c_abs (by omega) (by omega), q_w32_id (z := 2 * m_l p m) (by omega) (by omega), q_w32_id (z := 2 * k) (by omega) (by omega), q_w32_id (z := 2 * k * m_abs (m_d p m a)) (by omega) (by omega), q_w32_id (by omega) (by omega), c_quo (by omega), Option.bind_some]
  rfl
theorem c_dis {h : q_F} {p : Nat → Int} (ok : m_ok p) (hP : c_Plan h p) {m a : Nat} (hm : (m : Int) < p 4) (ha : a < 3) : fn73 m a h = some (m_d p m a) := by
  have h16 := ok.2.1
  exact c_dist (hP.1.1 a ha m (by omega)).2.1 (by omega) ha
theorem c_way {h : q_F} {p : Nat → Int} (ok : m_ok p) (hP : c_Plan h p) {m a : Nat} (hm : (m : Int) < p 4) (ha : a < 3) (hd : m_sg (m_d p m a) ≠ 0) : fn101 m a h = some (m_sg (m_d p m a)) := by
  have h16 := ok.2.1
  obtain ⟨-, p1, -⟩ := hP.1.1 a ha m (by omega)
  rw [fn101, q_w32_id (z := (m : Int) * 3) (by omega) (by omega), q_w32_id (z := (m : Int) * 3 + a) (by omega) (by omega), c_ent (by omega) (by omega), Option.bind_some, show ((m : Int) * 3 + a).toNat = 3 * m + a by omega, p1]
  unfold m_sg at hd ⊢
  by_cases c : 0 ≤ m_d p m a
  · rw [if_pos c]
    by_cases c2 : m_d p m a ≤ 0
    · rw [if_pos c2, if_pos c] at hd; exact absurd rfl hd
    · rw [if_neg c2]
  · rw [if_neg c, if_pos (by omega), if_neg c]
theorem m_sg_r {v : Int} (h : m_sg v ≠ 0) : m_sg v = 1 ∨ m_sg v = -1 := by
  unfold m_sg at *; (repeat' split at h) <;> (repeat' split) <;> omega
theorem c_tf {h : q_F} {o : Nat} {v d : Int} (e : h o 8 = d) (hd : d = 1 ∨ d = -1) : fn58 o v h = some (if m_sg v = 0 then 0 else if m_sg v = d then 0 else 1) := by
  unfold fn58 fn58_12 fn58_24 m_sg
  rw [e]
  rcases hd with rfl | rfl
  · by_cases c : v ≤ 0
    · rw [if_pos c, if_pos c]
      by_cases c2 : 0 ≤ v
      · rw [if_pos c2, if_pos c2, if_pos rfl]
      · rw [if_neg c2, if_neg c2, if_pos rfl, if_neg (by decide), if_neg (by decide)]
    · rw [if_neg c, if_neg c, if_neg (by decide), if_pos (by omega), if_neg (by decide), if_pos rfl]
  · by_cases c : v ≤ 0
    · rw [if_pos c, if_pos c]
      by_cases c2 : 0 ≤ v
      · rw [if_pos c2, if_pos c2, if_pos rfl]
      · rw [if_neg c2, if_neg c2, if_neg (by decide), if_neg (by decide), if_pos rfl]
    · rw [if_neg c, if_neg c, if_pos rfl, if_neg (by decide), if_neg (by decide)]
def m_iw (p w : Nat → Int) : Prop := m_iv p w ∧ (w 2 = 0 ∨ w 2 = 1)
theorem m_fr_iw {p w w' : Nat → Int} (h : m_iw p w) (hf : m_fr w w') : m_iw p w' := ⟨m_fr_iv h.1 hf, by rw [hf 2 (by unfold m_dy; omega)]; exact h.2⟩
/-- the state of a run: a table beside its row, a plan -/
def c_S (h : q_F) (t : Nat) (p w : Nat → Int) : Prop := c_tb h t w ∧ c_Plan h p ∧ m_a3 w ∧ m_iw p w
theorem c_ft_plan {h h' : q_F} {t : Nat} {p : Nat → Int} (f : c_ft t h h') (ht : t + 8 < 125) (hP : c_Plan h p) : c_Plan h' p := c_Plan_fr hP fun k h1 _ => f k (by omega)
theorem c_S_step {h : q_F} {t a : Nat} {p w : Nat → Int} {d : Int} (ht : t + 8 < 125) (ha : a < 3) (hs : c_S h t p w) (hd : d = 1 ∨ d = -1) : ∃ h', fn49 (q_axn t a) d h = some (1 - (m_step a d w).1, h') ∧ c_S h' t p (m_step a d w).2 ∧ c_ft t h h' := by
  obtain ⟨h1, h2, h3, h4⟩ := hs
  obtain ⟨h', g1, g2, g3⟩ := c_step (d := d) ha (h1.1 a ha) (m_a3_i h3 ha) hd
  have f : c_ft t h h' := c_ft_o g3 (by omega) (by omega)
  exact ⟨h', by rw [q_axn_e ha]; exact g1, ⟨c_tb_ax ha h1 g3 g2 (m_fy_x (m_step_fx d w ha)), c_ft_plan f ht h2, m_step_a3 ha h3 hd, m_fr_iw h4 (m_step_fr ha d w)⟩, f⟩
theorem c_S_time {h : q_F} {t j : Nat} {p w : Nat → Int} {v : Int} (ht : t + 8 < 125) (hs : c_S h t p w) (hj : 8 ≤ j ∧ j ≤ 10) : c_S (q_ud h t j v) t p (m_u w (c_h j) v) := by
  obtain ⟨h1, h2, h3, h4⟩ := hs
  have e : c_h j = 5 ∨ c_h j = 6 ∨ c_h j = 7 := by
    obtain rfl | rfl | rfl : j = 8 ∨ j = 9 ∨ j = 10 := by omega
    all_goals simp [c_h]
  exact ⟨c_tb_u (by omega) h1, c_ft_plan (t := t) (c_ft_u c_ft_r (by omega) (by omega)) ht h2, m_a3_u h3 (by omega), m_fr_iw h4 (m_fr_u m_fr_r (by unfold m_dy; omega))⟩
theorem c_S_acc {h : q_F} {t a j : Nat} {p w : Nat → Int} {v v' : Int} (ht : t + 8 < 125) (ha : a < 3) (hj : j = 3 ∨ j = 6) (hv : v = q_w32 v') (hs : c_S h t p w) : c_S (q_ud h (q_axn t a + 1) j v) t p (m_u w (c_g j + a) v') ∧ c_ft t h (q_ud h (q_axn t a + 1) j v) := by
  obtain ⟨h1, h2, h3, h4⟩ := hs
  have e : c_g j = 62 ∨ c_g j = 71 := by rcases hj with rfl | rfl <;> simp [c_g]
  have f : c_ft t h (q_ud h (q_axn t a + 1) j v) := by rw [q_axn_e ha]; exact c_ft_u c_ft_r (by omega) (by omega)
  refine ⟨⟨?_, c_ft_plan f ht h2, m_a3_u h3 (by omega), m_fr_iw h4 (m_fr_u m_fr_r (by unfold m_dy; omega))⟩, f⟩
  rw [q_axn_e ha]; exact c_tb_g ha (by omega) hv h1
theorem c_S_g {h : q_F} {t a j : Nat} {p w : Nat → Int} (ha : a < 3) (hj : j < 7) (hs : c_S h t p w) : h (q_axn t a + 1) j = q_w32 (w (c_g j + a)) := by
  rw [q_axn_e ha]; exact (hs.1.1 a ha).2 j hj
theorem c_S_f {h : q_F} {t a j : Nat} {p w : Nat → Int} (ha : a < 3) (hj : j < 14) (hs : c_S h t p w) : h (q_axn t a) j = w (c_f j + a) := by
  rw [q_axn_e ha]; exact (hs.1.1 a ha).1 j hj
theorem q_w32_w (z : Int) : q_w32 (q_w32 z) = q_w32 z := by
  have := q_w32_s z
  exact q_w32_id (by omega) (by omega)
/-- reversals -/
theorem c_rv1 {h : q_F} {t a m f : Nat} {p w : Nat → Int} (ht : t + 8 < 125) (ok : m_ok p) (ha : a < 3) (hm : (m : Int) < p 4) (hs : c_S h t p w) : ∃ h', fn128_2 t (f + 1) m a h = fn128_2 t f m ((a + 1 : Nat) : Int) h' ∧ c_S h' t p (m_rv p m a w) ∧ c_ft t h h' := by
  have dir := (m_a3_i hs.2.2.1 ha).2.2.2.2.2.2.1
  have e8 : h (q_axn t a) 8 = w (44 + a) := c_S_f (j := 8) ha (by omega) hs
  have e6 : h (q_axn t a + 1) 6 = q_w32 (w (71 + a)) := c_S_g (j := 6) ha (by omega) hs
  rw [fn128_2, if_neg (by omega), c_dis ok hs.2.1 hm ha, Option.bind_some, c_tf e8 dir, Option.bind_some]
  unfold m_rv
  by_cases c1 : m_sg (m_d p m a) = 0
  · rw [if_pos c1, if_pos c1, if_pos rfl, fn128_42, m_let, e6]
    obtain ⟨g1, g2⟩ := c_S_acc (v := q_w32 (q_w32 (w (71 + a)) + 0)) (v' := w (71 + a)) ht ha (Or.inr rfl) (by rw [Int.add_zero, q_w32_w]) hs
    rw [show c_g 6 = 71 from rfl, m_u_id] at g1
    exact ⟨_, by rw [q_w32_id (z := (a : Int) + 1) (by omega) (by omega), ← m_s1], g1, g2⟩
  · rw [if_neg c1, if_neg c1]
    by_cases c2 : m_sg (m_d p m a) = w (44 + a)
    · rw [if_pos c2, if_pos c2, if_pos rfl, fn128_42, m_let, e6]
      obtain ⟨g1, g2⟩ := c_S_acc (v := q_w32 (q_w32 (w (71 + a)) + 0)) (v' := w (71 + a)) ht ha (Or.inr rfl) (by rw [Int.add_zero, q_w32_w]) hs
      rw [show c_g 6 = 71 from rfl, m_u_id] at g1
      exact ⟨_, by rw [q_w32_id (z := (a : Int) + 1) (by omega) (by omega), ← m_s1], g1, g2⟩
    · rw [if_neg c2, if_neg c2, if_neg (by decide), fn128_42, m_let, e6]
      obtain ⟨g1, g2⟩ := c_S_acc (v := q_w32 (q_w32 (w (71 + a)) + 1)) (v' := q_w64 (w (71 + a) + 1)) ht ha (Or.inr rfl) (m_inc _) hs
      exact ⟨_, by rw [q_w32_id (z := (a : Int) + 1) (by omega) (by omega), ← m_s1], g1, g2⟩
theorem c_rv {h : q_F} {t m : Nat} {p w : Nat → Int} (ht : t + 8 < 125) (ok : m_ok p) (hm : (m : Int) < p 4) (hs : c_S h t p w) : ∃ h', fn128 t m h = some (0, h') ∧ c_S h' t p (m_rv p m 2 (m_rv p m 1 (m_rv p m 0 w))) ∧ c_ft t h h' := by
  obtain ⟨n, e⟩ := m_fu3
  obtain ⟨h1, a1, a2, a3⟩ := c_rv1 (f := n + 1 + 1 + 1) (a := 0) ht ok (by omega) hm hs
  obtain ⟨h2, b1, b2, b3⟩ := c_rv1 (f := n + 1 + 1) (a := 0 + 1) ht ok (by omega) hm a2
  obtain ⟨h3, d1, d2, d3⟩ := c_rv1 (f := n + 1) (a := 0 + 1 + 1) ht ok (by omega) hm b2
  refine ⟨h3, ?_, d2, c_ft_t a3 (c_ft_t b3 d3)⟩
  rw [fn128, e]
  refine a1.trans (b1.trans (d1.trans ?_))
  rw [fn128_2, if_pos (by omega)]
end -- [70.cmove]
section -- [71.cmove]
/-! Part 71: the class's moves: compensation, steps. -/
theorem c_S_o {h : q_F} {t : Nat} {p w : Nat → Int} (hs : c_S h t p w) : h t 4 = w 0 ∧ h t 5 = w 1 ∧ h t 6 = w 2 ∧ h t 7 = w 3 ∧ h t 8 = w 5 ∧ h t 9 = w 6 ∧ h t 10 = w 7 := hs.1.2.1
theorem c_slow2 {h : q_F} {t : Nat} {w : Nat → Int} (hc : h t 4 = w 0) (h0 : 1 ≤ w 0 ∧ w 0 ≤ 1000) : fn140 t h = some (q_ldv 1000000 (w 0)) := by
  have g := m_ldv (a := 1000000) (b := w 0) (by omega) (by omega) (by omega) (by omega)
  rw [fn140, hc, c_quo (by omega), Option.bind_some, m_idv (by omega) (by omega) (by omega) (by omega), g]
theorem c_upl {t a m : Nat} {M : Int} {p : Nat → Int} {K : Int → Int → Int → q_F → Option (Int × q_F)} (ht : t + 8 < 125) (ok : m_ok p) (ha : a < 3) (hm : (m : Int) < p 4) (hd : m_sg (m_d p m a) ≠ 0) (hM : M ≤ 20) : ∀ (n : Nat) (k : Int) (f : Nat) (h : q_F) (w : Nat → Int), 0 ≤ k → k + n = M → n < f → c_S h t p w → 1 ≤ w 0 ∧ w 0 ≤ 1000 →
    ∃ h', fn126_52 t (q_axn t a) K f m 1 a M k h = K m (m_upl a (m_sg (m_d p m a)) n w).1 ((a + 1 : Nat) : Int) h' ∧ c_S h' t p (m_upl a (m_sg (m_d p m a)) n w).2 ∧ c_ft t h h' := by
  intro n
  induction n with
  | zero =>
    intro k f h w hk hn hf hs h0
    obtain ⟨f, rfl⟩ : ∃ f', f = f' + 1 := ⟨f - 1, by omega⟩
    refine ⟨h, ?_, hs, c_ft_r⟩
    rw [fn126_52, if_pos (by omega), fn126_125, q_w32_id (by omega) (by omega), ← m_s1]
    rfl
  | succ n ih =>
    intro k f h w hk hn hf hs h0
    obtain ⟨f, rfl⟩ : ∃ f', f = f' + 1 := ⟨f - 1, by omega⟩
    have o := c_S_o hs
    rw [fn126_52, if_neg (by omega), if_neg (by decide), c_slow2 o.1 h0, Option.bind_some, m_let, o.2.2.2.2.1]
    have s1 := c_S_time (j := 8) (v := q_w64 (w 5 + q_ldv 1000000 (w 0))) ht hs (by omega)
    have f1 : c_ft t h (q_ud h t 8 (q_w64 (w 5 + q_ldv 1000000 (w 0)))) := c_ft_u c_ft_r (by omega) (by omega)
    rw [show c_h 8 = 5 from rfl] at s1
    generalize q_ud h t 8 (q_w64 (w 5 + q_ldv 1000000 (w 0))) = h1 at s1 f1 ⊢
    have e3 : h1 (q_axn t a + 1) 3 = _ := c_S_g (j := 3) ha (by omega) s1
    rw [show c_g 3 = 62 from rfl] at e3
    obtain ⟨s2, f2⟩ := c_S_acc (j := 3) (v := q_w32 (h1 (q_axn t a + 1) 3 + 1)) (v' := q_w64 (m_u w 5 (q_w64 (w 5 + q_ldv 1000000 (w 0))) (62 + a) + 1)) ht ha (Or.inl rfl) (by rw [e3]; exact m_inc _) s1
    rw [m_let]
    rw [show c_g 3 = 62 from rfl] at s2
    generalize q_ud h1 (q_axn t a + 1) 3 (q_w32 (h1 (q_axn t a + 1) 3 + 1)) = h2 at s2 f2 ⊢
    rw [c_way ok s2.2.1 hm ha hd, Option.bind_some]
    obtain ⟨h3, g1, s3, f3⟩ := c_S_step ht ha s2 (m_sg_r hd)
    rw [g1, Option.bind_some]
    dsimp only
    unfold m_upl
    dsimp only
    have fr := m_step_fr ha (m_sg (m_d p m a)) (m_u (m_u w 5 (q_w64 (w 5 + q_ldv 1000000 (w 0)))) (62 + a) (q_w64 (m_u w 5 (q_w64 (w 5 + q_ldv 1000000 (w 0))) (62 + a) + 1)))
    have z := m_step_z a (m_sg (m_d p m a)) (m_u (m_u w 5 (q_w64 (w 5 + q_ldv 1000000 (w 0)))) (62 + a) (q_w64 (m_u w 5 (q_w64 (w 5 + q_ldv 1000000 (w 0))) (62 + a) + 1)))
    have e0 := (fr 0 (by unfold m_dy; omega)).trans ((m_u_n (show 0 ≠ 62 + a by omega)).trans (m_u_n (show 0 ≠ 5 by omega)))
    generalize m_step a (m_sg (m_d p m a)) (m_u (m_u w 5 (q_w64 (w 5 + q_ldv 1000000 (w 0)))) (62 + a) (q_w64 (m_u w 5 (q_w64 (w 5 + q_ldv 1000000 (w 0))) (62 + a) + 1))) = s at s3 z e0 ⊢
    have f9 := c_ft_t f1 (c_ft_t f2 f3)
    have o3 := (c_S_o s3).2.2.1
    have tv := s3.2.2.2.2
    obtain ⟨h', k1, k2, k3⟩ := ih (k + 1) f h3 s.2 (by omega) (by omega) (by omega) s3 (by rw [e0]; exact h0)
    rw [fn126_113, fn126_118, fn126_118, q_w32_id (z := k + 1) (by omega) (by omega)]
    rcases z with z | z
    · rw [if_neg (show ¬ 1 - s.1 = 0 by omega), if_pos z]
      exact ⟨h', k1, k2, c_ft_t f9 k3⟩
    · rw [if_pos (show 1 - s.1 = 0 by omega), if_neg (show ¬ s.1 = 0 by omega)]
      rcases tv with tv | tv
      · rw [if_pos (o3.trans tv), if_neg (show ¬ s.2 2 = 1 by omega)]
        exact ⟨h', k1, k2, c_ft_t f9 k3⟩
      · rw [if_neg (show ¬ h3 t 6 = 0 by omega), if_pos tv]
        refine ⟨h3, ?_, s3, f9⟩
        obtain ⟨f, rfl⟩ : ∃ f', f = f' + 1 := ⟨f - 1, by omega⟩
        rw [fn126_52, if_pos rfl, ite_self, fn126_125, q_w32_id (by omega) (by omega), ← m_s1]
theorem c_up1 {h : q_F} {t a m f : Nat} {p w : Nat → Int} (ht : t + 8 < 125) (ok : m_ok p) (ha : a < 3) (hm : (m : Int) < p 4) (hs : c_S h t p w) (h1 : w 1 ≠ 0) (h0 : 1 ≤ w 0 ∧ w 0 ≤ 1000) (hb : w (11 + a) ≤ 20) : ∃ h', fn126_5 t (f + 1) m 1 a h = fn126_5 t f m (m_up p m a w).1 ((a + 1 : Nat) : Int) h' ∧ c_S h' t p (m_up p m a w).2 ∧ c_ft t h h' := by
  have dir := (m_a3_i hs.2.2.1 ha).2.2.2.2.2.2.1
  have b0 := (m_a3_i hs.2.2.1 ha).1
  have e8 : h (q_axn t a) 8 = w (44 + a) := c_S_f (j := 8) ha (by omega) hs
  have e1 : h (q_axn t a) 1 = w (11 + a) := c_S_f (j := 1) ha (by omega) hs
  rw [fn126_5, if_neg (by omega), if_neg (by decide), c_dis ok hs.2.1 hm ha, Option.bind_some, c_tf e8 dir, Option.bind_some, fn126_47, fn126_47, e1]
  have none' : fn126_52 t (q_axn t a) (fn126_5 t f) q_fu m 1 a 0 0 h = fn126_5 t f m 1 ((a + 1 : Nat) : Int) h := by
    obtain ⟨n, e⟩ := m_fu3
    rw [e, fn126_52, if_pos (by omega), fn126_125, q_w32_id (by omega) (by omega), ← m_s1]
  unfold m_up
  by_cases c1 : m_sg (m_d p m a) = 0
  · rw [if_pos c1, if_pos c1, if_pos rfl]
    exact ⟨h, none', hs, c_ft_r⟩
  · rw [if_neg c1, if_neg c1]
    by_cases c2 : m_sg (m_d p m a) = w (44 + a)
    · rw [if_pos c2, if_pos c2, if_pos rfl]
      exact ⟨h, none', hs, c_ft_r⟩
    · rw [if_neg c2, if_neg c2, if_neg (by decide), if_neg h1]
      obtain ⟨h', g1, g2, g3⟩ := c_upl (K := fn126_5 t f) (M := w (11 + a)) ht ok ha hm c1 hb (w (11 + a)).toNat 0 q_fu h w (by omega) (by omega) (by have := q_fu_ge; omega) hs h0
      exact ⟨h', g1, g2, g3⟩
/-- all compensation of a move -/
noncomputable def m_ups (p : Nat → Int) (m : Nat) : (Nat → Int) → Int × (Nat → Int) := m_sq (m_sq (m_up p m 0) (m_up p m 1)) (m_up p m 2)
theorem m_sq_as (f g k : (Nat → Int) → Int × (Nat → Int)) (w : Nat → Int) : m_sq f (m_sq g k) w = m_sq (m_sq f g) k w := by
  unfold m_sq
  by_cases c : (f w).1 = 0
  · rw [if_pos c, if_pos c, if_pos c]
  · rw [if_neg c, if_neg c]
theorem m_upl_z (a : Nat) (d : Int) : ∀ (n : Nat) (w : Nat → Int), (m_upl a d n w).1 = 0 ∨ (m_upl a d n w).1 = 1 := by
  intro n
  induction n with
  | zero => intro w; exact Or.inr rfl
  | succ n ih =>
    intro w
    unfold m_upl
    dsimp only
    split
    · exact ih _
    · split
      · exact Or.inl rfl
      · exact ih _
theorem m_up_z (p : Nat → Int) (m a : Nat) (w : Nat → Int) : (m_up p m a w).1 = 0 ∨ (m_up p m a w).1 = 1 := by
  unfold m_up; (repeat' split) <;> first | exact Or.inr rfl | exact m_upl_z _ _ _ _
theorem c_ups {h : q_F} {t m : Nat} {p w : Nat → Int} (ht : t + 8 < 125) (ok : m_ok p) (hm : (m : Int) < p 4) (hs : c_S h t p w) (h1 : w 1 ≠ 0) (h0 : 1 ≤ w 0 ∧ w 0 ≤ 1000) (hb : ∀ a, a < 3 → w (11 + a) ≤ 20) : ∃ h', fn126 t m h = some ((m_ups p m w).1, h') ∧ c_S h' t p (m_ups p m w).2 ∧ c_ft t h h' := by
  obtain ⟨n, e⟩ := m_fu3
  have stop : ∀ f a h, fn126_5 t (f + 1) m 0 a h = some (0, h) := fun f a h => by rw [fn126_5, if_pos rfl, ite_self]
  have ke : ∀ (a : Nat) (w : Nat → Int) (j : Nat), a < 3 → j < 5 ∨ (11 ≤ j ∧ j < 14) → (m_up p m a w).2 j = w j := fun a w j ha hj => m_up_fr ha w j (by unfold m_dy; omega)
  obtain ⟨g1, a1, a2, a3⟩ := c_up1 (f := n + 1 + 1 + 1) (a := 0) ht ok (by omega) hm hs h1 h0 (hb 0 (by omega))
  unfold m_ups
  rw [fn126, e]
  have k0 : ∀ j, j < 5 ∨ (11 ≤ j ∧ j < 14) → (m_up p m 0 w).2 j = w j := fun j hj => ke 0 w j (by omega) hj
  have z0 := m_up_z p m 0 w
  have q0 : m_sq (m_up p m 0) (m_up p m 1) w = if (m_up p m 0 w).1 = 0 then m_up p m 0 w else m_up p m 1 (m_up p m 0 w).2 := rfl
  generalize m_up p m 0 w = r0 at a1 a2 k0 z0 q0
  obtain ⟨x0, w1⟩ := r0
  dsimp only at a1 a2 k0 z0 q0
  by_cases c0 : x0 = 0
  · subst c0
    rw [if_pos rfl] at q0
    rw [m_sq_z (by rw [q0]), q0]
    exact ⟨g1, a1.trans (stop _ _ _), a2, a3⟩
  · obtain rfl := z0.resolve_left c0
    rw [if_neg c0] at q0
    obtain ⟨g2, b1, b2, b3⟩ := c_up1 (f := n + 1 + 1) (a := 0 + 1) ht ok (by omega) hm a2 (by rw [k0 1 (by omega)]; exact h1) (by rw [k0 0 (by omega)]; exact h0) (by rw [k0 _ (by omega)]; exact hb _ (by omega))
    have k1 : ∀ j, j < 5 ∨ (11 ≤ j ∧ j < 14) → (m_up p m 1 w1).2 j = w j := fun j hj => (ke 1 w1 j (by omega) hj).trans (k0 j hj)
    have z1 := m_up_z p m 1 w1
    have q1 : m_sq (m_sq (m_up p m 0) (m_up p m 1)) (m_up p m 2) w = if (m_sq (m_up p m 0) (m_up p m 1) w).1 = 0 then m_sq (m_up p m 0) (m_up p m 1) w else m_up p m 2 (m_sq (m_up p m 0) (m_up p m 1) w).2 := rfl
    rw [q0] at q1
    rw [q1]
    rw [show 0 + 1 = 1 from rfl] at b1 b2
    generalize m_up p m 1 w1 = r1 at b1 b2 k1 z1
    obtain ⟨x1, w2⟩ := r1
    dsimp only at b1 b2 k1 z1 ⊢
    by_cases c1 : x1 = 0
    · subst c1
      rw [if_pos rfl]
      exact ⟨g2, (a1.trans b1).trans (stop _ _ _), b2, c_ft_t a3 b3⟩
    · obtain rfl := z1.resolve_left c1
      rw [if_neg c1]
      obtain ⟨g3, d1, d2, d3⟩ := c_up1 (f := n + 1) (a := 1 + 1) ht ok (by omega) hm b2 (by rw [k1 1 (by omega)]; exact h1) (by rw [k1 0 (by omega)]; exact h0) (by rw [k1 _ (by omega)]; exact hb _ (by omega))
      refine ⟨g3, ?_, d2, c_ft_t a3 (c_ft_t b3 d3)⟩
      refine (a1.trans b1).trans (d1.trans ?_)
      rw [fn126_5, if_pos (by omega)]
end -- [71.cmove]
section -- [72.cmove]
/-! Part 72: the class's moves: steps of all axes. -/
theorem m_made_le {p : Nat → Int} (ok : m_ok p) (nn : m_nn p) {m a : Nat} {k : Int} (hm : (m : Int) < p 4) (ha : a < 3) (h0 : 0 ≤ k) (h1 : k < m_l p m) : m_made p m a k ≤ m_made p m a (k + 1) ∧ (m_sg (m_d p m a) = 0 → m_made p m a (k + 1) = m_made p m a k) := by
  have h16 := ok.2.1
  have l := m_l_r ok (m := m) (by omega)
  have l1 := m_l_1 ok (m := m) (by omega) (nn m hm)
  have d := m_d_r ok (m := m) (by omega) ha
  have da := m_abs_r d
  have g := m_mulr (x := 2 * k) (l := m_abs (m_d p m a)) (a := 4000) (b := 2000) (by omega) (by omega) (by omega) (by omega)
  have g' := m_mulr (x := 2 * (k + 1)) (l := m_abs (m_d p m a)) (a := 4000) (b := 2000) (by omega) (by omega) (by omega) (by omega)
  have e : 2 * (k + 1) * m_abs (m_d p m a) = 2 * k * m_abs (m_d p m a) + 2 * m_abs (m_d p m a) := by rw [Int.mul_add, Int.add_mul, Int.mul_one]
  refine ⟨?_, fun hz => ?_⟩
  · unfold m_made
    rw [m_idv (by omega) (by omega) (by omega) (by omega), m_idv (by omega) (by omega) (by omega) (by omega)]
    exact Int.ediv_le_ediv (by omega) (by omega)
  · have d0 : m_d p m a = 0 := by unfold m_sg at hz; (repeat' split at hz) <;> omega
    unfold m_made
    rw [d0, show m_abs 0 = 0 from rfl, Int.mul_zero, Int.mul_zero]
/-- three axes, one behind the other -/
theorem c_chain {t : Nat} {p : Nat → Int} {Q : (Nat → Int) → Prop} {L : Nat → Int → Int → q_F → Option (Int × q_F)} {A : Nat → (Nat → Int) → Int × (Nat → Int)}
    (st : ∀ (a f : Nat) (h : q_F) (w : Nat → Int), a < 3 → c_S h t p w → Q w → ∃ h', L (f + 1) 1 a h = L f (A a w).1 ((a + 1 : Nat) : Int) h' ∧ c_S h' t p (A a w).2 ∧ c_ft t h h' ∧ Q (A a w).2)
    (sp : ∀ (f : Nat) (a : Int) (h : q_F), L (f + 1) 0 a h = some (0, h)) (en : ∀ (f : Nat) (u : Int) (h : q_F), L (f + 1) u 3 h = some (u, h))
    (z : ∀ (a : Nat) (w : Nat → Int), (A a w).1 = 0 ∨ (A a w).1 = 1) {h : q_F} {w : Nat → Int} (hs : c_S h t p w) (hq : Q w) : ∃ h', L q_fu 1 0 h = some ((m_sq (m_sq (A 0) (A 1)) (A 2) w).1, h') ∧ c_S h' t p (m_sq (m_sq (A 0) (A 1)) (A 2) w).2 ∧ c_ft t h h' ∧ Q (m_sq (m_sq (A 0) (A 1)) (A 2) w).2 := by
  obtain ⟨n, e⟩ := m_fu3
  rw [e]
  obtain ⟨g1, a1, a2, a3, a4⟩ := st 0 (n + 1 + 1 + 1) h w (by omega) hs hq
  have z0 := z 0 w
  have q0 : m_sq (A 0) (A 1) w = if (A 0 w).1 = 0 then A 0 w else A 1 (A 0 w).2 := rfl
  generalize A 0 w = r0 at a1 a2 a4 z0 q0
  obtain ⟨x0, w1⟩ := r0
  dsimp only at a1 a2 a4 z0 q0
  by_cases c0 : x0 = 0
  · subst c0
    rw [if_pos rfl] at q0
    rw [m_sq_z (by rw [q0]), q0]
    exact ⟨g1, a1.trans (sp _ _ _), a2, a3, a4⟩
  · obtain rfl := z0.resolve_left c0
    rw [if_neg c0] at q0
    obtain ⟨g2, b1, b2, b3, b4⟩ := st 1 (n + 1 + 1) g1 w1 (by omega) a2 a4
    have z1 := z 1 w1
    have q1 : m_sq (m_sq (A 0) (A 1)) (A 2) w = if (m_sq (A 0) (A 1) w).1 = 0 then m_sq (A 0) (A 1) w else A 2 (m_sq (A 0) (A 1) w).2 := rfl
    rw [q0] at q1
    rw [q1]
    generalize A 1 w1 = r1 at b1 b2 b4 z1
    obtain ⟨x1, w2⟩ := r1
    dsimp only at b1 b2 b4 z1 ⊢
    by_cases c1 : x1 = 0
    · subst c1
      rw [if_pos rfl]
      exact ⟨g2, (a1.trans b1).trans (sp _ _ _), b2, c_ft_t a3 b3, b4⟩
    · obtain rfl := z1.resolve_left c1
      rw [if_neg c1]
      obtain ⟨g3, d1, d2, d3, d4⟩ := st 2 (n + 1) g2 w2 (by omega) b2 b4
      exact ⟨g3, (a1.trans b1).trans (d1.trans (en _ _ _)), d2, c_ft_t a3 (c_ft_t b3 d3), d4⟩
theorem c_ax1 {h : q_F} {t a m f : Nat} {k : Int} {p w : Nat → Int} (ht : t + 8 < 125) (ok : m_ok p) (nn : m_nn p) (ha : a < 3) (hm : (m : Int) < p 4) (h0 : 0 ≤ k) (h1 : k < m_l p m) (hs : c_S h t p w) : ∃ h', fn141_6 t (f + 1) m k 1 a h = fn141_6 t f m k (m_ax p m k a w).1 ((a + 1 : Nat) : Int) h' ∧ c_S h' t p (m_ax p m k a w).2 ∧ c_ft t h h' := by
  have h16 := ok.2.1
  have l := m_l_r ok (m := m) (by omega)
  have le := m_made_le ok nn hm ha h0 h1
  rw [fn141_6, if_neg (by omega), if_neg (by decide), q_w32_id (z := k + 1) (by omega) (by omega), c_made ok nn hs.2.1 hm ha (by omega) (by omega), Option.bind_some, c_made ok nn hs.2.1 hm ha h0 (by omega), Option.bind_some]
  unfold m_ax
  by_cases hx : m_made p m a (k + 1) = m_made p m a k
  · rw [if_pos (show m_made p m a (k + 1) ≤ m_made p m a k by omega), if_pos hx, fn141_71, q_w32_id (by omega) (by omega), ← m_s1]
    exact ⟨h, rfl, hs, c_ft_r⟩
  · have hd : m_sg (m_d p m a) ≠ 0 := fun h9 => hx (le.2 h9)
    rw [if_neg (show ¬ m_made p m a (k + 1) ≤ m_made p m a k by omega), if_neg hx, c_way ok hs.2.1 hm ha hd, Option.bind_some]
    obtain ⟨h3, g1, s3, f3⟩ := c_S_step ht ha hs (m_sg_r hd)
    rw [g1, Option.bind_some]
    dsimp only
    have z := m_step_z a (m_sg (m_d p m a)) w
    generalize m_step a (m_sg (m_d p m a)) w = s at s3 z ⊢
    have o3 := (c_S_o s3).2.2.1
    have tv := s3.2.2.2.2
    rw [fn141_64, fn141_69, fn141_69, fn141_71, fn141_71, q_w32_id (by omega) (by omega), ← m_s1]
    rcases z with z | z
    · rw [if_neg (show ¬ 1 - s.1 = 0 by omega), if_pos z]
      exact ⟨h3, rfl, s3, f3⟩
    · rw [if_pos (show 1 - s.1 = 0 by omega), if_neg (show ¬ s.1 = 0 by omega)]
      rcases tv with tv | tv
      · rw [if_pos (o3.trans tv), if_neg (show ¬ s.2 2 = 1 by omega)]
        exact ⟨h3, rfl, s3, f3⟩
      · rw [if_neg (show ¬ h3 t 6 = 0 by omega), if_pos tv]
        exact ⟨h3, rfl, s3, f3⟩
theorem c_axs {h : q_F} {t m : Nat} {k : Int} {p w : Nat → Int} (ht : t + 8 < 125) (ok : m_ok p) (nn : m_nn p) (hm : (m : Int) < p 4) (h0 : 0 ≤ k) (h1 : k < m_l p m) (hs : c_S h t p w) : ∃ h', fn141 t m k h = some ((m_sq (m_sq (m_ax p m k 0) (m_ax p m k 1)) (m_ax p m k 2) w).1, h') ∧ c_S h' t p (m_sq (m_sq (m_ax p m k 0) (m_ax p m k 1)) (m_ax p m k 2) w).2 ∧ c_ft t h h' := by
  obtain ⟨h', g1, g2, g3, -⟩ := c_chain (Q := fun _ => True) (L := fun f u a h => fn141_6 t f m k u a h) (A := fun a => m_ax p m k a) (fun a f h w ha hs _ => by
    obtain ⟨h', g1, g2, g3⟩ := c_ax1 (f := f) ht ok nn ha hm h0 h1 hs
    exact ⟨h', g1, g2, g3, trivial⟩) (fun f a h => by
    show fn141_6 t (f + 1) m k 0 a h = _
    rw [fn141_6, if_pos rfl, ite_self]) (fun f u h => by
    show fn141_6 t (f + 1) m k u 3 h = _
    rw [fn141_6, if_pos (by omega)]) (fun a w => m_ax_z p m k a w) hs trivial
  exact ⟨h', g1, g2, g3⟩
theorem m_sq3 (f g k : (Nat → Int) → Int × (Nat → Int)) : m_sq f (m_sq g k) = m_sq (m_sq f g) k := funext fun w => m_sq_as f g k w
theorem c_ms {h : q_F} {t m : Nat} {k : Int} {p w : Nat → Int} (ht : t + 8 < 125) (ok : m_ok p) (nn : m_nn p) (hm : (m : Int) < p 4) (h0 : 0 ≤ k) (h1 : k < m_l p m) (hs : c_S h t p w) : ∃ h', fn141 t m k (q_ud (q_ud (q_ud h t 8 (q_w64 (h t 8 + m_t p m k))) t 9 (q_w64 (q_ud h t 8 (q_w64 (h t 8 + m_t p m k)) t 9 + m_t p m k))) t 10 (q_w64 (q_ud (q_ud h t 8 (q_w64 (h t 8 + m_t p m k))) t 9 (q_w64 (q_ud h t 8 (q_w64 (h t 8 + m_t p m k)) t 9 + m_t p m k)) t 10 + 1))) = some ((m_ms p m k w).1, h') ∧ c_S h' t p (m_ms p m k w).2 ∧ c_ft t h h' := by
  have o := c_S_o hs
  rw [q_ud_n (show ¬ (t = t ∧ 9 = 8) by omega), q_ud_n (show ¬ (t = t ∧ 10 = 9) by omega), q_ud_n (show ¬ (t = t ∧ 10 = 8) by omega), o.2.2.2.2.1, o.2.2.2.2.2.1, o.2.2.2.2.2.2]
  have s1 := c_S_time (j := 8) (v := q_w64 (w 5 + m_t p m k)) ht hs (by omega)
  have s2 := c_S_time (j := 9) (v := q_w64 (w 6 + m_t p m k)) ht s1 (by omega)
  have s3 := c_S_time (j := 10) (v := q_w64 (w 7 + 1)) ht s2 (by omega)
  rw [show c_h 8 = 5 from rfl, show c_h 9 = 6 from rfl, show c_h 10 = 7 from rfl] at s3
  have f3 : c_ft t h (q_ud (q_ud (q_ud h t 8 (q_w64 (w 5 + m_t p m k))) t 9 (q_w64 (w 6 + m_t p m k))) t 10 (q_w64 (w 7 + 1))) := c_ft_u (c_ft_u (c_ft_u c_ft_r (by omega) (by omega)) (by omega) (by omega)) (by omega) (by omega)
  generalize q_ud (q_ud (q_ud h t 8 (q_w64 (w 5 + m_t p m k))) t 9 (q_w64 (w 6 + m_t p m k))) t 10 (q_w64 (w 7 + 1)) = h3 at s3 f3 ⊢
  have e : m_tk p m k w = m_u (m_u (m_u w 5 (q_w64 (w 5 + m_t p m k))) 6 (q_w64 (w 6 + m_t p m k))) 7 (q_w64 (w 7 + 1)) := by
    unfold m_tk
    dsimp only
    rw [m_u_n (show 6 ≠ 5 by omega), m_u_n (show 7 ≠ 6 by omega), m_u_n (show 7 ≠ 5 by omega)]
  unfold m_ms
  rw [e, m_sq3]
  obtain ⟨h', g1, g2, g3⟩ := c_axs ht ok nn hm h0 h1 s3
  exact ⟨h', g1, g2, c_ft_t f3 g3⟩
theorem m_sl_z (p : Nat → Int) (m : Nat) : ∀ (n : Nat) (k : Int) (w : Nat → Int), (m_sl p m n k w).1 = 0 ∨ (m_sl p m n k w).1 = 1 := by
  intro n
  induction n with
  | zero => intro k w; exact Or.inr rfl
  | succ n ih =>
    intro k w
    unfold m_sl; split
    · exact Or.inl rfl
    · exact ih _ _
theorem c_sl {t m : Nat} {p : Nat → Int} (ht : t + 8 < 125) (ok : m_ok p) (nn : m_nn p) (hm : (m : Int) < p 4) : ∀ (n : Nat) (k : Int) (f : Nat) (h : q_F) (w : Nat → Int), 0 ≤ k → k + n = m_l p m → n < f → c_S h t p w →
    ∃ h', fn137_33 t f m (m_l p m) k h = (if (m_sl p m n k w).1 = 0 then some (0, h') else fn137_104 t q_fu m 0 h') ∧ c_S h' t p (m_sl p m n k w).2 ∧ c_ft t h h' := by
  have h16 := ok.2.1
  have l := m_l_r ok (m := m) (by omega)
  intro n
  induction n with
  | zero =>
    intro k f h w hk hn hf hs
    obtain ⟨f, rfl⟩ : ∃ f', f = f' + 1 := ⟨f - 1, by omega⟩
    refine ⟨h, ?_, hs, c_ft_r⟩
    rw [fn137_33, if_pos (by omega)]
    unfold m_sl
    rw [if_neg (show ¬ (1 : Int) = 0 by decide)]
  | succ n ih =>
    intro k f h w hk hn hf hs
    obtain ⟨f, rfl⟩ : ∃ f', f = f' + 1 := ⟨f - 1, by omega⟩
    rw [fn137_33, if_neg (by omega), c_t ok nn hs.2.1 hm hk (by omega), Option.bind_some, m_let, m_let, m_let]
    obtain ⟨h1, a1, a2, a3⟩ := c_ms ht ok nn hm hk (by omega) hs
    rw [a1, Option.bind_some]
    dsimp only
    unfold m_sl
    split
    · rename_i c
      exact ⟨h1, by rw [if_pos rfl], a2, a3⟩
    · rename_i c
      obtain ⟨h', b1, b2, b3⟩ := ih (k + 1) f h1 _ (by omega) (by omega) (by omega) a2
      refine ⟨h', ?_, b2, c_ft_t a3 b3⟩
      rw [q_w32_id (by omega) (by omega), b1]
end -- [72.cmove]
section -- [73.crun]
/-! Part 73: the class's moves, whole; the queue's run. -/
/-- what a run knows of the row ahead of the move m -/
def m_iq (p : Nat → Int) (m : Nat) (w : Nat → Int) : Prop := (1 ≤ w 0 ∧ w 0 ≤ 1000) ∧ (∀ a, a < 3 → w (47 + a) = m_beg p m a) ∧ ∀ j, 74 ≤ j → w j = p j
theorem m_iq_fr {p w w' : Nat → Int} {m : Nat} (h : m_iq p m w) (f : m_fr w w') : m_iq p m w' := by
  obtain ⟨h1, h2, h3⟩ := h
  refine ⟨by rw [f 0 (by unfold m_dy; omega)]; exact h1, fun a ha => by rw [f _ (by unfold m_dy; omega)]; exact h2 a ha, fun j hj => by rw [f j (by unfold m_dy; omega)]; exact h3 j hj⟩
theorem c_S_co {h : q_F} {t a : Nat} {p w : Nat → Int} {v : Int} (ht : t + 8 < 125) (ha : a < 3) (hs : c_S h t p w) : c_S (q_ud h (q_axn t a) 12 v) t p (m_u w (47 + a) v) ∧ c_ft t h (q_ud h (q_axn t a) 12 v) := by
  obtain ⟨h1, h2, h3, h4⟩ := hs
  have f : c_ft t h (q_ud h (q_axn t a) 12 v) := by rw [q_axn_e ha]; exact c_ft_u c_ft_r (by omega) (by omega)
  have i : m_iw p (m_u w (47 + a) v) := by
    obtain ⟨⟨⟨i1, i2⟩, i3⟩, i4⟩ := h4
    refine ⟨⟨⟨by rw [m_u_n (by omega)]; exact i1, fun b hb => ?_⟩, by rw [m_u_n (by omega)]; exact i3⟩, by rw [m_u_n (by omega)]; exact i4⟩
    rw [m_u_n (by omega)]; exact i2 b hb
  refine ⟨⟨?_, c_ft_plan f ht h2, m_a3_u h3 (by omega), i⟩, f⟩
  rw [q_axn_e ha]; exact c_tb_f (j := 12) ha (by omega) h1
theorem c_co1 {h : q_F} {t a m f : Nat} {p w : Nat → Int} (ht : t + 8 < 125) (ok : m_ok p) (ha : a < 3) (hm : (m : Int) < p 4) (hs : c_S h t p w) (hv : w (47 + a) = m_beg p m a) (he : ∀ j, 74 ≤ j → w j = p j) : ∃ h', fn137_104 t (f + 1) m a h = fn137_104 t f m ((a + 1 : Nat) : Int) h' ∧ c_S h' t p (m_u w (47 + a) (w (74 + 3 * m + a))) ∧ c_ft t h h' := by
  have h16 := ok.2.1
  have b1 := m_beg_r ok (m := m + 1) (a := a) (by omega) ha
  have e : w (74 + 3 * m + a) = m_beg p (m + 1) a := by rw [he _ (by omega)]; unfold m_beg; rw [if_neg (by omega)]; rfl
  have e12 : h (q_axn t a) 12 = w (47 + a) := c_S_f (j := 12) ha (by omega) hs
  rw [fn137_104, if_neg (by omega), c_dis ok hs.2.1 hm ha, Option.bind_some, m_let, e12, hv]
  have ed : m_beg p m a + m_d p m a = m_beg p (m + 1) a := by unfold m_d; omega
  rw [ed, q_w32_id (by omega) (by omega), q_w32_id (by omega) (by omega), ← m_s1, e]
  obtain ⟨g1, g2⟩ := c_S_co (v := m_beg p (m + 1) a) ht ha hs
  exact ⟨_, rfl, g1, g2⟩
theorem c_co {h : q_F} {t m : Nat} {p w : Nat → Int} (ht : t + 8 < 125) (ok : m_ok p) (hm : (m : Int) < p 4) (hs : c_S h t p w) (hq : m_iq p m w) : ∃ h', fn137_104 t q_fu m 0 h = some (1, h') ∧ c_S h' t p (m_co m w) ∧ c_ft t h h' ∧ m_iq p (m + 1) (m_co m w) := by
  obtain ⟨n, e⟩ := m_fu3
  obtain ⟨q1, q2, q3⟩ := hq
  obtain ⟨g1, a1, a2, a3⟩ := c_co1 (f := n + 1 + 1 + 1) (a := 0) ht ok (by omega) hm hs (q2 0 (by omega)) q3
  obtain ⟨g2, b1, b2, b3⟩ := c_co1 (f := n + 1 + 1) (a := 0 + 1) ht ok (by omega) hm a2 (by rw [m_u_n (by omega)]; exact q2 1 (by omega)) (fun j hj => by rw [m_u_n (by omega)]; exact q3 j hj)
  obtain ⟨g3, d1, d2, d3⟩ := c_co1 (f := n + 1) (a := 0 + 1 + 1) ht ok (by omega) hm b2 (by rw [m_u_n (by omega), m_u_n (by omega)]; exact q2 2 (by omega)) (fun j hj => by rw [m_u_n (by omega), m_u_n (by omega)]; exact q3 j hj)
  rw [m_u_n (show 74 + 3 * m + (0 + 1) ≠ 47 + 0 by omega), m_u_n (show 74 + 3 * m + (0 + 1 + 1) ≠ 47 + (0 + 1) by omega), m_u_n (show 74 + 3 * m + (0 + 1 + 1) ≠ 47 + 0 by omega)] at d2
  have ec : m_co m w = m_u (m_u (m_u w (47 + 0) (w (74 + 3 * m + 0))) (47 + (0 + 1)) (w (74 + 3 * m + (0 + 1)))) (47 + (0 + 1 + 1)) (w (74 + 3 * m + (0 + 1 + 1))) := rfl
  refine ⟨g3, ?_, by rw [ec]; exact d2, c_ft_t a3 (c_ft_t b3 d3), ?_⟩
  · rw [e]
    refine a1.trans (b1.trans (d1.trans ?_))
    rw [fn137_104, if_pos (by omega)]
  · have bb : ∀ a, a < 3 → m_beg p (m + 1) a = w (74 + 3 * m + a) := fun a ha => by rw [q3 _ (by omega)]; unfold m_beg; rw [if_neg (by omega)]; rfl
    unfold m_co
    refine ⟨by rw [m_u_n (by omega), m_u_n (by omega), m_u_n (by omega)]; exact q1, fun a ha => ?_, fun j hj => by rw [m_u_n (by omega), m_u_n (by omega), m_u_n (by omega)]; exact q3 j hj⟩
    rw [bb a ha]
    rcases m_c3 ha with rfl | rfl | rfl <;> simp [m_u]
theorem m_mm_ups (p : Nat → Int) (m : Nat) (w : Nat → Int) : m_mm p m w = m_sq (m_ups p m) (m_sl p m (m_l p m).toNat 0) (m_rv p m 2 (m_rv p m 1 (m_rv p m 0 w))) := by
  unfold m_mm m_ups
  rw [m_sq_as, m_sq_as]
theorem m_ups_z (p : Nat → Int) (m : Nat) (w : Nat → Int) (h1 : w 1 = 0) : m_ups p m w = (1, w) := by
  have e : ∀ a, m_up p m a w = (1, w) := fun a => by unfold m_up; rw [if_pos h1, ite_self, ite_self]
  have s0 : m_sq (m_up p m 0) (m_up p m 1) w = (1, w) := by rw [m_sq_n (by rw [e 0]; exact (show (1 : Int) ≠ 0 from by decide)), e 0]; exact e 1
  unfold m_ups
  rw [m_sq_n (by rw [s0]; exact (show (1 : Int) ≠ 0 from by decide)), s0]
  exact e 2
theorem m_sq_fst {f g : (Nat → Int) → Int × (Nat → Int)} (hf : ∀ w, (f w).1 = 0 ∨ (f w).1 = 1) (hg : ∀ w, (g w).1 = 0 ∨ (g w).1 = 1) (w : Nat → Int) : (m_sq f g w).1 = 0 ∨ (m_sq f g w).1 = 1 := by
  unfold m_sq; split
  · exact hf w
  · exact hg _
theorem m_ups_01 (p : Nat → Int) (m : Nat) (w : Nat → Int) : (m_ups p m w).1 = 0 ∨ (m_ups p m w).1 = 1 := m_sq_fst (m_sq_fst (m_up_z p m 0) (m_up_z p m 1)) (m_up_z p m 2) w
theorem m_ups_fr (p : Nat → Int) (m : Nat) (w : Nat → Int) : m_fr w (m_ups p m w).2 := m_sq_fr (m_sq_fr (m_up_fr (by omega)) (m_up_fr (by omega))) (m_up_fr (by omega)) w
theorem m_mm_z (p : Nat → Int) (m : Nat) (w : Nat → Int) : (m_mm p m w).1 = 0 ∨ (m_mm p m w).1 = 1 := by
  rw [m_mm_ups]
  exact m_sq_fst (m_ups_01 p m) (m_sl_z p m _ _) _
theorem c_24 {h : q_F} {t m : Nat} {p w : Nat → Int} (ht : t + 8 < 125) (ok : m_ok p) (nn : m_nn p) (hm : (m : Int) < p 4) (hs : c_S h t p w) (hq : m_iq p m w) :
    ∃ h', fn137_24 t m h = some ((m_sl p m (m_l p m).toNat 0 w).1, h') ∧ ((m_sl p m (m_l p m).toNat 0 w).1 = 0 → c_S h' t p (m_sl p m (m_l p m).toNat 0 w).2) ∧ ((m_sl p m (m_l p m).toNat 0 w).1 = 1 → c_S h' t p (m_co m (m_sl p m (m_l p m).toNat 0 w).2) ∧ m_iq p (m + 1) (m_co m (m_sl p m (m_l p m).toNat 0 w).2)) ∧ c_ft t h h' := by
  have h16 := ok.2.1
  have l := m_l_r ok (m := m) (by omega)
  obtain ⟨h1, a1, a2, a3⟩ := c_sl ht ok nn hm (m_l p m).toNat 0 q_fu h w (by omega) (by omega) (by have := q_fu_ge; omega) hs
  have fr := m_sl_fr (p := p) (m := m) (m_l p m).toNat 0 w
  rw [fn137_24, c_lead (hs.2.1.1.2 m (by omega)).1 (by omega), Option.bind_some, a1]
  rcases m_sl_z p m (m_l p m).toNat 0 w with z | z
  · exact ⟨h1, by rw [if_pos z, z], fun _ => a2, fun e => by omega, a3⟩
  · obtain ⟨h2, b1, b2, b3, b4⟩ := c_co ht ok hm a2 (m_iq_fr hq fr)
    exact ⟨h2, by rw [if_neg (by omega), b1, z], fun e => by omega, fun _ => ⟨b2, b4⟩, c_ft_t a3 b3⟩
theorem c_mm {h : q_F} {t m : Nat} {p w : Nat → Int} (ht : t + 8 < 125) (ok : m_ok p) (nn : m_nn p) (hm : (m : Int) < p 4) (hs : c_S h t p w) (hq : m_iq p m w) :
    ∃ h', fn137 t m h = some ((m_mm p m w).1, h') ∧ ((m_mm p m w).1 = 0 → c_S h' t p (m_mm p m w).2) ∧ ((m_mm p m w).1 = 1 → c_S h' t p (m_co m (m_mm p m w).2) ∧ m_iq p (m + 1) (m_co m (m_mm p m w).2)) ∧ c_ft t h h' := by
  obtain ⟨h1, a1, a2, a3⟩ := c_rv ht ok hm hs
  have fr1 : m_fr w (m_rv p m 2 (m_rv p m 1 (m_rv p m 0 w))) := m_fr_t (m_rv_fr (by omega) w) (m_fr_t (m_rv_fr (by omega) _) (m_rv_fr (by omega) _))
  rw [m_mm_ups, fn137, a1, Option.bind_some]
  dsimp only
  have hq1 := m_iq_fr hq fr1
  generalize m_rv p m 2 (m_rv p m 1 (m_rv p m 0 w)) = w1 at a2 hq1 ⊢
  have e5 := (c_S_o a2).2.1
  by_cases c : w1 1 = 0
  · rw [if_pos (e5.trans c), m_sq_n (by rw [m_ups_z _ _ _ c]; exact (show (1 : Int) ≠ 0 from by decide)), m_ups_z _ _ _ c]
    obtain ⟨h2, b1, b2, b3, b4⟩ := c_24 ht ok nn hm a2 hq1
    exact ⟨h2, b1, b2, b3, c_ft_t a3 b4⟩
  · obtain ⟨h2, b1, b2, b3⟩ := c_ups ht ok hm a2 c hq1.1 (fun a ha => (m_a3_i a2.2.2.1 ha).1.2.2)
    rw [if_neg (by omega), b1, Option.bind_some]
    dsimp only
    have hq2 := m_iq_fr hq1 (m_ups_fr p m w1)
    rcases m_ups_01 p m w1 with z | z
    · rw [if_pos z, m_sq_z z]
      exact ⟨h2, rfl, fun _ => b2, fun e => by simp at e, c_ft_t a3 b3⟩
    · rw [if_neg (by omega), m_sq_n (by omega)]
      obtain ⟨h3, d1, d2, d3, d4⟩ := c_24 ht ok nn hm b2 hq2
      exact ⟨h3, d1, d2, d3, c_ft_t a3 (c_ft_t b3 d4)⟩
/-- three places of a row of targets moved -/
theorem c_cp3s {h : q_F} {o s d i f : Nat} (hs : s < 16) (hd : d < 16) (hi : i < 3) : fn145_2 o (f + 1) s d i h = fn145_2 o f s d ((i + 1 : Nat) : Int) (m_sr h (o + 1) (m_u (h (o + 1)) (3 * d + i) (h (o + 1) (3 * s + i)))) := by
  rw [fn145_2, if_neg (by omega), fn148, q_w32_id (z := (s : Int) * 3) (by omega) (by omega), q_w32_id (z := (s : Int) * 3 + i) (by omega) (by omega), c_ent (by omega) (by omega), Option.bind_some, Option.bind_some, fn154, q_w32_id (z := (d : Int) * 3) (by omega) (by omega), q_w32_id (z := (d : Int) * 3 + i) (by omega) (by omega), c_put (by omega) (by omega), Option.bind_some, Option.bind_some, q_w32_id (z := (i : Int) + 1) (by omega) (by omega), show ((s : Int) * 3 + i).toNat = 3 * s + i by omega, show ((d : Int) * 3 + i).toNat = 3 * d + i by omega, m_ud_sr, ← m_s1]
/-- a point moved -/
def m_pt (s d : Nat) (v : Nat → Int) : Nat → Int := m_u (m_u (m_u v (3 * d + 0) (v (3 * s + 0))) (3 * d + 1) (v (3 * s + 1))) (3 * d + 2) (v (3 * s + 2))
theorem c_cp3 {h : q_F} {o s d : Nat} (hs : s < 16) (hd : d < 16) : fn145 o s d h = some (0, m_sr h (o + 1) (m_pt s d (h (o + 1)))) := by
  obtain ⟨n, e⟩ := m_fu3
  have g0 := c_cp3s (h := h) (o := o) (f := n + 1 + 1 + 1) hs hd (show 0 < 3 by omega)
  rw [c_cp3s (f := n + 1 + 1) hs hd (show 0 + 1 < 3 by omega), c_cp3s (f := n + 1) hs hd (show 0 + 1 + 1 < 3 by omega)] at g0
  simp only [m_sr_s, m_sr_sr] at g0
  rw [m_u_n (show 3 * s + (0 + 1) ≠ 3 * d + 0 by omega), m_u_n (show 3 * s + (0 + 1 + 1) ≠ 3 * d + (0 + 1) by omega), m_u_n (show 3 * s + (0 + 1 + 1) ≠ 3 * d + 0 by omega)] at g0
  rw [fn145, e]
  refine g0.trans ?_
  rw [fn145_2, if_pos (by omega)]
  rfl
theorem m_pt_cp {v : Nat → Int} {k at' into s d : Nat} (hd : 3 * d = into + k) (hs : 3 * s = at' + k) (hle : into ≤ at') : m_pt s d (m_cp v v at' into k) = m_cp v v at' into (k + 3) := by
  have e : ∀ i, m_cp v v at' into k (3 * s + i) = v (at' + (k + i)) := fun i => by
    unfold m_cp; rw [if_neg (by omega)]; congr 1; omega
  unfold m_pt
  rw [e 0, e 1, e 2, show 3 * d + 0 = into + k by omega, show k + 0 = k from rfl, m_cp_s, show 3 * d + 1 = into + (k + 1) by omega, m_cp_s, show 3 * d + 2 = into + (k + 1 + 1) by omega, show k + 2 = k + 1 + 1 from rfl, m_cp_s]
theorem c_rmf {o m : Nat} {v : Nat → Int} {s : Nat} (hs : s ≤ 16) (hm : m ≤ s) : ∀ (d u f : Nat) (h : q_F), u + d = s → m ≤ u → d < f → h o 1 = s → h (o + 1) = m_cp v v (3 * m) 0 (3 * (u - m)) → fn153_2 o f m u h = some (0, q_ud (m_sr h (o + 1) (m_cp v v (3 * m) 0 (3 * (s - m)))) o 1 ((s - m : Nat) : Int)) := by
  intro d
  induction d with
  | zero =>
    intro u f h hu hmu hf h1 hv
    obtain ⟨f, rfl⟩ : ∃ f', f = f' + 1 := ⟨f - 1, by omega⟩
    obtain rfl : u = s := by omega
    rw [fn153_2, h1, if_pos (by omega), m_let, q_w32_id (by omega) (by omega), ← hv, m_sr_id]
    congr 3
    unfold qx_mx; split <;> omega
  | succ d ih =>
    intro u f h hu hmu hf h1 hv
    obtain ⟨f, rfl⟩ : ∃ f', f = f' + 1 := ⟨f - 1, by omega⟩
    rw [fn153_2, h1, if_neg (by omega), q_w32_id (z := (u : Int) - m) (by omega) (by omega), show (u : Int) - m = ((u - m : Nat) : Int) by omega, c_cp3 (by omega) (by omega), Option.bind_some, hv, m_pt_cp (by omega) (by omega) (by omega), q_w32_id (by omega) (by omega), ← m_s1]
    dsimp only
    rw [ih (u + 1) f _ (by omega) (by omega) (by omega) (by rw [m_sr_n (by omega)]; exact h1) (by rw [m_sr_s]; congr 1; omega), m_sr_sr]
end -- [73.crun]
section -- [74.crun]
/-! Part 74: the class's run of the queue. -/
theorem c_tb_g7 {h h' : q_F} {t : Nat} {w w' : Nat → Int} (hc : c_tb h t w) (f : ∀ k, k ≠ t + 7 → k ≠ t + 8 → h' k = h k) (hw : ∀ j, j < 74 → j ≠ 4 → w' j = w j) (h9 : h' (t + 7) 1 = w' 4) (h10 : ∀ j, j < 3 * (w' 4).toNat → h' (t + 8) j = w' (74 + j)) : c_tb h' t w' := by
  obtain ⟨h1, ⟨h2, h3, h4, h5, h6, h7, h8⟩, -, -⟩ := hc
  refine ⟨fun a ha => c_ax_h (c_ax_w (h1 a ha) (fun j hj hj2 => hw j hj2 (by omega)) ha) (f _ (by omega) (by omega)) (f _ (by omega) (by omega)), ⟨?_, ?_, ?_, ?_, ?_, ?_, ?_⟩, h9, h10⟩
  · rw [f t (by omega) (by omega), hw 0 (by omega) (by omega)]; exact h2
  · rw [f t (by omega) (by omega), hw 1 (by omega) (by omega)]; exact h3
  · rw [f t (by omega) (by omega), hw 2 (by omega) (by omega)]; exact h4
  · rw [f t (by omega) (by omega), hw 3 (by omega) (by omega)]; exact h5
  · rw [f t (by omega) (by omega), hw 5 (by omega) (by omega)]; exact h6
  · rw [f t (by omega) (by omega), hw 6 (by omega) (by omega)]; exact h7
  · rw [f t (by omega) (by omega), hw 7 (by omega) (by omega)]; exact h8
theorem c_tb_w {h : q_F} {t : Nat} {w w' : Nat → Int} (hc : c_tb h t w) (hw : ∀ j, j < 74 → w' j = w j) (h4 : w 4 = 0) : c_tb h t w' :=
  c_tb_g7 hc (fun _ _ _ => rfl) (fun j hj _ => hw j hj) (by rw [hw 4 (by omega)]; exact hc.2.2.1) (fun j hj => by rw [hw 4 (by omega), h4] at hj; exact absurd hj (by omega))
theorem c_clear {h : q_F} {t : Nat} {w : Nat → Int} (hc : c_tb h t w) : c_tb (q_ud h (t + 7) 1 0) t (m_u w 4 0) := by
  refine c_tb_g7 hc (fun k h1 h2 => by funext j; rw [q_ud_n (by omega)]) (fun j hj hj2 => m_u_n hj2) (by rw [q_ud_s, m_u_s]) (fun j hj => by rw [m_u_s] at hj; exact absurd hj (by omega))
theorem c_stop {h : q_F} {t : Nat} {w : Nat → Int} {v : Int} (hc : c_tb h t w) : ∃ h', fn142 t v h = some (0, h') ∧ c_tb h' t (m_stops (m_u w 3 v)) ∧ c_ft t h h' := by
  have g1 := c_tb_u (j := 7) (v := v) (by omega) hc
  have g2 := c_clear g1
  have g3 := c_tb_f (a := 0) (j := 11) (v := 0) (by omega) (by omega) g2
  have g4 := c_tb_f (a := 1) (j := 11) (v := 0) (by omega) (by omega) g3
  have g5 := c_tb_f (a := 2) (j := 11) (v := 0) (by omega) (by omega) g4
  refine ⟨_, by rw [fn142, m_let, fn143, m_let, Option.bind_some, m_let, m_let, m_let], g5, ?_⟩
  exact c_ft_u (c_ft_u (c_ft_u (c_ft_u (c_ft_u c_ft_r (by omega) (by omega)) (by omega) (by omega)) (by omega) (by omega)) (by omega) (by omega)) (by omega) (by omega)
theorem c_fin {h : q_F} {t m : Nat} {w : Nat → Int} (hc : c_tb h t w) (h4 : 0 ≤ w 4 ∧ w 4 ≤ 16) (hm : (m : Int) ≤ w 4) : ∃ h', fn153 (t + 7) m h = some (0, h') ∧ c_tb h' t (m_fin m w) ∧ c_ft t h h' := by
  have e1 : h (t + 7) 1 = ((w 4).toNat : Int) := by rw [hc.2.2.1]; omega
  have g := c_rmf (o := t + 7) (m := m) (v := h (t + 8)) (s := (w 4).toNat) (by omega) (by omega) ((w 4).toNat - m) m q_fu h (by omega) (by omega) (by have := q_fu_ge; omega) e1 (by rw [Nat.sub_self]; exact (m_cp_0 _ _ _ _).symm)
  refine ⟨_, g, ?_, ?_⟩
  · have f4 : m_fin m w 4 = w 4 - m := by unfold m_fin; rw [m_u_s]
    refine c_tb_g7 hc (fun k h1 h2 => by funext j; rw [q_ud_n (by omega), m_sr_n (by omega)]) (fun j hj hj2 => ?_) ?_ (fun j hj => ?_)
    · unfold m_fin; rw [m_u_n hj2]; unfold m_cp; rw [if_neg (by omega)]
    · rw [q_ud_s, f4]; omega
    · rw [f4] at hj
      rw [q_ud_n (by omega), show t + 7 + 1 = t + 8 from rfl, m_sr_s]
      unfold m_fin
      rw [m_u_n (by omega)]
      unfold m_cp
      rw [if_pos (by omega), if_pos (by omega), show 3 * m + (j - 0) = 3 * m + j by omega, hc.2.2.2 _ (by omega)]
      congr 1; omega
  · intro k hk
    funext j
    rw [q_ud_n (by omega), m_sr_n (by omega)]
theorem m_a3_fin {w : Nat → Int} {m : Nat} (h : m_a3 w) : m_a3 (m_fin m w) := m_a3_of fun a ha => by
  have g := m_a3_i h ha
  have e : ∀ k, 8 ≤ k → k < 72 → m_fin m w (k + a) = w (k + a) := fun k h1 h2 => by
    unfold m_fin; rw [m_u_n (by omega)]; unfold m_cp; rw [if_neg (by omega)]
  unfold m_ai
  rw [e 29 (by omega) (by omega), e 11 (by omega) (by omega), e 26 (by omega) (by omega), e 8 (by omega) (by omega), e 53 (by omega) (by omega), e 20 (by omega) (by omega), e 23 (by omega) (by omega), e 44 (by omega) (by omega), e 32 (by omega) (by omega), e 56 (by omega) (by omega), e 59 (by omega) (by omega)]
  exact g
theorem m_a3_stops {w : Nat → Int} (h : m_a3 w) : m_a3 (m_stops w) := m_a3_u (m_a3_u (m_a3_u (m_a3_u h (by omega)) (by omega)) (by omega)) (by omega)
theorem c_mk {t n : Nat} {p : Nat → Int} (ht : t + 8 < 125) (ok : m_ok p) (nn : m_nn p) (hn : (n : Int) ≤ p 4) : ∀ (d m f : Nat) (h : q_F) (w : Nat → Int), m + d = n → d < f → c_S h t p w → m_iq p m w →
    ∃ h', fn138_2 t f n m h = some ((m_mk p n d m w).1, h') ∧ c_tb h' t (m_mk p n d m w).2 ∧ c_ft t h h' ∧ m_a3 (m_mk p n d m w).2 := by
  have h16 := ok.2.1
  intro d
  induction d with
  | zero =>
    intro m f h w hm hf hs hq
    obtain ⟨f, rfl⟩ : ∃ f', f = f' + 1 := ⟨f - 1, by omega⟩
    obtain rfl : m = n := by omega
    have w4 := hs.2.2.2.1.2
    obtain ⟨h1, a1, a2, a3⟩ := c_fin (m := m) hs.1 (by omega) (by omega)
    refine ⟨h1, ?_, a2, a3, m_a3_fin hs.2.2.1⟩
    rw [fn138_2, if_pos (by omega), fn138_22, a1, Option.bind_some, if_pos (by omega)]
    rfl
  | succ d ih =>
    intro m f h w hm hf hs hq
    obtain ⟨f, rfl⟩ : ∃ f', f = f' + 1 := ⟨f - 1, by omega⟩
    rw [fn138_2, if_neg (by omega)]
    obtain ⟨h1, a1, a2, a3, a4⟩ := c_mm ht ok nn (m := m) (by omega) hs hq
    rw [a1, Option.bind_some]
    dsimp only
    unfold m_mk
    rcases m_mm_z p m w with z | z
    · rw [if_pos z, if_pos z]
      have s := a2 z
      have w4 := s.2.2.2.1.2
      generalize (m_mm p m w).2 = w1 at s w4 ⊢
      obtain ⟨h2, b1, b2, b3⟩ := c_fin (m := m) s.1 (by omega) (by omega)
      obtain ⟨h3, d1, d2, d3⟩ := c_stop (v := 3) b2
      refine ⟨h3, ?_, c_tb_w d2 (fun j hj => ?_) ?_, c_ft_t a4 (c_ft_t b3 d3), ?_⟩
      · rw [fn138_22, b1, Option.bind_some, if_neg (by omega), d1, Option.bind_some]
      · unfold m_stops
        have e : j ≠ 4 → m_fin m w1 j = w1 j := fun h9 => by unfold m_fin; rw [m_u_n h9]; unfold m_cp; rw [if_neg (by omega)]
        simp only [m_u]
        (repeat' split) <;> first | rfl | exact (e (by assumption)).symm
      · simp [m_stops, m_u]
      · exact m_a3_stops (m_a3_u s.2.2.1 (by omega))
    · rw [if_neg (by omega), if_neg (by omega)]
      obtain ⟨s, q⟩ := a3 z
      obtain ⟨h2, b1, b2, b3, b4⟩ := ih (m + 1) f h1 _ (by omega) (by omega) s q
      refine ⟨h2, ?_, b2, c_ft_t a4 b3, b4⟩
      rw [q_w32_id (by omega) (by omega), ← m_s1, b1]
theorem c_run {h : q_F} {t n : Nat} {w : Nat → Int} (ht : t + 8 < 125) (ok : m_ok w) (nn : m_nn w) (a3 : m_a3 w) (tv : w 2 = 0 ∨ w 2 = 1) (hn : (n : Int) ≤ w 4) (hc : c_tb h t w) (hP : c_Plan h w) :
    ∃ h', fn138 t n h = some ((m_run n w).1, h') ∧ c_tb h' t (m_run n w).2 ∧ c_ft t h h' ∧ m_a3 (m_run n w).2 :=
  c_mk ht ok nn hn n 0 q_fu h w (by omega) (by have := q_fu_ge; have := ok.2.1; omega) ⟨hc, hP, a3, ⟨m_ok_row ok, rfl⟩, tv⟩ ⟨ok.1, fun a ha => by unfold m_beg; rw [if_pos rfl], fun _ _ => rfl⟩
end -- [74.crun]
section -- [75.ccopy]
/-! Part 75: the class's tables copied. -/
def c_cpn (o o1 lo n : Nat) (h g : q_F) : Prop := (∀ j, lo ≤ j → j < n → g o j = h o1 j) ∧ ∀ k, k ≠ o → g k = h k
theorem c_cpn_0 {o o1 lo : Nat} {h : q_F} : c_cpn o o1 lo lo h h := ⟨fun j h1 h2 => absurd h1 (by omega), fun _ _ => rfl⟩
theorem c_cpn_s {o o1 lo n : Nat} {h g : q_F} (ho : o1 ≠ o) (hp : c_cpn o o1 lo n h g) : c_cpn o o1 lo (n + 1) h (q_ud g o n (g o1 n)) := by
  obtain ⟨p1, p2⟩ := hp
  refine ⟨fun j h1 h2 => ?_, fun k hk => ?_⟩
  · by_cases e : j = n
    · subst e; rw [q_ud_s, p2 o1 ho]
    · rw [q_ud_n (by omega)]; exact p1 j h1 (by omega)
  · funext j; rw [q_ud_n (by omega), p2 k hk]
theorem c_cp46 {o o1 : Nat} {h : q_F} (h1 : o1 ≠ o) (h2 : o1 ≠ o + 1) (h3 : o1 + 1 ≠ o) : ∃ h', fn46 o o1 h = some (0, h') ∧ (∀ w a, c_ax h o1 w a → c_ax h' o w a) ∧ c_fo o h h' := by
  have g1 : ∃ g, (∀ K : q_F → Option (Int × q_F), (q_let (q_ud h o 0 (h o1 0)) fun g1 =>
  q_let (q_ud g1 o 1 (g1 o1 1)) fun g2 =>
  q_let (q_ud g2 o 2 (g2 o1 2)) fun g3 =>
  q_let (q_ud g3 o 3 (g3 o1 3)) fun g4 =>
  q_let (q_ud g4 o 4 (g4 o1 4)) fun g5 =>
  q_let (q_ud g5 o 5 (g5 o1 5)) fun g6 =>
  q_let (q_ud g6 o 6 (g6 o1 6)) fun g7 =>
  q_let (q_ud g7 o 7 (g7 o1 7)) fun g8 =>
  q_let (q_ud g8 o 8 (g8 o1 8)) fun g9 =>
  q_let (q_ud g9 o 9 (g9 o1 9)) fun g10 =>
  q_let (q_ud g10 o 10 (g10 o1 10)) fun g11 =>
  q_let (q_ud g11 o 11 (g11 o1 11)) fun g12 =>
  q_let (q_ud g12 o 12 (g12 o1 12)) fun g13 =>
  q_let (q_ud g13 o 13 (g13 o1 13)) K) = K g) ∧ c_cpn o o1 0 14 h g :=
    ⟨_, fun K => rfl, c_cpn_s h1 (c_cpn_s h1 (c_cpn_s h1 (c_cpn_s h1 (c_cpn_s h1 (c_cpn_s h1 (c_cpn_s h1 (c_cpn_s h1 (c_cpn_s h1 (c_cpn_s h1 (c_cpn_s h1 (c_cpn_s h1 (c_cpn_s h1 (c_cpn_s h1 c_cpn_0)))))))))))))⟩
  obtain ⟨g, e, p1, p2⟩ := g1
  have g2 : ∃ g', fn42 (o + 1) (o1 + 1) g = some (0, g') ∧ c_cpn (o + 1) (o1 + 1) 0 7 g g' := by
    have h4 : o1 + 1 ≠ o + 1 := by omega
    exact ⟨_, rfl, c_cpn_s h4 (c_cpn_s h4 (c_cpn_s h4 (c_cpn_s h4 (c_cpn_s h4 (c_cpn_s h4 (c_cpn_s h4 c_cpn_0))))))⟩
  obtain ⟨g', e2, p3, p4⟩ := g2
  refine ⟨g', ?_, fun w a hc => ⟨fun j hj => ?_, fun j hj => ?_⟩, fun k k1 k2 => ?_⟩
  · unfold fn46
    rw [e, e2, Option.bind_some]
  · rw [p4 o (by omega), p1 j (by omega) hj]; exact hc.1 j hj
  · rw [p3 j (by omega) hj, p2 (o1 + 1) h3]; exact hc.2 j hj
  · rw [p4 k k2, p2 k k1]
theorem c_cp144s {o o1 s : Nat} {h0 : q_F} (hs : s ≤ 16) (h2 : o1 + 1 ≠ o + 1) : ∀ (d u f : Nat) (h : q_F), u + d = 3 * s → d < f → h o 1 = s → (∀ k, k ≠ o + 1 → h k = h0 k) → (∀ j, j < u → h (o + 1) j = h0 (o1 + 1) j) → ∃ h', fn144_10 o o1 f u h = some (0, h') ∧ (∀ k, k ≠ o + 1 → h' k = h0 k) ∧ ∀ j, j < 3 * s → h' (o + 1) j = h0 (o1 + 1) j := by
  intro d
  induction d with
  | zero =>
    intro u f h hu hf h1 hk hj
    obtain ⟨f, rfl⟩ : ∃ f', f = f' + 1 := ⟨f - 1, by omega⟩
    refine ⟨h, ?_, hk, fun j hj2 => hj j (by omega)⟩
    rw [fn144_10, h1, q_w32_id (by omega) (by omega), if_pos (by omega)]
  | succ d ih =>
    intro u f h hu hf h1 hk hj
    obtain ⟨f, rfl⟩ : ∃ f', f = f' + 1 := ⟨f - 1, by omega⟩
    obtain ⟨h', g1, g2, g3⟩ := ih (u + 1) f (q_ud h (o + 1) u (h (o1 + 1) u)) (by omega) (by omega) (by rw [q_ud_n (by omega)]; exact h1) (fun k hk2 => by funext j; rw [q_ud_n (by omega), hk k hk2]) (fun j hj2 => by
      by_cases e : j = u
      · subst e; rw [q_ud_s, hk _ h2]
      · rw [q_ud_n (by omega)]; exact hj j (by omega))
    refine ⟨h', ?_, g2, g3⟩
    rw [fn144_10, h1, q_w32_id (by omega) (by omega), if_neg (by omega), c_ent (by omega) (by omega), Option.bind_some, c_put (by omega) (by omega), Option.bind_some, q_w32_id (by omega) (by omega), Int.toNat_natCast, ← m_s1]
    exact g1
theorem c_cp144 {o o1 : Nat} {h : q_F} (h4 : 0 ≤ h o1 1 ∧ h o1 1 ≤ 16) (h1 : o1 ≠ o) (h3 : o1 + 1 ≠ o) : ∃ h', fn144 o o1 h = some (0, h') ∧ h' o 1 = h o1 1 ∧ (∀ j, j < 3 * (h o1 1).toNat → h' (o + 1) j = h (o1 + 1) j) ∧ c_fo o h h' := by
  obtain ⟨h', g1, g2, g3⟩ := c_cp144s (o := o) (o1 := o1) (s := (h o1 1).toNat) (h0 := q_ud h o 1 (h o1 1)) (by omega) (by omega) (3 * (h o1 1).toNat) 0 q_fu (q_ud h o 1 (h o1 1)) (by omega) (by have := q_fu_ge; omega) (by rw [q_ud_s]; omega) (fun _ _ => rfl) (fun j hj => absurd hj (by omega))
  refine ⟨h', by rw [fn144, m_let]; exact g1, by rw [g2 o (by omega), q_ud_s], fun j hj => ?_, fun k k1 k2 => ?_⟩
  · rw [g3 j hj, q_ud_n (by omega)]
  · rw [g2 k k2]; funext j; rw [q_ud_n (by omega)]
theorem c_tb_k {h h' : q_F} {t : Nat} {w : Nat → Int} (hc : c_tb h t w) (e : ∀ k, t ≤ k → k ≤ t + 8 → h' k = h k) : c_tb h' t w := by
  obtain ⟨h1, h2, h3, h4⟩ := hc
  refine ⟨fun a ha => c_ax_h (h1 a ha) (e _ (by omega) (by omega)) (e _ (by omega) (by omega)), ?_, ?_, fun j hj => ?_⟩
  · rw [e t (by omega) (by omega)]; exact h2
  · rw [e _ (by omega) (by omega)]; exact h3
  · rw [e _ (by omega) (by omega)]; exact h4 j hj
theorem c_copy {h : q_F} {t t1 : Nat} {w : Nat → Int} (hd : t + 8 < t1 ∨ t1 + 8 < t) (hc : c_tb h t1 w) (h4 : 0 ≤ w 4 ∧ w 4 ≤ 16) : ∃ h', fn127 t t1 h = some (0, h') ∧ c_tb h' t w ∧ c_ft t h h' := by
  obtain ⟨x1, a1, a2, a3⟩ := c_cp46 (o := t + 1) (o1 := t1 + 1) (h := h) (by omega) (by omega) (by omega)
  obtain ⟨x2, b1, b2, b3⟩ := c_cp46 (o := t + 3) (o1 := t1 + 3) (h := x1) (by omega) (by omega) (by omega)
  obtain ⟨x3, d1, d2, d3⟩ := c_cp46 (o := t + 5) (o1 := t1 + 5) (h := x2) (by omega) (by omega) (by omega)
  have k3 : ∀ k, k < t ∨ t + 6 < k → x3 k = h k := fun k hk => by rw [d3 k (by omega) (by omega), b3 k (by omega) (by omega), a3 k (by omega) (by omega)]
  have e7 : x3 (t1 + 7) 1 = w 4 := by rw [k3 _ (by omega)]; exact hc.2.2.1
  obtain ⟨x4, f1, f2, f3, f4⟩ := c_cp144 (o := t + 7) (o1 := t1 + 7) (h := x3) (by rw [e7]; exact h4) (by omega) (by omega)
  have g : ∃ g, (∀ K : q_F → Option (Int × q_F), (q_let (q_ud x4 t 4 (x4 t1 4)) fun g5 =>
  q_let (q_ud g5 t 5 (g5 t1 5)) fun g6 =>
  q_let (q_ud g6 t 6 (g6 t1 6)) fun g7 =>
  q_let (q_ud g7 t 7 (g7 t1 7)) fun g8 =>
  q_let (q_ud g8 t 8 (g8 t1 8)) fun g9 =>
  q_let (q_ud g9 t 9 (g9 t1 9)) fun g10 =>
  q_let (q_ud g10 t 10 (g10 t1 10)) K) = K g) ∧ c_cpn t t1 4 11 x4 g := by
    have h1 : t1 ≠ t := by omega
    exact ⟨_, fun K => rfl, c_cpn_s h1 (c_cpn_s h1 (c_cpn_s h1 (c_cpn_s h1 (c_cpn_s h1 (c_cpn_s h1 (c_cpn_s h1 c_cpn_0))))))⟩
  obtain ⟨g, ge, gp, gk⟩ := g
  have k4 : ∀ k, k < t ∨ t + 8 < k → x4 k = h k := fun k hk => by rw [f4 k (by omega) (by omega), k3 k (by omega)]
  refine ⟨g, ?_, ⟨fun a ha => ?_, ?_, ?_, fun j hj => ?_⟩, fun k hk => ?_⟩
  · unfold fn127
    rw [a1, Option.bind_some]
    dsimp only
    rw [b1, Option.bind_some]
    dsimp only
    rw [d1, Option.bind_some]
    dsimp only
    rw [f1, Option.bind_some]
    dsimp only
    rw [ge]
  · have k5 : ∀ o, (o = t + 1 ∨ o = t + 3 ∨ o = t + 5) → ∀ y, c_ax y o w a → y o = x3 o → y (o + 1) = x3 (o + 1) → c_ax g o w a := fun o ho y hy e1 e2 => c_ax_h hy (by rw [gk _ (by omega), f4 _ (by omega) (by omega), e1]) (by rw [gk _ (by omega), f4 _ (by omega) (by omega), e2])
    rcases m_c3 ha with rfl | rfl | rfl
    · exact k5 (t + 1) (by omega) x1 (a2 w 0 (hc.1 0 (by omega))) (by rw [d3 _ (by omega) (by omega), b3 _ (by omega) (by omega)]) (by rw [d3 _ (by omega) (by omega), b3 _ (by omega) (by omega)])
    · exact k5 (t + 3) (by omega) x2 (b2 w 1 (c_ax_h (hc.1 1 (by omega)) (by rw [a3 _ (by omega) (by omega)]) (by rw [a3 _ (by omega) (by omega)]))) (by rw [d3 _ (by omega) (by omega)]) (by rw [d3 _ (by omega) (by omega)])
    · exact k5 (t + 5) (by omega) x3 (d2 w 2 (c_ax_h (hc.1 2 (by omega)) (by rw [b3 _ (by omega) (by omega), a3 _ (by omega) (by omega)]) (by rw [b3 _ (by omega) (by omega), a3 _ (by omega) (by omega)]))) rfl rfl
  · obtain ⟨o1, o2, o3, o4, o5, o6, o7⟩ := hc.2.1
    have e1 : x4 t1 = h t1 := k4 t1 (by omega)
    refine ⟨?_, ?_, ?_, ?_, ?_, ?_, ?_⟩ <;> (rw [gp _ (by omega) (by omega), e1]; assumption)
  · rw [gk _ (by omega), f2]; exact e7
  · rw [gk _ (by omega), f3 j (by rw [e7]; exact hj), k3 _ (by omega)]; exact hc.2.2.2 j hj
  · rw [gk k (by omega), k4 k (by omega)]
end -- [75.ccopy]
