/-! Part 71: the class's moves: compensation, steps. -/
theorem c_S_o {h : q_F} {t : Nat} {p w : Nat → Int} (hs : c_S h t p w) : h t 4 = w 0 ∧ h t 5 = w 1 ∧ h t 6 = w 2 ∧ h t 7 = w 3 ∧ h t 8 = w 5 ∧ h t 9 = w 6 ∧ h t 10 = w 7 := hs.1.2.1
theorem c_slow2 {h : q_F} {t : Nat} {w : Nat → Int} (hc : h t 4 = w 0) (h0 : 1 ≤ w 0 ∧ w 0 ≤ 1000) : fn140 t h = some (q_ldv 1000000 (w 0)) := by
  have g := m_ldv (a := 1000000) (b := w 0) (by omega) (by omega) (by omega) (by omega)
  rw [fn140, hc, c_quo (by omega), Option.bind_some, m_idv (by omega) (by omega) (by omega) (by omega), g]
theorem c_upl {t a m : Nat} {M : Int} {p : Nat → Int} {K : Int → Int → Int → q_F → Option (Int × q_F)} (ht : t + 8 < 125) (ok : m_ok p) (ha : a < 3) (hm : (m : Int) < p 4) (hd : m_sg (m_d p m a) ≠ 0) (hM : M ≤ 20) : ∀ (n : Nat) (k : Int) (f : Nat) (h : q_F) (w : Nat → Int), 0 ≤ k → k + n = M → n < f → c_S h t p w → 1 ≤ w 0 ∧ w 0 ≤ 1000 →
    ∃ h', fn126_52 t (q_axn t a) K f m 1 a M k h = K m (m_upl a (m_sg (m_d p m a)) n w).1 ((a + 1 : Nat) : Int) h' ∧ c_S h' t p (m_upl a (m_sg (m_d p m a)) n w).2 ∧ c_ft t h h' := by
  intro n
  induction n with
  | zero =>
    intro k f h w hk hn hf hs h0
    obtain ⟨f, rfl⟩ : ∃ f', f = f' + 1 := ⟨f - 1, by omega⟩
    refine ⟨h, ?_, hs, c_ft_r⟩
    rw [fn126_52, if_pos (by omega), fn126_125, q_w32_id (by omega) (by omega), ← m_s1]
    rfl
  | succ n ih =>
    intro k f h w hk hn hf hs h0
    obtain ⟨f, rfl⟩ : ∃ f', f = f' + 1 := ⟨f - 1, by omega⟩
    have o := c_S_o hs
    rw [fn126_52, if_neg (by omega), if_neg (by decide), c_slow2 o.1 h0, Option.bind_some, m_let, o.2.2.2.2.1]
    have s1 := c_S_time (j := 8) (v := q_w64 (w 5 + q_ldv 1000000 (w 0))) ht hs (by omega)
    have f1 : c_ft t h (q_ud h t 8 (q_w64 (w 5 + q_ldv 1000000 (w 0)))) := c_ft_u c_ft_r (by omega) (by omega)
    rw [show c_h 8 = 5 from rfl] at s1
    generalize q_ud h t 8 (q_w64 (w 5 + q_ldv 1000000 (w 0))) = h1 at s1 f1 ⊢
    have e3 : h1 (q_axn t a + 1) 3 = _ := c_S_g (j := 3) ha (by omega) s1
    rw [show c_g 3 = 62 from rfl] at e3
    obtain ⟨s2, f2⟩ := c_S_acc (j := 3) (v := q_w32 (h1 (q_axn t a + 1) 3 + 1)) (v' := q_w64 (m_u w 5 (q_w64 (w 5 + q_ldv 1000000 (w 0))) (62 + a) + 1)) ht ha (Or.inl rfl) (by rw [e3]; exact m_inc _) s1
    rw [m_let]
    rw [show c_g 3 = 62 from rfl] at s2
    generalize q_ud h1 (q_axn t a + 1) 3 (q_w32 (h1 (q_axn t a + 1) 3 + 1)) = h2 at s2 f2 ⊢
    rw [c_way ok s2.2.1 hm ha hd, Option.bind_some]
    obtain ⟨h3, g1, s3, f3⟩ := c_S_step ht ha s2 (m_sg_r hd)
    rw [g1, Option.bind_some]
    dsimp only
    unfold m_upl
    dsimp only
    have fr := m_step_fr ha (m_sg (m_d p m a)) (m_u (m_u w 5 (q_w64 (w 5 + q_ldv 1000000 (w 0)))) (62 + a) (q_w64 (m_u w 5 (q_w64 (w 5 + q_ldv 1000000 (w 0))) (62 + a) + 1)))
    have z := m_step_z a (m_sg (m_d p m a)) (m_u (m_u w 5 (q_w64 (w 5 + q_ldv 1000000 (w 0)))) (62 + a) (q_w64 (m_u w 5 (q_w64 (w 5 + q_ldv 1000000 (w 0))) (62 + a) + 1)))
    have e0 := (fr 0 (by unfold m_dy; omega)).trans ((m_u_n (show 0 ≠ 62 + a by omega)).trans (m_u_n (show 0 ≠ 5 by omega)))
    generalize m_step a (m_sg (m_d p m a)) (m_u (m_u w 5 (q_w64 (w 5 + q_ldv 1000000 (w 0)))) (62 + a) (q_w64 (m_u w 5 (q_w64 (w 5 + q_ldv 1000000 (w 0))) (62 + a) + 1))) = s at s3 z e0 ⊢
    have f9 := c_ft_t f1 (c_ft_t f2 f3)
    have o3 := (c_S_o s3).2.2.1
    have tv := s3.2.2.2.2
    obtain ⟨h', k1, k2, k3⟩ := ih (k + 1) f h3 s.2 (by omega) (by omega) (by omega) s3 (by rw [e0]; exact h0)
    rw [fn126_113, fn126_118, fn126_118, q_w32_id (z := k + 1) (by omega) (by omega)]
    rcases z with z | z
    · rw [if_neg (show ¬ 1 - s.1 = 0 by omega), if_pos z]
      exact ⟨h', k1, k2, c_ft_t f9 k3⟩
    · rw [if_pos (show 1 - s.1 = 0 by omega), if_neg (show ¬ s.1 = 0 by omega)]
      rcases tv with tv | tv
      · rw [if_pos (o3.trans tv), if_neg (show ¬ s.2 2 = 1 by omega)]
        exact ⟨h', k1, k2, c_ft_t f9 k3⟩
      · rw [if_neg (show ¬ h3 t 6 = 0 by omega), if_pos tv]
        refine ⟨h3, ?_, s3, f9⟩
        obtain ⟨f, rfl⟩ : ∃ f', f = f' + 1 := ⟨f - 1, by omega⟩
        rw [fn126_52, if_pos rfl, ite_self, fn126_125, q_w32_id (by omega) (by omega), ← m_s1]
theorem c_up1 {h : q_F} {t a m f : Nat} {p w : Nat → Int} (ht : t + 8 < 125) (ok : m_ok p) (ha : a < 3) (hm : (m : Int) < p 4) (hs : c_S h t p w) (h1 : w 1 ≠ 0) (h0 : 1 ≤ w 0 ∧ w 0 ≤ 1000) (hb : w (11 + a) ≤ 20) : ∃ h', fn126_5 t (f + 1) m 1 a h = fn126_5 t f m (m_up p m a w).1 ((a + 1 : Nat) : Int) h' ∧ c_S h' t p (m_up p m a w).2 ∧ c_ft t h h' := by
  have dir := (m_a3_i hs.2.2.1 ha).2.2.2.2.2.2.1
  have b0 := (m_a3_i hs.2.2.1 ha).1
  have e8 : h (q_axn t a) 8 = w (44 + a) := c_S_f (j := 8) ha (by omega) hs
  have e1 : h (q_axn t a) 1 = w (11 + a) := c_S_f (j := 1) ha (by omega) hs
  rw [fn126_5, if_neg (by omega), if_neg (by decide), c_dis ok hs.2.1 hm ha, Option.bind_some, c_tf e8 dir, Option.bind_some, fn126_47, fn126_47, e1]
  have none' : fn126_52 t (q_axn t a) (fn126_5 t f) q_fu m 1 a 0 0 h = fn126_5 t f m 1 ((a + 1 : Nat) : Int) h := by
    obtain ⟨n, e⟩ := m_fu3
    rw [e, fn126_52, if_pos (by omega), fn126_125, q_w32_id (by omega) (by omega), ← m_s1]
  unfold m_up
  by_cases c1 : m_sg (m_d p m a) = 0
  · rw [if_pos c1, if_pos c1, if_pos rfl]
    exact ⟨h, none', hs, c_ft_r⟩
  · rw [if_neg c1, if_neg c1]
    by_cases c2 : m_sg (m_d p m a) = w (44 + a)
    · rw [if_pos c2, if_pos c2, if_pos rfl]
      exact ⟨h, none', hs, c_ft_r⟩
    · rw [if_neg c2, if_neg c2, if_neg (by decide), if_neg h1]
      obtain ⟨h', g1, g2, g3⟩ := c_upl (K := fn126_5 t f) (M := w (11 + a)) ht ok ha hm c1 hb (w (11 + a)).toNat 0 q_fu h w (by omega) (by omega) (by have := q_fu_ge; omega) hs h0
      exact ⟨h', g1, g2, g3⟩
/-- all compensation of a move -/
noncomputable def m_ups (p : Nat → Int) (m : Nat) : (Nat → Int) → Int × (Nat → Int) := m_sq (m_sq (m_up p m 0) (m_up p m 1)) (m_up p m 2)
theorem m_sq_as (f g k : (Nat → Int) → Int × (Nat → Int)) (w : Nat → Int) : m_sq f (m_sq g k) w = m_sq (m_sq f g) k w := by
  unfold m_sq
  by_cases c : (f w).1 = 0
  · rw [if_pos c, if_pos c, if_pos c]
  · rw [if_neg c, if_neg c]
theorem m_upl_z (a : Nat) (d : Int) : ∀ (n : Nat) (w : Nat → Int), (m_upl a d n w).1 = 0 ∨ (m_upl a d n w).1 = 1 := by
  intro n
  induction n with
  | zero => intro w; exact Or.inr rfl
  | succ n ih =>
    intro w
    unfold m_upl
    dsimp only
    split
    · exact ih _
    · split
      · exact Or.inl rfl
      · exact ih _
theorem m_up_z (p : Nat → Int) (m a : Nat) (w : Nat → Int) : (m_up p m a w).1 = 0 ∨ (m_up p m a w).1 = 1 := by
  unfold m_up; (repeat' split) <;> first | exact Or.inr rfl | exact m_upl_z _ _ _ _
theorem c_ups {h : q_F} {t m : Nat} {p w : Nat → Int} (ht : t + 8 < 125) (ok : m_ok p) (hm : (m : Int) < p 4) (hs : c_S h t p w) (h1 : w 1 ≠ 0) (h0 : 1 ≤ w 0 ∧ w 0 ≤ 1000) (hb : ∀ a, a < 3 → w (11 + a) ≤ 20) : ∃ h', fn126 t m h = some ((m_ups p m w).1, h') ∧ c_S h' t p (m_ups p m w).2 ∧ c_ft t h h' := by
  obtain ⟨n, e⟩ := m_fu3
  have stop : ∀ f a h, fn126_5 t (f + 1) m 0 a h = some (0, h) := fun f a h => by rw [fn126_5, if_pos rfl, ite_self]
  have ke : ∀ (a : Nat) (w : Nat → Int) (j : Nat), a < 3 → j < 5 ∨ (11 ≤ j ∧ j < 14) → (m_up p m a w).2 j = w j := fun a w j ha hj => m_up_fr ha w j (by unfold m_dy; omega)
  obtain ⟨g1, a1, a2, a3⟩ := c_up1 (f := n + 1 + 1 + 1) (a := 0) ht ok (by omega) hm hs h1 h0 (hb 0 (by omega))
  unfold m_ups
  rw [fn126, e]
  have k0 : ∀ j, j < 5 ∨ (11 ≤ j ∧ j < 14) → (m_up p m 0 w).2 j = w j := fun j hj => ke 0 w j (by omega) hj
  have z0 := m_up_z p m 0 w
  have q0 : m_sq (m_up p m 0) (m_up p m 1) w = if (m_up p m 0 w).1 = 0 then m_up p m 0 w else m_up p m 1 (m_up p m 0 w).2 := rfl
  generalize m_up p m 0 w = r0 at a1 a2 k0 z0 q0
  obtain ⟨x0, w1⟩ := r0
  dsimp only at a1 a2 k0 z0 q0
  by_cases c0 : x0 = 0
  · subst c0
    rw [if_pos rfl] at q0
    rw [m_sq_z (by rw [q0]), q0]
    exact ⟨g1, a1.trans (stop _ _ _), a2, a3⟩
  · obtain rfl := z0.resolve_left c0
    rw [if_neg c0] at q0
    obtain ⟨g2, b1, b2, b3⟩ := c_up1 (f := n + 1 + 1) (a := 0 + 1) ht ok (by omega) hm a2 (by rw [k0 1 (by omega)]; exact h1) (by rw [k0 0 (by omega)]; exact h0) (by rw [k0 _ (by omega)]; exact hb _ (by omega))
    have k1 : ∀ j, j < 5 ∨ (11 ≤ j ∧ j < 14) → (m_up p m 1 w1).2 j = w j := fun j hj => (ke 1 w1 j (by omega) hj).trans (k0 j hj)
    have z1 := m_up_z p m 1 w1
    have q1 : m_sq (m_sq (m_up p m 0) (m_up p m 1)) (m_up p m 2) w = if (m_sq (m_up p m 0) (m_up p m 1) w).1 = 0 then m_sq (m_up p m 0) (m_up p m 1) w else m_up p m 2 (m_sq (m_up p m 0) (m_up p m 1) w).2 := rfl
    rw [q0] at q1
    rw [q1]
    rw [show 0 + 1 = 1 from rfl] at b1 b2
    generalize m_up p m 1 w1 = r1 at b1 b2 k1 z1
    obtain ⟨x1, w2⟩ := r1
    dsimp only at b1 b2 k1 z1 ⊢
    by_cases c1 : x1 = 0
    · subst c1
      rw [if_pos rfl]
      exact ⟨g2, (a1.trans b1).trans (stop _ _ _), b2, c_ft_t a3 b3⟩
    · obtain rfl := z1.resolve_left c1
      rw [if_neg c1]
      obtain ⟨g3, d1, d2, d3⟩ := c_up1 (f := n + 1) (a := 1 + 1) ht ok (by omega) hm b2 (by rw [k1 1 (by omega)]; exact h1) (by rw [k1 0 (by omega)]; exact h0) (by rw [k1 _ (by omega)]; exact hb _ (by omega))
      refine ⟨g3, ?_, d2, c_ft_t a3 (c_ft_t b3 d3)⟩
      refine (a1.trans b1).trans (d1.trans ?_)
      rw [fn126_5, if_pos (by omega)]
