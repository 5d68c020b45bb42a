/-! Part 72: the class's moves: steps of all axes. -/
theorem m_made_le {p : Nat → Int} (ok : m_ok p) (nn : m_nn p) {m a : Nat} {k : Int} (hm : (m : Int) < p 4) (ha : a < 3) (h0 : 0 ≤ k) (h1 : k < m_l p m) : m_made p m a k ≤ m_made p m a (k + 1) ∧ (m_sg (m_d p m a) = 0 → m_made p m a (k + 1) = m_made p m a k) := by
  have h16 := ok.2.1
  have l := m_l_r ok (m := m) (by omega)
  have l1 := m_l_1 ok (m := m) (by omega) (nn m hm)
  have d := m_d_r ok (m := m) (by omega) ha
  have da := m_abs_r d
  have g := m_mulr (x := 2 * k) (l := m_abs (m_d p m a)) (a := 4000) (b := 2000) (by omega) (by omega) (by omega) (by omega)
  have g' := m_mulr (x := 2 * (k + 1)) (l := m_abs (m_d p m a)) (a := 4000) (b := 2000) (by omega) (by omega) (by omega) (by omega)
  have e : 2 * (k + 1) * m_abs (m_d p m a) = 2 * k * m_abs (m_d p m a) + 2 * m_abs (m_d p m a) := by rw [Int.mul_add, Int.add_mul, Int.mul_one]
  refine ⟨?_, fun hz => ?_⟩
  · unfold m_made
    rw [m_idv (by omega) (by omega) (by omega) (by omega), m_idv (by omega) (by omega) (by omega) (by omega)]
    exact Int.ediv_le_ediv (by omega) (by omega)
  · have d0 : m_d p m a = 0 := by unfold m_sg at hz; (repeat' split at hz) <;> omega
    unfold m_made
    rw [d0, show m_abs 0 = 0 from rfl, Int.mul_zero, Int.mul_zero]
/-- three axes, one behind the other -/
theorem c_chain {t : Nat} {p : Nat → Int} {Q : (Nat → Int) → Prop} {L : Nat → Int → Int → q_F → Option (Int × q_F)} {A : Nat → (Nat → Int) → Int × (Nat → Int)}
    (st : ∀ (a f : Nat) (h : q_F) (w : Nat → Int), a < 3 → c_S h t p w → Q w → ∃ h', L (f + 1) 1 a h = L f (A a w).1 ((a + 1 : Nat) : Int) h' ∧ c_S h' t p (A a w).2 ∧ c_ft t h h' ∧ Q (A a w).2)
    (sp : ∀ (f : Nat) (a : Int) (h : q_F), L (f + 1) 0 a h = some (0, h)) (en : ∀ (f : Nat) (u : Int) (h : q_F), L (f + 1) u 3 h = some (u, h))
    (z : ∀ (a : Nat) (w : Nat → Int), (A a w).1 = 0 ∨ (A a w).1 = 1) {h : q_F} {w : Nat → Int} (hs : c_S h t p w) (hq : Q w) : ∃ h', L q_fu 1 0 h = some ((m_sq (m_sq (A 0) (A 1)) (A 2) w).1, h') ∧ c_S h' t p (m_sq (m_sq (A 0) (A 1)) (A 2) w).2 ∧ c_ft t h h' ∧ Q (m_sq (m_sq (A 0) (A 1)) (A 2) w).2 := by
  obtain ⟨n, e⟩ := m_fu3
  rw [e]
  obtain ⟨g1, a1, a2, a3, a4⟩ := st 0 (n + 1 + 1 + 1) h w (by omega) hs hq
  have z0 := z 0 w
  have q0 : m_sq (A 0) (A 1) w = if (A 0 w).1 = 0 then A 0 w else A 1 (A 0 w).2 := rfl
  generalize A 0 w = r0 at a1 a2 a4 z0 q0
  obtain ⟨x0, w1⟩ := r0
  dsimp only at a1 a2 a4 z0 q0
  by_cases c0 : x0 = 0
  · subst c0
    rw [if_pos rfl] at q0
    rw [m_sq_z (by rw [q0]), q0]
    exact ⟨g1, a1.trans (sp _ _ _), a2, a3, a4⟩
  · obtain rfl := z0.resolve_left c0
    rw [if_neg c0] at q0
    obtain ⟨g2, b1, b2, b3, b4⟩ := st 1 (n + 1 + 1) g1 w1 (by omega) a2 a4
    have z1 := z 1 w1
    have q1 : m_sq (m_sq (A 0) (A 1)) (A 2) w = if (m_sq (A 0) (A 1) w).1 = 0 then m_sq (A 0) (A 1) w else A 2 (m_sq (A 0) (A 1) w).2 := rfl
    rw [q0] at q1
    rw [q1]
    generalize A 1 w1 = r1 at b1 b2 b4 z1
    obtain ⟨x1, w2⟩ := r1
    dsimp only at b1 b2 b4 z1 ⊢
    by_cases c1 : x1 = 0
    · subst c1
      rw [if_pos rfl]
      exact ⟨g2, (a1.trans b1).trans (sp _ _ _), b2, c_ft_t a3 b3, b4⟩
    · obtain rfl := z1.resolve_left c1
      rw [if_neg c1]
      obtain ⟨g3, d1, d2, d3, d4⟩ := st 2 (n + 1) g2 w2 (by omega) b2 b4
      exact ⟨g3, (a1.trans b1).trans (d1.trans (en _ _ _)), d2, c_ft_t a3 (c_ft_t b3 d3), d4⟩
theorem c_ax1 {h : q_F} {t a m f : Nat} {k : Int} {p w : Nat → Int} (ht : t + 8 < 125) (ok : m_ok p) (nn : m_nn p) (ha : a < 3) (hm : (m : Int) < p 4) (h0 : 0 ≤ k) (h1 : k < m_l p m) (hs : c_S h t p w) : ∃ h', fn141_6 t (f + 1) m k 1 a h = fn141_6 t f m k (m_ax p m k a w).1 ((a + 1 : Nat) : Int) h' ∧ c_S h' t p (m_ax p m k a w).2 ∧ c_ft t h h' := by
  have h16 := ok.2.1
  have l := m_l_r ok (m := m) (by omega)
  have le := m_made_le ok nn hm ha h0 h1
  rw [fn141_6, if_neg (by omega), if_neg (by decide), q_w32_id (z := k + 1) (by omega) (by omega), c_made ok nn hs.2.1 hm ha (by omega) (by omega), Option.bind_some, c_made ok nn hs.2.1 hm ha h0 (by omega), Option.bind_some]
  unfold m_ax
  by_cases hx : m_made p m a (k + 1) = m_made p m a k
  · rw [if_pos (show m_made p m a (k + 1) ≤ m_made p m a k by omega), if_pos hx, fn141_71, q_w32_id (by omega) (by omega), ← m_s1]
    exact ⟨h, rfl, hs, c_ft_r⟩
  · have hd : m_sg (m_d p m a) ≠ 0 := fun h9 => hx (le.2 h9)
    rw [if_neg (show ¬ m_made p m a (k + 1) ≤ m_made p m a k by omega), if_neg hx, c_way ok hs.2.1 hm ha hd, Option.bind_some]
    obtain ⟨h3, g1, s3, f3⟩ := c_S_step ht ha hs (m_sg_r hd)
    rw [g1, Option.bind_some]
    dsimp only
    have z := m_step_z a (m_sg (m_d p m a)) w
    generalize m_step a (m_sg (m_d p m a)) w = s at s3 z ⊢
    have o3 := (c_S_o s3).2.2.1
    have tv := s3.2.2.2.2
    rw [fn141_64, fn141_69, fn141_69, fn141_71, fn141_71, q_w32_id (by omega) (by omega), ← m_s1]
    rcases z with z | z
    · rw [if_neg (show ¬ 1 - s.1 = 0 by omega), if_pos z]
      exact ⟨h3, rfl, s3, f3⟩
    · rw [if_pos (show 1 - s.1 = 0 by omega), if_neg (show ¬ s.1 = 0 by omega)]
      rcases tv with tv | tv
      · rw [if_pos (o3.trans tv), if_neg (show ¬ s.2 2 = 1 by omega)]
        exact ⟨h3, rfl, s3, f3⟩
      · rw [if_neg (show ¬ h3 t 6 = 0 by omega), if_pos tv]
        exact ⟨h3, rfl, s3, f3⟩
theorem c_axs {h : q_F} {t m : Nat} {k : Int} {p w : Nat → Int} (ht : t + 8 < 125) (ok : m_ok p) (nn : m_nn p) (hm : (m : Int) < p 4) (h0 : 0 ≤ k) (h1 : k < m_l p m) (hs : c_S h t p w) : ∃ h', fn141 t m k h = some ((m_sq (m_sq (m_ax p m k 0) (m_ax p m k 1)) (m_ax p m k 2) w).1, h') ∧ c_S h' t p (m_sq (m_sq (m_ax p m k 0) (m_ax p m k 1)) (m_ax p m k 2) w).2 ∧ c_ft t h h' := by
  obtain ⟨h', g1, g2, g3, -⟩ := c_chain (Q := fun _ => True) (L := fun f u a h => fn141_6 t f m k u a h) (A := fun a => m_ax p m k a) (fun a f h w ha hs _ => by
    obtain ⟨h', g1, g2, g3⟩ := c_ax1 (f := f) ht ok nn ha hm h0 h1 hs
    exact ⟨h', g1, g2, g3, trivial⟩) (fun f a h => by
    show fn141_6 t (f + 1) m k 0 a h = _
    rw [fn141_6, if_pos rfl, ite_self]) (fun f u h => by
    show fn141_6 t (f + 1) m k u 3 h = _
    rw [fn141_6, if_pos (by omega)]) (fun a w => m_ax_z p m k a w) hs trivial
  exact ⟨h', g1, g2, g3⟩
theorem m_sq3 (f g k : (Nat → Int) → Int × (Nat → Int)) : m_sq f (m_sq g k) = m_sq (m_sq f g) k := funext fun w => m_sq_as f g k w
theorem c_ms {h : q_F} {t m : Nat} {k : Int} {p w : Nat → Int} (ht : t + 8 < 125) (ok : m_ok p) (nn : m_nn p) (hm : (m : Int) < p 4) (h0 : 0 ≤ k) (h1 : k < m_l p m) (hs : c_S h t p w) : ∃ h', fn141 t m k (q_ud (q_ud (q_ud h t 8 (q_w64 (h t 8 + m_t p m k))) t 9 (q_w64 (q_ud h t 8 (q_w64 (h t 8 + m_t p m k)) t 9 + m_t p m k))) t 10 (q_w64 (q_ud (q_ud h t 8 (q_w64 (h t 8 + m_t p m k))) t 9 (q_w64 (q_ud h t 8 (q_w64 (h t 8 + m_t p m k)) t 9 + m_t p m k)) t 10 + 1))) = some ((m_ms p m k w).1, h') ∧ c_S h' t p (m_ms p m k w).2 ∧ c_ft t h h' := by
  have o := c_S_o hs
  rw [q_ud_n (show ¬ (t = t ∧ 9 = 8) by omega), q_ud_n (show ¬ (t = t ∧ 10 = 9) by omega), q_ud_n (show ¬ (t = t ∧ 10 = 8) by omega), o.2.2.2.2.1, o.2.2.2.2.2.1, o.2.2.2.2.2.2]
  have s1 := c_S_time (j := 8) (v := q_w64 (w 5 + m_t p m k)) ht hs (by omega)
  have s2 := c_S_time (j := 9) (v := q_w64 (w 6 + m_t p m k)) ht s1 (by omega)
  have s3 := c_S_time (j := 10) (v := q_w64 (w 7 + 1)) ht s2 (by omega)
  rw [show c_h 8 = 5 from rfl, show c_h 9 = 6 from rfl, show c_h 10 = 7 from rfl] at s3
  have f3 : c_ft t h (q_ud (q_ud (q_ud h t 8 (q_w64 (w 5 + m_t p m k))) t 9 (q_w64 (w 6 + m_t p m k))) t 10 (q_w64 (w 7 + 1))) := c_ft_u (c_ft_u (c_ft_u c_ft_r (by omega) (by omega)) (by omega) (by omega)) (by omega) (by omega)
  generalize q_ud (q_ud (q_ud h t 8 (q_w64 (w 5 + m_t p m k))) t 9 (q_w64 (w 6 + m_t p m k))) t 10 (q_w64 (w 7 + 1)) = h3 at s3 f3 ⊢
  have e : m_tk p m k w = m_u (m_u (m_u w 5 (q_w64 (w 5 + m_t p m k))) 6 (q_w64 (w 6 + m_t p m k))) 7 (q_w64 (w 7 + 1)) := by
    unfold m_tk
    dsimp only
    rw [m_u_n (show 6 ≠ 5 by omega), m_u_n (show 7 ≠ 6 by omega), m_u_n (show 7 ≠ 5 by omega)]
  unfold m_ms
  rw [e, m_sq3]
  obtain ⟨h', g1, g2, g3⟩ := c_axs ht ok nn hm h0 h1 s3
  exact ⟨h', g1, g2, c_ft_t f3 g3⟩
theorem m_sl_z (p : Nat → Int) (m : Nat) : ∀ (n : Nat) (k : Int) (w : Nat → Int), (m_sl p m n k w).1 = 0 ∨ (m_sl p m n k w).1 = 1 := by
  intro n
  induction n with
  | zero => intro k w; exact Or.inr rfl
  | succ n ih =>
    intro k w
    unfold m_sl; split
    · exact Or.inl rfl
    · exact ih _ _
theorem c_sl {t m : Nat} {p : Nat → Int} (ht : t + 8 < 125) (ok : m_ok p) (nn : m_nn p) (hm : (m : Int) < p 4) : ∀ (n : Nat) (k : Int) (f : Nat) (h : q_F) (w : Nat → Int), 0 ≤ k → k + n = m_l p m → n < f → c_S h t p w →
    ∃ h', fn137_33 t f m (m_l p m) k h = (if (m_sl p m n k w).1 = 0 then some (0, h') else fn137_104 t q_fu m 0 h') ∧ c_S h' t p (m_sl p m n k w).2 ∧ c_ft t h h' := by
  have h16 := ok.2.1
  have l := m_l_r ok (m := m) (by omega)
  intro n
  induction n with
  | zero =>
    intro k f h w hk hn hf hs
    obtain ⟨f, rfl⟩ : ∃ f', f = f' + 1 := ⟨f - 1, by omega⟩
    refine ⟨h, ?_, hs, c_ft_r⟩
    rw [fn137_33, if_pos (by omega)]
    unfold m_sl
    rw [if_neg (show ¬ (1 : Int) = 0 by decide)]
  | succ n ih =>
    intro k f h w hk hn hf hs
    obtain ⟨f, rfl⟩ : ∃ f', f = f' + 1 := ⟨f - 1, by omega⟩
    rw [fn137_33, if_neg (by omega), c_t ok nn hs.2.1 hm hk (by omega), Option.bind_some, m_let, m_let, m_let]
    obtain ⟨h1, a1, a2, a3⟩ := c_ms ht ok nn hm hk (by omega) hs
    rw [a1, Option.bind_some]
    dsimp only
    unfold m_sl
    split
    · rename_i c
      exact ⟨h1, by rw [if_pos rfl], a2, a3⟩
    · rename_i c
      obtain ⟨h', b1, b2, b3⟩ := ih (k + 1) f h1 _ (by omega) (by omega) (by omega) a2
      refine ⟨h', ?_, b2, c_ft_t a3 b3⟩
      rw [q_w32_id (by omega) (by omega), b1]
