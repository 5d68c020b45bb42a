/-! Part 65: the class's homing, whole. -/
theorem m_reads_01 (a : Nat) (w : Nat → Int) : m_reads a w = 0 ∨ m_reads a w = 1 := by
  unfold m_reads; split
  · exact Or.inr rfl
  · exact Or.inl rfl
theorem m_w64_b (x y : Int) : q_w64 (x + q_w64 y) = q_w64 (x + y) := by
  obtain ⟨h1, h2, k, h3⟩ := q_w64_s y
  obtain ⟨g1, g2, j, g3⟩ := q_w64_s (x + q_w64 y)
  obtain ⟨e1, e2, i, e3⟩ := q_w64_s (x + y)
  omega
theorem m_a3_hf {w : Nat → Int} {a : Nat} {al : Int} (h : m_a3 w) (ha : a < 3) : m_a3 (m_hf a al w) := m_a3_u (m_a3_u h (by omega)) (by omega)
theorem m_a3_ho {w : Nat → Int} {a : Nat} (h : m_a3 w) (ha : a < 3) : m_a3 (m_ho a w) := m_a3_u (m_a3_u (m_a3_u (m_a3_u h (by omega)) (by omega)) (by omega)) (by omega)
theorem c_home {h : q_F} {t a : Nat} {w : Nat → Int} (ht : q_isT t) (ha : a < 3) (hc : c_tb h t w) (ok : m_ok w) (hi : m_a3 w) (h5 : q_r64 (w 5)) :
    ∃ h', fn131 t a h = some ((m_home a w).1, h') ∧ c_tb h' t (m_home a w).2 ∧ c_ft t h h' ∧ m_a3 (m_home a w).2 := by
  have o := ok.2.2.1 a ha
  have sl := c_slow hc ok.1
  obtain ⟨h1, g1, g2, g3, g4⟩ := c_tseek (c := 1) (d := -1) (lt := q_ldv 1000000 (w 0)) ha (Or.inl ⟨rfl, rfl⟩) hc ok hi
  have q5 := m_skl_5 (c := 1) (d := -1) (t := q_ldv 1000000 (w 0)) ha (w (8 + a) + w (11 + a) + 1).toNat w h5
  have qe := m_skl_e (c := 1) (d := -1) (t := q_ldv 1000000 (w 0)) ha rfl (w (8 + a) + w (11 + a) + 1).toNat w (m_u w (41 + a) 0) (fun k hk => (m_u_n hk).symm)
  have q41 := m_skl_fy (c := 1) (d := -1) (t := q_ldv 1000000 (w 0)) ha (w (8 + a) + w (11 + a) + 1).toNat (m_u w (41 + a) 0) (41 + a) (by omega) (by omega)
  have qf := m_skl_fr ha 1 (-1) (q_ldv 1000000 (w 0)) (w (8 + a) + w (11 + a) + 1).toNat w
  have qn := m_skl_n (a := a) 1 (-1) (q_ldv 1000000 (w 0)) (w (8 + a) + w (11 + a) + 1).toNat w
  rw [m_u_s] at q41
  have es : ∀ c d t, m_seek a c d t (m_u w (41 + a) 0) = (if m_reads a (m_skl a c d t (w (8 + a) + w (11 + a) + 1).toNat (m_u w (41 + a) 0)).2 = c then ((m_skl a c d t (w (8 + a) + w (11 + a) + 1).toNat (m_u w (41 + a) 0)).1 : Int) else -1, (m_skl a c d t (w (8 + a) + w (11 + a) + 1).toNat (m_u w (41 + a) 0)).2) := fun c d t => by
    unfold m_seek
    rw [m_u_n (show 8 + a ≠ 41 + a by omega), m_u_n (show 11 + a ≠ 41 + a by omega)]
  unfold m_home
  dsimp only
  rw [es, fn131, g1, Option.bind_some]
  dsimp only
  generalize m_skl a 1 (-1) (q_ldv 1000000 (w 0)) (w (8 + a) + w (11 + a) + 1).toNat w = R at g2 g4 q5 qe qf qn ⊢
  generalize m_skl a 1 (-1) (q_ldv 1000000 (w 0)) (w (8 + a) + w (11 + a) + 1).toNat (m_u w (41 + a) 0) = R0 at qe q41 ⊢
  obtain ⟨N, r⟩ := R
  obtain ⟨N0, r0⟩ := R0
  dsimp only at g2 g4 q5 qe qf qn q41 ⊢
  obtain ⟨rfl, qe⟩ := qe
  have er0 : r 0 = w 0 := qf 0 (by unfold m_dy; omega)
  have okr := m_fr_ok ok qf
  have e0 : r0 = m_u r (41 + a) 0 := by rw [m_eq_same qe, ← q41, m_u_id]
  have s1 := c_slow g2 (by rw [m_u_n (by omega), er0]; exact ok.1)
  rw [m_u_n (show 0 ≠ 5 by omega), er0] at s1
  have et : h1 t 8 = w 5 := by have := g2.2.1.2.2.2.2.1; rw [m_u_s] at this; exact this
  rw [s1.1, Option.bind_some, et, m_w64_b, ← q5, m_let]
  have g5 : c_tb (q_ud h1 t 8 (r 5)) t r := by
    have := c_tb_u (j := 8) (v := r 5) (by omega) g2
    rw [show c_h 8 = 5 from rfl, m_u_u, m_u_id] at this
    exact this
  have f5 : c_ft t h (q_ud h1 t 8 (r 5)) := c_ft_u g3 (by omega) (by omega)
  generalize q_ud h1 t 8 (r 5) = h2 at g5 f5 ⊢
  have i53 := (m_a3_i g4 ha).2.2.1
  rw [q_axn_e ha, c_reads (g5.1 a ha) i53, Option.bind_some]
  have rr : m_reads a r0 = m_reads a r := (m_reads_e rfl qe).symm
  rw [rr]
  rcases m_reads_01 a r with c0 | c0
  · rw [if_pos c0, if_neg (show ¬ m_reads a r = 1 by omega), if_pos rfl]
    obtain ⟨h', k1, k2, k3⟩ := c_fail (al := 1) ha g5
    refine ⟨h', ?_, ?_, c_ft_t f5 k3, ?_⟩
    · rw [k1, Option.bind_some]
    · rw [e0]; exact k2
    · rw [e0]; exact m_a3_hf (m_a3_u g4 (by omega)) ha
  · rw [if_neg (show ¬ m_reads a r = 0 by omega), if_pos c0, if_neg (show ¬ (N : Int) = -1 by omega)]
    -- the second part
    have hr5 : q_r64 (r 5) := by rw [q5]; exact q_wr64 _
    obtain ⟨h3, k1, k2, k3, k4⟩ := c_tseek (c := 0) (d := 1) (lt := q_w64 (4 * q_ldv 1000000 (w 0))) ha (Or.inr ⟨rfl, rfl⟩) g5 okr g4
    rw [q_axn_e ha] at k1
    have p5 := m_skl_5 (c := 0) (d := 1) (t := q_w64 (4 * q_ldv 1000000 (w 0))) ha (r (8 + a) + r (11 + a) + 1).toNat r hr5
    have pe := m_skl_e (c := 0) (d := 1) (t := q_w64 (4 * q_ldv 1000000 (w 0))) ha rfl (r (8 + a) + r (11 + a) + 1).toNat r r0 qe
    have p41 := m_skl_fy (c := 0) (d := 1) (t := q_w64 (4 * q_ldv 1000000 (w 0))) ha (r (8 + a) + r (11 + a) + 1).toNat r0 (41 + a) (by omega) (by omega)
    have pf := m_skl_fr ha 0 1 (q_w64 (4 * q_ldv 1000000 (w 0))) (r (8 + a) + r (11 + a) + 1).toNat r
    have pn := m_skl_n (a := a) 0 1 (q_w64 (4 * q_ldv 1000000 (w 0))) (r (8 + a) + r (11 + a) + 1).toNat r
    have es2 : m_seek a 0 1 (q_w64 (4 * q_ldv 1000000 (w 0))) r0 = (if m_reads a (m_skl a 0 1 (q_w64 (4 * q_ldv 1000000 (w 0))) (r (8 + a) + r (11 + a) + 1).toNat r0).2 = 0 then ((m_skl a 0 1 (q_w64 (4 * q_ldv 1000000 (w 0))) (r (8 + a) + r (11 + a) + 1).toNat r0).1 : Int) else -1, (m_skl a 0 1 (q_w64 (4 * q_ldv 1000000 (w 0))) (r (8 + a) + r (11 + a) + 1).toNat r0).2) := by
      unfold m_seek
      rw [← qe (8 + a) (by omega), ← qe (11 + a) (by omega)]
    have o2 := okr.2.2.1 a ha
    rw [es2, k1, Option.bind_some]
    dsimp only
    generalize m_skl a 0 1 (q_w64 (4 * q_ldv 1000000 (w 0))) (r (8 + a) + r (11 + a) + 1).toNat r = S at k2 k4 p5 pe pf pn ⊢
    generalize m_skl a 0 1 (q_w64 (4 * q_ldv 1000000 (w 0))) (r (8 + a) + r (11 + a) + 1).toNat r0 = S0 at pe p41 ⊢
    obtain ⟨M, s⟩ := S
    obtain ⟨M0, s0⟩ := S0
    dsimp only at k2 k4 p5 pe pf pn p41 ⊢
    obtain ⟨rfl, pe⟩ := pe
    have es0 : s 0 = w 0 := (pf 0 (by unfold m_dy; omega)).trans er0
    have e1 : s0 = m_u s (41 + a) 0 := by rw [m_eq_same pe, ← q41, ← p41, m_u_id]
    have s2 := c_slow k2 (by rw [m_u_n (by omega), es0]; exact ok.1)
    rw [m_u_n (show 0 ≠ 5 by omega), es0] at s2
    have et2 : h3 t 8 = r 5 := by have := k2.2.1.2.2.2.2.1; rw [m_u_s] at this; exact this
    have em : q_w64 (q_w64 (4 * (M : Int)) * q_ldv 1000000 (w 0)) = q_w64 ((M : Int) * q_w64 (4 * q_ldv 1000000 (w 0))) := by
      rw [q_w64_id (z := 4 * (M : Int)) (by omega) (by omega), q_w64_id (z := 4 * q_ldv 1000000 (w 0)) (by omega) (by omega)]
      congr 1
      rw [Int.mul_comm 4 (M : Int), Int.mul_assoc]
    rw [s2.1, Option.bind_some, et2, em, m_w64_b, ← p5, m_let]
    have g6 : c_tb (q_ud h3 t 8 (s 5)) t s := by
      have := c_tb_u (j := 8) (v := s 5) (by omega) k2
      rw [show c_h 8 = 5 from rfl, m_u_u, m_u_id] at this
      exact this
    have f6 : c_ft t h (q_ud h3 t 8 (s 5)) := c_ft_t f5 (c_ft_u k3 (by omega) (by omega))
    generalize q_ud h3 t 8 (s 5) = h4 at g6 f6 ⊢
    have j53 := (m_a3_i k4 ha).2.2.1
    rw [c_reads (g6.1 a ha) j53, Option.bind_some]
    have rs : m_reads a s0 = m_reads a s := (m_reads_e rfl pe).symm
    rw [rs]
    rcases m_reads_01 a s with c1 | c1
    · rw [if_pos c1, if_pos c1, if_neg (show ¬ (M : Int) = -1 by omega)]
      obtain ⟨h', l1, l2, l3⟩ := c_good ha g6
      have eho : m_ho a s0 = m_ho a s := by
        unfold m_ho
        rw [e1, m_u_u, m_u_n (show 26 + a ≠ 41 + a by omega), m_u_n (show 65 + a ≠ 41 + a by omega)]
      rw [l1, Option.bind_some]
      dsimp only
      rw [m_let]
      refine ⟨_, rfl, ?_, c_ft_t f6 (c_ft_u l3 (by omega) (by omega)), ?_⟩
      · rw [eho]; exact l2
      · rw [eho]; exact m_a3_ho k4 ha
    · rw [if_neg (by omega), if_neg (show ¬ m_reads a s = 0 by omega), if_pos rfl]
      obtain ⟨h', l1, l2, l3⟩ := c_fail (al := 2) ha g6
      refine ⟨h', ?_, ?_, c_ft_t f6 l3, ?_⟩
      · rw [l1, Option.bind_some]
      · rw [e1]; exact l2
      · rw [e1]; exact m_a3_hf (m_a3_u k4 (by omega)) ha
