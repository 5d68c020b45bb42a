/-! Part 98zzh: wouldHome. -/
theorem a_p52 {a : Int} {h h1 h2 : q_F} {S S1 : m_St} {v1 v2 : Int} (hA : q_Al 0 155 h) (J : j_T S S h) (J1 : j_T S1 S h1) (e1 : fn40 a h = some (v1, h1)) (e2 : fn364 a h1 = some (v2, h2)) : a_Q h2 v1 v2 := by
  have hm := J1.2.1.1
  have f := (a_F (r_wHome J1.2.1.2 hm) e2).1 153 (by omega)
  have ok := m_R0_ok hm.1.1
  have g0 := a_g0 J1.2.1.2
  unfold fn364 at e2
  unfold fn40 fn232 at e1
  rw [a_298, Option.bind_some] at e2
  rw [c_axis, Option.bind_some] at e1
  dsimp only at e1 e2
  by_cases c : 0 ≤ a ∧ a ≤ 2
  · obtain ⟨n, hn, rfl⟩ := m_ax_n c
    obtain ⟨g1, x1, x2, x3⟩ := c_copy (t := 24) (t1 := 6) (by omega) J.1.2.1 ok.2.1
    obtain ⟨g2, b1, b2, b3, b4⟩ := c_home q_T24 hn x2 ok hm.1.1.2 (j_w5 hA J.1.2)
    obtain ⟨k1, y1, y2, y3⟩ := a_A_b g0
    obtain ⟨A, -⟩ := r_A_sr (u' := (m_home n S.w).2) y2 (fun j hj => m_home_hi hn hj)
    obtain ⟨k2, z1, z2, z3⟩ := a_A_e A
    rw [if_pos c, if_pos rfl, x1, Option.bind_some, b1, Option.bind_some, Option.bind_some] at e1
    dsimp only at e1
    rw [if_pos rfl, m_let] at e1
    rw [if_pos c, if_pos c, if_pos rfl, y1, Option.bind_some] at e2
    dsimp only at e2
    rw [fn266_m hn (by rw [y2.1]; exact ok), Option.bind_some, y2.1, z1, Option.bind_some] at e2
    exact a_ok e1 e2 (z3.trans ((congrFun (m_sr_n (by omega)) 7).trans (y3.trans (q_ud_s _ _ _ _)))) f
  · rw [if_neg c, if_neg (show ¬ (3 : Nat) = 0 by decide), if_pos rfl, Option.bind_some] at e1
    dsimp only at e1
    rw [if_neg (show ¬ (3 : Nat) = 1 by decide), if_pos rfl] at e1
    rw [if_neg c, if_neg c, if_neg (show ¬ (1 : Int) = 0 by decide)] at e2
    exact a_er e1 e2 (q_ud_s _ _ _ _) (by decide)
