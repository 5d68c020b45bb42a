/-! Part 98zm: account, setStart, setStuck, unqueue, slackLeft, restoreState. -/
theorem a_p56v {h : q_F} {S : m_St} {n v : Nat} (hI : c_I h S) (hn : n < 3) (hv : v ≤ 5) : fn44 (q_axn 6 (n : Int) + 1) v h = some (q_w32 (S.w (56 + 3 * v + n))) := by
  have X := a_ax hI hn
  obtain rfl | rfl | rfl | rfl | rfl | rfl : v = 0 ∨ v = 1 ∨ v = 2 ∨ v = 3 ∨ v = 4 ∨ v = 5 := by omega
  · have e : h (q_axn 6 (n : Int) + 1) 0 = q_w32 (S.w (56 + n)) := X.2 0 (by omega)
    rw [fn44, if_pos (show ((0 : Nat) : Int) = 0 from rfl), e]
  · have e : h (q_axn 6 (n : Int) + 1) 1 = q_w32 (S.w (59 + n)) := X.2 1 (by omega)
    rw [fn44, if_neg (by decide), if_pos (show ((1 : Nat) : Int) = 1 from rfl), e]
  · have e : h (q_axn 6 (n : Int) + 1) 3 = q_w32 (S.w (62 + n)) := X.2 3 (by omega)
    rw [fn44, if_neg (by decide), if_neg (by decide), if_pos (show ((2 : Nat) : Int) = 2 from rfl), e]
  · have e : h (q_axn 6 (n : Int) + 1) 4 = q_w32 (S.w (65 + n)) := X.2 4 (by omega)
    rw [fn44, if_neg (by decide), if_neg (by decide), if_neg (by decide), if_pos (show ((3 : Nat) : Int) = 3 from rfl), e]
  · have e : h (q_axn 6 (n : Int) + 1) 5 = q_w32 (S.w (68 + n)) := X.2 5 (by omega)
    rw [fn44, if_neg (by decide), if_neg (by decide), if_neg (by decide), if_neg (by decide), if_pos (show ((4 : Nat) : Int) = 4 from rfl), e]
  · have e : h (q_axn 6 (n : Int) + 1) 6 = q_w32 (S.w (71 + n)) := X.2 6 (by omega)
    rw [fn44, if_neg (by decide), if_neg (by decide), if_neg (by decide), if_neg (by decide), if_neg (by decide), e]
theorem a_p56 {a v : Int} {h h1 h2 : q_F} {S S1 : m_St} {v1 v2 : Int} (J : j_T S S h) (J1 : j_T S1 S h1) (e1 : fn0 a v h = some (v1, h1)) (e2 : fn234 a v h1 = some (v2, h2)) : a_Q h2 v1 v2 := by
  have f := (a_F (r_account J1.2.1.2) e2).1 153 (by omega)
  have g0 := a_g0 J1.2.1.2
  unfold fn234 fn234_26 at e2
  unfold fn0 fn155 fn155_14 at e1
  rw [a_298, Option.bind_some] at e2
  rw [c_axis, Option.bind_some] at e1
  dsimp only at e1 e2
  by_cases c : 0 ≤ a ∧ a ≤ 2
  · rw [if_pos c, if_pos rfl] at e1
    rw [if_pos c, if_pos c, if_pos rfl, r_rng, Option.bind_some, a_258, a_258, Option.bind_some, Option.bind_some] at e2
    dsimp only at e2
    obtain ⟨n, rfl⟩ : ∃ n : Nat, a = (n : Int) := ⟨a.toNat, by omega⟩
    by_cases cv : 0 ≤ v ∧ v ≤ 5
    · obtain ⟨m, rfl⟩ : ∃ m : Nat, v = (m : Int) := ⟨v.toNat, by omega⟩
      have V := a_p56v (n := n) (v := m) J.1.2 (by omega) (by omega)
      rw [if_neg (show ¬ (m : Int) < 0 by omega), if_pos cv.2, V, Option.bind_some, Option.bind_some] at e1
      rw [if_pos cv, if_neg (show ¬ (1 : Int) = 0 by decide), if_pos rfl, if_pos rfl, q_w32_id (z := 3 * (m : Int)) (by omega) (by omega), q_w32_id (z := 56 + 3 * (m : Int)) (by omega) (by omega), q_w32_id (by omega) (by omega), fn303_i (by omega) (by omega), Option.bind_some, show (56 + 3 * (m : Int) + n).toNat = 56 + 3 * m + n by omega, g0.1] at e2
      exact a_ok e1 e2 (q_ud_s _ _ _ _) f
    · rw [if_neg cv, if_pos rfl, if_neg (show ¬ (1 : Int) = 0 by decide), if_neg (show ¬ (1 : Int) = 0 by decide)] at e2
      have e3 : some ((2 : Int), h) = some (v1, h1) := by
        rw [← e1]
        by_cases c5 : v < 0
        · rw [if_pos c5, Option.bind_some]; rfl
        · rw [if_neg c5, if_neg (show ¬ v ≤ 5 by omega), Option.bind_some]; rfl
      exact a_er e3 e2 (q_ud_s _ _ _ _) (by decide)
  · rw [if_neg c, if_neg (show ¬ (3 : Nat) = 0 by decide), if_pos rfl, Option.bind_some] at e1
    dsimp only at e1
    rw [if_neg (show ¬ (3 : Nat) = 1 by decide), if_neg (show ¬ (3 : Nat) = 2 by decide), if_pos rfl] at e1
    rw [if_neg c, if_neg c, if_neg (show ¬ (1 : Int) = 0 by decide)] at e2
    exact a_er e1 e2 (q_ud_s _ _ _ _) (by decide)
/-- the reference remembers: its row stays, what was thrown stays 0 -/
theorem a_rm {h : q_F} {S : m_St} (hI : r_I h S) (hm : m_I S) : ∃ k, fn320 (q_ud h 139 7 0) = some (0, k) ∧ k 140 = S.w ∧ k 139 7 = 0 ∧ r_I k (m_rem S) := by
  obtain ⟨k, x1, x2, x3, x4⟩ := r_remember (a_g0 hI) hm.2.1.1
  exact ⟨k, x1, by rw [x2.1, a_rem], by rw [x4 7 (by omega), q_ud_s], x2⟩
theorem a_p22 {v : Int} {h h1 h2 : q_F} {S S1 : m_St} {v1 v2 : Int} (J : j_T S S h) (J1 : j_T S1 S h1) (e1 : fn25 v h = some (v1, h1)) (e2 : fn330 v h1 = some (v2, h2)) : a_Q h2 v1 v2 := by
  have hm := J1.2.1.1
  have f := (a_F (r_setStart J1.2.1.2 hm) e2).1 153 (by omega)
  have w0 := (m_R0_ok hm.1.1).1
  unfold fn330 fn330_23 at e2
  unfold fn25 fn212 fn212_12 at e1
  rw [m_let, r_rng, Option.bind_some, a_258, a_258, Option.bind_some, Option.bind_some] at e2
  dsimp only at e2
  by_cases c : 1 ≤ v ∧ v ≤ 1000
  · obtain ⟨g1, a1, a2, a3⟩ := c_remember J.1.2 J.1.1
    obtain ⟨k, x1, x2, x3, -⟩ := a_rm J1.2.1.2 hm
    have d3 : g1 6 4 = S.w 0 := by rw [← a_rem (S := S)]; exact (a_tb a2).1
    rw [if_neg (show ¬ v < 1 by omega), if_pos c.2, a1, Option.bind_some, m_let, Option.bind_some] at e1
    dsimp only at e1
    rw [if_pos rfl, m_let, d3] at e1
    rw [if_pos c, if_neg (show ¬ (1 : Int) = 0 by decide), if_pos rfl, if_pos rfl, x1, Option.bind_some] at e2
    dsimp only at e2
    rw [r_of (v := S.w 0) (by omega) (by omega) (by rw [x2]; rfl) (by omega), Option.bind_some, m_let] at e2
    exact a_ok e1 e2 (by rw [q_ud_n (by omega)]; exact x3) f
  · rw [if_neg c, if_pos rfl, if_neg (show ¬ (1 : Int) = 0 by decide), if_neg (show ¬ (1 : Int) = 0 by decide)] at e2
    have e3 : some ((1 : Int), h) = some (v1, h1) := by
      rw [← e1]
      by_cases c5 : v < 1
      · rw [if_pos c5, Option.bind_some]; rfl
      · rw [if_neg c5, if_neg (show ¬ v ≤ 1000 by omega), Option.bind_some]; rfl
    exact a_er e3 e2 (q_ud_s _ _ _ _) (by decide)
theorem a_p21 {a v : Int} {h h1 h2 : q_F} {S S1 : m_St} {v1 v2 : Int} (J : j_T S S h) (J1 : j_T S1 S h1) (e1 : fn26 a v h = some (v1, h1)) (e2 : fn331 a v h1 = some (v2, h2)) : a_Q h2 v1 v2 := by
  have hm := J1.2.1.1
  have f := (a_F (r_setStuck J1.2.1.2 hm) e2).1 153 (by omega)
  unfold fn331 fn331_26 at e2
  unfold fn26 fn213 fn213_14 at e1
  rw [a_298, Option.bind_some] at e2
  rw [c_axis, Option.bind_some] at e1
  dsimp only at e1 e2
  by_cases c : 0 ≤ a ∧ a ≤ 2
  · rw [if_pos c, if_pos rfl] at e1
    rw [if_pos c, if_pos c, if_pos rfl, r_rng, Option.bind_some, a_258, a_258, Option.bind_some, Option.bind_some] at e2
    dsimp only at e2
    obtain ⟨n, rfl⟩ : ∃ n : Nat, a = (n : Int) := ⟨a.toNat, by omega⟩
    by_cases cv : 0 ≤ v ∧ v ≤ 2
    · obtain ⟨g1, a1, a2, a3⟩ := c_remember J.1.2 J.1.1
      obtain ⟨k, x1, x2, x3, -⟩ := a_rm J1.2.1.2 hm
      have d3 : g1 (q_axn 6 (n : Int)) 9 = S.w (38 + n) := by rw [← a_rem (S := S)]; exact (a_ax a2 (a := n) (by omega)).1 9 (by omega)
      have b := (hm.1.1.1 (38 + n) (by omega)).2.2.2.2.1 (by omega)
      rw [if_neg (show ¬ v < 0 by omega), if_pos cv.2, a1, Option.bind_some, m_let, Option.bind_some] at e1
      dsimp only at e1
      rw [if_pos rfl, m_let, d3] at e1
      rw [if_pos cv, if_neg (show ¬ (1 : Int) = 0 by decide), if_pos rfl, if_pos rfl, x1, Option.bind_some] at e2
      dsimp only at e2
      rw [q_w32_id (z := 38 + (n : Int)) (by omega) (by omega), r_of (v := S.w (38 + n)) (by omega) (by omega) (by rw [x2, show (38 + (n : Int)).toNat = 38 + n by omega]) (by omega), Option.bind_some, if_pos (by omega), m_let] at e2
      exact a_ok e1 e2 (by rw [q_ud_n (by omega)]; exact x3) f
    · rw [if_neg cv, if_pos rfl, if_neg (show ¬ (1 : Int) = 0 by decide), if_neg (show ¬ (1 : Int) = 0 by decide)] at e2
      have e3 : some ((2 : Int), h) = some (v1, h1) := by
        rw [← e1]
        by_cases c5 : v < 0
        · rw [if_pos c5, Option.bind_some]; rfl
        · rw [if_neg c5, if_neg (show ¬ v ≤ 2 by omega), Option.bind_some]; rfl
      exact a_er e3 e2 (q_ud_s _ _ _ _) (by decide)
  · rw [if_neg c, if_neg (show ¬ (3 : Nat) = 0 by decide), if_pos rfl, Option.bind_some] at e1
    dsimp only at e1
    rw [if_neg (show ¬ (3 : Nat) = 1 by decide), if_neg (show ¬ (3 : Nat) = 2 by decide), if_pos rfl] at e1
    rw [if_neg c, if_neg c, if_neg (show ¬ (1 : Int) = 0 by decide)] at e2
    exact a_er e1 e2 (q_ud_s _ _ _ _) (by decide)
