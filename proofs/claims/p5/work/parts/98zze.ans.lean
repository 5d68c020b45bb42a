/-! Part 98zze: wouldErr, wouldLose. -/
theorem a_w32l (x y : Int) : q_w32 (q_w32 x - y) = q_w32 (x - y) := by
  obtain ⟨h1, h2, k, h3⟩ := q_w32_s x
  obtain ⟨g1, g2, j, g3⟩ := q_w32_s (q_w32 x - y)
  obtain ⟨e1, e2, i, e3⟩ := q_w32_s (x - y)
  omega
theorem a_w32r (x y : Int) : q_w32 (x - q_w32 y) = q_w32 (x - y) := by
  obtain ⟨h1, h2, k, h3⟩ := q_w32_s y
  obtain ⟨g1, g2, j, g3⟩ := q_w32_s (x - q_w32 y)
  obtain ⟨e1, e2, i, e3⟩ := q_w32_s (x - y)
  omega
theorem a_p51 {a : Int} {h h1 h2 : q_F} {S S1 : m_St} {v1 v2 : Int} (J : j_T S S h) (J1 : j_T S1 S h1) (e1 : fn39 a h = some (v1, h1)) (e2 : fn363 a h1 = some (v2, h2)) : a_Q h2 v1 v2 := by
  have hm := J1.2.1.1
  have f := (a_F (r_wErr J1.2.1.2 hm) e2).1 153 (by omega)
  have g0 := a_g0 J1.2.1.2
  unfold fn363 at e2
  unfold fn39 fn231 at e1
  rw [a_298, Option.bind_some] at e2
  rw [c_axis, Option.bind_some] at e1
  dsimp only at e1 e2
  by_cases c : 0 ≤ a ∧ a ≤ 2
  · rw [if_pos c, if_pos rfl] at e1
    rw [if_pos c, if_pos c, if_pos rfl, a_302 c, Option.bind_some] at e2
    obtain ⟨n, hn, rfl⟩ := m_ax_n c
    have X := a_ax J.1.2 (a := n) hn
    have x11 : h (q_axn 6 (n : Int)) 11 = S.w (41 + n) := X.1 11 (by omega)
    have g41 : q_ud h1 139 7 0 140 (41 + (n : Int)).toNat = S.w (41 + n) := by rw [show (41 + (n : Int)).toNat = 41 + n by omega, g0.1]
    unfold fn163 at e1
    dsimp only at e1 e2
    rw [x11] at e1
    rw [g41] at e2
    by_cases z : S.w (41 + n) = 0
    · rw [if_pos z, Option.bind_some] at e1
      dsimp only at e1
      rw [if_neg (show ¬ (4 : Nat) = 0 by decide), if_pos rfl, Option.bind_some] at e1
      dsimp only at e1
      rw [if_neg (show ¬ (4 : Nat) = 1 by decide), if_neg (show ¬ (4 : Nat) = 3 by decide), if_pos rfl] at e1
      rw [if_pos z, if_pos z, if_neg (show ¬ (1 : Int) = 0 by decide)] at e2
      exact a_er e1 e2 (q_ud_s _ _ _ _) (by decide)
    · obtain ⟨h', g1, g2, w', T, x1, x2, x3, y1, y2, y3, T0, y4, y5⟩ := a_thought J.1.2 g0 hm
      obtain ⟨x6, x12, x13⟩ := a_tb26 x2 hn
      obtain ⟨g3, z1, z2, z3⟩ := a_A_e y4
      rw [if_neg z, Option.bind_some] at e1
      dsimp only at e1
      rw [if_pos rfl, x1, Option.bind_some, fn47, Option.bind_some, Option.bind_some] at e1
      dsimp only at e1
      rw [if_pos rfl, m_let, x6, x12, x13] at e1
      rw [if_neg z, if_neg z, if_pos rfl, y1, Option.bind_some] at e2
      dsimp only at e2
      rw [y2, Option.bind_some, y3, Option.bind_some] at e2
      dsimp only at e2
      have k : ∀ j : Nat, j < 122 → fn303 (j : Int) g2 = some (q_w32 (w' j)) := fun j hj => by rw [fn303_i (by omega) (by omega), Int.toNat_natCast, y4.1]
      have k26 := k (26 + n) (by omega)
      have k50 := k (50 + n) (by omega)
      have k47 := k (47 + n) (by omega)
      rw [show ((26 + n : Nat) : Int) = 26 + (n : Int) by omega] at k26
      rw [show ((50 + n : Nat) : Int) = 50 + (n : Int) by omega] at k50
      rw [show ((47 + n : Nat) : Int) = 47 + (n : Int) by omega] at k47
      have e9 : q_w32 (q_w32 (q_w32 (w' (26 + n)) - q_w32 (w' (50 + n))) - q_w32 (w' (47 + n))) = q_w32 (q_w32 (w' (26 + n) - w' (50 + n)) - w' (47 + n)) := by
        rw [a_w32r, a_w32s]
      unfold fn256 at e2
      rw [if_pos T0, q_w32_id (z := 26 + (n : Int)) (by omega) (by omega), q_w32_id (z := 50 + (n : Int)) (by omega) (by omega), q_w32_id (z := 47 + (n : Int)) (by omega) (by omega), k26, Option.bind_some, k50, Option.bind_some, k47, Option.bind_some, Option.bind_some, e9, fn363_48, z1, Option.bind_some] at e2
      exact a_ok e1 e2 (z3.trans (y5.trans (q_ud_s _ _ _ _))) f
  · rw [if_neg c, if_neg (show ¬ (3 : Nat) = 0 by decide), if_pos rfl, Option.bind_some] at e1
    dsimp only at e1
    rw [if_neg (show ¬ (3 : Nat) = 1 by decide), if_pos rfl] at e1
    rw [if_neg c, if_neg c, if_neg (show ¬ (1 : Int) = 0 by decide)] at e2
    exact a_er e1 e2 (q_ud_s _ _ _ _) (by decide)
theorem a_136 {h : q_F} {t : Nat} {w : Nat → Int} (hc : c_tb h t w) : fn136 t h = some (q_w32 (q_w32 (q_w32 (w 35) + q_w32 (w 36)) + q_w32 (w 37))) := by
  have x0 : h (t + 1 + 1) 2 = q_w32 (w 35) := (hc.1 0 (by omega)).2 2 (by omega)
  have x1 : h (t + 3 + 1) 2 = q_w32 (w 36) := (hc.1 1 (by omega)).2 2 (by omega)
  have x2 : h (t + 5 + 1) 2 = q_w32 (w 37) := (hc.1 2 (by omega)).2 2 (by omega)
  rw [fn136, x0, x1, x2]
theorem a_284 {h : q_F} {w : Nat → Int} (e : h 140 = w) : fn284 h = some (q_w32 (q_w32 (q_w32 (w 35) + q_w32 (w 36)) + q_w32 (w 37))) := by
  rw [fn284, fn303_i (by omega) (by omega), Option.bind_some, fn303_i (by omega) (by omega), Option.bind_some, fn303_i (by omega) (by omega), Option.bind_some, e]
  rfl
theorem a_p50 {h h1 h2 : q_F} {S S1 : m_St} {v1 v2 : Int} (J : j_T S S h) (J1 : j_T S1 S h1) (e1 : fn233 h = some (v1, h1)) (e2 : fn365 h1 = some (v2, h2)) : v1 = v2 := by
  have hm := J1.2.1.1
  have g0 := a_g0 J1.2.1.2
  obtain ⟨h', g1, g2, w', T, x1, x2, x3, y1, y2, y3, T0, y4, y5⟩ := a_thought J.1.2 g0 hm
  obtain ⟨g3, z1, z2, z3⟩ := a_A_e y4
  rw [fn233, a_136 J.1.2.1, Option.bind_some, x1, Option.bind_some] at e1
  dsimp only at e1
  rw [a_136 x2, Option.bind_some] at e1
  rw [fn365, m_let, a_284 g0.1, Option.bind_some, y1, Option.bind_some] at e2
  dsimp only at e2
  rw [y2, Option.bind_some, y3, Option.bind_some] at e2
  dsimp only at e2
  rw [if_pos T0, a_284 y4.1, Option.bind_some, fn365_40, z1, Option.bind_some] at e2
  have d1 := congrArg Prod.fst (Option.some.inj e1)
  have d2 := congrArg Prod.fst (Option.some.inj e2)
  exact d1.symm.trans d2
