/-! Part 98zn: unqueue, slackLeft, target, restoreState. -/
theorem a_153 {h' h1 : q_F} {v1 x : Int} (f1 : some ((0 : Int), q_ud h' 153 0 x) = some (v1, h1)) {k j : Nat} (hk : k ≠ 153) : h1 k j = h' k j := by
  have a2 : h1 = q_ud h' 153 0 x := (congrArg Prod.snd (Option.some.inj f1)).symm
  rw [a2, q_ud_n (by omega)]
theorem a_p16 {h h1 h2 : q_F} {S : m_St} {v1 v2 : Int} (J : j_T S S h) (J1 : j_T (m_oUnq S) S h1) (J2 : j_T (m_oUnq S) (m_oUnq S) h2) (e1 : fn37 h = some (v1, h1)) (e2 : fn361 h1 = some (v2, h2)) : a_Q h2 v1 v2 := by
  have hm := J1.2.1.1
  have f := (a_F (r_unqueue J1.2.1.2 hm) e2).1 153 (by omega)
  have g0 := a_g0 J1.2.1.2
  have c4 : h 13 1 = S.w 4 := J.1.2.1.2.2.1
  have m1 : h1 13 1 = (m_oUnq S).w 4 := J1.1.2.1.2.2.1
  have m2 : h2 140 4 = (m_oUnq S).w 4 := by rw [J2.2.1.2.1]
  have b := (m_R0_ok J2.2.1.1.1.1).2.1
  unfold fn361 fn361_22 at e2
  unfold fn37 fn229 at e1
  rw [m_let, a_258, a_258, Option.bind_some, Option.bind_some, g0.1] at e2
  rw [c4] at e1
  dsimp only at e2
  by_cases c : S.w 4 = 0
  · rw [if_pos c, Option.bind_some] at e1
    dsimp only at e1
    rw [if_neg (show ¬ (5 : Nat) = 1 by decide), if_pos rfl] at e1
    rw [if_pos c, if_neg (show ¬ (1 : Int) = 0 by decide), if_neg (show ¬ (1 : Int) = 0 by decide)] at e2
    exact a_er e1 e2 (q_ud_s _ _ _ _) (by decide)
  · obtain ⟨g1, a1, a2, a3⟩ := c_remember J.1.2 J.1.1
    obtain ⟨k, x1, x2, x3, -⟩ := a_rm J1.2.1.2 hm
    rw [if_neg c, a1, Option.bind_some] at e1
    dsimp only at e1
    rw [if_neg c, if_pos rfl, if_pos rfl, x1, Option.bind_some] at e2
    dsimp only at e2
    rw [m_let] at e2
    cases y : fn152 13 (q_w32 (g1 13 1 - 1)) g1 with
    | none => rw [y] at e1; cases e1
    | some z =>
      rw [y, Option.bind_some, Option.bind_some] at e1
      dsimp only at e1
      rw [if_pos rfl, m_let] at e1
      have d1 : z.2 13 1 = (m_oUnq S).w 4 := by rw [← a_153 e1 (k := 13) (j := 1) (by decide)]; exact m1
      rw [d1] at e1
      generalize hgg : q_ud k 140 4 (q_w64 (k 140 4 - 1)) = gg at e2
      have hgg7 : gg 139 7 = 0 := by rw [← hgg, q_ud_n (by omega)]; exact x3
      cases y2 : fn303 4 gg with
      | none => rw [y2] at e2; cases e2
      | some z2 =>
        rw [y2, Option.bind_some] at e2
        have b2 : h2 = gg := (congrArg Prod.snd (Option.some.inj e2)).symm
        have y3 := r_of (z := 4) (h := gg) (v := (m_oUnq S).w 4) (by omega) (by omega) (by rw [← b2]; exact m2) (by omega)
        have z3 := a_i y2 y3
        rw [z3] at e2
        exact a_ok e1 e2 hgg7 f
theorem a_p63 {h h1 h2 : q_F} {S : m_St} {v1 v2 : Int} (J : j_T S S h) (J1 : j_T (m_oRest S) S h1) (J2 : j_T (m_oRest S) (m_oRest S) h2) (e1 : fn23 h = some (v1, h1)) (e2 : fn322 h1 = some (v2, h2)) : a_Q h2 v1 v2 := by
  have hm := J1.2.1.1
  have f := (a_F (r_rest J1.2.1.2 hm) e2).1 153 (by omega)
  have g0 := a_g0 J1.2.1.2
  have c9 : h 0 9 = S.sv := J.1.2.2.2.1
  have r6 : q_ud h1 139 7 0 139 6 = S.sv := g0.2.2.1
  have m1 : h1 13 1 = (m_oRest S).w 4 := J1.1.2.1.2.2.1
  have m2 : h2 140 4 = (m_oRest S).w 4 := by rw [J2.2.1.2.1]
  have b := (m_R0_ok J2.2.1.1.1.1).2.1
  unfold fn322 fn322_18 at e2
  unfold fn23 fn206 at e1
  rw [m_let, a_258, a_258, Option.bind_some, Option.bind_some, r6] at e2
  rw [c9] at e1
  dsimp only at e2
  by_cases c : S.sv = 0
  · rw [if_pos c, Option.bind_some] at e1
    dsimp only at e1
    rw [if_neg (show ¬ (4 : Nat) = 1 by decide), if_pos rfl] at e1
    rw [if_pos c, if_neg (show ¬ (1 : Int) = 0 by decide), if_neg (show ¬ (1 : Int) = 0 by decide)] at e2
    exact a_er e1 e2 (q_ud_s _ _ _ _) (by decide)
  · rw [if_neg c] at e1
    rw [if_neg c, if_pos rfl, if_pos rfl, fn249_i (by omega) (by omega) (by omega) (by omega) (by omega) (by omega) (by omega) (by omega), Option.bind_some, m_let] at e2
    cases y : fn127 6 15 h with
    | none => rw [y] at e1; cases e1
    | some z =>
      rw [y, Option.bind_some, fn65, m_let, Option.bind_some, Option.bind_some] at e1
      dsimp only at e1
      rw [if_pos rfl, m_let] at e1
      have d1 : q_ud z.2 33 1 0 13 1 = (m_oRest S).w 4 := by rw [← a_153 e1 (k := 13) (j := 1) (by decide)]; exact m1
      rw [d1] at e1
      dsimp only at e2
      generalize hgg : q_ud (m_sr (q_ud h1 139 7 0) 140 (m_cp (q_ud h1 139 7 0 143) (q_ud h1 139 7 0 140) (0 : Int).toNat (0 : Int).toNat (122 : Int).toNat)) 139 5 0 = gg at e2
      have hgg7 : gg 139 7 = 0 := by rw [← hgg, q_ud_n (by omega), m_sr_n (by omega), q_ud_s]
      cases y2 : fn303 4 gg with
      | none => rw [y2] at e2; cases e2
      | some z2 =>
        rw [y2, Option.bind_some] at e2
        have b2 : h2 = gg := (congrArg Prod.snd (Option.some.inj e2)).symm
        have y3 := r_of (z := 4) (h := gg) (v := (m_oRest S).w 4) (by omega) (by omega) (by rw [← b2]; exact m2) (by omega)
        have z3 := a_i y2 y3
        rw [z3] at e2
        exact a_ok e1 e2 hgg7 f
