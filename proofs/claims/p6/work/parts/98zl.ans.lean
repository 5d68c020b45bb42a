/-! Part 98zl: axis. -/
theorem a_w32s (x y : Int) : q_w32 (q_w32 x - q_w32 y) = q_w32 (x - y) := by
  obtain ⟨h1, h2, k, h3⟩ := q_w32_s x
  obtain ⟨g1, g2, j, g3⟩ := q_w32_s y
  obtain ⟨e1, e2, i, e3⟩ := q_w32_s (x - y)
  obtain ⟨f1, f2, l, f3⟩ := q_w32_s (q_w32 x - q_w32 y)
  omega
theorem a_p8v {h : q_F} {S : m_St} {n v : Nat} (hI : c_I h S) (hm : m_I S) (hn : n < 3) (hv : v ≤ 12) : (if (5 : Int) < (v : Int) then fn50 (q_axn 6 (n : Int)) v h else fn45 (q_axn 6 (n : Int)) v h) = some (q_w32 (S.w (8 + 3 * v + n))) := by
  have X := a_ax hI hn
  have A := m_a3_i hm.1.1.2 hn
  have K := (m_R0_ok hm.1.1).2.2.1 n hn
  have p20 := A.2.2.2.2.2.1
  obtain ⟨A1, A2, A3, -, -, A6, A7, A8⟩ := A
  have wid : ∀ x : Int, -3000 ≤ x → x ≤ 6000 → q_w32 x = x := fun x h1 h2 => q_w32_id (by omega) (by omega)
  obtain rfl | rfl | rfl | rfl | rfl | rfl | rfl | rfl | rfl | rfl | rfl | rfl | rfl : v = 0 ∨ v = 1 ∨ v = 2 ∨ v = 3 ∨ v = 4 ∨ v = 5 ∨ v = 6 ∨ v = 7 ∨ v = 8 ∨ v = 9 ∨ v = 10 ∨ v = 11 ∨ v = 12 := by omega
  · have e : h (q_axn 6 (n : Int)) 0 = S.w (8 + n) := X.1 0 (by omega)
    rw [if_neg (by decide), fn45, if_pos (show ((0 : Nat) : Int) = 0 from rfl), e, show 8 + 3 * 0 + n = 8 + n by omega, wid _ (by omega) (by omega)]
  · have e : h (q_axn 6 (n : Int)) 1 = S.w (11 + n) := X.1 1 (by omega)
    rw [if_neg (by decide), fn45, if_neg (by decide), if_pos (show ((1 : Nat) : Int) = 1 from rfl), e, show 8 + 3 * 1 + n = 11 + n by omega, wid _ (by omega) (by omega)]
  · have e : h (q_axn 6 (n : Int)) 2 = S.w (14 + n) := X.1 2 (by omega)
    rw [if_neg (by decide), fn45, if_neg (by decide), if_neg (by decide), if_pos (show ((2 : Nat) : Int) = 2 from rfl), e, show 8 + 3 * 2 + n = 14 + n by omega, wid _ (by omega) (by omega)]
  · have e : h (q_axn 6 (n : Int)) 3 = S.w (17 + n) := X.1 3 (by omega)
    rw [if_neg (by decide), fn45, if_neg (by decide), if_neg (by decide), if_neg (by decide), if_pos (show ((3 : Nat) : Int) = 3 from rfl), e, show 8 + 3 * 3 + n = 17 + n by omega, wid _ (by omega) (by omega)]
  · have e : h (q_axn 6 (n : Int)) 4 = S.w (20 + n) := X.1 4 (by omega)
    rw [if_neg (by decide), fn45, if_neg (by decide), if_neg (by decide), if_neg (by decide), if_neg (by decide), if_pos (show ((4 : Nat) : Int) = 4 from rfl), e, show 8 + 3 * 4 + n = 20 + n by omega, wid _ (by omega) (by omega)]
  · have e : h (q_axn 6 (n : Int)) 5 = S.w (23 + n) := X.1 5 (by omega)
    rw [if_neg (by decide), fn45, if_neg (by decide), if_neg (by decide), if_neg (by decide), if_neg (by decide), if_neg (by decide), e, show 8 + 3 * 5 + n = 23 + n by omega, wid _ (by omega) (by omega)]
  · have e : h (q_axn 6 (n : Int)) 6 = S.w (26 + n) := X.1 6 (by omega)
    rw [if_pos (by decide), fn50, if_pos (show ((6 : Nat) : Int) = 6 from rfl), e, show 8 + 3 * 6 + n = 26 + n by omega, wid _ (by omega) (by omega)]
  · have e : h (q_axn 6 (n : Int)) 7 = S.w (29 + n) := X.1 7 (by omega)
    rw [if_pos (by decide), fn50, if_neg (by decide), if_pos (show ((7 : Nat) : Int) = 7 from rfl), e, show 8 + 3 * 7 + n = 29 + n by omega, wid _ (by omega) (by omega)]
  · have e : h (q_axn 6 (n : Int) + 1) 0 = q_w32 (S.w (56 + n)) := X.2 0 (by omega)
    have e2 : h (q_axn 6 (n : Int) + 1) 1 = q_w32 (S.w (59 + n)) := X.2 1 (by omega)
    rw [if_pos (by decide), fn50, if_neg (by decide), if_neg (by decide), if_pos (show ((8 : Nat) : Int) = 8 from rfl), e, e2, show 8 + 3 * 8 + n = 32 + n by omega, a_w32s, A8]
  · have e : h (q_axn 6 (n : Int) + 1) 2 = q_w32 (S.w (35 + n)) := X.2 2 (by omega)
    rw [if_pos (by decide), fn50, if_neg (by decide), if_neg (by decide), if_neg (by decide), if_pos (show ((9 : Nat) : Int) = 9 from rfl), e, show 8 + 3 * 9 + n = 35 + n by omega]
  · have e : h (q_axn 6 (n : Int)) 9 = S.w (38 + n) := X.1 9 (by omega)
    have b := (hm.1.1.1 (38 + n) (by omega)).2.2.2.2.1 (by omega)
    rw [if_pos (by decide), fn50, if_neg (by decide), if_neg (by decide), if_neg (by decide), if_neg (by decide), if_pos (show ((10 : Nat) : Int) = 10 from rfl), e, show 8 + 3 * 10 + n = 38 + n by omega, wid _ (by omega) (by omega)]
  · have e : h (q_axn 6 (n : Int)) 11 = S.w (41 + n) := X.1 11 (by omega)
    have b := (hm.1.1.1 (41 + n) (by omega)).2.1 (by omega)
    rw [if_pos (by decide), fn50, if_neg (by decide), if_neg (by decide), if_neg (by decide), if_neg (by decide), if_neg (by decide), if_pos (show ((11 : Nat) : Int) = 11 from rfl), e, show 8 + 3 * 11 + n = 41 + n by omega, wid _ (by omega) (by omega)]
    rcases b with b | b
    · rw [if_pos b, b]
    · rw [if_neg (by omega), b]
  · have e : h (q_axn 6 (n : Int)) 8 = S.w (44 + n) := X.1 8 (by omega)
    rw [if_pos (by decide), fn50, if_neg (by decide), if_neg (by decide), if_neg (by decide), if_neg (by decide), if_neg (by decide), if_neg (by decide), e, show 8 + 3 * 12 + n = 44 + n by omega, wid _ (by omega) (by omega)]
theorem a_p8 {a v : Int} {h h1 h2 : q_F} {S S1 : m_St} {v1 v2 : Int} (J : j_T S S h) (J1 : j_T S1 S h1) (e1 : fn1 a v h = some (v1, h1)) (e2 : fn239 a v h1 = some (v2, h2)) : a_Q h2 v1 v2 := by
  have f := (a_F (r_axisC J1.2.1.2) e2).1 153 (by omega)
  have g0 := a_g0 J1.2.1.2
  unfold fn239 fn239_26 at e2
  unfold fn1 fn157 fn157_15 at e1
  rw [a_298, Option.bind_some] at e2
  rw [c_axis, Option.bind_some] at e1
  dsimp only at e1 e2
  by_cases c : 0 ≤ a ∧ a ≤ 2
  · rw [if_pos c, if_pos rfl] at e1
    rw [if_pos c, if_pos c, if_pos rfl, r_rng, Option.bind_some, a_258, a_258, Option.bind_some, Option.bind_some] at e2
    dsimp only at e2
    obtain ⟨n, rfl⟩ : ∃ n : Nat, a = (n : Int) := ⟨a.toNat, by omega⟩
    by_cases cv : 0 ≤ v ∧ v ≤ 12
    · obtain ⟨m, rfl⟩ : ∃ m : Nat, v = (m : Int) := ⟨v.toNat, by omega⟩
      have V := a_p8v (n := n) (v := m) J.1.2 J.1.1 (by omega) (by omega)
      rw [if_neg (show ¬ (m : Int) < 0 by omega), if_pos cv.2] at e1
      rw [if_pos cv, if_neg (show ¬ (1 : Int) = 0 by decide), if_pos rfl, if_pos rfl, q_w32_id (z := 3 * (m : Int)) (by omega) (by omega), q_w32_id (z := 8 + 3 * (m : Int)) (by omega) (by omega), q_w32_id (by omega) (by omega), fn303_i (by omega) (by omega), Option.bind_some, show (8 + 3 * (m : Int) + n).toNat = 8 + 3 * m + n by omega, g0.1] at e2
      have e3 : some ((0 : Int), q_ud h 153 0 (q_w32 (S.w (8 + 3 * m + n)))) = some (v1, h1) := by
        rw [← e1]
        by_cases c5 : (5 : Int) < (m : Int)
        · rw [if_pos c5] at V
          rw [if_pos c5, V, Option.bind_some, Option.bind_some]
          rfl
        · rw [if_neg c5] at V
          rw [if_neg c5, V, Option.bind_some, Option.bind_some]
          rfl
      exact a_ok e3 e2 (q_ud_s _ _ _ _) f
    · rw [if_neg cv, if_pos rfl, if_neg (show ¬ (1 : Int) = 0 by decide), if_neg (show ¬ (1 : Int) = 0 by decide)] at e2
      have e3 : some ((2 : Int), h) = some (v1, h1) := by
        rw [← e1]
        by_cases c5 : v < 0
        · rw [if_pos c5, Option.bind_some]; rfl
        · rw [if_neg c5, if_neg (show ¬ v ≤ 12 by omega), Option.bind_some]; rfl
      exact a_er e3 e2 (q_ud_s _ _ _ _) (by decide)
  · rw [if_neg c, if_neg (show ¬ (3 : Nat) = 0 by decide), if_pos rfl, Option.bind_some] at e1
    dsimp only at e1
    rw [if_neg (show ¬ (3 : Nat) = 1 by decide), if_neg (show ¬ (3 : Nat) = 2 by decide), if_pos rfl] at e1
    rw [if_neg c, if_neg c, if_neg (show ¬ (1 : Int) = 0 by decide)] at e2
    exact a_er e1 e2 (q_ud_s _ _ _ _) (by decide)
