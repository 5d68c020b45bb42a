/-! Part 98zk: error, readsClosed, axis. -/
theorem a_rw {h : q_F} {S : m_St} {j : Nat} {z : Int} (hI : r_I h S) (hj : j < 122) (hz : z = (j : Int)) (hb : -2147483648 ≤ S.w j ∧ S.w j < 2147483648) : fn303 z h = some (S.w j) := by
  subst hz
  exact r_of (by omega) (by omega) (by rw [Int.toNat_natCast, hI.1]) hb
theorem a_p10 {a : Int} {h h1 h2 : q_F} {S S1 : m_St} {v1 v2 : Int} (J : j_T S S h) (J1 : j_T S1 S h1) (e1 : fn8 a h = some (v1, h1)) (e2 : fn254 a h1 = some (v2, h2)) : a_Q h2 v1 v2 := by
  have hm := J1.2.1.1
  have f := (a_F (r_errorC J1.2.1.2) e2).1 153 (by omega)
  have g0 := a_g0 J1.2.1.2
  unfold fn254 fn254_17 at e2
  unfold fn8 fn176 fn47 at e1
  rw [a_298, Option.bind_some] at e2
  rw [c_axis, Option.bind_some] at e1
  dsimp only at e1 e2
  by_cases c : 0 ≤ a ∧ a ≤ 2
  · rw [if_pos c, if_pos rfl] at e1
    rw [if_pos c, if_pos c, if_pos rfl, a_302 c, Option.bind_some] at e2
    obtain ⟨n, rfl⟩ : ∃ n : Nat, a = (n : Int) := ⟨a.toNat, by omega⟩
    have X := a_ax J.1.2 (a := n) (by omega)
    have x11 : h (q_axn 6 (n : Int)) 11 = S.w (41 + n) := X.1 11 (by omega)
    have x12 : h (q_axn 6 (n : Int)) 12 = S.w (47 + n) := X.1 12 (by omega)
    have x13 : h (q_axn 6 (n : Int)) 13 = S.w (50 + n) := X.1 13 (by omega)
    have x6 : h (q_axn 6 (n : Int)) 6 = S.w (26 + n) := X.1 6 (by omega)
    have g41 : q_ud h1 139 7 0 140 (41 + (n : Int)).toNat = S.w (41 + n) := by rw [show (41 + (n : Int)).toNat = 41 + n by omega, g0.1]
    unfold fn163 at e1
    dsimp only at e1 e2
    rw [x11] at e1
    rw [g41] at e2
    by_cases z : S.w (41 + n) = 0
    · rw [if_pos z, Option.bind_some] at e1
      dsimp only at e1
      rw [if_neg (show ¬ (4 : Nat) = 0 by decide), if_pos rfl, Option.bind_some] at e1
      dsimp only at e1
      rw [if_neg (show ¬ (4 : Nat) = 1 by decide), if_neg (show ¬ (4 : Nat) = 3 by decide), if_pos rfl] at e1
      rw [if_pos z, if_pos z, if_neg (show ¬ (1 : Int) = 0 by decide)] at e2
      exact a_er e1 e2 (q_ud_s _ _ _ _) (by decide)
    · have b1 := (hm.1.1.1 (47 + n) (by omega)).2.2.2.2.2.2.2.2.2 (by omega)
      have b2 := (hm.1.1.1 (50 + n) (by omega)).2.2.2.2.2.2.2.2.2 (by omega)
      have b3 := (m_a3_i hm.1.1.2 (a := n) (by omega)).2.1
      rw [if_neg z, Option.bind_some] at e1
      dsimp only at e1
      rw [if_pos rfl, Option.bind_some, Option.bind_some] at e1
      dsimp only at e1
      rw [if_pos rfl, m_let, x12, x13, x6] at e1
      rw [if_neg z, if_neg z, if_pos rfl] at e2
      unfold fn256 at e2
      rw [q_w32_id (z := 26 + (n : Int)) (by omega) (by omega), q_w32_id (z := 50 + (n : Int)) (by omega) (by omega), q_w32_id (z := 47 + (n : Int)) (by omega) (by omega), a_rw (j := 26 + n) g0 (by omega) (by omega) (by omega), Option.bind_some, a_rw (j := 50 + n) g0 (by omega) (by omega) (by omega), Option.bind_some, a_rw (j := 47 + n) g0 (by omega) (by omega) (by omega), Option.bind_some, Option.bind_some] at e2
      exact a_ok e1 e2 (q_ud_s _ _ _ _) f
  · rw [if_neg c, if_neg (show ¬ (3 : Nat) = 0 by decide), if_pos rfl, Option.bind_some] at e1
    dsimp only at e1
    rw [if_neg (show ¬ (3 : Nat) = 1 by decide), if_pos rfl] at e1
    rw [if_neg c, if_neg c, if_neg (show ¬ (1 : Int) = 0 by decide)] at e2
    exact a_er e1 e2 (q_ud_s _ _ _ _) (by decide)
theorem a_p11 {a : Int} {h h1 h2 : q_F} {S S1 : m_St} {v1 v2 : Int} (J : j_T S S h) (J1 : j_T S1 S h1) (e1 : fn22 a h = some (v1, h1)) (e2 : fn319 a h1 = some (v2, h2)) : a_Q h2 v1 v2 := by
  have hm := J1.2.1.1
  have f := (a_F (r_readsC J1.2.1.2) e2).1 153 (by omega)
  have g0 := a_g0 J1.2.1.2
  unfold fn319 at e2
  unfold fn22 fn204 at e1
  rw [a_298, Option.bind_some] at e2
  rw [c_axis, Option.bind_some] at e1
  dsimp only at e1 e2
  by_cases c : 0 ≤ a ∧ a ≤ 2
  · rw [if_pos c, if_pos rfl] at e1
    rw [if_pos c, if_pos c, if_pos rfl] at e2
    obtain ⟨n, rfl⟩ : ∃ n : Nat, a = (n : Int) := ⟨a.toNat, by omega⟩
    have X := a_ax J.1.2 (a := n) (by omega)
    have x9 : h (q_axn 6 (n : Int)) 9 = S.w (38 + n) := X.1 9 (by omega)
    have x10 : h (q_axn 6 (n : Int)) 10 = S.w (53 + n) := X.1 10 (by omega)
    have g38 : q_ud h1 139 7 0 140 (38 + (n : Int)).toNat = S.w (38 + n) := by rw [show (38 + (n : Int)).toNat = 38 + n by omega, g0.1]
    have g53 : q_ud h1 139 7 0 140 (53 + (n : Int)).toNat = S.w (53 + n) := by rw [show (53 + (n : Int)).toNat = 53 + n by omega, g0.1]
    have b := (m_a3_i hm.1.1.2 (a := n) (by omega)).2.2.1
    unfold fn54 at e1
    unfold fn318 fn318_44 at e2
    rw [q_w32_id (z := 38 + (n : Int)) (by omega) (by omega), q_w32_id (z := 53 + (n : Int)) (by omega) (by omega), if_pos (show 0 ≤ 38 + (n : Int) ∧ 38 + (n : Int) < 122 by omega), if_pos (show 0 ≤ 38 + (n : Int) ∧ 38 + (n : Int) < 122 by omega), if_pos (show 0 ≤ 53 + (n : Int) ∧ 53 + (n : Int) < 122 by omega)] at e2
    rw [x9, x10] at e1
    rw [g38, g53] at e2
    have f0 : fn22_15 0 0 h = some (0, q_ud h 153 0 0) := by unfold fn22_15; rw [if_pos (by decide), m_let]; rfl
    have f1 : fn22_15 1 0 h = some (0, q_ud h 153 0 1) := by unfold fn22_15; rw [if_pos (by decide), m_let]; rfl
    by_cases s0 : S.w (38 + n) = 0
    · rw [if_pos s0, Option.bind_some, Option.bind_some] at e1
      dsimp only at e1
      rw [if_pos rfl, f0, f1] at e1
      rw [if_neg (show ¬ S.w (38 + n) = 2 by omega), if_pos s0] at e2
      rcases b with b | b
      · rw [if_pos b] at e1
        rw [if_neg (by omega), Option.bind_some, if_pos rfl] at e2
        exact a_ok e1 e2 (q_ud_s _ _ _ _) f
      · rw [if_neg (by omega)] at e1
        rw [if_pos b, Option.bind_some, if_neg (by decide)] at e2
        exact a_ok e1 e2 (q_ud_s _ _ _ _) f
    · rw [if_neg s0] at e1
      by_cases s2 : S.w (38 + n) = 2
      · rw [if_pos s2, Option.bind_some, Option.bind_some] at e1
        dsimp only at e1
        rw [if_pos rfl, if_neg (by decide), f1] at e1
        rw [if_pos s2, Option.bind_some, if_neg (by decide)] at e2
        exact a_ok e1 e2 (q_ud_s _ _ _ _) f
      · rw [if_neg s2, Option.bind_some, Option.bind_some] at e1
        dsimp only at e1
        rw [if_pos rfl, if_pos rfl, f0] at e1
        rw [if_neg s2, if_neg s0, Option.bind_some, if_pos rfl] at e2
        exact a_ok e1 e2 (q_ud_s _ _ _ _) f
  · rw [if_neg c, if_neg (show ¬ (3 : Nat) = 0 by decide), if_pos rfl, Option.bind_some] at e1
    dsimp only at e1
    rw [if_neg (show ¬ (3 : Nat) = 1 by decide), if_pos rfl] at e1
    rw [if_neg c, if_neg c, if_neg (show ¬ (1 : Int) = 0 by decide)] at e2
    exact a_er e1 e2 (q_ud_s _ _ _ _) (by decide)
