/-! Part 98zo: slackLeft, target. -/
theorem a_p55 {a v : Int} {h h1 h2 : q_F} {S S1 : m_St} {v1 v2 : Int} (J : j_T S S h) (J1 : j_T S1 S h1) (e1 : fn27 a v h = some (v1, h1)) (e2 : fn334 a v h1 = some (v2, h2)) : a_Q h2 v1 v2 := by
  have hm := J1.2.1.1
  have f := (a_F (r_slack J1.2.1.2) e2).1 153 (by omega)
  have g0 := a_g0 J1.2.1.2
  unfold fn334 at e2
  unfold fn27 fn214 at e1
  rw [a_298, Option.bind_some] at e2
  rw [c_axis, Option.bind_some] at e1
  dsimp only at e1 e2
  by_cases c : 0 ≤ a ∧ a ≤ 2
  · rw [if_pos c, if_pos rfl] at e1
    rw [if_pos c, if_pos c, if_pos rfl] at e2
    obtain ⟨n, rfl⟩ : ∃ n : Nat, a = (n : Int) := ⟨a.toNat, by omega⟩
    have X := a_ax J.1.2 (a := n) (by omega)
    have x0 : h (q_axn 6 (n : Int)) 0 = S.w (8 + n) := X.1 0 (by omega)
    have x1 : h (q_axn 6 (n : Int)) 1 = S.w (11 + n) := X.1 1 (by omega)
    have x6 : h (q_axn 6 (n : Int)) 6 = S.w (26 + n) := X.1 6 (by omega)
    have x7 : h (q_axn 6 (n : Int)) 7 = S.w (29 + n) := X.1 7 (by omega)
    obtain ⟨A1, A2, -⟩ := m_a3_i hm.1.1.2 (a := n) (by omega)
    have b26 : (26 + (n : Int)).toNat = 26 + n := by omega
    have b8 : (8 + (n : Int)).toNat = 8 + n := by omega
    unfold fn57 at e1
    rw [x0, x1, x6, x7] at e1
    rw [q_w32_id (z := 26 + (n : Int)) (by omega) (by omega), q_w32_id (z := 8 + (n : Int)) (by omega) (by omega), if_pos (show 0 ≤ 26 + (n : Int) ∧ 26 + (n : Int) < 122 by omega), if_pos (show 0 ≤ 8 + (n : Int) ∧ 8 + (n : Int) < 122 by omega), b26, b8, g0.1] at e2
    unfold fn334_36 at e2
    rw [q_w32_id (z := 29 + (n : Int)) (by omega) (by omega), q_w32_id (z := 11 + (n : Int)) (by omega) (by omega), a_rw (j := 29 + n) g0 (by omega) (by omega) (by omega), a_rw (j := 11 + n) g0 (by omega) (by omega) (by omega)] at e2
    have fin : ∀ x : Int, ((some x).bind fun x3 => some ((1 : Nat), x3, h)).bind (fun x1 => if x1.1 = 1 then q_let (q_ud x1.2.2 153 0 x1.2.1) fun g2 => some ((0 : Int), g2) else if x1.1 = 3 then some ((1 : Int), x1.2.2) else none) = some (v1, h1) → some (x, q_ud h1 139 7 0) = some (v2, h2) → a_Q h2 v1 v2 := fun x y1 y2 => by
      rw [Option.bind_some, Option.bind_some] at y1
      dsimp only at y1
      rw [if_pos rfl, m_let] at y1
      exact a_ok y1 y2 (q_ud_s _ _ _ _) f
    by_cases v0 : v = 0
    · rw [if_pos v0] at e1
      rw [if_pos v0] at e2
      by_cases z : S.w (26 + n) = 0
      · rw [if_pos (show S.w (26 + n) ≤ 0 by omega)] at e1
        rw [if_pos z] at e2
        exact fin _ e1 e2
      · rw [if_neg (show ¬ S.w (26 + n) ≤ 0 by omega)] at e1
        rw [if_neg z, if_pos v0, Option.bind_some] at e2
        exact fin _ e1 e2
    · rw [if_neg v0] at e1
      rw [if_neg v0] at e2
      by_cases z : S.w (26 + n) = S.w (8 + n)
      · rw [if_pos (show S.w (8 + n) ≤ S.w (26 + n) by omega)] at e1
        rw [if_pos z] at e2
        exact fin _ e1 e2
      · rw [if_neg (show ¬ S.w (8 + n) ≤ S.w (26 + n) by omega)] at e1
        rw [if_neg z, if_neg v0, Option.bind_some, Option.bind_some] at e2
        exact fin _ e1 e2
  · rw [if_neg c, if_neg (show ¬ (3 : Nat) = 0 by decide), if_pos rfl, Option.bind_some] at e1
    dsimp only at e1
    rw [if_neg (show ¬ (3 : Nat) = 1 by decide), if_pos rfl] at e1
    rw [if_neg c, if_neg c, if_neg (show ¬ (1 : Int) = 0 by decide)] at e2
    exact a_er e1 e2 (q_ud_s _ _ _ _) (by decide)
theorem a_299 {m : Int} {h : q_F} {S : m_St} (hI : r_I h S) (hm : m_I S) : fn299 m h = some (if 0 ≤ m ∧ m < S.w 4 then 0 else 1, if 0 ≤ m ∧ m < S.w 4 then q_ud h 139 7 0 else q_ud (q_ud h 139 7 0) 139 7 1) := by
  have b := (m_R0_ok hm.1.1).2.1
  have g0 := a_g0 hI
  unfold fn299 fn299_28
  rw [m_let, g0.1, q_w64_id (by omega) (by omega), r_rng, Option.bind_some, a_258, a_258, Option.bind_some, Option.bind_some]
  by_cases c : 0 ≤ m ∧ m < S.w 4
  · rw [if_pos (show 0 ≤ m ∧ m ≤ S.w 4 - 1 by omega), if_neg (show ¬ (1 : Int) = 0 by decide), if_pos c, if_pos c, if_pos rfl]
  · rw [if_neg (show ¬ (0 ≤ m ∧ m ≤ S.w 4 - 1) by omega), if_pos rfl, if_neg c, if_neg c, if_neg (show ¬ (1 : Int) = 0 by decide)]
theorem a_00 {h : q_F} : q_ud (q_ud h 139 7 0) 139 7 0 = q_ud h 139 7 0 := q_ud_u _ _ _ _ _
theorem a_300 {m a : Int} {h : q_F} {S : m_St} (hI : r_I h S) (hm : m_I S) : fn300 m a h = some (if (0 ≤ m ∧ m < S.w 4) ∧ 0 ≤ a ∧ a ≤ 2 then 0 else 1, if (0 ≤ m ∧ m < S.w 4) ∧ 0 ≤ a ∧ a ≤ 2 then q_ud h 139 7 0 else q_ud h 139 7 1) := by
  unfold fn300 fn300_16
  rw [a_299 hI hm, Option.bind_some]
  dsimp only
  by_cases c : 0 ≤ m ∧ m < S.w 4
  · rw [if_pos c, if_pos c, if_pos rfl, a_298, Option.bind_some, a_00]
    dsimp only
    by_cases d : 0 ≤ a ∧ a ≤ 2
    · rw [if_pos d, if_pos d, if_pos rfl, if_pos ⟨c, d⟩, if_pos ⟨c, d⟩]
    · rw [if_neg d, if_neg d, if_neg (show ¬ (1 : Int) = 0 by decide), if_neg (fun h9 => d h9.2), if_neg (fun h9 => d h9.2), q_ud_u]
  · rw [if_neg c, if_neg c, if_neg (show ¬ (1 : Int) = 0 by decide), if_neg (fun h9 => c h9.1), if_neg (fun h9 => c h9.1), q_ud_u]
theorem a_148 {h : q_F} {S : m_St} {m a : Nat} (hI : c_I h S) (hm : m_I S) (h4 : (m : Int) < S.w 4) (ha : a < 3) : fn148 13 m a h = some (S.w (74 + 3 * m + a)) := by
  have b := (m_R0_ok hm.1.1).2.1
  have e := hI.1.2.2.2 (3 * m + a) (by omega)
  rw [fn148, q_w32_id (z := (m : Int) * 3) (by omega) (by omega), q_w32_id (by omega) (by omega), c_ent (by omega) (by omega), Option.bind_some, show ((m : Int) * 3 + a).toNat = 3 * m + a by omega, show 13 + 1 = 6 + 8 from rfl, e, show 74 + (3 * m + a) = 74 + 3 * m + a by omega]
theorem a_p23 {m a : Int} {h h1 h2 : q_F} {S S1 : m_St} {v1 v2 : Int} (J : j_T S S h) (J1 : j_T S1 S h1) (e1 : fn33 m a h = some (v1, h1)) (e2 : fn350 m a h1 = some (v2, h2)) : a_Q h2 v1 v2 := by
  have hm := J1.2.1.1
  have b := (m_R0_ok hm.1.1)
  have f := (a_F (r_target J1.2.1.2 hm) e2).1 153 (by omega)
  have g0 := a_g0 J1.2.1.2
  unfold fn350 at e2
  unfold fn33 fn222 at e1
  rw [a_300 J1.2.1.2 hm, Option.bind_some] at e2
  rw [c_move m J.1.2, Option.bind_some] at e1
  dsimp only at e1 e2
  by_cases c : 0 ≤ m ∧ m < S.w 4
  · rw [if_pos c, if_pos rfl, c_axis, Option.bind_some] at e1
    dsimp only at e1
    by_cases d : 0 ≤ a ∧ a ≤ 2
    · obtain ⟨n, rfl⟩ : ∃ n : Nat, a = (n : Int) := ⟨a.toNat, by omega⟩
      obtain ⟨k, rfl⟩ : ∃ k : Nat, m = (k : Int) := ⟨m.toNat, by omega⟩
      have b4 := b.2.1
      have bb := b.2.2.2 (74 + 3 * k + n) (by omega) (by omega)
      rw [if_pos d, if_pos rfl, a_148 J.1.2 J.1.1 c.2 (by omega), Option.bind_some, Option.bind_some] at e1
      dsimp only at e1
      rw [if_pos rfl, m_let] at e1
      have cd : (0 ≤ (k : Int) ∧ (k : Int) < S.w 4) ∧ 0 ≤ (n : Int) ∧ (n : Int) ≤ 2 := ⟨c, d⟩
      rw [if_pos cd, if_pos cd, if_pos rfl, q_w32_id (z := 3 * (k : Int)) (by omega) (by omega), q_w32_id (z := 74 + 3 * (k : Int)) (by omega) (by omega), q_w32_id (by omega) (by omega), a_rw (j := 74 + 3 * k + n) g0 (by omega) (by omega) (by omega), Option.bind_some] at e2
      exact a_ok e1 e2 (q_ud_s _ _ _ _) f
    · rw [if_neg d, if_neg (show ¬ (3 : Nat) = 0 by decide), if_pos rfl, Option.bind_some] at e1
      dsimp only at e1
      rw [if_neg (show ¬ (3 : Nat) = 1 by decide), if_pos rfl] at e1
      have cd : ¬ ((0 ≤ m ∧ m < S.w 4) ∧ 0 ≤ a ∧ a ≤ 2) := fun h9 => d h9.2
      rw [if_neg cd, if_neg cd, if_neg (show ¬ (1 : Int) = 0 by decide)] at e2
      exact a_er e1 e2 (q_ud_s _ _ _ _) (by decide)
  · rw [if_neg c, if_neg (show ¬ (3 : Nat) = 0 by decide), if_pos rfl, Option.bind_some] at e1
    dsimp only at e1
    rw [if_neg (show ¬ (3 : Nat) = 1 by decide), if_pos rfl] at e1
    have cd : ¬ ((0 ≤ m ∧ m < S.w 4) ∧ 0 ≤ a ∧ a ≤ 2) := fun h9 => c h9.1
    rw [if_neg cd, if_neg cd, if_neg (show ¬ (1 : Int) = 0 by decide)] at e2
    exact a_er e1 e2 (q_ud_s _ _ _ _) (by decide)
