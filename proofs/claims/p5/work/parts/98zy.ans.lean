/-! Part 98zy: bound. -/
theorem a_boundl {a : Nat} {u : Int} {S : m_St} {h g : q_F} (ha : a < 3) (hc : c_I h S) (hm : m_I S) (hI : r_I g S) : ∀ (d m f1 f2 : Nat) (b : Int), m + d = (S.w 4).toNat → d < f1 → d < f2 → ∃ v, fn160_25 f1 a u b m h = some (1, v, h) ∧ fn244_31 f2 a u b ((m + 1 : Nat) : Int) g = some (v, g) := by
  have ok := m_R0_ok hm.1.1
  have r := ok.2.1
  have e : h 13 1 = S.w 4 := hc.1.2.2.1
  intro d
  induction d with
  | zero =>
    intro m f1 f2 b hd h1 h2
    obtain ⟨f1, rfl⟩ : ∃ f', f1 = f' + 1 := ⟨f1 - 1, by omega⟩
    obtain ⟨f2, rfl⟩ : ∃ f', f2 = f' + 1 := ⟨f2 - 1, by omega⟩
    exact ⟨b, by rw [fn160_25, e, if_pos (by omega)], by rw [fn244_31, hI.1, if_pos (by omega)]⟩
  | succ d ih =>
    intro m f1 f2 b hd h1 h2
    obtain ⟨f1, rfl⟩ : ∃ f', f1 = f' + 1 := ⟨f1 - 1, by omega⟩
    obtain ⟨f2, rfl⟩ : ∃ f', f2 = f' + 1 := ⟨f2 - 1, by omega⟩
    have eb : m_beg S.w (m + 1) a = S.w (74 + 3 * m + a) := by
      unfold m_beg; rw [if_neg (by omega), show m + 1 - 1 = m by omega]
    have key : ∀ b, ∃ v, fn160_25 f1 a u b ((m + 1 : Nat) : Int) h = some (1, v, h) ∧ fn244_31 f2 a u b ((m + 1 + 1 : Nat) : Int) g = some (v, g) := fun b => ih (m + 1) f1 f2 b (by omega) (by omega) (by omega)
    rw [fn160_25, e, if_neg (show ¬ S.w 4 ≤ (m : Int) by omega), a_148 hc hm (by omega) ha, Option.bind_some, fn160_74, fn160_74, q_w32_id (z := (m : Int) + 1) (by omega) (by omega), ← m_s1, fn244_31, hI.1, if_neg (show ¬ S.w 4 < ((m + 1 : Nat) : Int) by omega), fn240_i hI.1 ok (by omega) (by omega) (by omega) (by omega), Option.bind_some, Option.bind_some, fn244_73, fn244_73, q_w32_id (z := ((m + 1 : Nat) : Int) + 1) (by omega) (by omega), show ((m + 1 : Nat) : Int) + 1 = ((m + 1 + 1 : Nat) : Int) by omega, Int.toNat_natCast, Int.toNat_natCast, eb]
    by_cases cu : u = 0
    · rw [if_pos cu, if_pos cu]; exact key _
    · rw [if_neg cu, if_neg cu]; exact key _
theorem a_p37 {a u : Int} {h h1 h2 : q_F} {S S1 : m_St} {v1 v2 : Int} (J : j_T S S h) (J1 : j_T S1 S h1) (e1 : fn3 a u h = some (v1, h1)) (e2 : fn244 a u h1 = some (v2, h2)) : a_Q h2 v1 v2 := by
  have hm := J1.2.1.1
  have f := (a_F (r_bound J1.2.1.2 hm) e2).1 153 (by omega)
  have g0 := a_g0 J1.2.1.2
  unfold fn244 at e2
  unfold fn3 fn160 at e1
  rw [a_298, Option.bind_some] at e2
  rw [c_axis, Option.bind_some] at e1
  dsimp only at e1 e2
  by_cases c : 0 ≤ a ∧ a ≤ 2
  · rw [if_pos c, if_pos rfl] at e1
    rw [if_pos c, if_pos c, if_pos rfl, a_302 c, Option.bind_some] at e2
    obtain ⟨n, hn, rfl⟩ := m_ax_n c
    have X := a_ax J.1.2 (a := n) hn
    have x11 : h (q_axn 6 (n : Int)) 11 = S.w (41 + n) := X.1 11 (by omega)
    have x12 : h (q_axn 6 (n : Int)) 12 = S.w (47 + n) := X.1 12 (by omega)
    have g41 : q_ud h1 139 7 0 140 (41 + (n : Int)).toNat = S.w (41 + n) := by rw [show (41 + (n : Int)).toNat = 41 + n by omega, g0.1]
    unfold fn163 at e1
    dsimp only at e1 e2
    rw [x11] at e1
    rw [g41] at e2
    by_cases z : S.w (41 + n) = 0
    · rw [if_pos z, Option.bind_some] at e1
      dsimp only at e1
      rw [if_neg (show ¬ (4 : Nat) = 0 by decide), if_pos rfl, Option.bind_some] at e1
      dsimp only at e1
      rw [if_neg (show ¬ (4 : Nat) = 1 by decide), if_neg (show ¬ (4 : Nat) = 3 by decide), if_pos rfl] at e1
      rw [if_pos z, if_pos z, if_neg (show ¬ (1 : Int) = 0 by decide)] at e2
      exact a_er e1 e2 (q_ud_s _ _ _ _) (by decide)
    · have b := (hm.1.1.1 (47 + n) (by omega)).2.2.2.2.2.2.2.2.2 (by omega)
      have r := (m_R0_ok hm.1.1).2.1
      obtain ⟨v, y1, y2⟩ := a_boundl (u := u) hn J.1.2 hm g0 (S.w 4).toNat 0 q_fu q_fu (S.w (47 + n)) (by omega) (by have := q_fu_ge; omega) (by have := q_fu_ge; omega)
      have y1' : fn160_25 q_fu n u (S.w (47 + n)) 0 h = some (1, v, h) := y1
      have y2' : fn244_31 q_fu n u (S.w (47 + n)) 1 (q_ud h1 139 7 0) = some (v, q_ud h1 139 7 0) := y2
      rw [if_neg z, Option.bind_some] at e1
      dsimp only at e1
      rw [if_pos rfl, x12, y1', Option.bind_some] at e1
      dsimp only at e1
      rw [if_pos rfl, m_let] at e1
      rw [if_neg z, if_neg z, if_pos rfl, q_w32_id (z := 47 + (n : Int)) (by omega) (by omega), a_rw (j := 47 + n) g0 (by omega) (by omega) (by omega), Option.bind_some, y2'] at e2
      exact a_ok e1 e2 (q_ud_s _ _ _ _) f
  · rw [if_neg c, if_neg (show ¬ (3 : Nat) = 0 by decide), if_pos rfl, Option.bind_some] at e1
    dsimp only at e1
    rw [if_neg (show ¬ (3 : Nat) = 1 by decide), if_pos rfl] at e1
    rw [if_neg c, if_neg c, if_neg (show ¬ (1 : Int) = 0 by decide)] at e2
    exact a_er e1 e2 (q_ud_s _ _ _ _) (by decide)
