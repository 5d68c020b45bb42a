/-! Part 98zj: axis, coordinate, error, readsClosed. -/
theorem a_ok {x : Int} {hc g h1 h2 : q_F} {v1 v2 : Int} (f1 : some ((0 : Int), q_ud hc 153 0 x) = some (v1, h1)) (f2 : some (x, g) = some (v2, h2)) (z : g 139 7 = 0) (f : h2 153 = h1 153) : a_Q h2 v1 v2 := by
  have a1 : v1 = 0 := (congrArg Prod.fst (Option.some.inj f1)).symm
  have a2 : h1 = q_ud hc 153 0 x := (congrArg Prod.snd (Option.some.inj f1)).symm
  have b1 : v2 = x := (congrArg Prod.fst (Option.some.inj f2)).symm
  have b2 : h2 = g := (congrArg Prod.snd (Option.some.inj f2)).symm
  refine ⟨by rw [b2, z, a1], fun _ => ?_⟩
  rw [f, a2, q_ud_s, b1]
theorem a_er {c y : Int} {hc g h1 h2 : q_F} {v1 v2 : Int} (f1 : some (c, hc) = some (v1, h1)) (f2 : some (y, g) = some (v2, h2)) (z : g 139 7 = c) (c0 : c ≠ 0) : a_Q h2 v1 v2 := by
  have a1 : v1 = c := (congrArg Prod.fst (Option.some.inj f1)).symm
  have b2 : h2 = g := (congrArg Prod.snd (Option.some.inj f2)).symm
  exact ⟨by rw [b2, z, a1], fun h9 => absurd (a1.symm.trans h9) c0⟩
/-- the heap of the reference behind a check -/
def a_g (c k : Int) (g : q_F) : q_F := if c = 0 then g else q_ud g 139 7 k
theorem a_298 (v : Int) (h : q_F) : fn298 v h = some (if 0 ≤ v ∧ v ≤ 2 then 0 else 1, if 0 ≤ v ∧ v ≤ 2 then q_ud h 139 7 0 else q_ud (q_ud h 139 7 0) 139 7 1) := by
  unfold fn298 fn298_23
  rw [m_let, r_rng, Option.bind_some, a_258, a_258, Option.bind_some, Option.bind_some]
  by_cases c : 0 ≤ v ∧ v ≤ 2
  · rw [if_pos c, if_neg (show ¬ (1 : Int) = 0 by decide), if_pos c, if_pos c, if_pos rfl]
  · rw [if_neg c, if_pos rfl, if_neg c, if_neg c, if_neg (show ¬ (1 : Int) = 0 by decide)]
theorem a_302 {a k : Int} {h : q_F} (ha : 0 ≤ a ∧ a ≤ 2) : fn302 a k h = some (if h 140 (41 + a).toNat = 0 then 1 else 0, if h 140 (41 + a).toNat = 0 then q_ud h 139 7 k else h) := by
  unfold fn302 fn302_20
  rw [q_w32_id (z := 41 + a) (by omega) (by omega), if_pos (by omega), a_258, a_258, Option.bind_some, Option.bind_some]
  split
  · rw [if_neg (show ¬ (1 : Int) = 0 by decide)]
  · rw [if_pos rfl]
theorem a_ax {h : q_F} {S : m_St} {a : Nat} (hI : c_I h S) (ha : a < 3) : c_ax h (q_axn 6 a) S.w a := by rw [q_axn_e ha]; exact hI.1.1 a ha
theorem a_g0 {h : q_F} {S : m_St} (hI : r_I h S) : r_I (q_ud h 139 7 0) S := r_I_T hI (r_T_u r_T_r)
theorem a_p9 {a : Int} {h h1 h2 : q_F} {S S1 : m_St} {v1 v2 : Int} (J : j_T S S h) (J1 : j_T S1 S h1) (e1 : fn4 a h = some (v1, h1)) (e2 : fn248 a h1 = some (v2, h2)) : a_Q h2 v1 v2 := by
  have hm := J1.2.1.1
  have f := (a_F (r_coordinate J1.2.1.2) e2).1 153 (by omega)
  have g0 := a_g0 J1.2.1.2
  unfold fn248 fn248_17 at e2
  unfold fn4 fn170 at e1
  rw [a_298, Option.bind_some] at e2
  rw [c_axis, Option.bind_some] at e1
  dsimp only at e1 e2
  by_cases c : 0 ≤ a ∧ a ≤ 2
  · rw [if_pos c, if_pos rfl] at e1
    rw [if_pos c, if_pos c, if_pos rfl, a_302 c, Option.bind_some] at e2
    obtain ⟨n, rfl⟩ : ∃ n : Nat, a = (n : Int) := ⟨a.toNat, by omega⟩
    have X := a_ax J.1.2 (a := n) (by omega)
    have x11 : h (q_axn 6 (n : Int)) 11 = S.w (41 + n) := X.1 11 (by omega)
    have x12 : h (q_axn 6 (n : Int)) 12 = S.w (47 + n) := X.1 12 (by omega)
    have g41 : q_ud h1 139 7 0 140 (41 + (n : Int)).toNat = S.w (41 + n) := by rw [show (41 + (n : Int)).toNat = 41 + n by omega, g0.1]
    unfold fn163 at e1
    dsimp only at e1 e2
    rw [x11] at e1
    rw [g41] at e2
    by_cases z : S.w (41 + n) = 0
    · rw [if_pos z, Option.bind_some] at e1
      dsimp only at e1
      rw [if_neg (show ¬ (4 : Nat) = 0 by decide), if_pos rfl, Option.bind_some] at e1
      dsimp only at e1
      rw [if_neg (show ¬ (4 : Nat) = 1 by decide), if_neg (show ¬ (4 : Nat) = 3 by decide), if_pos rfl] at e1
      rw [if_pos z, if_pos z, if_neg (show ¬ (1 : Int) = 0 by decide)] at e2
      exact a_er e1 e2 (q_ud_s _ _ _ _) (by decide)
    · have b := (hm.1.1.1 (47 + n) (by omega)).2.2.2.2.2.2.2.2.2 (by omega)
      rw [if_neg z, Option.bind_some] at e1
      dsimp only at e1
      rw [if_pos rfl, Option.bind_some] at e1
      dsimp only at e1
      rw [if_pos rfl, m_let, x12] at e1
      rw [if_neg z, if_neg z, if_pos rfl, q_w32_id (z := 47 + (n : Int)) (by omega) (by omega), r_of (v := S.w (47 + n)) (by omega) (by omega) (by rw [show (47 + (n : Int)).toNat = 47 + n by omega, g0.1]) (by omega), Option.bind_some] at e2
      exact a_ok e1 e2 (q_ud_s _ _ _ _) f
  · rw [if_neg c, if_neg (show ¬ (3 : Nat) = 0 by decide), if_pos rfl, Option.bind_some] at e1
    dsimp only at e1
    rw [if_neg (show ¬ (3 : Nat) = 1 by decide), if_pos rfl] at e1
    rw [if_neg c, if_neg c, if_neg (show ¬ (1 : Int) = 0 by decide)] at e2
    exact a_er e1 e2 (q_ud_s _ _ _ _) (by decide)
