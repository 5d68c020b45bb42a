/-! Part 98zg: answers that are the same on both sides. -/
theorem a_i {α : Type} {a b : α} {f : Option α} (h1 : f = some a) (h2 : f = some b) : a = b := Option.some.inj (h1.symm.trans h2)
theorem a_tb {h : q_F} {S : m_St} (hI : c_I h S) : h 6 4 = S.w 0 ∧ h 6 5 = S.w 1 ∧ h 6 6 = S.w 2 ∧ h 6 7 = S.w 3 ∧ h 6 8 = S.w 5 ∧ h 6 9 = S.w 6 ∧ h 6 10 = S.w 7 := hI.1.2.1
theorem a_p5 {h h2 : q_F} {S : m_St} {v1 v2 : Int} (J : j_T S S h) (e1 : fn177 h = some v1) (e2 : fn255 h = some (v2, h2)) : v1 = v2 := by
  unfold fn177 at e1
  unfold fn255 at e2
  rw [m_let] at e2
  cases e1; cases e2
  rw [q_ud_n (by omega)]
  exact J.2.2.2.1.1
theorem a_p6 {h h2 : q_F} {S : m_St} {v1 v2 : Int} (J : j_T S S h) (e1 : fn178 h = some v1) (e2 : fn257 h = some (v2, h2)) : v1 = v2 := by
  unfold fn178 at e1
  unfold fn257 at e2
  rw [m_let] at e2
  cases e1; cases e2
  rw [q_ud_n (by omega)]
  exact J.2.2.2.1.2
theorem a_p12 {h h2 : q_F} {S : m_St} {v1 v2 : Int} (J : j_T S S h) (e1 : fn223 h = some v1) (e2 : fn352 h = some (v2, h2)) : v1 = v2 := by
  unfold fn223 at e1
  unfold fn352 at e2
  rw [m_let] at e2
  cases e1; cases e2
  rw [q_ud_n (by omega), J.2.1.2.1]
  exact (a_tb J.1.2).2.2.2.2.1
theorem a_rem {S : m_St} : (m_rem S).w = S.w := by unfold m_rem; split <;> rfl
theorem a_p18 {h h1 h2 : q_F} {S S1 : m_St} {v1 v2 : Int} (J : j_T S S h) (J1 : j_T S1 S h1) (e1 : fn205 h = some (v1, h1)) (e2 : fn321 h1 = some (v2, h2)) : v1 = v2 := by
  obtain ⟨g1, a1, a2, a3⟩ := c_remember J.1.2 J.1.1
  obtain ⟨g2, b1, b2, b3⟩ := c_stop (v := 0) a2.1
  have f1 : fn205 h = some (g1 6 7, g2) := by rw [fn205, a1, Option.bind_some, b1, Option.bind_some]
  have d1 : v1 = g1 6 7 := congrArg Prod.fst (a_i e1 f1)
  have hT : r_T h1 (q_ud h1 139 7 0) := r_T_u r_T_r
  have hm := J1.2.1.1
  obtain ⟨k1, x1, x2, x3, x4⟩ := r_remember (r_I_T J1.2.1.2 hT) hm.2.1.1
  have ew : k1 140 = S.w := by rw [x2.1, a_rem]
  have w3 := (hm.1.1.1 3 (by omega)).2.2.1 rfl
  have f2 : fn321 h1 = some (S.w 3, m_sr k1 140 (m_stops (m_u S.w 3 0))) := by
    rw [fn321, m_let, x1, Option.bind_some]
    dsimp only
    rw [r_of (v := S.w 3) (by omega) (by omega) (by rw [ew]; rfl) (by omega), Option.bind_some, m_let, m_ud_sr, fn342_m, Option.bind_some, m_sr_s, m_sr_sr, ew]
  have d2 : v2 = S.w 3 := congrArg Prod.fst (a_i e2 f2)
  have d3 : g1 6 7 = S.w 3 := by rw [← a_rem (S := S)]; exact (a_tb a2).2.2.2.1
  rw [d1, d2]; exact d3
theorem a_sets {h2 h1 : q_F} {S S1 : m_St} {j : Nat} {v v2 : Int} (hj : j = 1 ∨ j = 2) (hv : v = 0 ∨ v = 1) (J1 : j_T S1 S h1) (e2 : fn332 j v h1 = some (v2, h2)) : v2 = S.w j := by
  have hT : r_T h1 (q_ud h1 139 7 0) := r_T_u r_T_r
  have hm := J1.2.1.1
  obtain ⟨k1, x1, x2, x3, x4⟩ := r_remember (r_I_T J1.2.1.2 hT) hm.2.1.1
  have ew : k1 140 = S.w := by rw [x2.1, a_rem]
  have key : ∀ p0 : Int, fn332_25 (j : Int) v p0 k1 = some (p0, m_sr k1 140 (m_u S.w j v)) := fun p0 => by
    rw [fn332_25]
    rcases hv with rfl | rfl
    · rw [if_pos rfl, fn332_40, if_pos (by omega), m_let, m_ud_sr, Int.toNat_natCast, ew]
    · rw [if_neg (by decide), fn332_40, if_pos (by omega), m_let, m_ud_sr, Int.toNat_natCast, ew]
  have w01 : S.w j = 0 ∨ S.w j = 1 := by
    have := (hm.1.1.1 j (by omega)).2.1 (by omega)
    exact this
  unfold fn332 at e2
  rw [m_let, x1, Option.bind_some, if_pos (by omega)] at e2
  dsimp only at e2
  rw [key, key, Int.toNat_natCast] at e2
  split at e2
  · rename_i c; rw [ew] at c; cases e2; exact c.symm
  · rename_i c; rw [ew] at c; cases e2; omega
theorem a_p19 {h h1 h2 : q_F} {S S1 : m_St} {v v1 v2 : Int} (hv : v = 0 ∨ v = 1) (J : j_T S S h) (J1 : j_T S1 S h1) (e1 : fn210 v h = some (v1, h1)) (e2 : fn328 v h1 = some (v2, h2)) : v1 = v2 := by
  obtain ⟨g1, a1, a2, a3⟩ := c_remember J.1.2 J.1.1
  have f1 : fn210 v h = some (g1 6 5, q_ud g1 6 5 v) := by rw [fn210, a1, Option.bind_some, m_let]
  have d1 : v1 = g1 6 5 := congrArg Prod.fst (a_i e1 f1)
  rw [fn328, s_id] at e2
  have d2 := a_sets (j := 1) (Or.inl rfl) hv J1 e2
  have d3 : g1 6 5 = S.w 1 := by rw [← a_rem (S := S)]; exact (a_tb a2).2.1
  rw [d1, d2]; exact d3
theorem a_p20 {h h1 h2 : q_F} {S S1 : m_St} {v v1 v2 : Int} (hv : v = 0 ∨ v = 1) (J : j_T S S h) (J1 : j_T S1 S h1) (e1 : fn211 v h = some (v1, h1)) (e2 : fn329 v h1 = some (v2, h2)) : v1 = v2 := by
  obtain ⟨g1, a1, a2, a3⟩ := c_remember J.1.2 J.1.1
  have f1 : fn211 v h = some (g1 6 6, q_ud g1 6 6 v) := by rw [fn211, a1, Option.bind_some, m_let]
  have d1 : v1 = g1 6 6 := congrArg Prod.fst (a_i e1 f1)
  rw [fn329, s_id] at e2
  have d2 := a_sets (j := 2) (Or.inr rfl) hv J1 e2
  have d3 : g1 6 6 = S.w 2 := by rw [← a_rem (S := S)]; exact (a_tb a2).2.2.1
  rw [d1, d2]; exact d3
theorem a_p61 {h h1 h2 : q_F} {S : m_St} {v1 v2 : Int} (J : j_T S S h) (J1 : j_T (m_oUndo S) S h1) (J2 : j_T (m_oUndo S) (m_oUndo S) h2) (e1 : fn228 h = some (v1, h1)) (e2 : fn360 h1 = some (v2, h2)) : v1 = v2 := by
  have n1 : h 33 1 = (S.n : Int) := J.1.2.2.1.1
  have n2 : h1 139 5 = (S.n : Int) := J1.2.1.2.2.1.1
  have m1 : h1 33 1 = ((m_oUndo S).n : Int) := J1.1.2.2.1.1
  have m2 : h2 139 5 = ((m_oUndo S).n : Int) := J2.2.1.2.2.1.1
  unfold fn228 at e1
  unfold fn360 at e2
  rw [m_let, q_ud_n (by omega), n2] at e2
  rw [n1] at e1
  by_cases c : S.n = 0
  · rw [if_pos (by omega)] at e1 e2
    cases e1; cases e2; rfl
  · rw [if_neg (by omega)] at e1 e2
    rw [m_let] at e2
    generalize q_ud (q_ud h1 139 7 0) 139 5 (q_w32 ((S.n : Int) - 1)) = gg at e2
    cases h4 : fn249 144 1220 140 122 (q_w32 ((122 : Int) * (gg 139 5))) (0 : Int) (122 : Int) gg with
    | none => rw [h4] at e2; cases e2
    | some y =>
      rw [h4, Option.bind_some] at e2
      cases e2
      rw [m2]
      cases h3 : fn69 6 h with
      | none => rw [h3] at e1; cases e1
      | some x =>
        rw [h3, Option.bind_some] at e1
        cases e1
        rw [m1]
theorem a_p62 {h h1 h2 : q_F} {S : m_St} {v1 v2 : Int} (J : j_T S S h) (J1 : j_T (m_oSave S) S h1) (J2 : j_T (m_oSave S) (m_oSave S) h2) (e1 : fn209 h = some (v1, h1)) (e2 : fn326 h1 = some (v2, h2)) : v1 = v2 := by
  have r := (m_R0_ok J.1.1.1.1).2.1
  have m1 : h1 13 1 = S.w 4 := J1.1.2.1.2.2.1
  have m2 : h2 140 4 = S.w 4 := by rw [J2.2.1.2.1]; rfl
  unfold fn209 at e1
  unfold fn326 at e2
  rw [m_let] at e2
  cases h3 : fn127 15 6 h with
  | none => rw [h3] at e1; cases e1
  | some x =>
    rw [h3, Option.bind_some, m_let] at e1
    cases h4 : fn249 140 122 143 122 (0 : Int) (0 : Int) (122 : Int) (q_ud h1 139 7 0) with
    | none => rw [h4] at e2; cases e2
    | some y =>
      rw [h4, Option.bind_some, m_let] at e2
      cases e1
      cases h5 : fn303 (4 : Int) (q_ud y.2 139 6 1) with
      | none => rw [h5] at e2; cases e2
      | some z =>
        rw [h5, Option.bind_some] at e2
        cases e2
        have := a_i h5 (r_of (v := S.w 4) (by omega) (by omega) m2 (by omega))
        rw [m1, this]
