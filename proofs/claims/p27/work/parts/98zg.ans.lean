section -- [98zg.ans]
/-! Part 98zg: answers that are the same on both sides. -/
theorem a_i {α : Type} {a b : α} {f : Option α} (h1 : f = some a) (h2 : f = some b) : a = b := Option.some.inj (h1.symm.trans h2)
theorem a_tb {h : q_F} {S : m_St} (hI : c_I h S) : h 6 4 = S.w 0 ∧ h 6 5 = S.w 1 ∧ h 6 6 = S.w 2 ∧ h 6 7 = S.w 3 ∧ h 6 8 = S.w 5 ∧ h 6 9 = S.w 6 ∧ h 6 10 = S.w 7 := hI.1.2.1
theorem a_p5 {h h2 : q_F} {S : m_St} {v1 v2 : Int} (J : j_T S S h) (e1 : fn177 h = some v1) (e2 : fn255 h = some (v2, h2)) : v1 = v2 := by
  unfold fn177 at e1
  unfold fn255 at e2
  rw [m_let] at e2
  cases e1; cases e2
  rw [q_ud_n (by omega)]
  exact J.2.2.2.1.1
theorem a_p6 {h h2 : q_F} {S : m_St} {v1 v2 : Int} (J : j_T S S h) (e1 : fn178 h = some v1) (e2 : fn257 h = some (v2, h2)) : v1 = v2 := by
  unfold fn178 at e1
  unfold fn257 at e2
  rw [m_let] at e2
  cases e1; cases e2
  rw [q_ud_n (by omega)]
  exact J.2.2.2.1.2
theorem a_p12 {h h2 : q_F} {S : m_St} {v1 v2 : Int} (J : j_T S S h) (e1 : fn223 h = some v1) (e2 : fn352 h = some (v2, h2)) : v1 = v2 := by
  unfold fn223 at e1
  unfold fn352 at e2
  rw [m_let] at e2
  cases e1; cases e2
  rw [q_ud_n (by omega), J.2.1.2.1]
  exact (a_tb J.1.2).2.2.2.2.1
theorem a_rem {S : m_St} : (m_rem S).w = S.w := by unfold m_rem; split <;> rfl
theorem a_p18 {h h1 h2 : q_F} {S S1 : m_St} {v1 v2 : Int} (J : j_T S S h) (J1 : j_T S1 S h1) (e1 : fn205 h = some (v1, h1)) (e2 : fn321 h1 = some (v2, h2)) : v1 = v2 := by
  obtain ⟨g1, a1, a2, a3⟩ := c_remember J.1.2 J.1.1
  obtain ⟨g2, b1, b2, b3⟩ := c_stop (v := 0) a2.1
  have f1 : fn205 h = some (g1 6 7, g2) := by rw [fn205, a1, Option.bind_some, b1, Option.bind_some]
  have d1 : v1 = g1 6 7 := congrArg Prod.fst (a_i e1 f1)
  have hT : r_T h1 (q_ud h1 139 7 0) := r_T_u r_T_r
  have hm := J1.2.1.1
  obtain ⟨k1, x1, x2, x3, x4⟩ := r_remember (r_I_T J1.2.1.2 hT) hm.2.1.1
  have ew : k1 140 = S.w := by rw [x2.1, a_rem]
  have w3 := (hm.1.1.1 3 (by omega)).2.2.1 rfl
  have f2 : fn321 h1 = some (S.w 3, m_sr k1 140 (m_stops (m_u S.w 3 0))) := by
    rw [fn321, m_let, x1, Option.bind_some]
    dsimp only
    rw [r_of (v := S.w 3) (by omega) (by omega) (by rw [ew]; rfl) (by omega), Option.bind_some, m_let, m_ud_sr, fn342_m, Option.bind_some, m_sr_s, m_sr_sr, ew]
  have d2 : v2 = S.w 3 := congrArg Prod.fst (a_i e2 f2)
  have d3 : g1 6 7 = S.w 3 := by rw [← a_rem (S := S)]; exact (a_tb a2).2.2.2.1
  rw [d1, d2]; exact d3
theorem a_sets {h2 h1 : q_F} {S S1 : m_St} {j : Nat} {v v2 : Int} (hj : j = 1 ∨ j = 2) (hv : v = 0 ∨ v = 1) (J1 : j_T S1 S h1) (e2 : fn332 j v h1 = some (v2, h2)) : v2 = S.w j := by
  have hT : r_T h1 (q_ud h1 139 7 0) := r_T_u r_T_r
  have hm := J1.2.1.1
  obtain ⟨k1, x1, x2, x3, x4⟩ := r_remember (r_I_T J1.2.1.2 hT) hm.2.1.1
  have ew : k1 140 = S.w := by rw [x2.1, a_rem]
  have key : ∀ p0 : Int, fn332_25 (j : Int) v p0 k1 = some (p0, m_sr k1 140 (m_u S.w j v)) := fun p0 => by
    rw [fn332_25]
    rcases hv with rfl | rfl
    · rw [if_pos rfl, fn332_40, if_pos (by omega), m_let, m_ud_sr, Int.toNat_natCast, ew]
    · rw [if_neg (by decide), fn332_40, if_pos (by omega), m_let, m_ud_sr, Int.toNat_natCast, ew]
  have w01 : S.w j = 0 ∨ S.w j = 1 := by
    have := (hm.1.1.1 j (by omega)).2.1 (by omega)
    exact this
  unfold fn332 at e2
  rw [m_let, x1, Option.bind_some, if_pos (by omega)] at e2
  dsimp only at e2
  rw [key, key, Int.toNat_natCast] at e2
  split at e2
  · rename_i c; rw [ew] at c; cases e2; exact c.symm
  · rename_i c; rw [ew] at c; cases e2; omega
theorem a_p19 {h h1 h2 : q_F} {S S1 : m_St} {v v1 v2 : Int} (hv : v = 0 ∨ v = 1) (J : j_T S S h) (J1 : j_T S1 S h1) (e1 : fn210 v h = some (v1, h1)) (e2 : fn328 v h1 = some (v2, h2)) : v1 = v2 := by
  obtain ⟨g1, a1, a2, a3⟩ := c_remember J.1.2 J.1.1
  have f1 : fn210 v h = some (g1 6 5, q_ud g1 6 5 v) := by rw [fn210, a1, Option.bind_some, m_let]
  have d1 : v1 = g1 6 5 := congrArg Prod.fst (a_i e1 f1)
  rw [fn328, s_id] at e2
  have d2 := a_sets (j := 1) (Or.inl rfl) hv J1 e2
  have d3 : g1 6 5 = S.w 1 := by rw [← a_rem (S := S)]; exact (a_tb a2).2.1
  rw [d1, d2]; exact d3
theorem a_p20 {h h1 h2 : q_F} {S S1 : m_St} {v v1 v2 : Int} (hv : v = 0 ∨ v = 1) (J : j_T S S h) (J1 : j_T S1 S h1) (e1 : fn211 v h = some (v1, h1)) (e2 : fn329 v h1 = some (v2, h2)) : v1 = v2 := by
  obtain ⟨g1, a1, a2, a3⟩ := c_remember J.1.2 J.1.1
  have f1 : fn211 v h = some (g1 6 6, q_ud g1 6 6 v) := by rw [fn211, a1, Option.bind_some, m_let]
  have d1 : v1 = g1 6 6 := congrArg Prod.fst (a_i e1 f1)
  rw [fn329, s_id] at e2
  have d2 := a_sets (j := 2) (Or.inr rfl) hv J1 e2
  have d3 : g1 6 6 = S.w 2 := by rw [← a_rem (S := S)]; exact (a_tb a2).2.2.1
  rw [d1, d2]; exact d3
theorem a_p61 {h h1 h2 : q_F} {S : m_St} {v1 v2 : Int} (J : j_T S S h) (J1 : j_T (m_oUndo S) S h1) (J2 : j_T (m_oUndo S) (m_oUndo S) h2) (e1 : fn228 h = some (v1, h1)) (e2 : fn360 h1 = some (v2, h2)) : v1 = v2 := by
  have n1 : h 33 1 = (S.n : Int) := J.1.2.2.1.1
  have n2 : h1 139 5 = (S.n : Int) := J1.2.1.2.2.1.1
  have m1 : h1 33 1 = ((m_oUndo S).n : Int) := J1.1.2.2.1.1
  have m2 : h2 139 5 = ((m_oUndo S).n : Int) := J2.2.1.2.2.1.1
  unfold fn228 at e1
  unfold fn360 at e2
  rw [m_let, q_ud_n (by omega), n2] at e2
  rw [n1] at e1
  by_cases c : S.n = 0
  · rw [if_pos (by omega)] at e1 e2
    cases e1; cases e2; rfl
  · rw [if_neg (by omega)] at e1 e2
    rw [m_let] at e2
    generalize q_ud (q_ud h1 139 7 0) 139 5 (q_w32 ((S.n : Int) - 1)) = gg at e2
    cases h4 : fn249 144 1220 140 122 (q_w32 ((122 : Int) * (gg 139 5))) (0 : Int) (122 : Int) gg with
    | none => rw [h4] at e2; cases e2
    | some y =>
      rw [h4, Option.bind_some] at e2
      cases e2
      rw [m2]
      cases h3 : fn69 6 h with
      | none => rw [h3] at e1; cases e1
      | some x =>
        rw [h3, Option.bind_some] at e1
        cases e1
        rw [m1]
theorem a_p62 {h h1 h2 : q_F} {S : m_St} {v1 v2 : Int} (J : j_T S S h) (J1 : j_T (m_oSave S) S h1) (J2 : j_T (m_oSave S) (m_oSave S) h2) (e1 : fn209 h = some (v1, h1)) (e2 : fn326 h1 = some (v2, h2)) : v1 = v2 := by
  have r := (m_R0_ok J.1.1.1.1).2.1
  have m1 : h1 13 1 = S.w 4 := J1.1.2.1.2.2.1
  have m2 : h2 140 4 = S.w 4 := by rw [J2.2.1.2.1]; rfl
  unfold fn209 at e1
  unfold fn326 at e2
  rw [m_let] at e2
  cases h3 : fn127 15 6 h with
  | none => rw [h3] at e1; cases e1
  | some x =>
    rw [h3, Option.bind_some, m_let] at e1
    cases h4 : fn249 140 122 143 122 (0 : Int) (0 : Int) (122 : Int) (q_ud h1 139 7 0) with
    | none => rw [h4] at e2; cases e2
    | some y =>
      rw [h4, Option.bind_some, m_let] at e2
      cases e1
      cases h5 : fn303 (4 : Int) (q_ud y.2 139 6 1) with
      | none => rw [h5] at e2; cases e2
      | some z =>
        rw [h5, Option.bind_some] at e2
        cases e2
        have := a_i h5 (r_of (v := S.w 4) (by omega) (by omega) m2 (by omega))
        rw [m1, this]
end -- [98zg.ans]
section -- [98zi.ans]
/-! Part 98zi: what was thrown and the answers of the calls that may throw. -/
theorem a_F {f : Option (Int × q_F)} {h h2 : q_F} {S : m_St} {v : Int} (g : r_W f h S) (e : f = some (v, h2)) : r_F h h2 := by
  obtain ⟨v', h', a, -, b⟩ := g
  have := congrArg Prod.snd (a_i e a)
  have e2 : h2 = h' := this
  rw [e2]; exact b
theorem a_258 (c k : Int) (g : q_F) : fn258 c k g = some (c, if c = 0 then g else q_ud g 139 7 k) := by
  unfold fn258
  by_cases e : c = 0
  · rw [if_pos e, if_pos e]
  · rw [if_neg e, if_neg e, m_let]
/-- how the two sides of such a call compare -/
def a_Q (h2 : q_F) (v1 v2 : Int) : Prop := h2 139 7 = v1 ∧ (v1 = 0 → h2 153 0 = v2)
theorem a_p7 {v : Int} {h h1 h2 : q_F} {S S1 : m_St} {v1 v2 : Int} (J : j_T S S h) (J1 : j_T S1 S h1) (e1 : fn5 v h = some (v1, h1)) (e2 : fn250 v h1 = some (v2, h2)) : a_Q h2 v1 v2 := by
  have hm := J1.2.1.1
  have hI := J1.2.1.2
  have F := a_F (r_count hI hm) e2
  have f153 : h2 153 = h1 153 := F.1 153 (by omega)
  have tb := a_tb J.1.2
  have g0 : r_I (q_ud h1 139 7 0) S := r_I_T hI (r_T_u r_T_r)
  have w := (m_R0_ok J.1.1.1.1)
  unfold fn250 at e2
  rw [m_let, r_rng, Option.bind_some, fn250_23, fn250_23, a_258, a_258, Option.bind_some, Option.bind_some] at e2
  dsimp only at e2
  unfold fn5 fn171 at e1
  by_cases c : 0 ≤ v ∧ v ≤ 6
  · rw [if_pos c, if_neg (show ¬ (1 : Int) = 0 by decide), if_pos rfl, if_pos rfl] at e2
    have w0 := w.1
    have wx : ∀ j : Nat, j < 5 → -2147483648 ≤ S.w j ∧ S.w j < 2147483648 := fun j hj => by
      obtain rfl | rfl | rfl | rfl | rfl : j = 0 ∨ j = 1 ∨ j = 2 ∨ j = 3 ∨ j = 4 := by omega
      · omega
      · have := (hm.1.1.1 1 (by omega)).2.1 (by omega); omega
      · have := (hm.1.1.1 2 (by omega)).2.1 (by omega); omega
      · have := (hm.1.1.1 3 (by omega)).2.2.1 rfl; omega
      · have := w.2.1; omega
    have key : ∀ j : Nat, j < 5 → fn303 (j : Int) (q_ud h1 139 7 0) = some (S.w j) := fun j hj => r_of (by omega) (by omega) (by rw [Int.toNat_natCast, g0.1]) (wx j hj)
    have fin : ∀ x y : Int, (some ((0 : Int), q_ud h 153 0 x) : Option (Int × q_F)) = some (v1, h1) → (some (y, q_ud h1 139 7 0) : Option (Int × q_F)) = some (v2, h2) → x = y → a_Q h2 v1 v2 := fun x y e3 e4 exy => by
      have a1 : v1 = 0 := (congrArg Prod.fst (Option.some.inj e3)).symm
      have a2 : h1 = q_ud h 153 0 x := (congrArg Prod.snd (Option.some.inj e3)).symm
      have b1 : v2 = y := (congrArg Prod.fst (Option.some.inj e4)).symm
      have b2 : h2 = q_ud h1 139 7 0 := (congrArg Prod.snd (Option.some.inj e4)).symm
      refine ⟨by rw [b2, q_ud_s, a1], fun _ => ?_⟩
      rw [f153, a2, q_ud_s, b1, exy]
    obtain ⟨n, rfl⟩ : ∃ n : Nat, v = (n : Int) := ⟨v.toNat, by omega⟩
    by_cases n5 : n = 5
    · subst n5
      rw [if_pos (show ((5 : Nat) : Int) = 5 from rfl), r_homed g0 hm, Option.bind_some] at e2
      rw [if_neg (by decide), if_neg (by decide), if_neg (by decide), if_neg (by decide), if_neg (by decide), if_pos (show ((5 : Nat) : Int) = 5 from rfl), c_homed J.1.2 J.1.1, Option.bind_some, Option.bind_some] at e1
      dsimp only at e1
      rw [if_pos (show (1 : Nat) = 1 from rfl), m_let] at e1
      exact fin _ _ e1 e2 rfl
    · rw [if_neg (show ¬ (n : Int) = 5 by omega)] at e2
      by_cases n6 : n = 6
      · subst n6
        rw [if_pos (show ((6 : Nat) : Int) = 6 from rfl)] at e2
        rw [if_neg (by decide), if_neg (by decide), if_neg (by decide), if_neg (by decide), if_neg (by decide), if_neg (by decide), if_pos (show ((6 : Nat) : Int) = 6 from rfl), Option.bind_some] at e1
        dsimp only at e1
        rw [if_pos (show (1 : Nat) = 1 from rfl), m_let] at e1
        exact fin _ _ e1 e2 (by rw [g0.2.1.1]; exact J.1.2.2.1.1)
      · rw [if_neg (show ¬ (n : Int) = 6 by omega), key n (by omega), Option.bind_some] at e2
        obtain rfl | rfl | rfl | rfl | rfl : n = 0 ∨ n = 1 ∨ n = 2 ∨ n = 3 ∨ n = 4 := by omega
        · rw [if_pos (show ((0 : Nat) : Int) = 0 from rfl), Option.bind_some] at e1
          dsimp only at e1
          rw [if_pos (show (1 : Nat) = 1 from rfl), m_let] at e1
          exact fin _ _ e1 e2 tb.1
        · rw [if_neg (by decide), if_pos (show ((1 : Nat) : Int) = 1 from rfl)] at e1
          have b := (hm.1.1.1 1 (by omega)).2.1 (by omega)
          split at e1
          · rename_i c9
            rw [Option.bind_some] at e1
            dsimp only at e1
            rw [if_pos (show (1 : Nat) = 1 from rfl), m_let] at e1
            exact fin _ _ e1 e2 (by rw [← tb.2.1]; exact c9.symm)
          · rename_i c9
            rw [Option.bind_some] at e1
            dsimp only at e1
            rw [if_pos (show (1 : Nat) = 1 from rfl), m_let] at e1
            rw [tb.2.1] at c9
            exact fin _ _ e1 e2 (by omega)
        · rw [if_neg (by decide), if_neg (by decide), if_pos (show ((2 : Nat) : Int) = 2 from rfl)] at e1
          have b := (hm.1.1.1 2 (by omega)).2.1 (by omega)
          split at e1
          · rename_i c9
            rw [Option.bind_some] at e1
            dsimp only at e1
            rw [if_pos (show (1 : Nat) = 1 from rfl), m_let] at e1
            exact fin _ _ e1 e2 (by rw [← tb.2.2.1]; exact c9.symm)
          · rename_i c9
            rw [Option.bind_some] at e1
            dsimp only at e1
            rw [if_pos (show (1 : Nat) = 1 from rfl), m_let] at e1
            rw [tb.2.2.1] at c9
            exact fin _ _ e1 e2 (by omega)
        · rw [if_neg (by decide), if_neg (by decide), if_neg (by decide), if_pos (show ((3 : Nat) : Int) = 3 from rfl), Option.bind_some] at e1
          dsimp only at e1
          rw [if_pos (show (1 : Nat) = 1 from rfl), m_let] at e1
          exact fin _ _ e1 e2 tb.2.2.2.1
        · rw [if_neg (by decide), if_neg (by decide), if_neg (by decide), if_neg (by decide), if_pos (show ((4 : Nat) : Int) = 4 from rfl), Option.bind_some] at e1
          dsimp only at e1
          rw [if_pos (show (1 : Nat) = 1 from rfl), m_let] at e1
          exact fin _ _ e1 e2 J.1.2.1.2.2.1
  · rw [if_neg c, if_pos rfl, if_neg (show ¬ (1 : Int) = 0 by decide), if_neg (show ¬ (1 : Int) = 0 by decide)] at e2
    rw [if_neg (by omega), if_neg (by omega), if_neg (by omega), if_neg (by omega), if_neg (by omega), if_neg (by omega), if_neg (by omega), Option.bind_some] at e1
    dsimp only at e1
    rw [if_neg (show ¬ (2 : Nat) = 1 by decide), if_pos rfl] at e1
    cases e1; cases e2
    exact ⟨q_ud_s _ _ _ _, fun h9 => absurd h9 (by decide)⟩
end -- [98zi.ans]
section -- [98zj.ans]
/-! Part 98zj: axis, coordinate, error, readsClosed. -/
theorem a_ok {x : Int} {hc g h1 h2 : q_F} {v1 v2 : Int} (f1 : some ((0 : Int), q_ud hc 153 0 x) = some (v1, h1)) (f2 : some (x, g) = some (v2, h2)) (z : g 139 7 = 0) (f : h2 153 = h1 153) : a_Q h2 v1 v2 := by
  have a1 : v1 = 0 := (congrArg Prod.fst (Option.some.inj f1)).symm
  have a2 : h1 = q_ud hc 153 0 x := (congrArg Prod.snd (Option.some.inj f1)).symm
  have b1 : v2 = x := (congrArg Prod.fst (Option.some.inj f2)).symm
  have b2 : h2 = g := (congrArg Prod.snd (Option.some.inj f2)).symm
  refine ⟨by rw [b2, z, a1], fun _ => ?_⟩
  rw [f, a2, q_ud_s, b1]
theorem a_er {c y : Int} {hc g h1 h2 : q_F} {v1 v2 : Int} (f1 : some (c, hc) = some (v1, h1)) (f2 : some (y, g) = some (v2, h2)) (z : g 139 7 = c) (c0 : c ≠ 0) : a_Q h2 v1 v2 := by
  have a1 : v1 = c := (congrArg Prod.fst (Option.some.inj f1)).symm
  have b2 : h2 = g := (congrArg Prod.snd (Option.some.inj f2)).symm
  exact ⟨by rw [b2, z, a1], fun h9 => absurd (a1.symm.trans h9) c0⟩
/-- the heap of the reference behind a check -/
def a_g (c k : Int) (g : q_F) : q_F := if c = 0 then g else q_ud g 139 7 k
theorem a_298 (v : Int) (h : q_F) : fn298 v h = some (if 0 ≤ v ∧ v ≤ 2 then 0 else 1, if 0 ≤ v ∧ v ≤ 2 then q_ud h 139 7 0 else q_ud (q_ud h 139 7 0) 139 7 1) := by
  unfold fn298 fn298_23
  rw [m_let, r_rng, Option.bind_some, a_258, a_258, Option.bind_some, Option.bind_some]
  by_cases c : 0 ≤ v ∧ v ≤ 2
  · rw [if_pos c, if_neg (show ¬ (1 : Int) = 0 by decide), if_pos c, if_pos c, if_pos rfl]
  · rw [if_neg c, if_pos rfl, if_neg c, if_neg c, if_neg (show ¬ (1 : Int) = 0 by decide)]
theorem a_302 {a k : Int} {h : q_F} (ha : 0 ≤ a ∧ a ≤ 2) : fn302 a k h = some (if h 140 (41 + a).toNat = 0 then 1 else 0, if h 140 (41 + a).toNat = 0 then q_ud h 139 7 k else h) := by
  unfold fn302 fn302_20
  rw [q_w32_id (z := 41 + a) (by omega) (by omega), if_pos (by omega), a_258, a_258, Option.bind_some, Option.bind_some]
  split
  · rw [if_neg (show ¬ (1 : Int) = 0 by decide)]
  · rw [if_pos rfl]
theorem a_ax {h : q_F} {S : m_St} {a : Nat} (hI : c_I h S) (ha : a < 3) : c_ax h (q_axn 6 a) S.w a := by rw [q_axn_e ha]; exact hI.1.1 a ha
theorem a_g0 {h : q_F} {S : m_St} (hI : r_I h S) : r_I (q_ud h 139 7 0) S := r_I_T hI (r_T_u r_T_r)
theorem a_p9 {a : Int} {h h1 h2 : q_F} {S S1 : m_St} {v1 v2 : Int} (J : j_T S S h) (J1 : j_T S1 S h1) (e1 : fn4 a h = some (v1, h1)) (e2 : fn248 a h1 = some (v2, h2)) : a_Q h2 v1 v2 := by
  have hm := J1.2.1.1
  have f := (a_F (r_coordinate J1.2.1.2) e2).1 153 (by omega)
  have g0 := a_g0 J1.2.1.2
  unfold fn248 fn248_17 at e2
  unfold fn4 fn170 at e1
  rw [a_298, Option.bind_some] at e2
  rw [c_axis, Option.bind_some] at e1
  dsimp only at e1 e2
  by_cases c : 0 ≤ a ∧ a ≤ 2
  · rw [if_pos c, if_pos rfl] at e1
    rw [if_pos c, if_pos c, if_pos rfl, a_302 c, Option.bind_some] at e2
    obtain ⟨n, rfl⟩ : ∃ n : Nat, a = (n : Int) := ⟨a.toNat, by omega⟩
    have X := a_ax J.1.2 (a := n) (by omega)
    have x11 : h (q_axn 6 (n : Int)) 11 = S.w (41 + n) := X.1 11 (by omega)
    have x12 : h (q_axn 6 (n : Int)) 12 = S.w (47 + n) := X.1 12 (by omega)
    have g41 : q_ud h1 139 7 0 140 (41 + (n : Int)).toNat = S.w (41 + n) := by rw [show (41 + (n : Int)).toNat = 41 + n by omega, g0.1]
    unfold fn163 at e1
    dsimp only at e1 e2
    rw [x11] at e1
    rw [g41] at e2
    by_cases z : S.w (41 + n) = 0
    · rw [if_pos z, Option.bind_some] at e1
      dsimp only at e1
      rw [if_neg (show ¬ (4 : Nat) = 0 by decide), if_pos rfl, Option.bind_some] at e1
      dsimp only at e1
      rw [if_neg (show ¬ (4 : Nat) = 1 by decide), if_neg (show ¬ (4 : Nat) = 3 by decide), if_pos rfl] at e1
      rw [if_pos z, if_pos z, if_neg (show ¬ (1 : Int) = 0 by decide)] at e2
      exact a_er e1 e2 (q_ud_s _ _ _ _) (by decide)
    · have b := (hm.1.1.1 (47 + n) (by omega)).2.2.2.2.2.2.2.2.2 (by omega)
      rw [if_neg z, Option.bind_some] at e1
      dsimp only at e1
      rw [if_pos rfl, Option.bind_some] at e1
      dsimp only at e1
      rw [if_pos rfl, m_let, x12] at e1
      rw [if_neg z, if_neg z, if_pos rfl, q_w32_id (z := 47 + (n : Int)) (by omega) (by omega), r_of (v := S.w (47 + n)) (by omega) (by omega) (by rw [show (47 + (n : Int)).toNat = 47 + n by omega, g0.1]) (by omega), Option.bind_some] at e2
      exact a_ok e1 e2 (q_ud_s _ _ _ _) f
  · rw [if_neg c, if_neg (show ¬ (3 : Nat) = 0 by decide), if_pos rfl, Option.bind_some] at e1
    dsimp only at e1
    rw [if_neg (show ¬ (3 : Nat) = 1 by decide), if_pos rfl] at e1
    rw [if_neg c, if_neg c, if_neg (show ¬ (1 : Int) = 0 by decide)] at e2
    exact a_er e1 e2 (q_ud_s _ _ _ _) (by decide)
end -- [98zj.ans]
section -- [98zk.ans]
/-! Part 98zk: error, readsClosed, axis. -/
theorem a_rw {h : q_F} {S : m_St} {j : Nat} {z : Int} (hI : r_I h S) (hj : j < 122) (hz : z = (j : Int)) (hb : -2147483648 ≤ S.w j ∧ S.w j < 2147483648) : fn303 z h = some (S.w j) := by
  subst hz
  exact r_of (by omega) (by omega) (by rw [Int.toNat_natCast, hI.1]) hb
theorem a_p10 {a : Int} {h h1 h2 : q_F} {S S1 : m_St} {v1 v2 : Int} (J : j_T S S h) (J1 : j_T S1 S h1) (e1 : fn8 a h = some (v1, h1)) (e2 : fn254 a h1 = some (v2, h2)) : a_Q h2 v1 v2 := by
  have hm := J1.2.1.1
  have f := (a_F (r_errorC J1.2.1.2) e2).1 153 (by omega)
  have g0 := a_g0 J1.2.1.2
  unfold fn254 fn254_17 at e2
  unfold fn8 fn176 fn47 at e1
  rw [a_298, Option.bind_some] at e2
  rw [c_axis, Option.bind_some] at e1
  dsimp only at e1 e2
  by_cases c : 0 ≤ a ∧ a ≤ 2
  · rw [if_pos c, if_pos rfl] at e1
    rw [if_pos c, if_pos c, if_pos rfl, a_302 c, Option.bind_some] at e2
    obtain ⟨n, rfl⟩ : ∃ n : Nat, a = (n : Int) := ⟨a.toNat, by omega⟩
    have X := a_ax J.1.2 (a := n) (by omega)
    have x11 : h (q_axn 6 (n : Int)) 11 = S.w (41 + n) := X.1 11 (by omega)
    have x12 : h (q_axn 6 (n : Int)) 12 = S.w (47 + n) := X.1 12 (by omega)
    have x13 : h (q_axn 6 (n : Int)) 13 = S.w (50 + n) := X.1 13 (by omega)
    have x6 : h (q_axn 6 (n : Int)) 6 = S.w (26 + n) := X.1 6 (by omega)
    have g41 : q_ud h1 139 7 0 140 (41 + (n : Int)).toNat = S.w (41 + n) := by rw [show (41 + (n : Int)).toNat = 41 + n by omega, g0.1]
    unfold fn163 at e1
    dsimp only at e1 e2
    rw [x11] at e1
    rw [g41] at e2
    by_cases z : S.w (41 + n) = 0
    · rw [if_pos z, Option.bind_some] at e1
      dsimp only at e1
      rw [if_neg (show ¬ (4 : Nat) = 0 by decide), if_pos rfl, Option.bind_some] at e1
      dsimp only at e1
      rw [if_neg (show ¬ (4 : Nat) = 1 by decide), if_neg (show ¬ (4 : Nat) = 3 by decide), if_pos rfl] at e1
      rw [if_pos z, if_pos z, if_neg (show ¬ (1 : Int) = 0 by decide)] at e2
      exact a_er e1 e2 (q_ud_s _ _ _ _) (by decide)
    · have b1 := (hm.1.1.1 (47 + n) (by omega)).2.2.2.2.2.2.2.2.2 (by omega)
      have b2 := (hm.1.1.1 (50 + n) (by omega)).2.2.2.2.2.2.2.2.2 (by omega)
      have b3 := (m_a3_i hm.1.1.2 (a := n) (by omega)).2.1
      rw [if_neg z, Option.bind_some] at e1
      dsimp only at e1
      rw [if_pos rfl, Option.bind_some, Option.bind_some] at e1
      dsimp only at e1
      rw [if_pos rfl, m_let, x12, x13, x6] at e1
      rw [if_neg z, if_neg z, if_pos rfl] at e2
      unfold fn256 at e2
      rw [q_w32_id (z := 26 + (n : Int)) (by omega) (by omega), q_w32_id (z := 50 + (n : Int)) (by omega) (by omega), q_w32_id (z := 47 + (n : Int)) (by omega) (by omega), a_rw (j := 26 + n) g0 (by omega) (by omega) (by omega), Option.bind_some, a_rw (j := 50 + n) g0 (by omega) (by omega) (by omega), Option.bind_some, a_rw (j := 47 + n) g0 (by omega) (by omega) (by omega), Option.bind_some, Option.bind_some] at e2
      exact a_ok e1 e2 (q_ud_s _ _ _ _) f
  · rw [if_neg c, if_neg (show ¬ (3 : Nat) = 0 by decide), if_pos rfl, Option.bind_some] at e1
    dsimp only at e1
    rw [if_neg (show ¬ (3 : Nat) = 1 by decide), if_pos rfl] at e1
    rw [if_neg c, if_neg c, if_neg (show ¬ (1 : Int) = 0 by decide)] at e2
    exact a_er e1 e2 (q_ud_s _ _ _ _) (by decide)
theorem a_p11 {a : Int} {h h1 h2 : q_F} {S S1 : m_St} {v1 v2 : Int} (J : j_T S S h) (J1 : j_T S1 S h1) (e1 : fn22 a h = some (v1, h1)) (e2 : fn319 a h1 = some (v2, h2)) : a_Q h2 v1 v2 := by
  have hm := J1.2.1.1
  have f := (a_F (r_readsC J1.2.1.2) e2).1 153 (by omega)
  have g0 := a_g0 J1.2.1.2
  unfold fn319 at e2
  unfold fn22 fn204 at e1
  rw [a_298, Option.bind_some] at e2
  rw [c_axis, Option.bind_some] at e1
  dsimp only at e1 e2
  by_cases c : 0 ≤ a ∧ a ≤ 2
  · rw [if_pos c, if_pos rfl] at e1
    rw [if_pos c, if_pos c, if_pos rfl] at e2
    obtain ⟨n, rfl⟩ : ∃ n : Nat, a = (n : Int) := ⟨a.toNat, by omega⟩
    have X := a_ax J.1.2 (a := n) (by omega)
    have x9 : h (q_axn 6 (n : Int)) 9 = S.w (38 + n) := X.1 9 (by omega)
    have x10 : h (q_axn 6 (n : Int)) 10 = S.w (53 + n) := X.1 10 (by omega)
    have g38 : q_ud h1 139 7 0 140 (38 + (n : Int)).toNat = S.w (38 + n) := by rw [show (38 + (n : Int)).toNat = 38 + n by omega, g0.1]
    have g53 : q_ud h1 139 7 0 140 (53 + (n : Int)).toNat = S.w (53 + n) := by rw [show (53 + (n : Int)).toNat = 53 + n by omega, g0.1]
    have b := (m_a3_i hm.1.1.2 (a := n) (by omega)).2.2.1
    unfold fn54 at e1
    unfold fn318 fn318_44 at e2
    rw [q_w32_id (z := 38 + (n : Int)) (by omega) (by omega), q_w32_id (z := 53 + (n : Int)) (by omega) (by omega), if_pos (show 0 ≤ 38 + (n : Int) ∧ 38 + (n : Int) < 122 by omega), if_pos (show 0 ≤ 38 + (n : Int) ∧ 38 + (n : Int) < 122 by omega), if_pos (show 0 ≤ 53 + (n : Int) ∧ 53 + (n : Int) < 122 by omega)] at e2
    rw [x9, x10] at e1
    rw [g38, g53] at e2
    have f0 : fn22_15 0 0 h = some (0, q_ud h 153 0 0) := by unfold fn22_15; rw [if_pos (by decide), m_let]; rfl
    have f1 : fn22_15 1 0 h = some (0, q_ud h 153 0 1) := by unfold fn22_15; rw [if_pos (by decide), m_let]; rfl
    by_cases s0 : S.w (38 + n) = 0
    · rw [if_pos s0, Option.bind_some, Option.bind_some] at e1
      dsimp only at e1
      rw [if_pos rfl, f0, f1] at e1
      rw [if_neg (show ¬ S.w (38 + n) = 2 by omega), if_pos s0] at e2
      rcases b with b | b
      · rw [if_pos b] at e1
        rw [if_neg (by omega), Option.bind_some, if_pos rfl] at e2
        exact a_ok e1 e2 (q_ud_s _ _ _ _) f
      · rw [if_neg (by omega)] at e1
        rw [if_pos b, Option.bind_some, if_neg (by decide)] at e2
        exact a_ok e1 e2 (q_ud_s _ _ _ _) f
    · rw [if_neg s0] at e1
      by_cases s2 : S.w (38 + n) = 2
      · rw [if_pos s2, Option.bind_some, Option.bind_some] at e1
        dsimp only at e1
        rw [if_pos rfl, if_neg (by decide), f1] at e1
        rw [if_pos s2, Option.bind_some, if_neg (by decide)] at e2
        exact a_ok e1 e2 (q_ud_s _ _ _ _) f
      · rw [if_neg s2, Option.bind_some, Option.bind_some] at e1
        dsimp only at e1
        rw [if_pos rfl, if_pos rfl, f0] at e1
        rw [if_neg s2, if_neg s0, Option.bind_some, if_pos rfl] at e2
        exact a_ok e1 e2 (q_ud_s _ _ _ _) f
  · rw [if_neg c, if_neg (show ¬ (3 : Nat) = 0 by decide), if_pos rfl, Option.bind_some] at e1
    dsimp only at e1
    rw [if_neg (show ¬ (3 : Nat) = 1 by decide), if_pos rfl] at e1
    rw [if_neg c, if_neg c, if_neg (show ¬ (1 : Int) = 0 by decide)] at e2
    exact a_er e1 e2 (q_ud_s _ _ _ _) (by decide)
end -- [98zk.ans]
section -- [98zm.ans]
/-! Part 98zm: account, setStart, setStuck, unqueue, slackLeft, restoreState. -/
theorem a_p56v {h : q_F} {S : m_St} {n v : Nat} (hI : c_I h S) (hn : n < 3) (hv : v ≤ 5) : fn44 (q_axn 6 (n : Int) + 1) v h = some (q_w32 (S.w (56 + 3 * v + n))) := by
  have X := a_ax hI hn
  obtain rfl | rfl | rfl | rfl | rfl | rfl : v = 0 ∨ v = 1 ∨ v = 2 ∨ v = 3 ∨ v = 4 ∨ v = 5 := by omega
  · have e : h (q_axn 6 (n : Int) + 1) 0 = q_w32 (S.w (56 + n)) := X.2 0 (by omega)
    rw [fn44, if_pos (show ((0 : Nat) : Int) = 0 from rfl), e]
  · have e : h (q_axn 6 (n : Int) + 1) 1 = q_w32 (S.w (59 + n)) := X.2 1 (by omega)
    rw [fn44, if_neg (by decide), if_pos (show ((1 : Nat) : Int) = 1 from rfl), e]
  · have e : h (q_axn 6 (n : Int) + 1) 3 = q_w32 (S.w (62 + n)) := X.2 3 (by omega)
    rw [fn44, if_neg (by decide), if_neg (by decide), if_pos (show ((2 : Nat) : Int) = 2 from rfl), e]
  · have e : h (q_axn 6 (n : Int) + 1) 4 = q_w32 (S.w (65 + n)) := X.2 4 (by omega)
    rw [fn44, if_neg (by decide), if_neg (by decide), if_neg (by decide), if_pos (show ((3 : Nat) : Int) = 3 from rfl), e]
  · have e : h (q_axn 6 (n : Int) + 1) 5 = q_w32 (S.w (68 + n)) := X.2 5 (by omega)
    rw [fn44, if_neg (by decide), if_neg (by decide), if_neg (by decide), if_neg (by decide), if_pos (show ((4 : Nat) : Int) = 4 from rfl), e]
  · have e : h (q_axn 6 (n : Int) + 1) 6 = q_w32 (S.w (71 + n)) := X.2 6 (by omega)
    rw [fn44, if_neg (by decide), if_neg (by decide), if_neg (by decide), if_neg (by decide), if_neg (by decide), e]
theorem a_p56 {a v : Int} {h h1 h2 : q_F} {S S1 : m_St} {v1 v2 : Int} (J : j_T S S h) (J1 : j_T S1 S h1) (e1 : fn0 a v h = some (v1, h1)) (e2 : fn234 a v h1 = some (v2, h2)) : a_Q h2 v1 v2 := by
  have f := (a_F (r_account J1.2.1.2) e2).1 153 (by omega)
  have g0 := a_g0 J1.2.1.2
  unfold fn234 fn234_26 at e2
  unfold fn0 fn155 fn155_14 at e1
  rw [a_298, Option.bind_some] at e2
  rw [c_axis, Option.bind_some] at e1
  dsimp only at e1 e2
  by_cases c : 0 ≤ a ∧ a ≤ 2
  · rw [if_pos c, if_pos rfl] at e1
    rw [if_pos c, if_pos c, if_pos rfl, r_rng, Option.bind_some, a_258, a_258, Option.bind_some, Option.bind_some] at e2
    dsimp only at e2
    obtain ⟨n, rfl⟩ : ∃ n : Nat, a = (n : Int) := ⟨a.toNat, by omega⟩
    by_cases cv : 0 ≤ v ∧ v ≤ 5
    · obtain ⟨m, rfl⟩ : ∃ m : Nat, v = (m : Int) := ⟨v.toNat, by omega⟩
      have V := a_p56v (n := n) (v := m) J.1.2 (by omega) (by omega)
      rw [if_neg (show ¬ (m : Int) < 0 by omega), if_pos cv.2, V, Option.bind_some, Option.bind_some] at e1
      rw [if_pos cv, if_neg (show ¬ (1 : Int) = 0 by decide), if_pos rfl, if_pos rfl, q_w32_id (z := 3 * (m : Int)) (by omega) (by omega), q_w32_id (z := 56 + 3 * (m : Int)) (by omega) (by omega), q_w32_id (by omega) (by omega), fn303_i (by omega) (by omega), Option.bind_some, show (56 + 3 * (m : Int) + n).toNat = 56 + 3 * m + n by omega, g0.1] at e2
      exact a_ok e1 e2 (q_ud_s _ _ _ _) f
    · rw [if_neg cv, if_pos rfl, if_neg (show ¬ (1 : Int) = 0 by decide), if_neg (show ¬ (1 : Int) = 0 by decide)] at e2
      have e3 : some ((2 : Int), h) = some (v1, h1) := by
        rw [← e1]
        by_cases c5 : v < 0
        · rw [if_pos c5, Option.bind_some]; rfl
        · rw [if_neg c5, if_neg (show ¬ v ≤ 5 by omega), Option.bind_some]; rfl
      exact a_er e3 e2 (q_ud_s _ _ _ _) (by decide)
  · rw [if_neg c, if_neg (show ¬ (3 : Nat) = 0 by decide), if_pos rfl, Option.bind_some] at e1
    dsimp only at e1
    rw [if_neg (show ¬ (3 : Nat) = 1 by decide), if_neg (show ¬ (3 : Nat) = 2 by decide), if_pos rfl] at e1
    rw [if_neg c, if_neg c, if_neg (show ¬ (1 : Int) = 0 by decide)] at e2
    exact a_er e1 e2 (q_ud_s _ _ _ _) (by decide)
/-- the reference remembers: its row stays, what was thrown stays 0 -/
theorem a_rm {h : q_F} {S : m_St} (hI : r_I h S) (hm : m_I S) : ∃ k, fn320 (q_ud h 139 7 0) = some (0, k) ∧ k 140 = S.w ∧ k 139 7 = 0 ∧ r_I k (m_rem S) := by
  obtain ⟨k, x1, x2, x3, x4⟩ := r_remember (a_g0 hI) hm.2.1.1
  exact ⟨k, x1, by rw [x2.1, a_rem], by rw [x4 7 (by omega), q_ud_s], x2⟩
theorem a_p22 {v : Int} {h h1 h2 : q_F} {S S1 : m_St} {v1 v2 : Int} (J : j_T S S h) (J1 : j_T S1 S h1) (e1 : fn25 v h = some (v1, h1)) (e2 : fn330 v h1 = some (v2, h2)) : a_Q h2 v1 v2 := by
  have hm := J1.2.1.1
  have f := (a_F (r_setStart J1.2.1.2 hm) e2).1 153 (by omega)
  have w0 := (m_R0_ok hm.1.1).1
  unfold fn330 fn330_23 at e2
  unfold fn25 fn212 fn212_12 at e1
  rw [m_let, r_rng, Option.bind_some, a_258, a_258, Option.bind_some, Option.bind_some] at e2
  dsimp only at e2
  by_cases c : 1 ≤ v ∧ v ≤ 1000
  · obtain ⟨g1, a1, a2, a3⟩ := c_remember J.1.2 J.1.1
    obtain ⟨k, x1, x2, x3, -⟩ := a_rm J1.2.1.2 hm
    have d3 : g1 6 4 = S.w 0 := by rw [← a_rem (S := S)]; exact (a_tb a2).1
    rw [if_neg (show ¬ v < 1 by omega), if_pos c.2, a1, Option.bind_some, m_let, Option.bind_some] at e1
    dsimp only at e1
    rw [if_pos rfl, m_let, d3] at e1
    rw [if_pos c, if_neg (show ¬ (1 : Int) = 0 by decide), if_pos rfl, if_pos rfl, x1, Option.bind_some] at e2
    dsimp only at e2
    rw [r_of (v := S.w 0) (by omega) (by omega) (by rw [x2]; rfl) (by omega), Option.bind_some, m_let] at e2
    exact a_ok e1 e2 (by rw [q_ud_n (by omega)]; exact x3) f
  · rw [if_neg c, if_pos rfl, if_neg (show ¬ (1 : Int) = 0 by decide), if_neg (show ¬ (1 : Int) = 0 by decide)] at e2
    have e3 : some ((1 : Int), h) = some (v1, h1) := by
      rw [← e1]
      by_cases c5 : v < 1
      · rw [if_pos c5, Option.bind_some]; rfl
      · rw [if_neg c5, if_neg (show ¬ v ≤ 1000 by omega), Option.bind_some]; rfl
    exact a_er e3 e2 (q_ud_s _ _ _ _) (by decide)
theorem a_p21 {a v : Int} {h h1 h2 : q_F} {S S1 : m_St} {v1 v2 : Int} (J : j_T S S h) (J1 : j_T S1 S h1) (e1 : fn26 a v h = some (v1, h1)) (e2 : fn331 a v h1 = some (v2, h2)) : a_Q h2 v1 v2 := by
  have hm := J1.2.1.1
  have f := (a_F (r_setStuck J1.2.1.2 hm) e2).1 153 (by omega)
  unfold fn331 fn331_26 at e2
  unfold fn26 fn213 fn213_14 at e1
  rw [a_298, Option.bind_some] at e2
  rw [c_axis, Option.bind_some] at e1
  dsimp only at e1 e2
  by_cases c : 0 ≤ a ∧ a ≤ 2
  · rw [if_pos c, if_pos rfl] at e1
    rw [if_pos c, if_pos c, if_pos rfl, r_rng, Option.bind_some, a_258, a_258, Option.bind_some, Option.bind_some] at e2
    dsimp only at e2
    obtain ⟨n, rfl⟩ : ∃ n : Nat, a = (n : Int) := ⟨a.toNat, by omega⟩
    by_cases cv : 0 ≤ v ∧ v ≤ 2
    · obtain ⟨g1, a1, a2, a3⟩ := c_remember J.1.2 J.1.1
      obtain ⟨k, x1, x2, x3, -⟩ := a_rm J1.2.1.2 hm
      have d3 : g1 (q_axn 6 (n : Int)) 9 = S.w (38 + n) := by rw [← a_rem (S := S)]; exact (a_ax a2 (a := n) (by omega)).1 9 (by omega)
      have b := (hm.1.1.1 (38 + n) (by omega)).2.2.2.2.1 (by omega)
      rw [if_neg (show ¬ v < 0 by omega), if_pos cv.2, a1, Option.bind_some, m_let, Option.bind_some] at e1
      dsimp only at e1
      rw [if_pos rfl, m_let, d3] at e1
      rw [if_pos cv, if_neg (show ¬ (1 : Int) = 0 by decide), if_pos rfl, if_pos rfl, x1, Option.bind_some] at e2
      dsimp only at e2
      rw [q_w32_id (z := 38 + (n : Int)) (by omega) (by omega), r_of (v := S.w (38 + n)) (by omega) (by omega) (by rw [x2, show (38 + (n : Int)).toNat = 38 + n by omega]) (by omega), Option.bind_some, if_pos (by omega), m_let] at e2
      exact a_ok e1 e2 (by rw [q_ud_n (by omega)]; exact x3) f
    · rw [if_neg cv, if_pos rfl, if_neg (show ¬ (1 : Int) = 0 by decide), if_neg (show ¬ (1 : Int) = 0 by decide)] at e2
      have e3 : some ((2 : Int), h) = some (v1, h1) := by
        rw [← e1]
        by_cases c5 : v < 0
        · rw [if_pos c5, Option.bind_some]; rfl
        · rw [if_neg c5, if_neg (show ¬ v ≤ 2 by omega), Option.bind_some]; rfl
      exact a_er e3 e2 (q_ud_s _ _ _ _) (by decide)
  · rw [if_neg c, if_neg (show ¬ (3 : Nat) = 0 by decide), if_pos rfl, Option.bind_some] at e1
    dsimp only at e1
    rw [if_neg (show ¬ (3 : Nat) = 1 by decide), if_neg (show ¬ (3 : Nat) = 2 by decide), if_pos rfl] at e1
    rw [if_neg c, if_neg c, if_neg (show ¬ (1 : Int) = 0 by decide)] at e2
    exact a_er e1 e2 (q_ud_s _ _ _ _) (by decide)
end -- [98zm.ans]
section -- [98zn.ans]
/-! Part 98zn: unqueue, slackLeft, target, restoreState. -/
theorem a_153 {h' h1 : q_F} {v1 x : Int} (f1 : some ((0 : Int), q_ud h' 153 0 x) = some (v1, h1)) {k j : Nat} (hk : k ≠ 153) : h1 k j = h' k j := by
  have a2 : h1 = q_ud h' 153 0 x := (congrArg Prod.snd (Option.some.inj f1)).symm
  rw [a2, q_ud_n (by omega)]
theorem a_p16 {h h1 h2 : q_F} {S : m_St} {v1 v2 : Int} (J : j_T S S h) (J1 : j_T (m_oUnq S) S h1) (J2 : j_T (m_oUnq S) (m_oUnq S) h2) (e1 : fn37 h = some (v1, h1)) (e2 : fn361 h1 = some (v2, h2)) : a_Q h2 v1 v2 := by
  have hm := J1.2.1.1
  have f := (a_F (r_unqueue J1.2.1.2 hm) e2).1 153 (by omega)
  have g0 := a_g0 J1.2.1.2
  have c4 : h 13 1 = S.w 4 := J.1.2.1.2.2.1
  have m1 : h1 13 1 = (m_oUnq S).w 4 := J1.1.2.1.2.2.1
  have m2 : h2 140 4 = (m_oUnq S).w 4 := by rw [J2.2.1.2.1]
  have b := (m_R0_ok J2.2.1.1.1.1).2.1
  unfold fn361 fn361_22 at e2
  unfold fn37 fn229 at e1
  rw [m_let, a_258, a_258, Option.bind_some, Option.bind_some, g0.1] at e2
  rw [c4] at e1
  dsimp only at e2
  by_cases c : S.w 4 = 0
  · rw [if_pos c, Option.bind_some] at e1
    dsimp only at e1
    rw [if_neg (show ¬ (5 : Nat) = 1 by decide), if_pos rfl] at e1
    rw [if_pos c, if_neg (show ¬ (1 : Int) = 0 by decide), if_neg (show ¬ (1 : Int) = 0 by decide)] at e2
    exact a_er e1 e2 (q_ud_s _ _ _ _) (by decide)
  · obtain ⟨g1, a1, a2, a3⟩ := c_remember J.1.2 J.1.1
    obtain ⟨k, x1, x2, x3, -⟩ := a_rm J1.2.1.2 hm
    rw [if_neg c, a1, Option.bind_some] at e1
    dsimp only at e1
    rw [if_neg c, if_pos rfl, if_pos rfl, x1, Option.bind_some] at e2
    dsimp only at e2
    rw [m_let] at e2
    cases y : fn152 13 (q_w32 (g1 13 1 - 1)) g1 with
    | none => rw [y] at e1; cases e1
    | some z =>
      rw [y, Option.bind_some, Option.bind_some] at e1
      dsimp only at e1
      rw [if_pos rfl, m_let] at e1
      have d1 : z.2 13 1 = (m_oUnq S).w 4 := by rw [← a_153 e1 (k := 13) (j := 1) (by decide)]; exact m1
      rw [d1] at e1
      generalize hgg : q_ud k 140 4 (q_w64 (k 140 4 - 1)) = gg at e2
      have hgg7 : gg 139 7 = 0 := by rw [← hgg, q_ud_n (by omega)]; exact x3
      cases y2 : fn303 4 gg with
      | none => rw [y2] at e2; cases e2
      | some z2 =>
        rw [y2, Option.bind_some] at e2
        have b2 : h2 = gg := (congrArg Prod.snd (Option.some.inj e2)).symm
        have y3 := r_of (z := 4) (h := gg) (v := (m_oUnq S).w 4) (by omega) (by omega) (by rw [← b2]; exact m2) (by omega)
        have z3 := a_i y2 y3
        rw [z3] at e2
        exact a_ok e1 e2 hgg7 f
theorem a_p63 {h h1 h2 : q_F} {S : m_St} {v1 v2 : Int} (J : j_T S S h) (J1 : j_T (m_oRest S) S h1) (J2 : j_T (m_oRest S) (m_oRest S) h2) (e1 : fn23 h = some (v1, h1)) (e2 : fn322 h1 = some (v2, h2)) : a_Q h2 v1 v2 := by
  have hm := J1.2.1.1
  have f := (a_F (r_rest J1.2.1.2 hm) e2).1 153 (by omega)
  have g0 := a_g0 J1.2.1.2
  have c9 : h 0 9 = S.sv := J.1.2.2.2.1
  have r6 : q_ud h1 139 7 0 139 6 = S.sv := g0.2.2.1
  have m1 : h1 13 1 = (m_oRest S).w 4 := J1.1.2.1.2.2.1
  have m2 : h2 140 4 = (m_oRest S).w 4 := by rw [J2.2.1.2.1]
  have b := (m_R0_ok J2.2.1.1.1.1).2.1
  unfold fn322 fn322_18 at e2
  unfold fn23 fn206 at e1
  rw [m_let, a_258, a_258, Option.bind_some, Option.bind_some, r6] at e2
  rw [c9] at e1
  dsimp only at e2
  by_cases c : S.sv = 0
  · rw [if_pos c, Option.bind_some] at e1
    dsimp only at e1
    rw [if_neg (show ¬ (4 : Nat) = 1 by decide), if_pos rfl] at e1
    rw [if_pos c, if_neg (show ¬ (1 : Int) = 0 by decide), if_neg (show ¬ (1 : Int) = 0 by decide)] at e2
    exact a_er e1 e2 (q_ud_s _ _ _ _) (by decide)
  · rw [if_neg c] at e1
    rw [if_neg c, if_pos rfl, if_pos rfl, fn249_i (by omega) (by omega) (by omega) (by omega) (by omega) (by omega) (by omega) (by omega), Option.bind_some, m_let] at e2
    cases y : fn127 6 15 h with
    | none => rw [y] at e1; cases e1
    | some z =>
      rw [y, Option.bind_some, fn65, m_let, Option.bind_some, Option.bind_some] at e1
      dsimp only at e1
      rw [if_pos rfl, m_let] at e1
      have d1 : q_ud z.2 33 1 0 13 1 = (m_oRest S).w 4 := by rw [← a_153 e1 (k := 13) (j := 1) (by decide)]; exact m1
      rw [d1] at e1
      dsimp only at e2
      generalize hgg : q_ud (m_sr (q_ud h1 139 7 0) 140 (m_cp (q_ud h1 139 7 0 143) (q_ud h1 139 7 0 140) (0 : Int).toNat (0 : Int).toNat (122 : Int).toNat)) 139 5 0 = gg at e2
      have hgg7 : gg 139 7 = 0 := by rw [← hgg, q_ud_n (by omega), m_sr_n (by omega), q_ud_s]
      cases y2 : fn303 4 gg with
      | none => rw [y2] at e2; cases e2
      | some z2 =>
        rw [y2, Option.bind_some] at e2
        have b2 : h2 = gg := (congrArg Prod.snd (Option.some.inj e2)).symm
        have y3 := r_of (z := 4) (h := gg) (v := (m_oRest S).w 4) (by omega) (by omega) (by rw [← b2]; exact m2) (by omega)
        have z3 := a_i y2 y3
        rw [z3] at e2
        exact a_ok e1 e2 hgg7 f
end -- [98zn.ans]
section -- [98zo.ans]
/-! Part 98zo: slackLeft, target. -/
theorem a_p55 {a v : Int} {h h1 h2 : q_F} {S S1 : m_St} {v1 v2 : Int} (J : j_T S S h) (J1 : j_T S1 S h1) (e1 : fn27 a v h = some (v1, h1)) (e2 : fn334 a v h1 = some (v2, h2)) : a_Q h2 v1 v2 := by
  have hm := J1.2.1.1
  have f := (a_F (r_slack J1.2.1.2) e2).1 153 (by omega)
  have g0 := a_g0 J1.2.1.2
  unfold fn334 at e2
  unfold fn27 fn214 at e1
  rw [a_298, Option.bind_some] at e2
  rw [c_axis, Option.bind_some] at e1
  dsimp only at e1 e2
  by_cases c : 0 ≤ a ∧ a ≤ 2
  · rw [if_pos c, if_pos rfl] at e1
    rw [if_pos c, if_pos c, if_pos rfl] at e2
    obtain ⟨n, rfl⟩ : ∃ n : Nat, a = (n : Int) := ⟨a.toNat, by omega⟩
    have X := a_ax J.1.2 (a := n) (by omega)
    have x0 : h (q_axn 6 (n : Int)) 0 = S.w (8 + n) := X.1 0 (by omega)
    have x1 : h (q_axn 6 (n : Int)) 1 = S.w (11 + n) := X.1 1 (by omega)
    have x6 : h (q_axn 6 (n : Int)) 6 = S.w (26 + n) := X.1 6 (by omega)
    have x7 : h (q_axn 6 (n : Int)) 7 = S.w (29 + n) := X.1 7 (by omega)
    obtain ⟨A1, A2, -⟩ := m_a3_i hm.1.1.2 (a := n) (by omega)
    have b26 : (26 + (n : Int)).toNat = 26 + n := by omega
    have b8 : (8 + (n : Int)).toNat = 8 + n := by omega
    unfold fn57 at e1
    rw [x0, x1, x6, x7] at e1
    rw [q_w32_id (z := 26 + (n : Int)) (by omega) (by omega), q_w32_id (z := 8 + (n : Int)) (by omega) (by omega), if_pos (show 0 ≤ 26 + (n : Int) ∧ 26 + (n : Int) < 122 by omega), if_pos (show 0 ≤ 8 + (n : Int) ∧ 8 + (n : Int) < 122 by omega), b26, b8, g0.1] at e2
    unfold fn334_36 at e2
    rw [q_w32_id (z := 29 + (n : Int)) (by omega) (by omega), q_w32_id (z := 11 + (n : Int)) (by omega) (by omega), a_rw (j := 29 + n) g0 (by omega) (by omega) (by omega), a_rw (j := 11 + n) g0 (by omega) (by omega) (by omega)] at e2
    have fin : ∀ x : Int, ((some x).bind fun x3 => some ((1 : Nat), x3, h)).bind (fun x1 => if x1.1 = 1 then q_let (q_ud x1.2.2 153 0 x1.2.1) fun g2 => some ((0 : Int), g2) else if x1.1 = 3 then some ((1 : Int), x1.2.2) else none) = some (v1, h1) → some (x, q_ud h1 139 7 0) = some (v2, h2) → a_Q h2 v1 v2 := fun x y1 y2 => by
      rw [Option.bind_some, Option.bind_some] at y1
      dsimp only at y1
      rw [if_pos rfl, m_let] at y1
      exact a_ok y1 y2 (q_ud_s _ _ _ _) f
    by_cases v0 : v = 0
    · rw [if_pos v0] at e1
      rw [if_pos v0] at e2
      by_cases z : S.w (26 + n) = 0
      · rw [if_pos (show S.w (26 + n) ≤ 0 by omega)] at e1
        rw [if_pos z] at e2
        exact fin _ e1 e2
      · rw [if_neg (show ¬ S.w (26 + n) ≤ 0 by omega)] at e1
        rw [if_neg z, if_pos v0, Option.bind_some] at e2
        exact fin _ e1 e2
    · rw [if_neg v0] at e1
      rw [if_neg v0] at e2
      by_cases z : S.w (26 + n) = S.w (8 + n)
      · rw [if_pos (show S.w (8 + n) ≤ S.w (26 + n) by omega)] at e1
        rw [if_pos z] at e2
        exact fin _ e1 e2
      · rw [if_neg (show ¬ S.w (8 + n) ≤ S.w (26 + n) by omega)] at e1
        rw [if_neg z, if_neg v0, Option.bind_some, Option.bind_some] at e2
        exact fin _ e1 e2
  · rw [if_neg c, if_neg (show ¬ (3 : Nat) = 0 by decide), if_pos rfl, Option.bind_some] at e1
    dsimp only at e1
    rw [if_neg (show ¬ (3 : Nat) = 1 by decide), if_pos rfl] at e1
    rw [if_neg c, if_neg c, if_neg (show ¬ (1 : Int) = 0 by decide)] at e2
    exact a_er e1 e2 (q_ud_s _ _ _ _) (by decide)
theorem a_299 {m : Int} {h : q_F} {S : m_St} (hI : r_I h S) (hm : m_I S) : fn299 m h = some (if 0 ≤ m ∧ m < S.w 4 then 0 else 1, if 0 ≤ m ∧ m < S.w 4 then q_ud h 139 7 0 else q_ud (q_ud h 139 7 0) 139 7 1) := by
  have b := (m_R0_ok hm.1.1).2.1
  have g0 := a_g0 hI
  unfold fn299 fn299_28
  rw [m_let, g0.1, q_w64_id (by omega) (by omega), r_rng, Option.bind_some, a_258, a_258, Option.bind_some, Option.bind_some]
  by_cases c : 0 ≤ m ∧ m < S.w 4
  · rw [if_pos (show 0 ≤ m ∧ m ≤ S.w 4 - 1 by omega), if_neg (show ¬ (1 : Int) = 0 by decide), if_pos c, if_pos c, if_pos rfl]
  · rw [if_neg (show ¬ (0 ≤ m ∧ m ≤ S.w 4 - 1) by omega), if_pos rfl, if_neg c, if_neg c, if_neg (show ¬ (1 : Int) = 0 by decide)]
theorem a_00 {h : q_F} : q_ud (q_ud h 139 7 0) 139 7 0 = q_ud h 139 7 0 := q_ud_u _ _ _ _ _
theorem a_300 {m a : Int} {h : q_F} {S : m_St} (hI : r_I h S) (hm : m_I S) : fn300 m a h = some (if (0 ≤ m ∧ m < S.w 4) ∧ 0 ≤ a ∧ a ≤ 2 then 0 else 1, if (0 ≤ m ∧ m < S.w 4) ∧ 0 ≤ a ∧ a ≤ 2 then q_ud h 139 7 0 else q_ud h 139 7 1) := by
  unfold fn300 fn300_16
  rw [a_299 hI hm, Option.bind_some]
  dsimp only
  by_cases c : 0 ≤ m ∧ m < S.w 4
  · rw [if_pos c, if_pos c, if_pos rfl, a_298, Option.bind_some, a_00]
    dsimp only
    by_cases d : 0 ≤ a ∧ a ≤ 2
    · rw [if_pos d, if_pos d, if_pos rfl, if_pos ⟨c, d⟩, if_pos ⟨c, d⟩]
    · rw [if_neg d, if_neg d, if_neg (show ¬ (1 : Int) = 0 by decide), if_neg (fun h9 => d h9.2), if_neg (fun h9 => d h9.2), q_ud_u]
  · rw [if_neg c, if_neg c, if_neg (show ¬ (1 : Int) = 0 by decide), if_neg (fun h9 => c h9.1), if_neg (fun h9 => c h9.1), q_ud_u]
theorem a_148 {h : q_F} {S : m_St} {m a : Nat} (hI : c_I h S) (hm : m_I S) (h4 : (m : Int) < S.w 4) (ha : a < 3) : fn148 13 m a h = some (S.w (74 + 3 * m + a)) := by
  have b := (m_R0_ok hm.1.1).2.1
  have e := hI.1.2.2.2 (3 * m + a) (by omega)
  rw [fn148, q_w32_id (z := (m : Int) * 3) (by omega) (by omega), q_w32_id (by omega) (by omega), c_ent (by omega) (by omega), Option.bind_some, show ((m : Int) * 3 + a).toNat = 3 * m + a by omega, show 13 + 1 = 6 + 8 from rfl, e, show 74 + (3 * m + a) = 74 + 3 * m + a by omega]
theorem a_p23 {m a : Int} {h h1 h2 : q_F} {S S1 : m_St} {v1 v2 : Int} (J : j_T S S h) (J1 : j_T S1 S h1) (e1 : fn33 m a h = some (v1, h1)) (e2 : fn350 m a h1 = some (v2, h2)) : a_Q h2 v1 v2 := by
  have hm := J1.2.1.1
  have b := (m_R0_ok hm.1.1)
  have f := (a_F (r_target J1.2.1.2 hm) e2).1 153 (by omega)
  have g0 := a_g0 J1.2.1.2
  unfold fn350 at e2
  unfold fn33 fn222 at e1
  rw [a_300 J1.2.1.2 hm, Option.bind_some] at e2
  rw [c_move m J.1.2, Option.bind_some] at e1
  dsimp only at e1 e2
  by_cases c : 0 ≤ m ∧ m < S.w 4
  · rw [if_pos c, if_pos rfl, c_axis, Option.bind_some] at e1
    dsimp only at e1
    by_cases d : 0 ≤ a ∧ a ≤ 2
    · obtain ⟨n, rfl⟩ : ∃ n : Nat, a = (n : Int) := ⟨a.toNat, by omega⟩
      obtain ⟨k, rfl⟩ : ∃ k : Nat, m = (k : Int) := ⟨m.toNat, by omega⟩
      have b4 := b.2.1
      have bb := b.2.2.2 (74 + 3 * k + n) (by omega) (by omega)
      rw [if_pos d, if_pos rfl, a_148 J.1.2 J.1.1 c.2 (by omega), Option.bind_some, Option.bind_some] at e1
      dsimp only at e1
      rw [if_pos rfl, m_let] at e1
      have cd : (0 ≤ (k : Int) ∧ (k : Int) < S.w 4) ∧ 0 ≤ (n : Int) ∧ (n : Int) ≤ 2 := ⟨c, d⟩
      rw [if_pos cd, if_pos cd, if_pos rfl, q_w32_id (z := 3 * (k : Int)) (by omega) (by omega), q_w32_id (z := 74 + 3 * (k : Int)) (by omega) (by omega), q_w32_id (by omega) (by omega), a_rw (j := 74 + 3 * k + n) g0 (by omega) (by omega) (by omega), Option.bind_some] at e2
      exact a_ok e1 e2 (q_ud_s _ _ _ _) f
    · rw [if_neg d, if_neg (show ¬ (3 : Nat) = 0 by decide), if_pos rfl, Option.bind_some] at e1
      dsimp only at e1
      rw [if_neg (show ¬ (3 : Nat) = 1 by decide), if_pos rfl] at e1
      have cd : ¬ ((0 ≤ m ∧ m < S.w 4) ∧ 0 ≤ a ∧ a ≤ 2) := fun h9 => d h9.2
      rw [if_neg cd, if_neg cd, if_neg (show ¬ (1 : Int) = 0 by decide)] at e2
      exact a_er e1 e2 (q_ud_s _ _ _ _) (by decide)
  · rw [if_neg c, if_neg (show ¬ (3 : Nat) = 0 by decide), if_pos rfl, Option.bind_some] at e1
    dsimp only at e1
    rw [if_neg (show ¬ (3 : Nat) = 1 by decide), if_pos rfl] at e1
    have cd : ¬ ((0 ≤ m ∧ m < S.w 4) ∧ 0 ≤ a ∧ a ≤ 2) := fun h9 => c h9.1
    rw [if_neg cd, if_neg cd, if_neg (show ¬ (1 : Int) = 0 by decide)] at e2
    exact a_er e1 e2 (q_ud_s _ _ _ _) (by decide)
end -- [98zo.ans]
section -- [98zq.ans]
/-! Part 98zq: jog. -/
theorem a_jl {a : Nat} {v : Int} (ha : a < 3) : ∀ (f : Nat) (l n : Int) (h h2 : q_F) (x : Int), fn274_77 f a v l n h = some (x, h2) → x = q_w32 (h2 140 (26 + a)) ∧ h2 139 7 = h 139 7 := by
  have fin : ∀ (p : Int) (h h2 : q_F) (x : Int), fn274_146 a p (q_w32 ((41 : Int) + a)) h = some (x, h2) → x = q_w32 (h2 140 (26 + a)) ∧ h2 139 7 = h 139 7 := fun p h h2 x e => by
    rw [fn274_146, q_w32_id (z := 41 + (a : Int)) (by omega) (by omega), if_pos (by omega), m_let, q_w32_id (z := 26 + (a : Int)) (by omega) (by omega), fn303_i (by omega) (by omega), Option.bind_some] at e
    have a1 : x = q_w32 (q_ud h 140 (41 + (a : Int)).toNat p 140 (26 + (a : Int)).toNat) := (congrArg Prod.fst (Option.some.inj e)).symm
    have a2 : h2 = q_ud h 140 (41 + (a : Int)).toNat p := (congrArg Prod.snd (Option.some.inj e)).symm
    refine ⟨by rw [a1, a2, show (26 + (a : Int)).toNat = 26 + a by omega], by rw [a2, q_ud_n (by omega)]⟩
  intro f
  induction f with
  | zero => intro l n h h2 x e; rw [fn274_77] at e; cases e
  | succ f ih =>
    intro l n h h2 x e
    rw [fn274_77] at e
    split at e
    · split at e
      · exact fin _ _ _ _ e
      · split at e
        · exact fin _ _ _ _ e
        · cases e
    · rw [fn333_m, Option.bind_some, fn340_m ha, Option.bind_some] at e
      dsimp only at e
      have key : ∀ p : Int, fn274_100 (fn274_77 f) a v n p l (m_sr h 140 (m_step a (m_sg v) (h 140)).2) = some (x, h2) → x = q_w32 (h2 140 (26 + a)) ∧ h2 139 7 = h 139 7 := fun p e9 => by
        rw [fn274_100] at e9
        cases y : fn335 (m_sr h 140 (m_step a (m_sg v) (h 140)).2) with
        | none => rw [y] at e9; cases e9
        | some z =>
          rw [y, Option.bind_some, m_let] at e9
          have g := ih _ _ _ _ _ e9
          rw [q_ud_n (by omega), m_sr_n (by omega)] at g
          exact g
      split at e
      · exact key 0 e
      · exact key 1 e
theorem a_2580 (k : Int) (g : q_F) : fn258 0 k g = some (0, g) := by rw [a_258, if_pos rfl]
theorem a_2581 (k : Int) (g : q_F) : fn258 1 k g = some (1, q_ud g 139 7 k) := by rw [a_258, if_neg (by decide)]
theorem a_274b (a v : Int) (g : q_F) : fn274_32 a v 1 g = some (0, q_ud g 139 7 2) := by
  unfold fn274_32; rw [a_2581]; rfl
theorem a_274g (a v : Int) (g : q_F) : fn274_32 a v 0 g = if g 140 4 = (0 : Int) then fn274_56 a v 0 g else fn274_56 a v 1 g := by
  unfold fn274_32; rw [a_2580]; rfl
theorem a_p14 {a v : Int} {h h1 h2 : q_F} {S : m_St} {v1 v2 : Int} (J : j_T S S h) (J1 : j_T (m_oJog a v S) S h1) (J2 : j_T (m_oJog a v S) (m_oJog a v S) h2) (e1 : fn12 a v h = some (v1, h1)) (e2 : fn274 a v h1 = some (v2, h2)) : a_Q h2 v1 v2 := by
  have hm := J1.2.1.1
  have f := (a_F (r_jogC J1.2.1.2 hm) e2).1 153 (by omega)
  have g0 := a_g0 J1.2.1.2
  unfold fn274 fn274_27 at e2
  unfold fn12 fn184 fn184_21 at e1
  rw [a_298, Option.bind_some] at e2
  rw [c_axis, Option.bind_some] at e1
  dsimp only at e1 e2
  by_cases c : 0 ≤ a ∧ a ≤ 2
  · rw [if_pos c, if_pos rfl] at e1
    rw [if_pos c, if_pos c, if_pos rfl, r_rng, Option.bind_some, a_274b, a_274g, g0.1] at e2
    obtain ⟨n, hn, rfl⟩ := m_ax_n c
    by_cases cv : -100 ≤ v ∧ v ≤ 100 ∧ v ≠ 0
    · rw [if_neg (show ¬ v < -100 by omega), if_neg (show ¬ 100 < v by omega), if_neg cv.2.2, c_qEmpty J.1.2 J.1.1, Option.bind_some] at e1
      rw [if_pos (show -100 ≤ v ∧ v ≤ 100 by omega), if_neg (show ¬ (1 : Int) = 0 by decide), if_neg cv.2.2] at e2
      dsimp only at e1
      by_cases c4 : S.w 4 = 0
      · obtain ⟨g1, a1, a2, a3⟩ := c_remember J.1.2 J.1.1
        obtain ⟨k, x1, x2, x3, -⟩ := a_rm J1.2.1.2 hm
        have m1 : h1 (q_axn 6 (n : Int)) 6 = (m_oJog n v S).w (26 + n) := (a_ax J1.1.2 (a := n) hn).1 6 (by omega)
        have m2 : h2 140 = (m_oJog n v S).w := J2.2.1.2.1
        have A := (m_a3_i J2.2.1.1.1.1.2 hn).2.1
        have qa : q_axn 6 (n : Int) ≠ 153 := by rw [q_axn_e hn]; omega
        rw [if_pos c4, if_pos rfl, a1, Option.bind_some] at e1
        dsimp only at e1
        cases y : fn134 6 (n : Int) v g1 with
        | none => rw [y] at e1; cases e1
        | some z =>
          rw [y, Option.bind_some, Option.bind_some] at e1
          dsimp only at e1
          rw [if_pos rfl, m_let] at e1
          rw [← a_153 e1 (k := q_axn 6 (n : Int)) (j := 6) qa, m1] at e1
          rw [if_pos c4] at e2
          unfold fn274_56 at e2
          rw [a_2580, Option.bind_some] at e2
          dsimp only at e2
          rw [if_pos rfl, x1, Option.bind_some] at e2
          dsimp only at e2
          cases y2 : fn236 v k with
          | none => rw [y2] at e2; cases e2
          | some z2 =>
            rw [y2, Option.bind_some] at e2
            obtain ⟨b1, b2⟩ := a_jl hn _ _ _ _ _ _ e2
            rw [m2, q_w32_id (by omega) (by omega)] at b1
            rw [b1] at e2
            have e3 : some ((m_oJog n v S).w (26 + n), h2) = some (v2, h2) := by rw [b1]
            exact a_ok e1 e3 (by rw [b2]; exact x3) f
      · rw [if_neg c4, if_neg (show ¬ (4 : Nat) = 0 by decide), if_pos rfl, Option.bind_some] at e1
        dsimp only at e1
        rw [if_neg (show ¬ (4 : Nat) = 1 by decide), if_neg (show ¬ (4 : Nat) = 2 by decide), if_neg (show ¬ (4 : Nat) = 3 by decide), if_pos rfl] at e1
        rw [if_neg c4] at e2
        unfold fn274_56 at e2
        rw [a_2581, Option.bind_some] at e2
        dsimp only at e2
        rw [if_neg (show ¬ (1 : Int) = 0 by decide)] at e2
        exact a_er e1 e2 (q_ud_s _ _ _ _) (by decide)
    · have e3 : some ((2 : Int), h) = some (v1, h1) := by
        rw [← e1]
        by_cases c5 : v < -100
        · rw [if_pos c5, Option.bind_some]; rfl
        · rw [if_neg c5]
          by_cases c6 : 100 < v
          · rw [if_pos c6, Option.bind_some]; rfl
          · rw [if_neg c6, if_pos (show v = 0 by omega), Option.bind_some]; rfl
      have e4 : some ((0 : Int), q_ud (q_ud h1 139 7 0) 139 7 2) = some (v2, h2) := by
        rw [← e2]
        by_cases c5 : -100 ≤ v ∧ v ≤ 100
        · rw [if_pos c5, if_neg (show ¬ (1 : Int) = 0 by decide), if_pos (show v = 0 by omega)]
        · rw [if_neg c5, if_pos rfl]
      exact a_er e3 e4 (q_ud_s _ _ _ _) (by decide)
  · rw [if_neg c, if_neg (show ¬ (3 : Nat) = 0 by decide), if_pos rfl, Option.bind_some] at e1
    dsimp only at e1
    rw [if_neg (show ¬ (3 : Nat) = 1 by decide), if_neg (show ¬ (3 : Nat) = 2 by decide), if_pos rfl] at e1
    rw [if_neg c, if_neg c, if_neg (show ¬ (1 : Int) = 0 by decide)] at e2
    exact a_er e1 e2 (q_ud_s _ _ _ _) (by decide)
end -- [98zq.ans]
section -- [98zu.ans]
/-! Part 98zu: speed, stepsBehind. -/
theorem a_plan {h : q_F} {S : m_St} (hI : r_I h S) (hm : m_I S) : ∃ h', fn278 h = some (0, h') ∧ m_Plan h' S.w ∧ h' 139 7 = h 139 7 ∧ r_I h' S := by
  obtain ⟨h', g1, g2, g3, g4, -⟩ := r_plan hI hm
  exact ⟨h', g1, g2, by rw [g3 139 (by omega)], g4⟩
theorem a_79 {h : q_F} {S : m_St} {n : Nat} (hm : m_I S) (P : c_Plan h S.w) (h1 : (n : Int) < S.w 4) : fn79 n h = some (m_l S.w n) := by
  have r := (m_R0_ok hm.1.1).2.1
  exact c_lead (P.1.2 n (by omega)).1 (by omega)
theorem a_p25 {m k : Int} {h h1 h2 : q_F} {S S1 : m_St} {v1 v2 : Int} (J : j_T S S h) (J1 : j_T S1 S h1) (e1 : fn29 m k h = some (v1, h1)) (e2 : fn337 m k h1 = some (v2, h2)) : a_Q h2 v1 v2 := by
  have hm := J1.2.1.1
  have f := (a_F (r_speed J1.2.1.2 hm) e2).1 153 (by omega)
  have g0 := a_g0 J1.2.1.2
  have ok := m_R0_ok hm.1.1
  have r := ok.2.1
  unfold fn337 at e2
  unfold fn29 fn216 fn216_23 at e1
  rw [a_299 J1.2.1.2 hm, Option.bind_some] at e2
  rw [c_move m J.1.2, Option.bind_some] at e1
  dsimp only at e1 e2
  by_cases c : 0 ≤ m ∧ m < S.w 4
  · obtain ⟨n, rfl⟩ : ∃ k : Nat, m = (k : Int) := ⟨m.toNat, by omega⟩
    obtain ⟨g, a1, a2, a3, a4⟩ := c_planned J.1.2 J.1.1
    obtain ⟨p, b1, b2, b3, b4⟩ := a_plan g0 hm
    have l := m_l_r ok (m := n) (by omega)
    rw [if_pos c, if_pos rfl, a1, Option.bind_some] at e1
    dsimp only at e1
    rw [a_79 hm a2 c.2, Option.bind_some] at e1
    rw [if_pos c, if_pos c, if_pos rfl, b1, Option.bind_some] at e2
    dsimp only at e2
    rw [if_pos (show 0 ≤ (n : Int) ∧ (n : Int) < 16 by omega), Int.toNat_natCast, (b2.1 n (by omega)).2.1, q_w32_id (by omega) (by omega), r_rng, Option.bind_some] at e2
    have z7 : p 139 7 = 0 := by rw [b3]; exact q_ud_s _ _ _ _
    by_cases ck : 0 ≤ k ∧ k < m_l S.w n
    · rw [if_neg (show ¬ k < 0 by omega), if_pos ck.2, c_sp ok hm.1.2 a2 c.2 ck.1 ck.2, Option.bind_some, Option.bind_some] at e1
      dsimp only at e1
      rw [if_pos rfl, m_let] at e1
      rw [if_pos (show 0 ≤ k ∧ k ≤ m_l S.w n - 1 by omega), if_neg (show ¬ (1 : Int) = 0 by decide)] at e2
      unfold fn337_38 at e2
      rw [a_2580, Option.bind_some] at e2
      dsimp only at e2
      rw [if_pos rfl, fn338_m ok hm.1.2 b2 c.2 ck.1 ck.2, Option.bind_some] at e2
      exact a_ok e1 e2 z7 f
    · have e3 : some ((2 : Int), g) = some (v1, h1) := by
        rw [← e1]
        by_cases c5 : k < 0
        · rw [if_pos c5, Option.bind_some]; rfl
        · rw [if_neg c5, if_neg (show ¬ k < m_l S.w n by omega), Option.bind_some]; rfl
      rw [if_neg (show ¬ (0 ≤ k ∧ k ≤ m_l S.w n - 1) by omega), if_pos rfl] at e2
      unfold fn337_38 at e2
      rw [a_2581, Option.bind_some] at e2
      dsimp only at e2
      rw [if_neg (show ¬ (1 : Int) = 0 by decide)] at e2
      exact a_er e3 e2 (q_ud_s _ _ _ _) (by decide)
  · rw [if_neg c, if_neg (show ¬ (3 : Nat) = 0 by decide), if_pos rfl, Option.bind_some] at e1
    dsimp only at e1
    rw [if_neg (show ¬ (3 : Nat) = 1 by decide), if_pos rfl] at e1
    rw [if_neg c, if_neg c, if_neg (show ¬ (1 : Int) = 0 by decide)] at e2
    exact a_er e1 e2 (q_ud_s _ _ _ _) (by decide)
/-- the reference's check of a move, an axis and a number of steps -/
theorem a_301 {m a k : Int} {h : q_F} {S : m_St} (hI : r_I h S) (hm : m_I S) : (¬ ((0 ≤ m ∧ m < S.w 4) ∧ 0 ≤ a ∧ a ≤ 2) → fn301 m a k h = some (1, q_ud h 139 7 1)) ∧ (((0 ≤ m ∧ m < S.w 4) ∧ 0 ≤ a ∧ a ≤ 2) → ∃ p, m_Plan p S.w ∧ p 139 7 = 0 ∧ r_I p S ∧ fn301 m a k h = some (if 0 ≤ k ∧ k ≤ m_l S.w m.toNat then 0 else 1, if 0 ≤ k ∧ k ≤ m_l S.w m.toNat then p else q_ud p 139 7 2)) := by
  have r := (m_R0_ok hm.1.1).2.1
  unfold fn301
  rw [a_300 hI hm, Option.bind_some]
  dsimp only
  refine ⟨fun c => ?_, fun c => ?_⟩
  · rw [if_neg c, if_neg c, if_neg (show ¬ (1 : Int) = 0 by decide)]
  · obtain ⟨p, b1, b2, b3, b4⟩ := a_plan (a_g0 hI) hm
    obtain ⟨n, rfl⟩ : ∃ k : Nat, m = (k : Int) := ⟨m.toNat, by omega⟩
    refine ⟨p, b2, by rw [b3]; exact q_ud_s _ _ _ _, b4, ?_⟩
    rw [if_pos c, if_pos c, if_pos rfl, b1, Option.bind_some]
    dsimp only
    rw [if_pos (show 0 ≤ (n : Int) ∧ (n : Int) < 16 by omega), Int.toNat_natCast, (b2.1 n (by omega)).2.1, r_rng, Option.bind_some]
    by_cases ck : 0 ≤ k ∧ k ≤ m_l S.w n
    · rw [if_pos ck, if_neg (show ¬ (1 : Int) = 0 by decide), if_pos ck, if_pos ck]
      unfold fn301_37; rw [a_2580, Option.bind_some]
    · rw [if_neg ck, if_pos rfl, if_neg ck, if_neg ck]
      unfold fn301_37; rw [a_2581, Option.bind_some]
theorem a_p26 {m a k : Int} {h h1 h2 : q_F} {S S1 : m_St} {v1 v2 : Int} (J : j_T S S h) (J1 : j_T S1 S h1) (e1 : fn30 m a k h = some (v1, h1)) (e2 : fn341 m a k h1 = some (v2, h2)) : a_Q h2 v1 v2 := by
  have hm := J1.2.1.1
  have f := (a_F (r_behind J1.2.1.2 hm) e2).1 153 (by omega)
  have ok := m_R0_ok hm.1.1
  have r := ok.2.1
  obtain ⟨Q1, Q2⟩ := a_301 (m := m) (a := a) (k := k) J1.2.1.2 hm
  unfold fn341 at e2
  unfold fn30 fn217 at e1
  rw [c_move m J.1.2, Option.bind_some] at e1
  dsimp only at e1
  have bad1 : ((some ((3 : Nat), (0 : Int), h)).bind fun x1 => if x1.1 = 1 then q_let (q_ud x1.2.2 153 0 x1.2.1) fun g2 => some ((0 : Int), g2) else if x1.1 = 2 then some ((2 : Int), x1.2.2) else if x1.1 = 3 then some ((1 : Int), x1.2.2) else none) = some ((1 : Int), h) := rfl
  by_cases c : 0 ≤ m ∧ m < S.w 4
  · rw [if_pos c, if_pos rfl, c_axis, Option.bind_some] at e1
    dsimp only at e1
    by_cases d : 0 ≤ a ∧ a ≤ 2
    · obtain ⟨p, b2, b3, b4, b5⟩ := Q2 ⟨c, d⟩
      obtain ⟨n, rfl⟩ : ∃ k : Nat, m = (k : Int) := ⟨m.toNat, by omega⟩
      obtain ⟨b, hb, rfl⟩ := m_ax_n d
      obtain ⟨g, a1, a2, a3, a4⟩ := c_planned J.1.2 J.1.1
      rw [if_pos d, if_pos rfl, a1, Option.bind_some] at e1
      dsimp only at e1
      rw [a_79 hm a2 c.2, Option.bind_some, c_steps169, Option.bind_some] at e1
      dsimp only at e1
      rw [b5, Option.bind_some, Int.toNat_natCast] at e2
      dsimp only at e2
      by_cases ck : 0 ≤ k ∧ k ≤ m_l S.w n
      · rw [if_pos ck, if_pos rfl, c_made ok hm.1.2 a2 c.2 hb ck.1 ck.2, Option.bind_some, Option.bind_some] at e1
        dsimp only at e1
        rw [if_pos rfl, m_let] at e1
        rw [if_pos ck, if_pos ck, if_pos rfl, fn286_m ok hm.1.2 b2.1 c.2 hb ck.1 ck.2, Option.bind_some] at e2
        exact a_ok e1 e2 b3 f
      · rw [if_neg ck, if_neg (show ¬ (2 : Nat) = 0 by decide), if_pos rfl, Option.bind_some] at e1
        dsimp only at e1
        rw [if_neg (show ¬ (2 : Nat) = 1 by decide), if_pos rfl] at e1
        rw [if_neg ck, if_neg ck, if_neg (show ¬ (1 : Int) = 0 by decide)] at e2
        exact a_er e1 e2 (q_ud_s _ _ _ _) (by decide)
    · rw [if_neg d, if_neg (show ¬ (3 : Nat) = 0 by decide), if_pos rfl, bad1] at e1
      rw [Q1 (fun h9 => d h9.2), Option.bind_some] at e2
      dsimp only at e2
      rw [if_neg (show ¬ (1 : Int) = 0 by decide)] at e2
      exact a_er e1 e2 (q_ud_s _ _ _ _) (by decide)
  · rw [if_neg c, if_neg (show ¬ (3 : Nat) = 0 by decide), if_pos rfl, bad1] at e1
    rw [Q1 (fun h9 => c h9.1), Option.bind_some] at e2
    dsimp only at e2
    rw [if_neg (show ¬ (1 : Int) = 0 by decide)] at e2
    exact a_er e1 e2 (q_ud_s _ _ _ _) (by decide)
end -- [98zu.ans]
section -- [98zv.ans]
/-! Part 98zv: pointAt. -/
theorem a_made0 {p : Nat → Int} (ok : m_ok p) (nn : m_nn p) {m a : Nat} {k : Int} (hm : (m : Int) < p 4) (hd : m_d p m a = 0) : m_made p m a k = 0 := by
  have r := ok.2.1
  have l := m_l_r ok (m := m) (by omega)
  have l1 := m_l_1 ok (m := m) (by omega) (nn m hm)
  unfold m_made
  rw [hd, show m_abs 0 = 0 from rfl, Int.mul_zero, Int.zero_add, m_idv (by omega) (by omega) (by omega) (by omega)]
  exact Int.ediv_eq_zero_of_lt (by omega) (by omega)
theorem a_87 {h : q_F} {p : Nat → Int} (ok : m_ok p) (nn : m_nn p) (hP : c_Plan h p) {m a : Nat} {k : Int} (hm : (m : Int) < p 4) (ha : a < 3) (h0 : 0 ≤ k) (h1 : k ≤ m_l p m) : fn87 m a k h = some (q_w32 (m_beg p m a + q_w32 (m_sg (m_d p m a) * m_made p m a k))) := by
  have h16 := ok.2.1
  obtain ⟨p0, p1, -⟩ := hP.1.1 a ha m (by omega)
  rw [fn87, q_w32_id (z := (m : Int) * 3) (by omega) (by omega), q_w32_id (z := (m : Int) * 3 + a) (by omega) (by omega), c_ent (by omega) (by omega), Option.bind_some, show ((m : Int) * 3 + a).toNat = 3 * m + a by omega, p0]
  by_cases z : m_sg (m_d p m a) = 0
  · have d0 : m_d p m a = 0 := by unfold m_sg at z; (repeat' split at z) <;> omega
    have e : fn101 m a h = some 1 := by
      rw [fn101, q_w32_id (z := (m : Int) * 3) (by omega) (by omega), q_w32_id (z := (m : Int) * 3 + a) (by omega) (by omega), c_ent (by omega) (by omega), Option.bind_some, show ((m : Int) * 3 + a).toNat = 3 * m + a by omega, p1, d0, if_pos (by decide)]
    rw [e, Option.bind_some, c_made ok nn hP hm ha h0 h1, Option.bind_some, z, a_made0 ok nn hm d0]
    rfl
  · rw [c_way ok hP hm ha z, Option.bind_some, c_made ok nn hP hm ha h0 h1, Option.bind_some]
theorem a_p33 {m a k : Int} {h h1 h2 : q_F} {S S1 : m_St} {v1 v2 : Int} (J : j_T S S h) (J1 : j_T S1 S h1) (e1 : fn19 m a k h = some (v1, h1)) (e2 : fn306 m a k h1 = some (v2, h2)) : a_Q h2 v1 v2 := by
  have hm := J1.2.1.1
  have f := (a_F (r_pointAt J1.2.1.2 hm) e2).1 153 (by omega)
  have ok := m_R0_ok hm.1.1
  have r := ok.2.1
  obtain ⟨Q1, Q2⟩ := a_301 (m := m) (a := a) (k := k) J1.2.1.2 hm
  unfold fn306 at e2
  unfold fn19 fn196 at e1
  rw [c_move m J.1.2, Option.bind_some] at e1
  dsimp only at e1
  have bad1 : ((some ((3 : Nat), (0 : Int), h)).bind fun x1 => if x1.1 = 1 then q_let (q_ud x1.2.2 153 0 x1.2.1) fun g2 => some ((0 : Int), g2) else if x1.1 = 2 then some ((2 : Int), x1.2.2) else if x1.1 = 3 then some ((1 : Int), x1.2.2) else none) = some ((1 : Int), h) := rfl
  by_cases c : 0 ≤ m ∧ m < S.w 4
  · rw [if_pos c, if_pos rfl, c_axis, Option.bind_some] at e1
    dsimp only at e1
    by_cases d : 0 ≤ a ∧ a ≤ 2
    · obtain ⟨p, b2, b3, b4, b5⟩ := Q2 ⟨c, d⟩
      obtain ⟨n, rfl⟩ : ∃ k : Nat, m = (k : Int) := ⟨m.toNat, by omega⟩
      obtain ⟨b, hb, rfl⟩ := m_ax_n d
      obtain ⟨g, a1, a2, a3, a4⟩ := c_planned J.1.2 J.1.1
      rw [if_pos d, if_pos rfl, a1, Option.bind_some] at e1
      dsimp only at e1
      rw [a_79 hm a2 c.2, Option.bind_some, c_steps169, Option.bind_some] at e1
      dsimp only at e1
      rw [b5, Option.bind_some, Int.toNat_natCast] at e2
      dsimp only at e2
      by_cases ck : 0 ≤ k ∧ k ≤ m_l S.w n
      · rw [if_pos ck, if_pos rfl, a_87 ok hm.1.2 a2 c.2 hb ck.1 ck.2, Option.bind_some, Option.bind_some] at e1
        dsimp only at e1
        rw [if_pos rfl, m_let] at e1
        rw [if_pos ck, if_pos ck, if_pos rfl, fn240_i b4.1 ok (by omega) (by omega) (by omega) (by omega), Option.bind_some, q_w32_id (z := 3 * (n : Int)) (by omega) (by omega), q_w32_id (z := 3 * (n : Int) + b) (by omega) (by omega), if_pos (by omega), fn333_m, Option.bind_some, fn286_m ok hm.1.2 b2.1 c.2 hb ck.1 ck.2, Option.bind_some, show (3 * (n : Int) + b).toNat = 3 * n + b by omega, (b2.1 n (by omega)).1 b hb, Int.toNat_natCast, Int.toNat_natCast] at e2
        exact a_ok e1 e2 b3 f
      · rw [if_neg ck, if_neg (show ¬ (2 : Nat) = 0 by decide), if_pos rfl, Option.bind_some] at e1
        dsimp only at e1
        rw [if_neg (show ¬ (2 : Nat) = 1 by decide), if_pos rfl] at e1
        rw [if_neg ck, if_neg ck, if_neg (show ¬ (1 : Int) = 0 by decide)] at e2
        exact a_er e1 e2 (q_ud_s _ _ _ _) (by decide)
    · rw [if_neg d, if_neg (show ¬ (3 : Nat) = 0 by decide), if_pos rfl, bad1] at e1
      rw [Q1 (fun h9 => d h9.2), Option.bind_some] at e2
      dsimp only at e2
      rw [if_neg (show ¬ (1 : Int) = 0 by decide)] at e2
      exact a_er e1 e2 (q_ud_s _ _ _ _) (by decide)
  · rw [if_neg c, if_neg (show ¬ (3 : Nat) = 0 by decide), if_pos rfl, bad1] at e1
    rw [Q1 (fun h9 => c h9.1), Option.bind_some] at e2
    dsimp only at e2
    rw [if_neg (show ¬ (1 : Int) = 0 by decide)] at e2
    exact a_er e1 e2 (q_ud_s _ _ _ _) (by decide)
end -- [98zv.ans]
section -- [98zx.ans]
/-! Part 98zx: turnsAhead. -/
theorem a_sg0 {v : Int} : m_sg v = 0 ↔ v = 0 := by
  unfold m_sg; (repeat' split) <;> omega
theorem a_turnl {a : Nat} {S : m_St} {g p : q_F} (ha : a < 3) (hm : m_I S) (P : c_Plan g S.w) (Q : m_Plan p S.w) (hI : r_I p S) : ∀ (d m f1 f2 : Nat) (u : Int), m + d = (S.w 4).toNat → d < f1 → d < f2 → 0 ≤ u → u ≤ m → ∃ v, fn227_15 f1 a u m g = some (1, v, g) ∧ fn359_28 f2 a (m_dir S.w a m) u m p = some (v, p) := by
  have ok := m_R0_ok hm.1.1
  have r := ok.2.1
  intro d
  induction d with
  | zero =>
    intro m f1 f2 u hd h1 h2 u0 u1
    obtain ⟨f1, rfl⟩ : ∃ f', f1 = f' + 1 := ⟨f1 - 1, by omega⟩
    obtain ⟨f2, rfl⟩ : ∃ f', f2 = f' + 1 := ⟨f2 - 1, by omega⟩
    exact ⟨u, by rw [fn227_15, P.2.2.2.1, if_pos (by omega)], by rw [fn359_28, hI.1, if_pos (by omega)]⟩
  | succ d ih =>
    intro m f1 f2 u hd h1 h2 u0 u1
    obtain ⟨f1, rfl⟩ : ∃ f', f1 = f' + 1 := ⟨f1 - 1, by omega⟩
    obtain ⟨f2, rfl⟩ : ∃ f', f2 = f' + 1 := ⟨f2 - 1, by omega⟩
    have tn := c_turns (P.1.1 a ha m (by omega)).2.2 (by omega) ha
    have nx : ∀ u : Int, 0 ≤ u → u ≤ ((m + 1 : Nat) : Int) → ∃ v, fn227_15 f1 a u ((m + 1 : Nat) : Int) g = some (1, v, g) ∧ fn359_28 f2 a (m_dir S.w a (m + 1)) u ((m + 1 : Nat) : Int) p = some (v, p) := fun u a b => ih (m + 1) f1 f2 u (by omega) (by omega) (by omega) a b
    have ds : m_dir S.w a (m + 1) = if m_d S.w m a = 0 then m_dir S.w a m else m_sg (m_d S.w m a) := by rw [m_dir]
    rw [fn227_15, P.2.2.2.1, if_neg (show ¬ S.w 4 ≤ (m : Int) by omega), tn, Option.bind_some, fn227_40, fn227_40, q_w32_id (z := u + 0) (by omega) (by omega), q_w32_id (z := u + 1) (by omega) (by omega), q_w32_id (z := (m : Int) + 1) (by omega) (by omega), ← m_s1, Int.add_zero, fn359_28, hI.1, if_neg (show ¬ S.w 4 ≤ (m : Int) by omega), q_w32_id (z := 3 * (m : Int)) (by omega) (by omega), q_w32_id (z := 3 * (m : Int) + a) (by omega) (by omega), if_pos (show 0 ≤ 3 * (m : Int) + a ∧ 3 * (m : Int) + a < 48 by omega), show (3 * (m : Int) + a).toNat = 3 * m + a by omega, (Q.1 m (by omega)).1 a ha, fn333_m, Option.bind_some, fn359_77, fn359_77, q_w32_id (z := u + 1) (by omega) (by omega), q_w32_id (z := (m : Int) + 1) (by omega) (by omega), ← m_s1]
    unfold m_tn
    by_cases z : m_sg (m_d S.w m a) = 0
    · have z' := a_sg0.mp z
      rw [if_pos z'] at ds
      rw [if_pos z, if_pos ds, if_pos rfl]
      have := nx u u0 (by omega)
      rw [ds] at this
      exact this
    · have z' : ¬ m_d S.w m a = 0 := fun h9 => z (a_sg0.mpr h9)
      rw [if_neg z'] at ds
      rw [if_neg z]
      by_cases q : m_sg (m_d S.w m a) = m_dir S.w a m
      · have ds2 := ds.trans q
        rw [if_pos q, if_pos ds2, if_pos rfl]
        have := nx u u0 (by omega)
        rw [ds2] at this
        exact this
      · have ds2 : ¬ m_dir S.w a (m + 1) = m_dir S.w a m := fun h9 => q (ds.symm.trans h9)
        rw [if_neg q, if_neg ds2, if_neg (show ¬ (1 : Int) = 0 by decide)]
        have := nx (u + 1) (by omega) (by omega)
        rw [ds] at this
        exact this
theorem a_p47 {a : Int} {h h1 h2 : q_F} {S S1 : m_St} {v1 v2 : Int} (J : j_T S S h) (J1 : j_T S1 S h1) (e1 : fn36 a h = some (v1, h1)) (e2 : fn359 a h1 = some (v2, h2)) : a_Q h2 v1 v2 := by
  have hm := J1.2.1.1
  have f := (a_F (r_turns J1.2.1.2 hm) e2).1 153 (by omega)
  unfold fn359 at e2
  unfold fn36 fn227 at e1
  rw [a_298, Option.bind_some] at e2
  rw [c_axis, Option.bind_some] at e1
  dsimp only at e1 e2
  by_cases c : 0 ≤ a ∧ a ≤ 2
  · obtain ⟨b, hb, rfl⟩ := m_ax_n c
    obtain ⟨g, a1, a2, a3, a4⟩ := c_planned J.1.2 J.1.1
    obtain ⟨p, b1, b2, b3, b4⟩ := a_plan (a_g0 J1.2.1.2) hm
    have r := (m_R0_ok hm.1.1).2.1
    have A := (m_a3_i hm.1.1.2 hb).2.2.2.2.2.2.1
    obtain ⟨v, x1, x2⟩ := a_turnl hb hm a2 b2 b4 (S.w 4).toNat 0 q_fu q_fu 0 (by omega) (by have := q_fu_ge; omega) (by have := q_fu_ge; omega) (by omega) (by omega)
    have x1' : fn227_15 q_fu b 0 0 g = some (1, v, g) := x1
    have x2' : fn359_28 q_fu b (S.w (44 + b)) 0 0 p = some (v, p) := x2
    rw [if_pos c, if_pos rfl, a1, Option.bind_some] at e1
    dsimp only at e1
    rw [x1', Option.bind_some] at e1
    dsimp only at e1
    rw [if_pos rfl, m_let] at e1
    rw [if_pos c, if_pos c, if_pos rfl, b1, Option.bind_some, q_w32_id (z := 44 + (b : Int)) (by omega) (by omega)] at e2
    dsimp only at e2
    rw [a_rw (j := 44 + b) b4 (by omega) (by omega) (by omega), Option.bind_some, x2'] at e2
    exact a_ok e1 e2 (by rw [b3]; exact q_ud_s _ _ _ _) f
  · rw [if_neg c, if_neg (show ¬ (3 : Nat) = 0 by decide), if_pos rfl, Option.bind_some] at e1
    dsimp only at e1
    rw [if_neg (show ¬ (3 : Nat) = 1 by decide), if_pos rfl] at e1
    rw [if_neg c, if_neg c, if_neg (show ¬ (1 : Int) = 0 by decide)] at e2
    exact a_er e1 e2 (q_ud_s _ _ _ _) (by decide)
end -- [98zx.ans]
section -- [98zzc.ans]
/-! Part 98zzc: the time of moves made without detection; the direction behind them. -/
theorem a_sw_o {a j : Nat} {w : Nat → Int} (h : j ≠ 53 + a) : m_sw a w j = w j := by
  unfold m_sw; split
  · rfl
  · exact m_u_n h
theorem a_sx_o {a j : Nat} {w : Nat → Int} (h : j ≠ 53 + a) : m_sx a w j = w j := by
  unfold m_sx; rw [a_sw_o h]; split
  · rfl
  · exact m_u_n h
theorem a_sm_o {a j : Nat} {d e s : Int} {w : Nat → Int} (h1 : j ≠ 26 + a) (h2 : j ≠ 29 + a) (h3 : j ≠ 35 + a) (h4 : j ≠ 53 + a) : (m_sm a d e s w).2 j = w j := by
  unfold m_sm; split
  · split
    · exact m_u_n h3
    · show m_sx a (m_u w (26 + a) (q_w64 (w (26 + a) + d))) j = w j
      rw [a_sx_o h4]; exact m_u_n h1
  · exact m_u_n h2
theorem a_st5 {a : Nat} {d : Int} {w : Nat → Int} (ha : a < 3) : (m_step a d w).2 5 = w 5 := by
  unfold m_step; split
  · rw [a_sm_o (by omega) (by omega) (by omega) (by omega), m_s0_o (by omega) (by omega) (by omega)]
  · rw [a_sm_o (by omega) (by omega) (by omega) (by omega), m_s0_o (by omega) (by omega) (by omega)]
theorem a_stb {a b : Nat} {d : Int} {w : Nat → Int} (ha : a < 3) (hb : b < 3) (e : b ≠ a) : (m_step a d w).2 (44 + b) = w (44 + b) := by
  unfold m_step; split
  · rw [a_sm_o (by omega) (by omega) (by omega) (by omega), m_s0_o (by omega) (by omega) (by omega)]
  · rw [a_sm_o (by omega) (by omega) (by omega) (by omega), m_s0_o (by omega) (by omega) (by omega)]
theorem a_s0d {a c : Nat} {d : Int} {w : Nat → Int} (hc : c ≠ 44) : m_s0 a c d w (44 + a) = d := by
  unfold m_s0; rw [m_u_n (by omega), m_u_s]
theorem a_std {a : Nat} {d : Int} {w : Nat → Int} (ha : a < 3) : (m_step a d w).2 (44 + a) = d := by
  unfold m_step; split
  · rw [a_sm_o (by omega) (by omega) (by omega) (by omega), a_s0d (by omega)]
  · rw [a_sm_o (by omega) (by omega) (by omega) (by omega), a_s0d (by omega)]
/-- an axis in a step of a move -/
noncomputable def a_axw (p : Nat → Int) (m : Nat) (k : Int) (a : Nat) (w : Nat → Int) : Nat → Int := if m_made p m a (k + 1) = m_made p m a k then w else (m_step a (m_sg (m_d p m a)) w).2
theorem a_ax0 {p : Nat → Int} {m a : Nat} {k : Int} {w : Nat → Int} (ha : a < 3) (h2 : w 2 = 0) : m_ax p m k a w = (1, a_axw p m k a w) ∧ a_axw p m k a w 2 = 0 ∧ a_axw p m k a w 5 = w 5 ∧ (∀ b, b < 3 → b ≠ a → a_axw p m k a w (44 + b) = w (44 + b)) ∧ a_axw p m k a w (44 + a) = if m_made p m a (k + 1) = m_made p m a k then w (44 + a) else m_sg (m_d p m a) := by
  unfold m_ax a_axw
  dsimp only
  by_cases c : m_made p m a (k + 1) = m_made p m a k
  · simp only [if_pos c]
    exact ⟨trivial, h2, trivial, fun _ _ _ => trivial, trivial⟩
  · simp only [if_neg c]
    have e2 : (m_step a (m_sg (m_d p m a)) w).2 2 = 0 := (m_step_fr ha _ w 2 (by unfold m_dy; omega)).trans h2
    refine ⟨?_, e2, a_st5 ha, fun b hb hn => a_stb ha hb hn, a_std ha⟩
    split
    · rfl
    · rw [if_neg (by rw [e2]; decide)]
theorem a_sq1 {f g : (Nat → Int) → Int × (Nat → Int)} {w w1 : Nat → Int} (h : f w = (1, w1)) : m_sq f g w = g w1 := by
  rw [m_sq_n (by rw [h]; exact (show (1 : Int) ≠ 0 from by decide)), h]
/-- a step of a move -/
theorem a_ms0 {p : Nat → Int} {m : Nat} {k : Int} {w : Nat → Int} (h2 : w 2 = 0) : ∃ w', m_ms p m k w = (1, w') ∧ w' 2 = 0 ∧ w' 5 = q_w64 (w 5 + m_t p m k) ∧ ∀ b, b < 3 → w' (44 + b) = if m_made p m b (k + 1) = m_made p m b k then w (44 + b) else m_sg (m_d p m b) := by
  have t2 : m_tk p m k w 2 = 0 := by unfold m_tk; rw [m_u_n (by omega), m_u_n (by omega), m_u_n (by omega)]; exact h2
  have t5 : m_tk p m k w 5 = q_w64 (w 5 + m_t p m k) := by unfold m_tk; rw [m_u_n (by omega), m_u_n (by omega), m_u_s]
  have tb : ∀ b, m_tk p m k w (44 + b) = w (44 + b) := fun b => by unfold m_tk; rw [m_u_n (by omega), m_u_n (by omega), m_u_n (by omega)]
  obtain ⟨a1, a2, a3, a4, a5⟩ := a_ax0 (p := p) (m := m) (k := k) (show 0 < 3 by omega) t2
  obtain ⟨b1, b2, b3, b4, b5⟩ := a_ax0 (p := p) (m := m) (k := k) (show 1 < 3 by omega) a2
  obtain ⟨c1, c2, c3, c4, c5⟩ := a_ax0 (p := p) (m := m) (k := k) (show 2 < 3 by omega) b2
  refine ⟨_, ?_, c2, ?_, ?_⟩
  · unfold m_ms
    rw [a_sq1 a1, a_sq1 b1, c1]
  · rw [c3, b3, a3, t5]
  · intro b hb
    rcases m_c3 hb with rfl | rfl | rfl
    · rw [c4 0 (by omega) (by omega), b4 0 (by omega) (by omega), a5, tb]
    · rw [c4 1 (by omega) (by omega), b5, a4 1 (by omega) (by omega), tb]
    · rw [c5, b4 2 (by omega) (by omega), a4 2 (by omega) (by omega), tb]
/-- the same but for whole turns of a long -/
def a_cg (x y : Int) : Prop := ∃ c : Int, x = y + c * 18446744073709551616
theorem a_cg_r {x : Int} : a_cg x x := ⟨0, by omega⟩
theorem a_cg_t {x y z : Int} (h1 : a_cg x y) (h2 : a_cg y z) : a_cg x z := by
  obtain ⟨c, hc⟩ := h1; obtain ⟨d, hd⟩ := h2
  exact ⟨c + d, by omega⟩
theorem a_cg_a {x y z : Int} (h : a_cg x y) : a_cg (x + z) (y + z) := by
  obtain ⟨c, hc⟩ := h
  exact ⟨c, by omega⟩
theorem a_cg_w {z : Int} : a_cg (q_w64 z) z := (q_w64_s z).2.2
theorem a_cg_v {x y : Int} (h : a_cg x y) (h1 : -9223372036854775808 ≤ y) (h2 : y < 9223372036854775808) : q_w64 x = y := by
  obtain ⟨c, hc⟩ := h
  obtain ⟨w1, w2, d, hd⟩ := q_w64_s x
  omega
/-- the time of the steps from k on -/
noncomputable def a_ts (p : Nat → Int) (m : Nat) (k : Int) : Nat → Int
  | 0 => 0
  | n + 1 => m_t p m k + a_ts p m (k + 1) n
theorem a_sl0 {p : Nat → Int} {m : Nat} : ∀ (n : Nat) (k : Int) (w : Nat → Int), w 2 = 0 → ∃ w', m_sl p m n k w = (1, w') ∧ w' 2 = 0 ∧ a_cg (w' 5) (w 5 + a_ts p m k n) ∧ ∀ b, b < 3 → (w' (44 + b) = w (44 + b) ∧ m_made p m b (k + n) = m_made p m b k) ∨ w' (44 + b) = m_sg (m_d p m b) := by
  intro n
  induction n with
  | zero =>
    intro k w h2
    refine ⟨w, rfl, h2, ?_, fun b _ => Or.inl ⟨rfl, ?_⟩⟩
    · rw [a_ts, Int.add_zero]; exact a_cg_r
    · rw [show k + ((0 : Nat) : Int) = k by omega]
  | succ n ih =>
    intro k w h2
    obtain ⟨w1, a1, a2, a3, a4⟩ := a_ms0 (p := p) (m := m) (k := k) h2
    obtain ⟨w2, b1, b2, b3, b4⟩ := ih (k + 1) w1 a2
    refine ⟨w2, ?_, b2, ?_, fun b hb => ?_⟩
    · rw [m_sl, a1, if_neg (show ¬ (1 : Int) = 0 by decide), b1]
    · rw [a_ts]
      refine a_cg_t b3 ?_
      have := a_cg_a (z := a_ts p m (k + 1) n) (a_cg_w (z := w 5 + m_t p m k))
      rw [← a3] at this
      rw [show w 5 + (m_t p m k + a_ts p m (k + 1) n) = w 5 + m_t p m k + a_ts p m (k + 1) n by omega]
      exact this
    · have q := a4 b hb
      rcases b4 b hb with ⟨r1, r2⟩ | r
      · by_cases c : m_made p m b (k + 1) = m_made p m b k
        · rw [if_pos c] at q
          refine Or.inl ⟨r1.trans q, ?_⟩
          rw [show k + ((n + 1 : Nat) : Int) = k + 1 + (n : Int) by omega]
          exact r2.trans c
        · rw [if_neg c] at q
          exact Or.inr (r1.trans q)
      · exact Or.inr r
theorem a_upl0 {a : Nat} {d : Int} (ha : a < 3) : ∀ (n : Nat) (w : Nat → Int), w 2 = 0 → ∃ w', m_upl a d n w = (1, w') ∧ w' 2 = 0 ∧ a_cg (w' 5) (w 5 + n * q_ldv 1000000 (w 0)) ∧ (∀ b, b < 3 → b ≠ a → w' (44 + b) = w (44 + b)) ∧ (w' (44 + a) = w (44 + a) ∨ w' (44 + a) = d) := by
  intro n
  induction n with
  | zero =>
    intro w h2
    refine ⟨w, rfl, h2, ?_, fun _ _ _ => rfl, Or.inl rfl⟩
    rw [show w 5 + ((0 : Nat) : Int) * q_ldv 1000000 (w 0) = w 5 by simp]; exact a_cg_r
  | succ n ih =>
    intro w h2
    have k2 : (m_step a d (m_u (m_u w 5 (q_w64 (w 5 + q_ldv 1000000 (w 0)))) (62 + a) (q_w64 (m_u w 5 (q_w64 (w 5 + q_ldv 1000000 (w 0))) (62 + a) + 1)))).2 2 = 0 := by
      rw [m_step_fr ha _ _ 2 (by unfold m_dy; omega), m_u_n (by omega), m_u_n (by omega)]; exact h2
    have k0 : (m_step a d (m_u (m_u w 5 (q_w64 (w 5 + q_ldv 1000000 (w 0)))) (62 + a) (q_w64 (m_u w 5 (q_w64 (w 5 + q_ldv 1000000 (w 0))) (62 + a) + 1)))).2 0 = w 0 := by
      rw [m_step_fr ha _ _ 0 (by unfold m_dy; omega), m_u_n (by omega), m_u_n (by omega)]
    have k5 : (m_step a d (m_u (m_u w 5 (q_w64 (w 5 + q_ldv 1000000 (w 0)))) (62 + a) (q_w64 (m_u w 5 (q_w64 (w 5 + q_ldv 1000000 (w 0))) (62 + a) + 1)))).2 5 = q_w64 (w 5 + q_ldv 1000000 (w 0)) := by
      rw [a_st5 ha, m_u_n (by omega), m_u_s]
    have kb : ∀ b, b < 3 → b ≠ a → (m_step a d (m_u (m_u w 5 (q_w64 (w 5 + q_ldv 1000000 (w 0)))) (62 + a) (q_w64 (m_u w 5 (q_w64 (w 5 + q_ldv 1000000 (w 0))) (62 + a) + 1)))).2 (44 + b) = w (44 + b) := fun b hb hn => by
      rw [a_stb ha hb hn, m_u_n (by omega), m_u_n (by omega)]
    have kd := a_std (a := a) (d := d) (w := m_u (m_u w 5 (q_w64 (w 5 + q_ldv 1000000 (w 0)))) (62 + a) (q_w64 (m_u w 5 (q_w64 (w 5 + q_ldv 1000000 (w 0))) (62 + a) + 1))) ha
    have e : m_upl a d (n + 1) w = m_upl a d n (m_step a d (m_u (m_u w 5 (q_w64 (w 5 + q_ldv 1000000 (w 0)))) (62 + a) (q_w64 (m_u w 5 (q_w64 (w 5 + q_ldv 1000000 (w 0))) (62 + a) + 1)))).2 := by
      rw [m_upl]
      split
      · rfl
      · rw [if_neg (by rw [k2]; decide)]
    rw [e]
    generalize (m_step a d (m_u (m_u w 5 (q_w64 (w 5 + q_ldv 1000000 (w 0)))) (62 + a) (q_w64 (m_u w 5 (q_w64 (w 5 + q_ldv 1000000 (w 0))) (62 + a) + 1)))).2 = w1 at k2 k0 k5 kb kd
    obtain ⟨w', b1, b2, b3, b4, b5⟩ := ih w1 k2
    refine ⟨w', b1, b2, ?_, fun b hb hn => (b4 b hb hn).trans (kb b hb hn), Or.inr ?_⟩
    · rw [k0] at b3
      refine a_cg_t b3 ?_
      have := a_cg_a (z := (n : Int) * q_ldv 1000000 (w 0)) (a_cg_w (z := w 5 + q_ldv 1000000 (w 0)))
      rw [← k5] at this
      have e2 : w 5 + ((n + 1 : Nat) : Int) * q_ldv 1000000 (w 0) = w 5 + q_ldv 1000000 (w 0) + (n : Int) * q_ldv 1000000 (w 0) := by
        rw [m_s1, Int.add_mul]; omega
      rw [e2]; exact this
    · rcases b5 with q | q
      · exact q.trans kd
      · exact q
/-- what the compensation of an axis asks -/
noncomputable def a_up (p w : Nat → Int) (m a : Nat) : Int := if w 1 = 0 then 0 else if m_d p m a = 0 then 0 else if m_sg (m_d p m a) = w (44 + a) then 0 else w (11 + a)
theorem a_up0 {p : Nat → Int} {m a : Nat} {w : Nat → Int} (ha : a < 3) (h2 : w 2 = 0) (h11 : 0 ≤ w (11 + a)) : ∃ w', m_up p m a w = (1, w') ∧ w' 2 = 0 ∧ a_cg (w' 5) (w 5 + a_up p w m a * q_ldv 1000000 (w 0)) ∧ (∀ b, b < 3 → b ≠ a → w' (44 + b) = w (44 + b)) ∧ (w' (44 + a) = w (44 + a) ∨ (m_d p m a ≠ 0 ∧ w' (44 + a) = m_sg (m_d p m a))) ∧ m_fr w w' := by
  have fr := m_up_fr (p := p) (m := m) ha w
  have same : m_up p m a w = (1, w) → a_up p w m a = 0 → ∃ w', m_up p m a w = (1, w') ∧ w' 2 = 0 ∧ a_cg (w' 5) (w 5 + a_up p w m a * q_ldv 1000000 (w 0)) ∧ (∀ b, b < 3 → b ≠ a → w' (44 + b) = w (44 + b)) ∧ (w' (44 + a) = w (44 + a) ∨ (m_d p m a ≠ 0 ∧ w' (44 + a) = m_sg (m_d p m a))) ∧ m_fr w w' := fun h h9 =>
    ⟨w, h, h2, by rw [h9, Int.zero_mul, Int.add_zero]; exact a_cg_r, fun _ _ _ => rfl, Or.inl rfl, m_fr_r⟩
  by_cases c0 : m_sg (m_d p m a) = 0
  · have z := a_sg0.mp c0
    refine same (by unfold m_up; rw [if_pos c0]) ?_
    unfold a_up
    by_cases q : w 1 = 0
    · rw [if_pos q]
    · rw [if_neg q, if_pos z]
  · have z : m_d p m a ≠ 0 := fun h9 => c0 (a_sg0.mpr h9)
    by_cases c1 : m_sg (m_d p m a) = w (44 + a)
    · refine same (by unfold m_up; rw [if_neg c0, if_pos c1]) ?_
      unfold a_up
      by_cases q : w 1 = 0
      · rw [if_pos q]
      · rw [if_neg q, if_neg z, if_pos c1]
    · by_cases c2 : w 1 = 0
      · exact same (by unfold m_up; rw [if_neg c0, if_neg c1, if_pos c2]) (by unfold a_up; rw [if_pos c2])
      · have e : m_up p m a w = m_upl a (m_sg (m_d p m a)) (w (11 + a)).toNat w := by unfold m_up; rw [if_neg c0, if_neg c1, if_neg c2]
        have e2 : a_up p w m a = w (11 + a) := by unfold a_up; rw [if_neg c2, if_neg z, if_neg c1]
        obtain ⟨w', b1, b2, b3, b4, b5⟩ := a_upl0 (d := m_sg (m_d p m a)) ha (w (11 + a)).toNat w h2
        refine ⟨w', e.trans b1, b2, ?_, b4, ?_, ?_⟩
        · rw [e2]
          rw [show (((w (11 + a)).toNat : Nat) : Int) = w (11 + a) by omega] at b3
          exact b3
        · rcases b5 with q | q
          · exact Or.inl q
          · exact Or.inr ⟨z, q⟩
        · rw [e.trans b1] at fr; exact fr
theorem a_rv_o {p : Nat → Int} {m a j : Nat} {w : Nat → Int} (h : j < 71) : m_rv p m a w j = w j := by
  unfold m_rv; (repeat' split) <;> first | rfl | exact m_u_n (by omega)
theorem a_made_0 {p : Nat → Int} (ok : m_ok p) (nn : m_nn p) {m a : Nat} (hm : (m : Int) < p 4) : m_made p m a 0 = 0 := by
  have r := ok.2.1
  have l := m_l_r ok (m := m) (by omega)
  have l1 := m_l_1 ok (m := m) (by omega) (nn m hm)
  unfold m_made
  rw [Int.mul_zero, Int.zero_mul, Int.zero_add, m_idv (by omega) (by omega) (by omega) (by omega)]
  exact Int.ediv_eq_zero_of_lt (by omega) (by omega)
theorem a_made_l {p : Nat → Int} (ok : m_ok p) (nn : m_nn p) {m a : Nat} (hm : (m : Int) < p 4) (ha : a < 3) : m_made p m a (m_l p m) = m_abs (m_d p m a) := by
  have r := ok.2.1
  have l := m_l_r ok (m := m) (by omega)
  have l1 := m_l_1 ok (m := m) (by omega) (nn m hm)
  have d0 := m_abs_0 (m_d p m a)
  have dl : m_abs (m_d p m a) ≤ 2000 := (m_abs_r (k := 2000) (m_d_r ok (m := m) (by omega) ha)).2
  have pr := m_mulr (x := m_l p m) (l := m_abs (m_d p m a)) (a := 2000) (b := 2000) (by omega) (by omega) (by omega) (by omega)
  have e : 2 * m_l p m * m_abs (m_d p m a) + m_l p m = m_l p m + (2 * m_l p m) * m_abs (m_d p m a) := by omega
  have e2 : 2 * m_l p m * m_abs (m_d p m a) = 2 * (m_l p m * m_abs (m_d p m a)) := Int.mul_assoc _ _ _
  unfold m_made
  rw [m_idv (by omega) (by omega) (by omega) (by omega), e, Int.add_mul_ediv_left _ _ (by omega), Int.ediv_eq_zero_of_lt (by omega) (by omega), Int.zero_add]
/-- the time of a move -/
noncomputable def a_tm (p : Nat → Int) (m : Nat) : Int := m_cmp p m * q_ldv 1000000 (p 0) + a_ts p m 0 (m_l p m).toNat
/-- the row stands ahead of the move m of the path p -/
def a_at (p w : Nat → Int) (m : Nat) : Prop := w 2 = 0 ∧ w 0 = p 0 ∧ w 1 = p 1 ∧ (∀ a, a < 3 → w (11 + a) = p (11 + a)) ∧ ∀ a, a < 3 → w (44 + a) = m_dir p a m
theorem a_mm0 {p : Nat → Int} (ok : m_ok p) (nn : m_nn p) {m : Nat} {w : Nat → Int} (hm : (m : Int) < p 4) (H : a_at p w m) : ∃ w', m_mm p m w = (1, w') ∧ a_at p w' (m + 1) ∧ a_cg (w' 5) (w 5 + a_tm p m) := by
  have r := ok.2.1
  have l := m_l_r ok (m := m) (by omega)
  obtain ⟨h2, h0, h1, h11, h44⟩ := H
  have b11 : ∀ a, a < 3 → 0 ≤ w (11 + a) := fun a ha => by rw [h11 a ha]; exact (ok.2.2.1 a ha).2.2.1
  have rv : ∀ j, j < 71 → m_rv p m 2 (m_rv p m 1 (m_rv p m 0 w)) j = w j := fun j hj => by rw [a_rv_o hj, a_rv_o hj, a_rv_o hj]
  unfold m_mm
  have r2 := rv 2 (by omega)
  have r0 := rv 0 (by omega)
  have r1 := rv 1 (by omega)
  have r5 := rv 5 (by omega)
  have r11 : ∀ a, a < 3 → m_rv p m 2 (m_rv p m 1 (m_rv p m 0 w)) (11 + a) = w (11 + a) := fun a ha => rv _ (by omega)
  have r44 : ∀ a, a < 3 → m_rv p m 2 (m_rv p m 1 (m_rv p m 0 w)) (44 + a) = w (44 + a) := fun a ha => rv _ (by omega)
  generalize m_rv p m 2 (m_rv p m 1 (m_rv p m 0 w)) = w0 at r2 r0 r1 r5 r11 r44
  obtain ⟨w1, a1, a2, a3, a4, a5, a6⟩ := a_up0 (p := p) (m := m) (show 0 < 3 by omega) (r2.trans h2) (by rw [r11 0 (by omega)]; exact b11 0 (by omega))
  have a0 := a6 0 (by unfold m_dy; omega)
  have a01 := a6 1 (by unfold m_dy; omega)
  have a11 : ∀ a, a < 3 → w1 (11 + a) = w (11 + a) := fun a ha => (a6 (11 + a) (by unfold m_dy; omega)).trans (r11 a ha)
  obtain ⟨w2, b1, b2, b3, b4, b5, b6⟩ := a_up0 (p := p) (m := m) (show 1 < 3 by omega) a2 (by rw [a11 1 (by omega)]; exact b11 1 (by omega))
  have b0 := b6 0 (by unfold m_dy; omega)
  have b01 := b6 1 (by unfold m_dy; omega)
  have c11 : ∀ a, a < 3 → w2 (11 + a) = w (11 + a) := fun a ha => (b6 (11 + a) (by unfold m_dy; omega)).trans (a11 a ha)
  obtain ⟨w3, c1, c2, c3, c4, c5, c6⟩ := a_up0 (p := p) (m := m) (show 2 < 3 by omega) b2 (by rw [c11 2 (by omega)]; exact b11 2 (by omega))
  obtain ⟨w4, d1, d2, d3, d4⟩ := a_sl0 (p := p) (m := m) (m_l p m).toNat 0 w3 c2
  have fs := m_sl_fr (p := p) (m := m) (m_l p m).toNat 0 w3
  rw [d1] at fs
  have fs : m_fr w3 w4 := fs
  have q0 : w4 0 = p 0 := by rw [fs 0 (by unfold m_dy; omega), c6 0 (by unfold m_dy; omega), b0, a0, r0, h0]
  have q1 : w4 1 = p 1 := by rw [fs 1 (by unfold m_dy; omega), c6 1 (by unfold m_dy; omega), b01, a01, r1, h1]
  have q11 : ∀ a, a < 3 → w4 (11 + a) = p (11 + a) := fun a ha => by rw [fs (11 + a) (by unfold m_dy; omega), c6 (11 + a) (by unfold m_dy; omega), c11 a ha, h11 a ha]
  -- the directions
  have dir : ∀ a, a < 3 → (w3 (44 + a) = m_dir p a m ∨ (m_d p m a ≠ 0 ∧ w3 (44 + a) = m_sg (m_d p m a))) → w4 (44 + a) = m_dir p a (m + 1) := fun a ha h9 => by
    rw [m_dir]
    by_cases z : m_d p m a = 0
    · rw [if_pos z]
      have e3 : w3 (44 + a) = m_dir p a m := by
        rcases h9 with q | ⟨q, -⟩
        · exact q
        · exact absurd z q
      rcases d4 a ha with ⟨q, -⟩ | q
      · exact q.trans e3
      · -- a still axis makes no step
        have st : ∀ (n : Nat) (k : Int) (u : Nat → Int), 0 ≤ k → k + n ≤ m_l p m → u 2 = 0 → ∀ u', m_sl p m n k u = (1, u') → u' (44 + a) = u (44 + a) := by
          intro n
          induction n with
          | zero => intro k u _ _ _ u' hu; have := congrArg Prod.snd hu; rw [← show u = u' from this]
          | succ n ih =>
            intro k u k0 k1 u2 u' hu
            obtain ⟨v, v1, v2, -, v4⟩ := a_ms0 (p := p) (m := m) (k := k) u2
            rw [m_sl, v1, if_neg (show ¬ (1 : Int) = 0 by decide)] at hu
            rw [ih (k + 1) v (by omega) (by omega) v2 u' hu, v4 a ha, if_pos (by rw [a_made0 ok nn hm z, a_made0 ok nn hm z])]
        exact (st (m_l p m).toNat 0 w3 (by omega) (by omega) c2 w4 d1).trans e3
    · rw [if_neg z]
      rcases d4 a ha with ⟨-, q⟩ | q
      · exfalso
        rw [show (0 : Int) + ((m_l p m).toNat : Int) = m_l p m by omega, a_made_l ok nn hm ha, a_made_0 ok nn hm] at q
        exact z (m_abs_z.mp q)
      · exact q
  have e0 : w1 (44 + 0) = m_dir p 0 m ∨ (m_d p m 0 ≠ 0 ∧ w1 (44 + 0) = m_sg (m_d p m 0)) := by
    rcases a5 with q | q
    · exact Or.inl (q.trans ((r44 0 (by omega)).trans (h44 0 (by omega))))
    · exact Or.inr q
  have e1 : w1 (44 + 1) = m_dir p 1 m := (a4 1 (by omega) (by omega)).trans ((r44 1 (by omega)).trans (h44 1 (by omega)))
  have e1' : w2 (44 + 1) = m_dir p 1 m ∨ (m_d p m 1 ≠ 0 ∧ w2 (44 + 1) = m_sg (m_d p m 1)) := by
    rcases b5 with q | q
    · exact Or.inl (q.trans e1)
    · exact Or.inr q
  have e2 : w2 (44 + 2) = m_dir p 2 m := (b4 2 (by omega) (by omega)).trans ((a4 2 (by omega) (by omega)).trans ((r44 2 (by omega)).trans (h44 2 (by omega))))
  have e2' : w3 (44 + 2) = m_dir p 2 m ∨ (m_d p m 2 ≠ 0 ∧ w3 (44 + 2) = m_sg (m_d p m 2)) := by
    rcases c5 with q | q
    · exact Or.inl (q.trans e2)
    · exact Or.inr q
  have x0 : w3 (44 + 0) = w1 (44 + 0) := (c4 0 (by omega) (by omega)).trans (b4 0 (by omega) (by omega))
  have x1 : w3 (44 + 1) = w2 (44 + 1) := c4 1 (by omega) (by omega)
  refine ⟨w4, ?_, ⟨d2, q0, q1, q11, fun a ha => ?_⟩, ?_⟩
  · rw [a_sq1 a1, a_sq1 b1, a_sq1 c1, d1]
  · rcases m_c3 ha with rfl | rfl | rfl
    · exact dir 0 (by omega) (by rw [x0]; exact e0)
    · exact dir 1 (by omega) (by rw [x1]; exact e1')
    · exact dir 2 (by omega) e2'
  · -- the time
    have up : ∀ (a : Nat) (u : Nat → Int), a < 3 → u 1 = p 1 → u (11 + a) = p (11 + a) → u (44 + a) = m_dir p a m → a_up p u m a = if p 1 = 0 then 0 else m_st p m a := fun a u ha u1 u11 u44 => by
      unfold a_up m_st m_tn
      rw [u1, u11, u44, m_dir]
      by_cases c : p 1 = 0
      · rw [if_pos c, if_pos c]
      · rw [if_neg c, if_neg c]
        by_cases z : m_d p m a = 0
        · rw [if_pos z, if_pos z]
        · rw [if_neg z, if_neg z, if_neg z]
          by_cases q : m_sg (m_d p m a) = m_dir p a m
          · rw [if_pos q, if_pos q, if_pos rfl]
          · rw [if_neg q, if_neg q, if_neg (by decide)]
    rw [up 0 w0 (by omega) (r1.trans h1) ((r11 0 (by omega)).trans (h11 0 (by omega))) ((r44 0 (by omega)).trans (h44 0 (by omega))), r0, h0, r5] at a3
    rw [up 1 w1 (by omega) (a01.trans (r1.trans h1)) ((a11 1 (by omega)).trans (h11 1 (by omega))) e1, a0, r0, h0] at b3
    rw [up 2 w2 (by omega) (b01.trans (a01.trans (r1.trans h1))) ((c11 2 (by omega)).trans (h11 2 (by omega))) e2, b0, a0, r0, h0] at c3
    have f1 := a_cg_t b3 (a_cg_a a3)
    have f2 := a_cg_t c3 (a_cg_a f1)
    have f3 := a_cg_t d3 (a_cg_a f2)
    have e9 : w 5 + a_tm p m = w 5 + (if p 1 = 0 then 0 else m_st p m 0) * q_ldv 1000000 (p 0) + (if p 1 = 0 then 0 else m_st p m 1) * q_ldv 1000000 (p 0) + (if p 1 = 0 then 0 else m_st p m 2) * q_ldv 1000000 (p 0) + a_ts p m 0 (m_l p m).toNat := by
      unfold a_tm m_cmp
      split
      · omega
      · rw [Int.add_mul, Int.add_mul]; omega
    rw [e9]; exact f3
/-- the time of the moves from m on -/
noncomputable def a_TT (p : Nat → Int) (m : Nat) : Nat → Int
  | 0 => 0
  | d + 1 => a_tm p m + a_TT p (m + 1) d
theorem a_co_o {m j : Nat} {w : Nat → Int} (h : j < 47 ∨ 50 ≤ j) : m_co m w j = w j := by
  unfold m_co; rw [m_u_n (by omega), m_u_n (by omega), m_u_n (by omega)]
theorem a_fin_o {n j : Nat} {w : Nat → Int} (h : j < 74) (h4 : j ≠ 4) : m_fin n w j = w j := by
  unfold m_fin; rw [m_u_n h4]; unfold m_cp; rw [if_neg (by omega)]
theorem a_mk0 {p : Nat → Int} (ok : m_ok p) (nn : m_nn p) {n : Nat} (hn : (n : Int) ≤ p 4) : ∀ (d m : Nat) (w : Nat → Int), m + d = n → a_at p w m → ∃ w', m_mk p n d m w = ((n : Int), w') ∧ w' 2 = 0 ∧ a_cg (w' 5) (w 5 + a_TT p m d) := by
  intro d
  induction d with
  | zero =>
    intro m w hm H
    refine ⟨m_fin n w, rfl, ?_, ?_⟩
    · rw [a_fin_o (by omega) (by omega)]; exact H.1
    · rw [a_fin_o (by omega) (by omega), a_TT, Int.add_zero]; exact a_cg_r
  | succ d ih =>
    intro m w hm H
    obtain ⟨w1, a1, a2, a3⟩ := a_mm0 ok nn (m := m) (by omega) H
    have at2 : a_at p (m_co m w1) (m + 1) := by
      obtain ⟨x1, x2, x3, x4, x5⟩ := a2
      exact ⟨(a_co_o (by omega)).trans x1, (a_co_o (by omega)).trans x2, (a_co_o (by omega)).trans x3, fun a ha => (a_co_o (by omega)).trans (x4 a ha), fun a ha => (a_co_o (by omega)).trans (x5 a ha)⟩
    obtain ⟨w', b1, b2, b3⟩ := ih (m + 1) (m_co m w1) (by omega) at2
    refine ⟨w', ?_, b2, ?_⟩
    · rw [m_mk, a1, if_neg (show ¬ (1 : Int) = 0 by decide)]; exact b1
    · rw [a_co_o (by omega)] at b3
      rw [a_TT]
      have := a_cg_t b3 (a_cg_a a3)
      rw [show w 5 + (a_tm p m + a_TT p (m + 1) d) = w 5 + a_tm p m + a_TT p (m + 1) d by omega]
      exact this
/-- how large the time may be -/
theorem a_ldv_r {z : Int} (h : 1 ≤ z) (h2 : z ≤ 5000) : 0 ≤ q_ldv 1000000 z ∧ q_ldv 1000000 z ≤ 1000000 := by
  rw [m_ldv (by omega) (by omega) (by omega) (by omega)]
  exact ⟨Int.ediv_nonneg (by omega) (by omega), Int.ediv_le_self _ (by omega)⟩
theorem a_ts_r {p : Nat → Int} (ok : m_ok p) (nn : m_nn p) {m : Nat} (hm : (m : Int) < p 4) : ∀ (n : Nat) (k : Int), 0 ≤ k → k + n ≤ m_l p m → 0 ≤ a_ts p m k n ∧ a_ts p m k n ≤ 1000000 * n := by
  intro n
  induction n with
  | zero => intro k _ _; rw [a_ts]; omega
  | succ n ih =>
    intro k h0 h1
    have i := ih (k + 1) (by omega) (by omega)
    have s := m_sp_r ok nn (k := k) hm h0 (by omega)
    have t := a_ldv_r s.1 s.2
    have e : m_t p m k = q_ldv 1000000 (m_sp p m k) := rfl
    rw [a_ts]; omega
theorem a_tm_r {p : Nat → Int} (ok : m_ok p) (nn : m_nn p) {m : Nat} (hm : (m : Int) < p 4) : 0 ≤ a_tm p m ∧ a_tm p m ≤ 2060000000 := by
  have r := ok.2.1
  have l := m_l_r ok (m := m) (by omega)
  have s := a_ts_r ok nn hm (m_l p m).toNat 0 (by omega) (by omega)
  have z0 := ok.1
  have t := a_ldv_r (z := p 0) (by omega) (by omega)
  have s0 := m_st_r ok (m := m) (show 0 < 3 by omega)
  have s1 := m_st_r ok (m := m) (show 1 < 3 by omega)
  have s2 := m_st_r ok (m := m) (show 2 < 3 by omega)
  have c : 0 ≤ m_cmp p m ∧ m_cmp p m ≤ 60 := by unfold m_cmp; split <;> omega
  have pr := m_mulr (x := m_cmp p m) (l := q_ldv 1000000 (p 0)) (a := 60) (b := 1000000) c.1 c.2 t.1 t.2
  unfold a_tm; omega
theorem a_TT_r {p : Nat → Int} (ok : m_ok p) (nn : m_nn p) : ∀ (d m : Nat), (m : Int) + d ≤ p 4 → 0 ≤ a_TT p m d ∧ a_TT p m d ≤ 2060000000 * d := by
  intro d
  induction d with
  | zero => intro m _; rw [a_TT]; omega
  | succ d ih =>
    intro m h
    have i := ih (m + 1) (by omega)
    have t := a_tm_r ok nn (m := m) (by omega)
    rw [a_TT]; omega
end -- [98zzc.ans]
section -- [98zzd.ans]
/-! Part 98zzd: what is gone through in thought, on both sides; trueBehind, wouldErr, wouldLose. -/
theorem a_beg2 {p : Nat → Int} {v : Int} : m_beg (m_u p 2 v) = m_beg p := by
  funext m a; unfold m_beg; split <;> exact m_u_n (by omega)
theorem a_d2 {p : Nat → Int} {v : Int} : m_d (m_u p 2 v) = m_d p := by
  funext m a; unfold m_d; rw [a_beg2]
theorem a_l2 {p : Nat → Int} {v : Int} : m_l (m_u p 2 v) = m_l p := by
  funext m; unfold m_l; rw [a_d2]
theorem a_cf2 {p : Nat → Int} {v : Int} {k : Nat} (hk : 3 ≤ k) : m_cf (m_u p 2 v) k = m_cf p k := by
  funext m a c; unfold m_cf; rw [a_d2, a_l2, m_u_n (show k + a ≠ 2 by omega)]
theorem a_c2 {p : Nat → Int} {v : Int} {k : Nat} (hk : 3 ≤ k) : m_c (m_u p 2 v) k = m_c p k := by
  funext m; unfold m_c; rw [a_cf2 hk]
theorem a_str2 {p : Nat → Int} {v : Int} : m_str (m_u p 2 v) = m_str p := by
  funext m; unfold m_str; rw [a_d2, a_l2, m_u_n (show 4 ≠ 2 by decide)]
theorem a_b02 {p : Nat → Int} {v : Int} : m_b0 (m_u p 2 v) = m_b0 p := by
  funext m; unfold m_b0; rw [a_c2 (by omega), a_str2, m_u_n (show 0 ≠ 2 by decide), m_u_n (show 4 ≠ 2 by decide)]
theorem a_b1r2 {p : Nat → Int} {v : Int} {n : Nat} : ∀ d, m_b1r (m_u p 2 v) n d = m_b1r p n d := by
  intro d
  induction d with
  | zero => rw [m_b1r, m_b1r, a_b02]
  | succ d ih => rw [m_b1r, m_b1r, ih, a_b02, a_c2 (by omega), a_l2]
theorem a_b12 {p : Nat → Int} {v : Int} : m_b1 (m_u p 2 v) = m_b1 p := by
  funext m; unfold m_b1; rw [m_u_n (show 4 ≠ 2 by decide), a_b1r2]
theorem a_b2 {p : Nat → Int} {v : Int} : ∀ m, m_b (m_u p 2 v) m = m_b p m := by
  intro m
  induction m with
  | zero => rw [m_b, m_b, a_b12]
  | succ m ih => rw [m_b, m_b, ih, a_b12, a_c2 (by omega), a_l2]
theorem a_sp2 {p : Nat → Int} {v : Int} : m_sp (m_u p 2 v) = m_sp p := by
  funext m k; unfold m_sp; rw [a_c2 (k := 14) (by omega), a_c2 (k := 17) (by omega), a_b2, a_b2, a_l2]
theorem a_t2 {p : Nat → Int} {v : Int} : m_t (m_u p 2 v) = m_t p := by
  funext m k; unfold m_t; rw [a_sp2]
theorem a_made2 {p : Nat → Int} {v : Int} : m_made (m_u p 2 v) = m_made p := by
  funext m a k; unfold m_made; rw [a_d2, a_l2]
theorem a_ax2 {p : Nat → Int} {v : Int} : m_ax (m_u p 2 v) = m_ax p := by
  funext m k a w; unfold m_ax; rw [a_made2, a_d2]
theorem a_tk2 {p : Nat → Int} {v : Int} : m_tk (m_u p 2 v) = m_tk p := by
  funext m k w; unfold m_tk; rw [a_t2]
theorem a_ms2 {p : Nat → Int} {v : Int} : m_ms (m_u p 2 v) = m_ms p := by
  funext m k w; unfold m_ms; rw [a_ax2, a_tk2]
theorem a_rv2 {p : Nat → Int} {v : Int} : m_rv (m_u p 2 v) = m_rv p := by
  funext m a w; unfold m_rv; rw [a_d2]
theorem a_up2 {p : Nat → Int} {v : Int} : m_up (m_u p 2 v) = m_up p := by
  funext m a w; unfold m_up; rw [a_d2]
theorem a_sl2 {p : Nat → Int} {v : Int} : m_sl (m_u p 2 v) = m_sl p := by
  funext m n
  induction n with
  | zero => funext k w; rw [m_sl, m_sl]
  | succ n ih => funext k w; rw [m_sl, m_sl, ih, a_ms2]
theorem a_mm2 {p : Nat → Int} {v : Int} : m_mm (m_u p 2 v) = m_mm p := by
  funext m w; unfold m_mm; rw [a_up2, a_rv2, a_l2, a_sl2]
theorem a_mk2 {p : Nat → Int} {v : Int} {n : Nat} : m_mk (m_u p 2 v) n = m_mk p n := by
  funext d
  induction d with
  | zero => funext m w; rw [m_mk, m_mk]
  | succ d ih => funext m w; rw [m_mk, m_mk, ih, a_mm2]
theorem a_at0 {p : Nat → Int} : a_at p (m_u p 2 0) 0 :=
  ⟨m_u_s _ _ _, m_u_n (by omega), m_u_n (by omega), fun a ha => m_u_n (by omega), fun a ha => by rw [m_dir]; exact m_u_n (by omega)⟩
/-- the first moves made in thought: the reference -/
theorem a_think {g : q_F} {S : m_St} {n : Nat} (hA : r_A g S S.w) (hm : m_I S) (hn : (n : Int) ≤ S.w 4) : ∃ g' w', m_mk S.w n n 0 (m_u S.w 2 0) = ((n : Int), w') ∧ fn351 n g = some (a_TT S.w 0 n, g') ∧ r_A g' S w' ∧ g' 139 7 = g 139 7 := by
  have ok := m_R0_ok hm.1.1
  have nn := hm.1.2
  have ok1 : m_ok (m_u S.w 2 0) := m_u_ok ok (by omega)
  have nn1 : m_nn (m_u S.w 2 0) := m_nn_u nn (by omega)
  obtain ⟨w', x1, x2, x3⟩ := a_mk0 ok nn hn n 0 (m_u S.w 2 0) (by omega) a_at0
  obtain ⟨A1, F1⟩ := r_A_sr (u' := m_u S.w 2 0) hA (fun j hj => m_u_n (by omega))
  obtain ⟨h', b1, b2, b3⟩ := fn287_m A1.1 ok1 nn1 (n := n) (by rw [m_u_n (by omega)]; exact hn)
  have e : m_run n (m_u S.w 2 0) = ((n : Int), w') := by unfold m_run; rw [a_mk2]; exact x1
  rw [e] at b1 b2
  obtain ⟨A2, F2⟩ := r_A_fq (u' := w') A1 b3 b2 (fun j hj => by have := m_run_hi (w := m_u S.w 2 0) (n := n) ok1.2.1 hj; rw [e] at this; exact this)
  have T := a_TT_r ok nn n 0 (by omega)
  have r := ok.2.1
  refine ⟨h', w', x1, ?_, A2, ?_⟩
  · have v : q_w64 (w' 5 - S.w 5) = a_TT S.w 0 n := by
      refine a_cg_v ?_ (by omega) (by omega)
      obtain ⟨c, hc⟩ := x3
      rw [m_u_n (by omega)] at hc
      exact ⟨c, by omega⟩
    unfold fn351
    rw [m_let, m_ud_sr, hA.1, b1, Option.bind_some]
    dsimp only
    rw [if_pos rfl, b2, m_sr_s, m_u_n (show 5 ≠ 2 by decide), v]
  · rw [b3 139 (by omega) (by omega), m_sr_n (by omega)]
theorem a_A_b {h : q_F} {S : m_St} (hI : r_I h S) : ∃ g, fn241 h = some (0, g) ∧ r_A g S S.w ∧ g 139 7 = h 139 7 := by
  obtain ⟨g, a1, a2, a3⟩ := r_A_b hI
  have e : g = m_sr h 142 (m_cp (h 140) (h 142) 0 0 122) := congrArg Prod.snd (a_i a1 r_begins)
  exact ⟨g, a1, a2, by rw [e, m_sr_n (by omega)]⟩
theorem a_A_e {g : q_F} {S : m_St} {u : Nat → Int} (hA : r_A g S u) : ∃ g', fn253 g = some (0, g') ∧ r_I g' S ∧ g' 139 7 = g 139 7 := by
  obtain ⟨g', a1, a2, a3⟩ := r_A_e hA
  have e : g' = m_sr g 140 S.w := congrArg Prod.snd (a_i a1 (r_ends (w := S.w) hA.2.1 (fun j hj => by rw [hA.1]; exact hA.2.2.1 j hj)))
  exact ⟨g', a1, a2, by rw [e, m_sr_n (by omega)]⟩
/-- the first moves made in thought: the class -/
theorem a_fore {h : q_F} {S : m_St} (hI : c_I h S) (hm : m_I S) : ∃ h' w', m_mk S.w (S.w 4).toNat (S.w 4).toNat 0 (m_u S.w 2 0) = (((S.w 4).toNat : Int), w') ∧ fn179 h = some (0, h') ∧ c_tb h' 24 w' ∧ m_a3 w' ∧ c_I h' S := by
  have ok := m_R0_ok hm.1.1
  have r := ok.2.1
  obtain ⟨w', y1, y2, y3⟩ := a_mk0 ok hm.1.2 (n := (S.w 4).toNat) (by omega) (S.w 4).toNat 0 (m_u S.w 2 0) (by omega) a_at0
  obtain ⟨h1, a1, a2, a3⟩ := c_copy (t := 24) (t1 := 6) (by omega) hI.1 r
  have f2 : c_ft 24 h (q_ud h1 24 6 0) := c_ft_u a3 (by omega) (by omega)
  have tb : c_tb (q_ud h1 24 6 0) 24 (m_u S.w 2 0) := c_tb_u (j := 6) (by omega) a2
  have I2 := c_I_24 hI hm.2.1.1 f2
  obtain ⟨h3, b1, b2, b3, b4⟩ := c_planned I2 hm
  have tb3 : c_tb h3 24 (m_u S.w 2 0) := c_tb_k tb fun k k1 k2 => b3 k (by omega)
  have e4 : h3 13 1 = S.w 4 := b4.1.2.2.1
  obtain ⟨h4, d1, d2, d3, d4⟩ := c_mk (t := 24) (n := (S.w 4).toNat) (p := S.w) (by omega) ok hm.1.2 (by omega) (S.w 4).toNat 0 q_fu h3 (m_u S.w 2 0) (by omega) (by have := q_fu_ge; omega) ⟨tb3, b2, m_a3_u hm.1.1.2 (by omega), ⟨m_ok_row (m_u_ok ok (by omega)), m_u_n (by omega)⟩, Or.inl (m_u_s _ _ _)⟩ ⟨by rw [m_u_n (by omega)]; exact ok.1, fun a ha => by rw [m_u_n (by omega)]; unfold m_beg; rw [if_pos rfl], fun j hj => m_u_n (by omega)⟩
  rw [y1] at d1 d2 d4
  refine ⟨h4, w', y1, ?_, d2, d4, c_I_24 b4 hm.2.1.1 d3⟩
  rw [fn179, a1, Option.bind_some, m_let, b1, Option.bind_some]
  dsimp only
  rw [e4, show S.w 4 = ((S.w 4).toNat : Int) by omega]
  have d5 : fn138 24 ((S.w 4).toNat : Int) h3 = some (((S.w 4).toNat : Int), h4) := d1
  rw [d5, Option.bind_some]
/-- the whole queue in thought, on both sides -/
theorem a_thought {h h1 : q_F} {S : m_St} (hI : c_I h S) (hR : r_I h1 S) (hm : m_I S) : ∃ h' g1 g2 w' T, fn179 h = some (0, h') ∧ c_tb h' 24 w' ∧ m_a3 w' ∧ fn241 h1 = some (0, g1) ∧ fn303 4 g1 = some (S.w 4) ∧ fn351 (S.w 4) g1 = some (T, g2) ∧ 0 ≤ T ∧ r_A g2 S w' ∧ g2 139 7 = h1 139 7 := by
  have ok := m_R0_ok hm.1.1
  have r := ok.2.1
  obtain ⟨h', w', a1, a2, a3, a4, -⟩ := a_fore hI hm
  obtain ⟨g1, b1, b2, b3⟩ := a_A_b hR
  obtain ⟨g2, w2, d1, d2, d3, d4⟩ := a_think (n := (S.w 4).toNat) b2 hm (by omega)
  have ew : w2 = w' := congrArg Prod.snd (d1.symm.trans a1)
  rw [ew] at d3
  have T := a_TT_r ok hm.1.2 (S.w 4).toNat 0 (by omega)
  refine ⟨h', g1, g2, w', a_TT S.w 0 (S.w 4).toNat, a2, a3, a4, b1, r_of4 b2.1 r, ?_, T.1, d3, d4.trans b3⟩
  rw [show ((S.w 4).toNat : Int) = S.w 4 by omega] at d2
  exact d2
theorem a_rA {g : q_F} {S : m_St} {u : Nat → Int} {j : Nat} {z : Int} (hA : r_A g S u) (hj : j < 122) (hz : z = (j : Int)) (hb : -2147483648 ≤ u j ∧ u j < 2147483648) : fn303 z g = some (u j) := by
  subst hz
  exact r_of (by omega) (by omega) (by rw [Int.toNat_natCast, hA.1]) hb
theorem a_p42 {a : Int} {h h1 h2 : q_F} {S S1 : m_St} {v1 v2 : Int} (J : j_T S S h) (J1 : j_T S1 S h1) (e1 : fn35 a h = some (v1, h1)) (e2 : fn357 a h1 = some (v2, h2)) : a_Q h2 v1 v2 := by
  have hm := J1.2.1.1
  have f := (a_F (r_trueB J1.2.1.2 hm) e2).1 153 (by omega)
  have g0 := a_g0 J1.2.1.2
  unfold fn357 at e2
  unfold fn35 fn225 at e1
  rw [a_298, Option.bind_some] at e2
  rw [c_axis, Option.bind_some] at e1
  dsimp only at e1 e2
  by_cases c : 0 ≤ a ∧ a ≤ 2
  · obtain ⟨n, hn, rfl⟩ := m_ax_n c
    obtain ⟨h', g1, g2, w', T, x1, x2, x3, y1, y2, y3, T0, y4, y5⟩ := a_thought J.1.2 g0 hm
    have b := (m_a3_i x3 hn).2.1
    have x6 : h' (q_axn 24 (n : Int)) 6 = w' (26 + n) := by rw [q_axn_e hn]; exact (x2.1 n hn).1 6 (by omega)
    obtain ⟨g3, z1, z2, z3⟩ := a_A_e y4
    rw [if_pos c, if_pos rfl, x1, Option.bind_some, Option.bind_some] at e1
    dsimp only at e1
    rw [if_pos rfl, m_let, x6] at e1
    rw [if_pos c, if_pos c, if_pos rfl, y1, Option.bind_some] at e2
    dsimp only at e2
    rw [y2, Option.bind_some, y3, Option.bind_some] at e2
    dsimp only at e2
    rw [if_pos T0, q_w32_id (z := 26 + (n : Int)) (by omega) (by omega), a_rA (j := 26 + n) y4 (by omega) (by omega) (by omega), Option.bind_some, fn357_42, z1, Option.bind_some] at e2
    exact a_ok e1 e2 (z3.trans (y5.trans (q_ud_s _ _ _ _))) f
  · rw [if_neg c, if_neg (show ¬ (3 : Nat) = 0 by decide), if_pos rfl, Option.bind_some] at e1
    dsimp only at e1
    rw [if_neg (show ¬ (3 : Nat) = 1 by decide), if_pos rfl] at e1
    rw [if_neg c, if_neg c, if_neg (show ¬ (1 : Int) = 0 by decide)] at e2
    exact a_er e1 e2 (q_ud_s _ _ _ _) (by decide)
theorem a_tb26 {h : q_F} {t a : Nat} {w : Nat → Int} (hc : c_tb h t w) (ha : a < 3) : h (q_axn t (a : Int)) 6 = w (26 + a) ∧ h (q_axn t (a : Int)) 12 = w (47 + a) ∧ h (q_axn t (a : Int)) 13 = w (50 + a) := by
  rw [q_axn_e ha]
  exact ⟨(hc.1 a ha).1 6 (by omega), (hc.1 a ha).1 12 (by omega), (hc.1 a ha).1 13 (by omega)⟩
end -- [98zzd.ans]
section -- [98zzf.ans]
/-! Part 98zzf: the class's times; queueTime, lastsUntil. -/
theorem a_t_q {p : Nat → Int} (ok : m_ok p) (nn : m_nn p) {m : Nat} {k : Int} (hm : (m : Int) < p 4) (h0 : 0 ≤ k) (h1 : k < m_l p m) : q_idv 1000000 (m_sp p m k) = m_t p m k ∧ 0 ≤ m_t p m k ∧ m_t p m k ≤ 1000000 := by
  have s := m_sp_r ok nn hm h0 h1
  have t := a_ldv_r s.1 s.2
  have e : m_t p m k = q_ldv 1000000 (m_sp p m k) := rfl
  exact ⟨by rw [e, m_idv (by omega) (by omega) (by omega) (by omega), m_ldv (by omega) (by omega) (by omega) (by omega)], by omega, by omega⟩
theorem a_95 {g : q_F} {p : Nat → Int} (ok : m_ok p) (nn : m_nn p) (P : c_Plan g p) {m : Nat} {k : Int} (hm : (m : Int) < p 4) (h0 : 0 ≤ k) (h1 : k < m_l p m) : fn95 m k g = some (m_t p m k) := by
  have s := m_sp_r ok nn hm h0 h1
  rw [fn95, c_sp ok nn P hm h0 h1, Option.bind_some, c_quo (by omega), Option.bind_some, (a_t_q ok nn hm h0 h1).1]
theorem a_ts_s {p : Nat → Int} {m : Nat} : ∀ (n : Nat) (k : Int), a_ts p m k (n + 1) = a_ts p m k n + m_t p m (k + n) := by
  intro n
  induction n with
  | zero => intro k; rw [a_ts, a_ts, a_ts, show k + ((0 : Nat) : Int) = k by omega]; omega
  | succ n ih => intro k; rw [a_ts, ih (k + 1), a_ts, show k + 1 + (n : Int) = k + ((n + 1 : Nat) : Int) by omega]; omega
/-- between two steps at the cruise's speed all go at it -/
theorem a_cru {p : Nat → Int} (ok : m_ok p) (nn : m_nn p) {m : Nat} {a b k : Int} (hm : (m : Int) < p 4) (h1 : a ≤ k) (h2 : k ≤ b) (ha : m_c p 14 m ≤ m_sp p m a) (hb : m_c p 14 m ≤ m_sp p m b) : m_sp p m k = m_c p 14 m := by
  have r := ok.2.1
  have g := m_gain_r ok (m := m) (by omega) (nn m hm)
  have m1 : m_c p 17 m * a ≤ m_c p 17 m * k := Int.mul_le_mul_of_nonneg_left h1 (by omega)
  have m2 : m_c p 17 m * (m_l p m - 1 - b) ≤ m_c p 17 m * (m_l p m - 1 - k) := Int.mul_le_mul_of_nonneg_left (by omega) (by omega)
  unfold m_sp qx_mn at ha hb ⊢
  revert ha hb
  generalize m_c p 17 m * a = A at *
  generalize m_c p 17 m * k = K at *
  generalize m_c p 17 m * (m_l p m - 1 - b) = B at *
  generalize m_c p 17 m * (m_l p m - 1 - k) = L at *
  generalize m_c p 17 m * b = B2 at *
  generalize m_c p 17 m * (m_l p m - 1 - a) = A2 at *
  intro ha hb
  (repeat' split at ha) <;> (repeat' split at hb) <;> (repeat' split) <;> omega
theorem a_ts_c {p : Nat → Int} {m : Nat} {C : Int} : ∀ (n : Nat) (k : Int), (∀ i : Int, k ≤ i → i < k + n → m_sp p m i = C) → a_ts p m k n = n * q_ldv 1000000 C := by
  intro n
  induction n with
  | zero => intro k _; rw [a_ts, show ((0 : Nat) : Int) = 0 from rfl, Int.zero_mul]
  | succ n ih =>
    intro k h
    have e : m_t p m k = q_ldv 1000000 (m_sp p m k) := rfl
    rw [a_ts, ih (k + 1) (fun i h1 h2 => h i (by omega) (by omega)), e, h k (by omega) (by omega), m_s1, Int.add_mul]; omega
theorem a_99 {g : q_F} {C t u6 u7 : Int} (hC : 1 ≤ C ∧ C ≤ 5000) (hu : 0 ≤ u7 - u6 ∧ u7 - u6 ≤ 2000) (ht : 0 ≤ t ∧ t ≤ 2000000000) : fn96_99 C t u6 u7 g = some (t + (u7 - u6) * q_ldv 1000000 C) := by
  have q := a_ldv_r hC.1 hC.2
  have e : q_idv 1000000 C = q_ldv 1000000 C := by rw [m_idv (by omega) (by omega) (by omega) (by omega), m_ldv (by omega) (by omega) (by omega) (by omega)]
  have pr := m_mulr (x := u7 - u6) (l := q_ldv 1000000 C) (a := 2000) (b := 1000000) hu.1 hu.2 q.1 q.2
  rw [fn96_99, c_quo (by omega), Option.bind_some, e, q_w32_id (by omega) (by omega), q_w64_id (z := (u7 - u6) * q_ldv 1000000 C) (by omega) (by omega), q_w64_id (by omega) (by omega)]
theorem a_60 {g : q_F} {p : Nat → Int} (ok : m_ok p) (nn : m_nn p) (P : c_Plan g p) {m a : Nat} (hm : (m : Int) < p 4) (ha : (a : Int) < m_l p m → m_c p 14 m ≤ m_sp p m a) : ∀ (e f : Nat) (t : Int), e < f → (a : Int) + e ≤ m_l p m → 0 ≤ t → t + 1000000 * e ≤ 2000000000 → fn96_60 g f m (m_c p 14 m) t a ((a + e : Nat) : Int) = some (t + a_ts p m a e) := by
  have r := ok.2.1
  have l := m_l_r ok (m := m) (by omega)
  have C := m_cru_r ok (m := m) (by omega) (nn m hm)
  intro e
  induction e with
  | zero =>
    intro f t hf hl t0 t1
    obtain ⟨f, rfl⟩ : ∃ f', f = f' + 1 := ⟨f - 1, by omega⟩
    rw [fn96_60, if_pos (by omega), a_99 C (by omega) (by omega), a_ts, show ((a + 0 : Nat) : Int) - (a : Int) = 0 by omega, Int.zero_mul]
  | succ e ih =>
    intro f t hf hl t0 t1
    obtain ⟨f, rfl⟩ : ∃ f', f = f' + 1 := ⟨f - 1, by omega⟩
    have hk : ((a + (e + 1) : Nat) : Int) - 1 = ((a + e : Nat) : Int) := by omega
    have hk2 : ((a + (e + 1) : Nat) : Int) + -1 = ((a + e : Nat) : Int) := by omega
    have tt := a_t_q ok nn (k := ((a + e : Nat) : Int)) hm (by omega) (by omega)
    rw [fn96_60, if_neg (by omega), q_w32_id (z := ((a + (e + 1) : Nat) : Int) - 1) (by omega) (by omega), q_w32_id (z := ((a + (e + 1) : Nat) : Int) + -1) (by omega) (by omega), hk, hk2, c_sp ok nn P hm (by omega) (by omega), Option.bind_some]
    by_cases c : m_c p 14 m ≤ m_sp p m ((a + e : Nat) : Int)
    · rw [if_pos c, a_99 C (by omega) (by omega), a_ts_c (C := m_c p 14 m) (e + 1) a (fun i h1 h2 => a_cru ok nn (a := a) (b := ((a + e : Nat) : Int)) hm h1 (by omega) (ha (by omega)) c), show ((a + (e + 1) : Nat) : Int) - (a : Int) = ((e + 1 : Nat) : Int) by omega]
    · rw [if_neg c, a_95 ok nn P hm (by omega) (by omega), Option.bind_some, q_w64_id (by omega) (by omega), ih f _ (by omega) (by omega) (by omega) (by omega), a_ts_s, show (a : Int) + (e : Int) = ((a + e : Nat) : Int) by omega]
      congr 1; omega
theorem a_21 {g : q_F} {p : Nat → Int} (ok : m_ok p) (nn : m_nn p) (P : c_Plan g p) {m : Nat} (hm : (m : Int) < p 4) : ∀ (d k f : Nat) (t : Int), (k : Int) + d = m_l p m → d < f → 0 ≤ t → t + 1000000 * d ≤ 2000000000 → fn96_21 g f m (m_c p 14 m) (m_l p m) t k = some (t + a_ts p m k d) := by
  have r := ok.2.1
  have l := m_l_r ok (m := m) (by omega)
  intro d
  induction d with
  | zero =>
    intro k f t hk hf t0 t1
    obtain ⟨f, rfl⟩ : ∃ f', f = f' + 1 := ⟨f - 1, by omega⟩
    have x := a_60 (a := k) ok nn P hm (fun h9 => by omega) 0 q_fu t (by have := q_fu_ge; omega) (by omega) t0 (by omega)
    rw [show ((k + 0 : Nat) : Int) = m_l p m by omega] at x
    rw [fn96_21, if_pos (by omega), fn96_57]; exact x
  | succ d ih =>
    intro k f t hk hf t0 t1
    obtain ⟨f, rfl⟩ : ∃ f', f = f' + 1 := ⟨f - 1, by omega⟩
    have tt := a_t_q ok nn (k := (k : Int)) hm (by omega) (by omega)
    rw [fn96_21, if_neg (by omega), c_sp ok nn P hm (by omega) (by omega), Option.bind_some]
    by_cases c : m_c p 14 m ≤ m_sp p m k
    · have x := a_60 (a := k) ok nn P hm (fun _ => c) (d + 1) q_fu t (by have := q_fu_ge; omega) (by omega) t0 t1
      rw [show ((k + (d + 1) : Nat) : Int) = m_l p m by omega] at x
      rw [if_pos c, fn96_57]; exact x
    · rw [if_neg c, a_95 ok nn P hm (by omega) (by omega), Option.bind_some, q_w64_id (by omega) (by omega), q_w32_id (z := (k : Int) + 1) (by omega) (by omega), ← m_s1, ih (k + 1) f _ (by omega) (by omega) (by omega) (by omega), a_ts, m_s1]
      congr 1; omega
theorem a_96 {g : q_F} {p : Nat → Int} (ok : m_ok p) (nn : m_nn p) (P : c_Plan g p) {m : Nat} (hm : (m : Int) < p 4) : fn96 m g = some (a_ts p m 0 (m_l p m).toNat) := by
  have r := ok.2.1
  have l := m_l_r ok (m := m) (by omega)
  obtain ⟨p2, p3, -, -⟩ := P.1.2 m (by omega)
  have x := a_21 ok nn P hm (m_l p m).toNat 0 q_fu 0 (by omega) (by have := q_fu_ge; omega) (by omega) (by omega)
  rw [Int.zero_add] at x
  have x' : fn96_21 g q_fu m (m_c p 14 m) (m_l p m) 0 0 = some (a_ts p m 0 (m_l p m).toNat) := x
  rw [fn96, c_ent (by omega) (by omega), Option.bind_some, Int.toNat_natCast, p3, c_lead p2 (by omega), Option.bind_some, x']
theorem a_71 {g : q_F} {p : Nat → Int} (ok : m_ok p) (P : c_Plan g p) {m : Nat} (hm : (m : Int) < p 4) : fn71 m g = some (m_cmp p m * q_ldv 1000000 (p 0)) ∧ 0 ≤ m_cmp p m * q_ldv 1000000 (p 0) ∧ m_cmp p m * q_ldv 1000000 (p 0) ≤ 60000000 := by
  have r := ok.2.1
  have z0 := ok.1
  have t := a_ldv_r (z := p 0) (by omega) (by omega)
  have s0 := m_st_r ok (m := m) (show 0 < 3 by omega)
  have s1 := m_st_r ok (m := m) (show 1 < 3 by omega)
  have s2 := m_st_r ok (m := m) (show 2 < 3 by omega)
  have c : 0 ≤ m_cmp p m ∧ m_cmp p m ≤ 60 := by unfold m_cmp; split <;> omega
  have pr := m_mulr (x := m_cmp p m) (l := q_ldv 1000000 (p 0)) (a := 60) (b := 1000000) c.1 c.2 t.1 t.2
  have e : q_idv 1000000 (p 0) = q_ldv 1000000 (p 0) := by rw [m_idv (by omega) (by omega) (by omega) (by omega), m_ldv (by omega) (by omega) (by omega) (by omega)]
  refine ⟨?_, pr.1, by omega⟩
  rw [fn71, c_ent (by omega) (by omega), Option.bind_some, Int.toNat_natCast, (P.1.2 m (by omega)).2.2.2, P.2.2.2.2, c_quo (by omega), Option.bind_some, e, q_w64_id (by omega) (by omega)]
theorem a_995 {g : q_F} {p : Nat → Int} {u : Int} (ok : m_ok p) (nn : m_nn p) (P : c_Plan g p) (hu : u < p 4) : ∀ (d k f : Nat) (t : Int), (k : Int) + d = u + 1 → d < f → 0 ≤ t → t + 2060000000 * d ≤ 40000000000 → fn99_5 g f u t k = some (t + a_TT p k d) := by
  have r := ok.2.1
  intro d
  induction d with
  | zero =>
    intro k f t hk hf t0 t1
    obtain ⟨f, rfl⟩ : ∃ f', f = f' + 1 := ⟨f - 1, by omega⟩
    rw [fn99_5, if_pos (by omega), a_TT, Int.add_zero]
  | succ d ih =>
    intro k f t hk hf t0 t1
    obtain ⟨f, rfl⟩ : ∃ f', f = f' + 1 := ⟨f - 1, by omega⟩
    have x := a_71 ok P (m := k) (by omega)
    have tm := a_tm_r ok nn (m := k) (by omega)
    have e : m_cmp p k * q_ldv 1000000 (p 0) + a_ts p k 0 (m_l p k).toNat = a_tm p k := rfl
    rw [fn99_5, if_neg (by omega), P.2.2.2.1, if_neg (by omega), x.1, Option.bind_some, a_96 ok nn P (by omega), Option.bind_some, e, q_w64_id (z := a_tm p k) (by omega) (by omega), q_w64_id (by omega) (by omega), q_w32_id (z := (k : Int) + 1) (by omega) (by omega), ← m_s1, ih (k + 1) f _ (by omega) (by omega) (by omega) (by omega), a_TT]
    congr 1; omega
theorem a_999 {g : q_F} {p : Nat → Int} {n : Nat} (ok : m_ok p) (nn : m_nn p) (P : c_Plan g p) (hn : (n : Int) ≤ p 4) : fn99 ((n : Int) - 1) g = some (a_TT p 0 n) := by
  have r := ok.2.1
  have x := a_995 (u := (n : Int) - 1) ok nn P (by omega) n 0 q_fu 0 (by omega) (by have := q_fu_ge; omega) (by omega) (by omega)
  rw [Int.zero_add] at x
  rw [fn99]; exact x
/-- the reference's time of the first moves -/
theorem a_353 {h : q_F} {S : m_St} {n : Nat} (hI : r_I h S) (hm : m_I S) (hn : (n : Int) ≤ S.w 4) : ∃ g, fn353 n h = some (a_TT S.w 0 n, g) ∧ g 139 7 = h 139 7 ∧ r_I g S := by
  obtain ⟨g1, a1, a2, a3⟩ := a_A_b hI
  obtain ⟨g2, w2, -, b2, b3, b4⟩ := a_think (n := n) a2 hm hn
  obtain ⟨g3, d1, d2, d3⟩ := a_A_e b3
  refine ⟨g3, ?_, d3.trans (b4.trans a3), d2⟩
  rw [fn353, a1, Option.bind_some, b2, Option.bind_some, d1, Option.bind_some]
theorem a_p48 {h h1 h2 : q_F} {S S1 : m_St} {v1 v2 : Int} (J : j_T S S h) (J1 : j_T S1 S h1) (e1 : fn200 h = some (v1, h1)) (e2 : fn311 h1 = some (v2, h2)) : v1 = v2 := by
  have hm := J1.2.1.1
  have ok := m_R0_ok hm.1.1
  have r := ok.2.1
  have g0 := a_g0 J1.2.1.2
  obtain ⟨g, a1, P, -, -⟩ := c_planned J.1.2 J.1.1
  obtain ⟨g3, b1, -, -⟩ := a_353 (n := (S.w 4).toNat) g0 hm (by omega)
  have x := a_999 (n := (S.w 4).toNat) ok hm.1.2 P (by omega)
  rw [show ((S.w 4).toNat : Int) = S.w 4 by omega] at b1 x
  rw [fn200, a1, Option.bind_some] at e1
  dsimp only at e1
  rw [fn102, P.2.2.2.1, q_w32_id (z := S.w 4 - 1) (by omega) (by omega), x, Option.bind_some, Option.bind_some] at e1
  rw [fn311, m_let, r_of4 g0.1 r, Option.bind_some, b1, Option.bind_some] at e2
  have d1 := congrArg Prod.fst (Option.some.inj e1)
  have d2 := congrArg Prod.fst (Option.some.inj e2)
  exact d1.symm.trans d2
theorem a_p40 {m : Int} {h h1 h2 : q_F} {S S1 : m_St} {v1 v2 : Int} (J : j_T S S h) (J1 : j_T S1 S h1) (e1 : fn13 m h = some (v1, h1)) (e2 : fn276 m h1 = some (v2, h2)) : a_Q h2 v1 v2 := by
  have hm := J1.2.1.1
  have f := (a_F (r_lasts J1.2.1.2 hm) e2).1 153 (by omega)
  have ok := m_R0_ok hm.1.1
  have r := ok.2.1
  have g0 := a_g0 J1.2.1.2
  unfold fn276 at e2
  unfold fn13 fn185 at e1
  rw [a_299 J1.2.1.2 hm, Option.bind_some] at e2
  rw [c_move m J.1.2, Option.bind_some] at e1
  dsimp only at e1 e2
  by_cases c : 0 ≤ m ∧ m < S.w 4
  · obtain ⟨n, rfl⟩ : ∃ k : Nat, m = (k : Int) := ⟨m.toNat, by omega⟩
    obtain ⟨g, a1, P, -, -⟩ := c_planned J.1.2 J.1.1
    obtain ⟨g3, b1, b2, -⟩ := a_353 (n := n + 1) g0 hm (by omega)
    have x := a_999 (n := n + 1) ok hm.1.2 P (by omega)
    rw [show ((n + 1 : Nat) : Int) - 1 = (n : Int) by omega] at x
    rw [if_pos c, if_pos rfl, a1, Option.bind_some] at e1
    dsimp only at e1
    rw [x, Option.bind_some, Option.bind_some] at e1
    dsimp only at e1
    rw [if_pos rfl, m_let] at e1
    rw [if_pos c, if_pos c, if_pos rfl, q_w32_id (z := (n : Int) + 1) (by omega) (by omega), ← m_s1, b1, Option.bind_some] at e2
    exact a_ok e1 e2 (b2.trans (q_ud_s _ _ _ _)) f
  · rw [if_neg c, if_neg (show ¬ (3 : Nat) = 0 by decide), if_pos rfl, Option.bind_some] at e1
    dsimp only at e1
    rw [if_neg (show ¬ (3 : Nat) = 1 by decide), if_pos rfl] at e1
    rw [if_neg c, if_neg c, if_neg (show ¬ (1 : Int) = 0 by decide)] at e2
    exact a_er e1 e2 (q_ud_s _ _ _ _) (by decide)
end -- [98zzf.ans]
section -- [98zzk.ans]
/-! Part 98zzk: doubles and floats that are answered; meanSpeed, lostShare. -/
theorem a_n64i {x : UInt64} (h : q_n64 x = true) : x.toNat % 9223372036854775808 ≤ 9218868437227405312 := by
  unfold q_n64 at h
  have e : (0x7fffffffffffffff : UInt64).toNat = 2 ^ 63 - 1 := by decide
  have e2 : (0x7ff0000000000000 : UInt64).toNat = 9218868437227405312 := by decide
  rw [decide_eq_true_iff, UInt64.le_iff_toNat_le, UInt64.toNat_and, e, e2, Nat.and_two_pow_sub_one_eq_mod] at h
  exact h
theorem a_cmp0 (z : Int) : compare z z = .eq := by
  show compareOfLessAndEq z z = _
  unfold compareOfLessAndEq
  rw [if_neg (Int.lt_irrefl z), if_pos rfl]
theorem a_cmp1 {a b : Int} (h : b < a) : compare a b = .gt := by
  show compareOfLessAndEq a b = _
  unfold compareOfLessAndEq
  rw [if_neg (by omega), if_neg (by omega)]
theorem a_dcs {x : UInt64} (h : q_n64 x = true) : FP.dcmp x x = some .eq := by
  have hd : FP.Core.decode FP.Core.b64 x.toNat ≠ .nan := (g_dec64 x.toNat_lt).1 (a_n64i h)
  show FP.Core.order (FP.Core.decode FP.Core.b64 x.toNat) (FP.Core.decode FP.Core.b64 x.toNat) = _
  generalize FP.Core.decode FP.Core.b64 x.toNat = d at hd
  cases d with
  | nan => exact absurd rfl hd
  | inf s => cases s <;> rfl
  | fin s c q => exact congrArg some (a_cmp0 _)
theorem a_dq0 {a v : Int} (h : q_n64 (UInt64.ofNat v.toNat) = true) (e : a = v) : (Op.cmpValue (FP.dcmp (UInt64.ofNat a.toNat) (UInt64.ofNat v.toNat)) .l).toInt = 0 := by
  subst e; rw [a_dcs h]; rfl
theorem a_dpos {z : Int} (z0 : 0 < z) (z1 : z < 9218868437227405312) : q_dcmp .l z 0 = 1 := by
  have hn : z.toNat < 18446744073709551616 := by omega
  have k1 : z.toNat % 9223372036854775808 < 9218868437227405312 := by omega
  have k2 : z.toNat ≤ 9218868437227405312 := by omega
  have k3 : z.toNat % 9223372036854775808 ≠ 0 := by omega
  obtain ⟨-, d2, d3⟩ := g_dec64 hn
  obtain ⟨s, c, q, e, hc⟩ := d2 k1
  have s0 : s = false := by
    rcases d3 k2 with h | ⟨c', q', h⟩
    · rw [e] at h; cases h
    · rw [e] at h; injection h
  have c0 := hc k3
  have e0 : FP.Core.decode FP.Core.b64 (0 : Int).toNat = .fin false 0 (-1074) := by decide +kernel
  have key : FP.dcmp (UInt64.ofNat z.toNat) (UInt64.ofNat (0 : Int).toNat) = some .gt := by
    show FP.Core.order (FP.Core.decode FP.Core.b64 (UInt64.ofNat z.toNat).toNat) (FP.Core.decode FP.Core.b64 (UInt64.ofNat (0 : Int).toNat).toNat) = _
    rw [UInt64.toNat_ofNat_of_lt' hn, UInt64.toNat_ofNat_of_lt' (by decide), e, e0, s0]
    refine congrArg some (a_cmp1 ?_)
    have p : 0 < 2 ^ (q - min q (-1074)).toNat := Nat.pow_pos (by decide)
    have m := Nat.mul_pos (Nat.pos_of_ne_zero c0) p
    clear d2 d3
    show ((0 * 2 ^ ((-1074 : Int) - min q (-1074)).toNat : Nat) : Int) < ((c * 2 ^ (q - min q (-1074)).toNat : Nat) : Int)
    rw [Nat.zero_mul]; omega
  unfold q_dcmp
  rw [key]; rfl
theorem a_n64c {x : UInt64} (h : q_n64 x = true) : q_n64 (UInt64.ofNat (Int.ofNat x.toNat).toNat) = true := by
  show q_n64 (UInt64.ofNat x.toNat) = true
  rw [UInt64.ofNat_toNat]; exact h
/-- how the two sides of a call compare that answers a double -/
def a_QD (h2 : q_F) (v1 v2 : Int) : Prop := h2 139 7 = v1 ∧ (v1 = 0 → h2 154 0 = v2 ∧ q_n64 (UInt64.ofNat v2.toNat) = true)
/-- or a float, which the law widens -/
def a_QF (h2 : q_F) (v1 v2 : Int) : Prop := h2 139 7 = v1 ∧ (v1 = 0 → h2 154 0 = q_f2d v2 ∧ q_n64 (FP.f2d (UInt32.ofNat v2.toNat)) = true)
theorem a_okD {x : Int} {hc g h1 h2 : q_F} {v1 v2 : Int} (f1 : some ((0 : Int), q_ud hc 154 0 x) = some (v1, h1)) (f2 : some (x, g) = some (v2, h2)) (z : g 139 7 = 0) (f : h2 154 = h1 154) (n : q_n64 (UInt64.ofNat x.toNat) = true) : a_QD h2 v1 v2 := by
  have a1 : v1 = 0 := (congrArg Prod.fst (Option.some.inj f1)).symm
  have a2 : h1 = q_ud hc 154 0 x := (congrArg Prod.snd (Option.some.inj f1)).symm
  have b1 : v2 = x := (congrArg Prod.fst (Option.some.inj f2)).symm
  have b2 : h2 = g := (congrArg Prod.snd (Option.some.inj f2)).symm
  refine ⟨by rw [b2, z, a1], fun _ => ⟨?_, by rw [b1]; exact n⟩⟩
  rw [f, a2, q_ud_s, b1]
theorem a_erD {c y : Int} {hc g h1 h2 : q_F} {v1 v2 : Int} (f1 : some (c, hc) = some (v1, h1)) (f2 : some (y, g) = some (v2, h2)) (z : g 139 7 = c) (c0 : c ≠ 0) : a_QD h2 v1 v2 := by
  have a1 : v1 = c := (congrArg Prod.fst (Option.some.inj f1)).symm
  have b2 : h2 = g := (congrArg Prod.snd (Option.some.inj f2)).symm
  exact ⟨by rw [b2, z, a1], fun h9 => absurd (a1.symm.trans h9) c0⟩
theorem a_okF {x : Int} {hc g h1 h2 : q_F} {v1 v2 : Int} (n : q_n64 (FP.f2d (UInt32.ofNat x.toNat)) = true) (f1 : some ((0 : Int), q_ud hc 154 0 (q_f2d x)) = some (v1, h1)) (f2 : some (x, g) = some (v2, h2)) (z : g 139 7 = 0) (f : h2 154 = h1 154) : a_QF h2 v1 v2 := by
  have a1 : v1 = 0 := (congrArg Prod.fst (Option.some.inj f1)).symm
  have a2 : h1 = q_ud hc 154 0 (q_f2d x) := (congrArg Prod.snd (Option.some.inj f1)).symm
  have b1 : v2 = x := (congrArg Prod.fst (Option.some.inj f2)).symm
  have b2 : h2 = g := (congrArg Prod.snd (Option.some.inj f2)).symm
  refine ⟨by rw [b2, z, a1], fun _ => ⟨?_, by rw [b1]; exact n⟩⟩
  rw [f, a2, q_ud_s, b1]
theorem a_erF {c y : Int} {hc g h1 h2 : q_F} {v1 v2 : Int} (f1 : some (c, hc) = some (v1, h1)) (f2 : some (y, g) = some (v2, h2)) (z : g 139 7 = c) (c0 : c ≠ 0) : a_QF h2 v1 v2 := by
  have a1 : v1 = c := (congrArg Prod.fst (Option.some.inj f1)).symm
  have b2 : h2 = g := (congrArg Prod.snd (Option.some.inj f2)).symm
  exact ⟨by rw [b2, z, a1], fun h9 => absurd (a1.symm.trans h9) c0⟩
theorem a_p58 {a : Int} {h h1 h2 : q_F} {S S1 : m_St} {v1 v2 : Int} (J : j_T S S h) (J1 : j_T S1 S h1) (e1 : fn15 a h = some (v1, h1)) (e2 : fn285 a h1 = some (v2, h2)) : a_QF h2 v1 v2 := by
  have hm := J1.2.1.1
  have f := (a_F (r_lost2 J1.2.1.2) e2).1 154 (by omega)
  have g0 := a_g0 J1.2.1.2
  unfold fn285 at e2
  unfold fn15 fn188 at e1
  rw [a_298, Option.bind_some] at e2
  rw [c_axis, Option.bind_some] at e1
  dsimp only at e1 e2
  by_cases c : 0 ≤ a ∧ a ≤ 2
  · obtain ⟨n, hn, rfl⟩ := m_ax_n c
    have X := a_ax J.1.2 (a := n) hn
    have x0 : h (q_axn 6 (n : Int) + 1) 0 = q_w32 (S.w (56 + n)) := X.2 0 (by omega)
    have x1 : h (q_axn 6 (n : Int) + 1) 1 = q_w32 (S.w (59 + n)) := X.2 1 (by omega)
    have x2 : h (q_axn 6 (n : Int) + 1) 2 = q_w32 (S.w (35 + n)) := X.2 2 (by omega)
    have k : ∀ j : Nat, j < 122 → fn303 (j : Int) (q_ud h1 139 7 0) = some (q_w32 (S.w j)) := fun j hj => by rw [fn303_i (by omega) (by omega), Int.toNat_natCast, g0.1]
    have k56 := k (56 + n) (by omega)
    have k59 := k (59 + n) (by omega)
    have k35 := k (35 + n) (by omega)
    rw [show ((56 + n : Nat) : Int) = 56 + (n : Int) by omega] at k56
    rw [show ((59 + n : Nat) : Int) = 59 + (n : Int) by omega] at k59
    rw [show ((35 + n : Nat) : Int) = 35 + (n : Int) by omega] at k35
    rw [if_pos c, if_pos rfl] at e1
    simp only [x0, x1, x2] at e1
    rw [if_pos c, if_pos c, if_pos rfl, q_w32_id (z := 56 + (n : Int)) (by omega) (by omega), q_w32_id (z := 59 + (n : Int)) (by omega) (by omega), q_w32_id (z := 35 + (n : Int)) (by omega) (by omega), k56, Option.bind_some, k59, Option.bind_some] at e2
    by_cases z : q_w32 (q_w32 (S.w (56 + n)) + q_w32 (S.w (59 + n))) = 0
    · rw [if_pos z, Option.bind_some] at e1
      dsimp only at e1
      rw [if_pos rfl] at e1
      rw [if_pos z] at e2
      by_cases n0 : q_n64 (FP.f2d (UInt32.ofNat (0 : Int).toNat)) = true
      · rw [if_pos n0, m_let] at e1
        exact a_okF n0 e1 e2 (q_ud_s _ _ _ _) f
      · rw [if_neg n0] at e1; cases e1
    · rw [if_neg z] at e1
      rw [if_neg z, k35, Option.bind_some] at e2
      by_cases n1 : q_n32 (FP.fdiv (UInt32.ofNat (q_i2f (q_w32 (S.w (35 + n)))).toNat) (UInt32.ofNat (q_i2f (q_w32 (q_w32 (S.w (56 + n)) + q_w32 (S.w (59 + n))))).toNat)) = true
      · rw [if_pos n1, Option.bind_some] at e1
        dsimp only at e1
        rw [if_pos rfl] at e1
        rw [if_pos n1] at e2
        by_cases n0 : q_n64 (FP.f2d (UInt32.ofNat (q_fdiv (q_i2f (q_w32 (S.w (35 + n)))) (q_i2f (q_w32 (q_w32 (S.w (56 + n)) + q_w32 (S.w (59 + n)))))).toNat)) = true
        · rw [if_pos n0, m_let] at e1
          exact a_okF n0 e1 e2 (q_ud_s _ _ _ _) f
        · rw [if_neg n0] at e1; cases e1
      · rw [if_neg n1] at e1; cases e1
  · rw [if_neg c, if_neg (show ¬ (3 : Nat) = 0 by decide), if_pos rfl, Option.bind_some] at e1
    dsimp only at e1
    rw [if_neg (show ¬ (3 : Nat) = 1 by decide), if_pos rfl] at e1
    rw [if_neg c, if_neg c, if_neg (show ¬ (1 : Int) = 0 by decide)] at e2
    exact a_erF e1 e2 (q_ud_s _ _ _ _) (by decide)
theorem a_mspl {h : q_F} {S : m_St} {m : Nat} (hm : m_I S) (P : m_Plan h S.w) (h4 : (m : Int) < S.w 4) : ∀ (d k f : Nat) (u : Int), (k : Int) + d = m_l S.w m → d < f → (k : Int) ≤ u → u ≤ 1000000 * (k : Int) → fn293_19 f m u k h = some (q_ddiv (q_l2d (1000000 * m_l S.w m)) (q_l2d (u + a_ts S.w m k d)), h) ∧ q_n64 (FP.ddiv (UInt64.ofNat (q_l2d (1000000 * m_l S.w m)).toNat) (UInt64.ofNat (q_l2d (u + a_ts S.w m k d)).toNat)) = true ∧ m_l S.w m ≤ u + a_ts S.w m k d ∧ u + a_ts S.w m k d ≤ 1000000 * m_l S.w m := by
  have ok := m_R0_ok hm.1.1
  have r := ok.2.1
  have l := m_l_r ok (m := m) (by omega)
  have l1 := m_l_1 ok (m := m) (by omega) (hm.1.2 m h4)
  have e := (P.1 m (by omega)).2.1
  intro d
  induction d with
  | zero =>
    intro k f u hd hf u0 u1
    obtain ⟨f, rfl⟩ : ∃ f', f = f' + 1 := ⟨f - 1, by omega⟩
    have nn : q_n64 (FP.ddiv (UInt64.ofNat (q_l2d (1000000 * m_l S.w m)).toNat) (UInt64.ofNat (q_l2d u).toNat)) = true := g_ll (by unfold q_r64; omega) (by unfold q_r64; omega) (by omega)
    rw [fn293_19, if_pos (by omega), Int.toNat_natCast, e, if_pos (by omega), if_pos (by omega), q_w64_id (by omega) (by omega), if_pos nn, a_ts, Int.add_zero]
    exact ⟨rfl, nn, by omega, by omega⟩
  | succ d ih =>
    intro k f u hd hf u0 u1
    obtain ⟨f, rfl⟩ : ∃ f', f = f' + 1 := ⟨f - 1, by omega⟩
    have t := m_t_r ok hm.1.2 (m := m) (k := (k : Int)) h4 (by omega) (by omega)
    have i := ih (k + 1) f (u + m_t S.w m k) (by omega) (by omega) (by omega) (by omega)
    rw [m_s1, Int.add_assoc] at i
    rw [fn293_19, if_pos (by omega), Int.toNat_natCast, e, if_neg (by omega), fn275_m ok hm.1.2 P h4 (by omega) (by omega), Option.bind_some, q_w64_id (by omega) (by omega), q_w32_id (by omega) (by omega), a_ts]
    exact i
theorem a_p45 {m : Int} {h h1 h2 : q_F} {S S1 : m_St} {v1 v2 : Int} (J : j_T S S h) (J1 : j_T S1 S h1) (e1 : fn16 m h = some (v1, h1)) (e2 : fn293 m h1 = some (v2, h2)) : a_QD h2 v1 v2 := by
  have hm := J1.2.1.1
  have f := (a_F (r_msp J1.2.1.2 hm) e2).1 154 (by omega)
  have ok := m_R0_ok hm.1.1
  have r := ok.2.1
  have g0 := a_g0 J1.2.1.2
  unfold fn293 at e2
  unfold fn16 fn190 at e1
  rw [a_299 J1.2.1.2 hm, Option.bind_some] at e2
  rw [c_move m J.1.2, Option.bind_some] at e1
  dsimp only at e1 e2
  by_cases c : 0 ≤ m ∧ m < S.w 4
  · obtain ⟨n, rfl⟩ : ∃ k : Nat, m = (k : Int) := ⟨m.toNat, by omega⟩
    obtain ⟨g, a1, P, -, -⟩ := c_planned J.1.2 J.1.1
    obtain ⟨p, b1, Q, b3, -⟩ := a_plan g0 hm
    have l := m_l_r ok (m := n) (by omega)
    have l1 := m_l_1 ok (m := n) (by omega) (hm.1.2 n c.2)
    obtain ⟨x1, x2, x3, x4⟩ := a_mspl hm Q c.2 (m_l S.w n).toNat 0 q_fu 0 (by omega) (by have := q_fu_ge; omega) (by omega) (by omega)
    rw [Int.zero_add] at x1 x2 x3 x4
    have x1' : fn293_19 q_fu n 0 0 p = some (q_ddiv (q_l2d (1000000 * m_l S.w n)) (q_l2d (a_ts S.w n 0 (m_l S.w n).toNat)), p) := x1
    have x2' : q_n64 (FP.ddiv (UInt64.ofNat (q_l2d (1000000 * m_l S.w n)).toNat) (UInt64.ofNat (q_l2d (a_ts S.w n 0 (m_l S.w n).toNat)).toNat)) = true := x2
    have x3' : m_l S.w n ≤ a_ts S.w n 0 (m_l S.w n).toNat := x3
    have x4' : a_ts S.w n 0 (m_l S.w n).toNat ≤ 1000000 * m_l S.w n := x4
    have rt : q_r64 (a_ts S.w n 0 (m_l S.w n).toNat) := by unfold q_r64; omega
    obtain ⟨y1, y2⟩ := g_l2d rt
    have y3 := g_i64 y2
    have dp : q_dcmp .l (q_l2d (a_ts S.w n 0 (m_l S.w n).toNat)) 0 = 1 := by
      have z1 := y3.2.2.1 (by omega)
      have z2 := y3.2.2.2 (by omega)
      have z3 : 0 ≤ q_l2d (a_ts S.w n 0 (m_l S.w n).toNat) := Int.ofNat_nonneg _
      exact a_dpos (by omega) (by omega)
    rw [if_pos c, if_pos rfl, a1, Option.bind_some] at e1
    dsimp only at e1
    rw [a_79 hm P c.2, Option.bind_some, a_96 ok hm.1.2 P c.2, Option.bind_some, q_w64_id (by omega) (by omega), fn203, dp, if_neg (show ¬ (1 : Int) ≤ 0 by decide), if_pos x2', Option.bind_some, Option.bind_some] at e1
    dsimp only at e1
    rw [if_pos rfl, m_let] at e1
    rw [if_pos c, if_pos c, if_pos rfl, b1, Option.bind_some] at e2
    dsimp only at e2
    rw [x1'] at e2
    exact a_okD e1 e2 (b3.trans (q_ud_s _ _ _ _)) f (a_n64c x2')
  · rw [if_neg c, if_neg (show ¬ (3 : Nat) = 0 by decide), if_pos rfl, Option.bind_some] at e1
    dsimp only at e1
    rw [if_neg (show ¬ (3 : Nat) = 1 by decide), if_pos rfl] at e1
    rw [if_neg c, if_neg c, if_neg (show ¬ (1 : Int) = 0 by decide)] at e2
    exact a_erD e1 e2 (q_ud_s _ _ _ _) (by decide)
theorem y_dc {Γ : q_Γ} {P : Nat → q_V → q_F → Prop} {i n p x cl sl : Nat} {off a b : Int} {K : Nat → q_Ly} {lo : q_L} {st : List q_V} {hp : q_H} (c0 : q_cat i p (.dcmp .l) 1 0 0 0) (c1 : q_cat i (p + 1) (.ifCond .eq off) 3 x 0 0) (h : (Op.cmpValue (FP.dcmp (UInt64.ofNat a.toNat) (UInt64.ofNat b.toNat)) .l).toInt = 0) (k : q_R Γ K n i P (x, lo, st, hp, [], cl, sl)) : q_R Γ K n i P (p, lo, (5, b) :: (5, a) :: st, hp, [], cl, sl) := by
  refine r_dcmp c0 h rfl ?_
  exact r_if_eq (a' := 0) c1 rfl (q_w32_id (by decide) (by decide)) (fun _ => k) (fun h9 => absurd rfl h9.1)
end -- [98zzk.ans]
section -- [98zzo.ans]
/-! Part 98zzo: deviation: the greatest of floats, whichever loop is outside. -/
theorem a_n32i {x : UInt32} (h : q_n32 x = true) : x.toNat % 2147483648 ≤ 2139095040 := by
  unfold q_n32 at h
  have e : (0x7fffffff : UInt32).toNat = 2 ^ 31 - 1 := by decide
  have e2 : (0x7f800000 : UInt32).toNat = 2139095040 := by decide
  rw [decide_eq_true_iff, UInt32.le_iff_toNat_le, UInt32.toNat_and, e, e2, Nat.and_two_pow_sub_one_eq_mod] at h
  exact h
theorem a_n32v {x : UInt32} (h : q_n32 x = true) : FP.Core.val32 x ≠ .nan := (FP.Core.ne_nan32 x).mpr (a_n32i h)
/-- a float that isn't negative, nor minus nothing -/
def a_O (u : Int) : Prop := 0 ≤ u ∧ u < 2147483648 ∧ g_V u
noncomputable def a_K (D : Int) : Int := FP.Core.fkey (UInt32.ofNat D.toNat)
theorem a_stp {u D : Int} (hu : a_O u) (hD : g_V D) (d0 : 0 ≤ D) (d1 : D < 4294967296) : ∃ u', a_O u' ∧ (∀ b, u' ≤ b ↔ u ≤ b ∧ a_K D ≤ b) ∧ q_fmxi u D = u' ∧ (q_fcmp .l D u ≤ 0 → u = u') ∧ (¬ q_fcmp .l D u ≤ 0 → D = u') := by
  obtain ⟨u0, u1, hV⟩ := hu
  have eA : (UInt32.ofNat u.toNat).toNat = u.toNat := UInt32.toNat_ofNat_of_lt' (show u.toNat < 4294967296 by omega)
  have eB : (UInt32.ofNat D.toNat).toNat = D.toNat := UInt32.toNat_ofNat_of_lt' (show D.toNat < 4294967296 by omega)
  have nA : FP.Core.val32 (UInt32.ofNat u.toNat) ≠ .nan := a_n32v hV
  have nB : FP.Core.val32 (UInt32.ofNat D.toNat) ≠ .nan := a_n32v hD
  have c1 : FP.fcmp (UInt32.ofNat u.toNat) (UInt32.ofNat D.toNat) = some (compare (FP.Core.fkey (UInt32.ofNat u.toNat)) (FP.Core.fkey (UInt32.ofNat D.toNat))) := FP.Core.fcmp_key nA nB
  have c2 : FP.fcmp (UInt32.ofNat D.toNat) (UInt32.ofNat u.toNat) = some (compare (FP.Core.fkey (UInt32.ofNat D.toNat)) (FP.Core.fkey (UInt32.ofNat u.toNat))) := FP.Core.fcmp_key nB nA
  have kA : FP.Core.fkey (UInt32.ofNat u.toNat) = u := by
    unfold FP.Core.fkey
    rw [eA, if_neg (by omega)]; omega
  have kB : a_K D = FP.Core.fkey (UInt32.ofNat D.toNat) := rfl
  have kB2 : a_K D = if 2147483648 ≤ D.toNat then 2147483648 - (D.toNat : Int) else (D.toNat : Int) := by
    rw [kB]
    unfold FP.Core.fkey
    rw [eB]; rfl
  rw [kA, ← kB] at c1 c2
  by_cases c : u < a_K D
  · have g1 : compare u (a_K D) = .lt := FP.Core.compare_lt_iff _ _ |>.mpr c
    have g2 : compare (a_K D) u = .gt := FP.Core.compare_gt_iff _ _ |>.mpr c
    have eD : a_K D = D ∧ D < 2147483648 := by
      by_cases z : 2147483648 ≤ D.toNat
      · rw [if_pos z] at kB2; omega
      · rw [if_neg z] at kB2; omega
    rw [g1] at c1
    rw [g2] at c2
    refine ⟨D, ⟨d0, eD.2, hD⟩, fun b => by omega, ?_, fun h9 => ?_, fun _ => rfl⟩
    · unfold q_fmxi q_fmx Native.java_lang_Math.nans.pick32
      rw [c1]
      show Int.ofNat (UInt32.ofNat D.toNat).toNat = D
      rw [eB]; exact Int.toNat_of_nonneg d0
    · exfalso
      unfold q_fcmp at h9
      rw [c2] at h9
      exact absurd h9 (show ¬ (1 : Int) ≤ 0 by decide)
  · refine ⟨u, ⟨u0, u1, hV⟩, fun b => by omega, ?_, fun _ => rfl, fun h9 => ?_⟩
    · have key : q_fmx (UInt32.ofNat u.toNat) (UInt32.ofNat D.toNat) = UInt32.ofNat u.toNat := by
        unfold q_fmx Native.java_lang_Math.nans.pick32
        have s0 : UInt32.ofNat u.toNat >>> 31 = 0 := by
          apply UInt32.toNat_inj.mp
          rw [UInt32.toNat_shiftRight, eA]
          show u.toNat >>> 31 = 0
          rw [Nat.shiftRight_eq_div_pow]
          exact Nat.div_eq_of_lt (by omega)
        by_cases z : a_K D = u
        · rw [c1, z, FP.Core.compare_self_int, s0]; rfl
        · have g1 : compare u (a_K D) = .gt := FP.Core.compare_gt_iff _ _ |>.mpr (by omega)
          rw [c1, g1]; rfl
      unfold q_fmxi
      rw [key, eA]; exact Int.toNat_of_nonneg u0
    · exfalso
      apply h9
      unfold q_fcmp
      by_cases z : a_K D = u
      · rw [c2, z, FP.Core.compare_self_int]; decide
      · have g1 : compare (a_K D) u = .lt := FP.Core.compare_lt_iff _ _ |>.mpr (by omega)
        rw [c2, g1]; decide
/-- how far an axis is from where it should be -/
noncomputable def a_dx (p : Nat → Int) (m a : Nat) (k : Int) : Int := q_fsub (q_i2f (m_made p m a k)) (q_fdiv (q_i2f (q_w32 (k * m_abs (m_d p m a)))) (q_i2f (m_l p m)))
noncomputable def a_dv (p : Nat → Int) (m a : Nat) (k : Int) : Int := if 0 ≤ q_fcmp .g (a_dx p m a k) 0 then a_dx p m a k else q_fneg (a_dx p m a k)
theorem a_dG {p : Nat → Int} (ok : m_ok p) (nn : m_nn p) {m a : Nat} {k : Int} (hm : (m : Int) < p 4) (ha : a < 3) (h0 : 0 ≤ k) (h1 : k ≤ m_l p m) : q_n32 (FP.fdiv (UInt32.ofNat (q_i2f (q_w32 (k * m_abs (m_d p m a)))).toNat) (UInt32.ofNat (q_i2f (m_l p m)).toNat)) = true ∧ q_n32 (FP.fsub (UInt32.ofNat (q_i2f (m_made p m a k)).toNat) (UInt32.ofNat (q_fdiv (q_i2f (q_w32 (k * m_abs (m_d p m a)))) (q_i2f (m_l p m))).toNat)) = true ∧ g_V (a_dx p m a k) ∧ g_V (a_dv p m a k) ∧ 0 ≤ a_dv p m a k ∧ a_dv p m a k < 4294967296 := by
  have h16 := ok.2.1
  have l := m_l_r ok (m := m) (by omega)
  have l1 := m_l_1 ok (m := m) (by omega) (nn m hm)
  have G := g_ff (i := q_w32 (k * m_abs (m_d p m a))) (j := m_l p m) (q_wr _) (by unfold q_r32; omega) (by omega)
  have W0 := G.2 _ (m_made_r ok nn hm ha h0 h1)
  have V : g_V (a_dx p m a k) := g_Vof W0
  have rg : ∀ x : UInt32, 0 ≤ Int.ofNat x.toNat ∧ Int.ofNat x.toNat < 4294967296 := fun x => ⟨Int.natCast_nonneg _, Int.ofNat_lt.mpr x.toNat_lt⟩
  refine ⟨G.1, W0, V, ?_, ?_, ?_⟩
  · unfold a_dv; split
    · exact V
    · exact g_V_neg V
  · unfold a_dv; split
    · exact (rg _).1
    · exact (rg _).1
  · unfold a_dv; split
    · exact (rg _).2
    · exact (rg _).2
theorem a_off {h : q_F} {p : Nat → Int} (ok : m_ok p) (nn : m_nn p) (hP : c_Plan h p) {m a : Nat} {k : Int} (hm : (m : Int) < p 4) (ha : a < 3) (h0 : 0 ≤ k) (h1 : k ≤ m_l p m) : fn86 m a k h = some (a_dv p m a k) := by
  have h16 := ok.2.1
  have l := m_l_r ok (m := m) (by omega)
  have l1 := m_l_1 ok (m := m) (by omega) (nn m hm)
  have d := m_d_r ok (m := m) (by omega) ha
  have G := a_dG ok nn hm ha h0 h1
  have ab : qx_ab (m_d p m a) = m_abs (m_d p m a) := c_abs (by omega) (by omega)
  rw [fn86, c_lead (hP.1.2 m (by omega)).1 (by omega), Option.bind_some, if_neg (by omega), c_dis ok hP hm ha, Option.bind_some, ab, if_pos G.1, c_made ok nn hP hm ha h0 h1, Option.bind_some, if_pos G.2.1]
  show (if 0 ≤ q_fcmp .g (a_dx p m a k) 0 then some (a_dx p m a k) else some (q_fneg (a_dx p m a k))) = some (a_dv p m a k)
  unfold a_dv
  split <;> rfl
theorem a_devk {h : q_F} {p : Nat → Int} (ok : m_ok p) (nn : m_nn p) (hP : c_Plan h p) {m a : Nat} {K4 : Int → Int → Int → Option Int} (hm : (m : Int) < p 4) (ha : a < 3) : ∀ (d k f : Nat) (u : Int), (k : Int) + d = m_l p m + 1 → d < f → a_O u → ∃ u', fn75_12 K4 h f m u a k = K4 m u' ((a + 1 : Nat) : Int) ∧ a_O u' ∧ ∀ b, u' ≤ b ↔ u ≤ b ∧ ∀ j : Nat, k ≤ j → (j : Int) ≤ m_l p m → a_K (a_dv p m a j) ≤ b := by
  have h16 := ok.2.1
  have l := m_l_r ok (m := m) (by omega)
  intro d
  induction d with
  | zero =>
    intro k f u hd hf hu
    obtain ⟨f, rfl⟩ : ∃ f', f = f' + 1 := ⟨f - 1, by omega⟩
    refine ⟨u, ?_, hu, fun b => ⟨fun h9 => ⟨h9, fun j j1 j2 => by exfalso; omega⟩, fun h9 => h9.1⟩⟩
    rw [fn75_12, c_lead (hP.1.2 m (by omega)).1 (by omega), Option.bind_some, if_pos (by omega), q_w32_id (by omega) (by omega), ← m_s1]
  | succ d ih =>
    intro k f u hd hf hu
    obtain ⟨f, rfl⟩ : ∃ f', f = f' + 1 := ⟨f - 1, by omega⟩
    have kl : (k : Int) ≤ m_l p m := by omega
    have G := a_dG ok nn (k := k) hm ha (by omega) kl
    obtain ⟨u1, x1, x2, -, x4, x5⟩ := a_stp hu G.2.2.2.1 G.2.2.2.2.1 G.2.2.2.2.2
    obtain ⟨u2, y1, y2, y3⟩ := ih (k + 1) f u1 (by omega) (by omega) x1
    refine ⟨u2, ?_, y2, fun b => ?_⟩
    · rw [fn75_12, c_lead (hP.1.2 m (by omega)).1 (by omega), Option.bind_some, if_neg (by omega), a_off ok nn hP hm ha (by omega) kl, Option.bind_some, fn75_45, fn75_45, q_w32_id (z := (k : Int) + 1) (by omega) (by omega), ← m_s1]
      by_cases c : q_fcmp .l (a_dv p m a k) u ≤ 0
      · rw [if_pos c, x4 c]; exact y1
      · rw [if_neg c, x5 c]; exact y1
    · rw [y3 b, x2 b]
      constructor
      · rintro ⟨⟨b1, b2⟩, b3⟩
        refine ⟨b1, fun j j1 j2 => ?_⟩
        by_cases e : j = k
        · rw [e]; exact b2
        · exact b3 j (by omega) j2
      · rintro ⟨b1, b2⟩
        exact ⟨⟨b1, b2 k (Nat.le_refl _) kl⟩, fun j j1 j2 => b2 j (by omega) j2⟩
theorem a_deva {h : q_F} {p : Nat → Int} (ok : m_ok p) (nn : m_nn p) (hP : c_Plan h p) {m : Nat} (hm : (m : Int) < p 4) : ∀ (d a f : Nat) (u : Int), a + d = 3 → d < f → a_O u → ∃ u', fn75_4 h f m u a = some u' ∧ a_O u' ∧ ∀ b, u' ≤ b ↔ u ≤ b ∧ ∀ i : Nat, a ≤ i → i < 3 → ∀ j : Nat, (j : Int) ≤ m_l p m → a_K (a_dv p m i j) ≤ b := by
  have h16 := ok.2.1
  have l := m_l_r ok (m := m) (by omega)
  intro d
  induction d with
  | zero =>
    intro a f u ha hf hu
    obtain ⟨f, rfl⟩ : ∃ f', f = f' + 1 := ⟨f - 1, by omega⟩
    exact ⟨u, by rw [fn75_4, if_pos (by omega)], hu, fun b => ⟨fun h9 => ⟨h9, fun i i1 i2 => by exfalso; omega⟩, fun h9 => h9.1⟩⟩
  | succ d ih =>
    intro a f u ha hf hu
    obtain ⟨f, rfl⟩ : ∃ f', f = f' + 1 := ⟨f - 1, by omega⟩
    have ha3 : a < 3 := by omega
    obtain ⟨u1, x1, x2, x3⟩ := a_devk (K4 := fn75_4 h f) ok nn hP hm ha3 (m_l p m + 1).toNat 0 q_fu u (by omega) (by have := q_fu_ge; omega) hu
    obtain ⟨u2, y1, y2, y3⟩ := ih (a + 1) f u1 (by omega) (by omega) x2
    refine ⟨u2, ?_, y2, fun b => ?_⟩
    · rw [fn75_4, if_neg (by omega)]
      exact x1.trans y1
    · rw [y3 b, x3 b]
      constructor
      · rintro ⟨⟨b1, b2⟩, b3⟩
        refine ⟨b1, fun i i1 i2 j j1 => ?_⟩
        by_cases e : i = a
        · rw [e]; exact b2 j (Nat.zero_le _) j1
        · exact b3 i (by omega) i2 j j1
      · rintro ⟨b1, b2⟩
        exact ⟨⟨b1, fun j _ j1 => b2 a (Nat.le_refl _) ha3 j j1⟩, fun i i1 i2 j j1 => b2 i (by omega) i2 j j1⟩
theorem a_rdevk {h : q_F} {p : Nat → Int} (ok : m_ok p) (nn : m_nn p) (hP : m_Plan h p) {m k : Nat} {K18 : Int → Int → Int → q_F → Option (Int × q_F)} (hm : (m : Int) < p 4) (hk : (k : Int) ≤ m_l p m) : ∀ (d a f : Nat) (u : Int), a + d = 3 → d < f → a_O u → ∃ u', fn251_31 K18 f m u k a h = K18 m u' ((k + 1 : Nat) : Int) h ∧ a_O u' ∧ ∀ b, u' ≤ b ↔ u ≤ b ∧ ∀ i : Nat, a ≤ i → i < 3 → a_K (a_dv p m i k) ≤ b := by
  have h16 := ok.2.1
  have l := m_l_r ok (m := m) (by omega)
  have l1 := m_l_1 ok (m := m) (by omega) (nn m hm)
  intro d
  induction d with
  | zero =>
    intro a f u ha hf hu
    obtain ⟨f, rfl⟩ : ∃ f', f = f' + 1 := ⟨f - 1, by omega⟩
    refine ⟨u, ?_, hu, fun b => ⟨fun h9 => ⟨h9, fun i i1 i2 => by exfalso; omega⟩, fun h9 => h9.1⟩⟩
    rw [fn251_31, if_pos (by omega), q_w32_id (by omega) (by omega), ← m_s1]
  | succ d ih =>
    intro a f u ha hf hu
    obtain ⟨f, rfl⟩ : ∃ f', f = f' + 1 := ⟨f - 1, by omega⟩
    have ha3 : a < 3 := by omega
    have dd := m_d_r ok (m := m) (by omega) ha3
    have G := a_dG ok nn (k := k) hm ha3 (by omega) hk
    obtain ⟨u1, x1, x2, x3, -, -⟩ := a_stp hu G.2.2.2.1 G.2.2.2.2.1 G.2.2.2.2.2
    obtain ⟨u2, y1, y2, y3⟩ := ih (a + 1) f u1 (by omega) (by omega) x1
    refine ⟨u2, ?_, y2, fun b => ?_⟩
    · rw [fn251_31, if_neg (by omega), fn286_m ok nn hP.1 hm ha3 (by omega) hk, Option.bind_some, q_w32_id (z := 3 * (m : Int)) (by omega) (by omega), q_w32_id (z := 3 * (m : Int) + a) (by omega) (by omega), if_pos (by omega), show (3 * (m : Int) + a).toNat = 3 * m + a by omega, (hP.1 m (by omega)).1 a ha3, fn236_i (by omega) (by omega), Option.bind_some, if_pos (show 0 ≤ (m : Int) ∧ (m : Int) < 16 by omega), Int.toNat_natCast, (hP.1 m (by omega)).2.1, if_pos G.1, if_pos G.2.1, fn251_90, fn251_90, q_w32_id (z := (a : Int) + 1) (by omega) (by omega), ← m_s1]
      show (if 0 ≤ q_fcmp .g (a_dx p m a k) 0 then (if q_n32 (UInt32.ofNat u.toNat) = true ∧ q_n32 (UInt32.ofNat (a_dx p m a k).toNat) = true then fn251_31 K18 f m (q_fmxi u (a_dx p m a k)) k ((a + 1 : Nat) : Int) h else none) else (if q_n32 (UInt32.ofNat u.toNat) = true ∧ q_n32 (UInt32.ofNat (q_fneg (a_dx p m a k)).toNat) = true then fn251_31 K18 f m (q_fmxi u (q_fneg (a_dx p m a k))) k ((a + 1 : Nat) : Int) h else none)) = _
      by_cases c : 0 ≤ q_fcmp .g (a_dx p m a k) 0
      · have e : a_dv p m a k = a_dx p m a k := if_pos c
        rw [if_pos c, if_pos ⟨hu.2.2, G.2.2.1⟩, ← e, x3]; exact y1
      · have e : a_dv p m a k = q_fneg (a_dx p m a k) := if_neg c
        rw [if_neg c, if_pos ⟨hu.2.2, g_V_neg G.2.2.1⟩, ← e, x3]; exact y1
    · rw [y3 b, x2 b]
      constructor
      · rintro ⟨⟨b1, b2⟩, b3⟩
        refine ⟨b1, fun i i1 i2 => ?_⟩
        by_cases e : i = a
        · rw [e]; exact b2
        · exact b3 i (by omega) i2
      · rintro ⟨b1, b2⟩
        exact ⟨⟨b1, b2 a (Nat.le_refl _) ha3⟩, fun i i1 i2 => b2 i (by omega) i2⟩
theorem a_rdevl {h : q_F} {p : Nat → Int} (ok : m_ok p) (nn : m_nn p) (hP : m_Plan h p) {m : Nat} (hm : (m : Int) < p 4) : ∀ (d k f : Nat) (u : Int), (k : Int) + d = m_l p m + 1 → d < f → a_O u → ∃ u', fn251_18 f m u k h = some (u', h) ∧ a_O u' ∧ ∀ b, u' ≤ b ↔ u ≤ b ∧ ∀ i : Nat, i < 3 → ∀ j : Nat, k ≤ j → (j : Int) ≤ m_l p m → a_K (a_dv p m i j) ≤ b := by
  have h16 := ok.2.1
  have l := m_l_r ok (m := m) (by omega)
  intro d
  induction d with
  | zero =>
    intro k f u hd hf hu
    obtain ⟨f, rfl⟩ : ∃ f', f = f' + 1 := ⟨f - 1, by omega⟩
    exact ⟨u, by rw [fn251_18, if_pos (by omega), Int.toNat_natCast, (hP.1 m (by omega)).2.1, if_pos (by omega)], hu, fun b => ⟨fun h9 => ⟨h9, fun i i1 j j1 j2 => by exfalso; omega⟩, fun h9 => h9.1⟩⟩
  | succ d ih =>
    intro k f u hd hf hu
    obtain ⟨f, rfl⟩ : ∃ f', f = f' + 1 := ⟨f - 1, by omega⟩
    have kl : (k : Int) ≤ m_l p m := by omega
    obtain ⟨u1, x1, x2, x3⟩ := a_rdevk (K18 := fn251_18 f) ok nn hP hm kl 3 0 q_fu u (by omega) (by have := q_fu_ge; omega) hu
    obtain ⟨u2, y1, y2, y3⟩ := ih (k + 1) f u1 (by omega) (by omega) x2
    refine ⟨u2, ?_, y2, fun b => ?_⟩
    · rw [fn251_18, if_pos (by omega), Int.toNat_natCast, (hP.1 m (by omega)).2.1, if_neg (by omega)]
      exact x1.trans y1
    · rw [y3 b, x3 b]
      constructor
      · rintro ⟨⟨b1, b2⟩, b3⟩
        refine ⟨b1, fun i i1 j j1 j2 => ?_⟩
        by_cases e : j = k
        · rw [e]; exact b2 i (Nat.zero_le _) i1
        · exact b3 i i1 j (by omega) j2
      · rintro ⟨b1, b2⟩
        exact ⟨⟨b1, fun i _ i1 => b2 i i1 k (Nat.le_refl _) kl⟩, fun i i1 j j1 j2 => b2 i i1 j (by omega) j2⟩
theorem a_p27 {m : Int} {h h1 h2 : q_F} {S S1 : m_St} {v1 v2 : Int} (J : j_T S S h) (J1 : j_T S1 S h1) (e1 : fn6 m h = some (v1, h1)) (e2 : fn251 m h1 = some (v2, h2)) : a_QF h2 v1 v2 := by
  have hm := J1.2.1.1
  have f := (a_F (r_dev J1.2.1.2 hm) e2).1 154 (by omega)
  have ok := m_R0_ok hm.1.1
  have r := ok.2.1
  have g0 := a_g0 J1.2.1.2
  unfold fn251 at e2
  unfold fn6 fn172 at e1
  rw [a_299 J1.2.1.2 hm, Option.bind_some] at e2
  rw [c_move m J.1.2, Option.bind_some] at e1
  dsimp only at e1 e2
  by_cases c : 0 ≤ m ∧ m < S.w 4
  · obtain ⟨n, rfl⟩ : ∃ k : Nat, m = (k : Int) := ⟨m.toNat, by omega⟩
    obtain ⟨g, a1, P, -, -⟩ := c_planned J.1.2 J.1.1
    obtain ⟨p, b1, Q, b3, -⟩ := a_plan g0 hm
    have l := m_l_r ok (m := n) (by omega)
    have z : a_O 0 := ⟨by omega, by omega, g_V0⟩
    obtain ⟨x, x1, x2, x3⟩ := a_deva (h := g) ok hm.1.2 P c.2 3 0 q_fu 0 (by omega) (by have := q_fu_ge; omega) z
    obtain ⟨y, y1, y2, y3⟩ := a_rdevl (h := p) ok hm.1.2 Q c.2 (m_l S.w n + 1).toNat 0 q_fu 0 (by omega) (by have := q_fu_ge; omega) z
    have xy : x ≤ y := (x3 y).mpr ⟨((y3 y).mp (Int.le_refl _)).1, fun i _ i1 j j1 => ((y3 y).mp (Int.le_refl _)).2 i i1 j (Nat.zero_le _) j1⟩
    have yx : y ≤ x := (y3 x).mpr ⟨((x3 x).mp (Int.le_refl _)).1, fun i i1 j _ j1 => ((x3 x).mp (Int.le_refl _)).2 i (Nat.zero_le _) i1 j j1⟩
    have e : y = x := by omega
    have x1' : fn75_4 g q_fu n 0 0 = some x := x1
    have y1' : fn251_18 q_fu n 0 0 p = some (y, p) := y1
    rw [if_pos c, if_pos rfl, a1, Option.bind_some] at e1
    dsimp only at e1
    rw [fn75, x1', Option.bind_some, Option.bind_some] at e1
    dsimp only at e1
    rw [if_pos rfl] at e1
    rw [if_pos c, if_pos c, if_pos rfl, b1, Option.bind_some] at e2
    dsimp only at e2
    rw [y1', e] at e2
    by_cases n0 : q_n64 (FP.f2d (UInt32.ofNat x.toNat)) = true
    · rw [if_pos n0, m_let] at e1
      exact a_okF n0 e1 e2 (b3.trans (q_ud_s _ _ _ _)) f
    · rw [if_neg n0] at e1; cases e1
  · rw [if_neg c, if_neg (show ¬ (3 : Nat) = 0 by decide), if_pos rfl, Option.bind_some] at e1
    dsimp only at e1
    rw [if_neg (show ¬ (3 : Nat) = 1 by decide), if_pos rfl] at e1
    rw [if_neg c, if_neg c, if_neg (show ¬ (1 : Int) = 0 by decide)] at e2
    exact a_erF e1 e2 (q_ud_s _ _ _ _) (by decide)
end -- [98zzo.ans]
