section -- [98zg.ans]
/-! Part 98zg: answers that are the same on both sides. -/
theorem a_i {α : Type} {a b : α} {f : Option α} (h1 : f = some a) (h2 : f = some b) : a = b := Option.some.inj (h1.symm.trans h2)
theorem a_tb {h : q_F} {S : m_St} (hI : c_I h S) : h 6 4 = S.w 0 ∧ h 6 5 = S.w 1 ∧ h 6 6 = S.w 2 ∧ h 6 7 = S.w 3 ∧ h 6 8 = S.w 5 ∧ h 6 9 = S.w 6 ∧ h 6 10 = S.w 7 := hI.1.2.1
theorem a_p5 {h h2 : q_F} {S : m_St} {v1 v2 : Int} (J : j_T S S h) (e1 : fn177 h = some v1) (e2 : fn255 h = some (v2, h2)) : v1 = v2 := by
  unfold fn177 at e1
  unfold fn255 at e2
  rw [m_let] at e2
  cases e1; cases e2
  rw [q_ud_n (by omega)]
  exact J.2.2.2.1.1
theorem a_p6 {h h2 : q_F} {S : m_St} {v1 v2 : Int} (J : j_T S S h) (e1 : fn178 h = some v1) (e2 : fn257 h = some (v2, h2)) : v1 = v2 := by
  unfold fn178 at e1
  unfold fn257 at e2
  rw [m_let] at e2
  cases e1; cases e2
  rw [q_ud_n (by omega)]
  exact J.2.2.2.1.2
theorem a_p12 {h h2 : q_F} {S : m_St} {v1 v2 : Int} (J : j_T S S h) (e1 : fn223 h = some v1) (e2 : fn352 h = some (v2, h2)) : v1 = v2 := by
  unfold fn223 at e1
  unfold fn352 at e2
  rw [m_let] at e2
  cases e1; cases e2
  rw [q_ud_n (by omega), J.2.1.2.1]
  exact (a_tb J.1.2).2.2.2.2.1
theorem a_rem {S : m_St} : (m_rem S).w = S.w := by unfold m_rem; split <;> rfl
theorem a_p18 {h h1 h2 : q_F} {S S1 : m_St} {v1 v2 : Int} (J : j_T S S h) (J1 : j_T S1 S h1) (e1 : fn205 h = some (v1, h1)) (e2 : fn321 h1 = some (v2, h2)) : v1 = v2 := by
  obtain ⟨g1, a1, a2, a3⟩ := c_remember J.1.2 J.1.1
  obtain ⟨g2, b1, b2, b3⟩ := c_stop (v := 0) a2.1
  have f1 : fn205 h = some (g1 6 7, g2) := by rw [fn205, a1, Option.bind_some, b1, Option.bind_some]
  have d1 : v1 = g1 6 7 := congrArg Prod.fst (a_i e1 f1)
  have hT : r_T h1 (q_ud h1 139 7 0) := r_T_u r_T_r
  have hm := J1.2.1.1
  obtain ⟨k1, x1, x2, x3, x4⟩ := r_remember (r_I_T J1.2.1.2 hT) hm.2.1.1
  have ew : k1 140 = S.w := by rw [x2.1, a_rem]
  have w3 := (hm.1.1.1 3 (by omega)).2.2.1 rfl
  have f2 : fn321 h1 = some (S.w 3, m_sr k1 140 (m_stops (m_u S.w 3 0))) := by
    rw [fn321, m_let, x1, Option.bind_some]
    dsimp only
    rw [r_of (v := S.w 3) (by omega) (by omega) (by rw [ew]; rfl) (by omega), Option.bind_some, m_let, m_ud_sr, fn342_m, Option.bind_some, m_sr_s, m_sr_sr, ew]
  have d2 : v2 = S.w 3 := congrArg Prod.fst (a_i e2 f2)
  have d3 : g1 6 7 = S.w 3 := by rw [← a_rem (S := S)]; exact (a_tb a2).2.2.2.1
  rw [d1, d2]; exact d3
theorem a_sets {h2 h1 : q_F} {S S1 : m_St} {j : Nat} {v v2 : Int} (hj : j = 1 ∨ j = 2) (hv : v = 0 ∨ v = 1) (J1 : j_T S1 S h1) (e2 : fn332 j v h1 = some (v2, h2)) : v2 = S.w j := by
  have hT : r_T h1 (q_ud h1 139 7 0) := r_T_u r_T_r
  have hm := J1.2.1.1
  obtain ⟨k1, x1, x2, x3, x4⟩ := r_remember (r_I_T J1.2.1.2 hT) hm.2.1.1
  have ew : k1 140 = S.w := by rw [x2.1, a_rem]
  have key : ∀ p0 : Int, fn332_25 (j : Int) v p0 k1 = some (p0, m_sr k1 140 (m_u S.w j v)) := fun p0 => by
    rw [fn332_25]
    rcases hv with rfl | rfl
    · rw [if_pos rfl, fn332_40, if_pos (by omega), m_let, m_ud_sr, Int.toNat_natCast, ew]
    · rw [if_neg (by decide), fn332_40, if_pos (by omega), m_let, m_ud_sr, Int.toNat_natCast, ew]
  have w01 : S.w j = 0 ∨ S.w j = 1 := by
    have := (hm.1.1.1 j (by omega)).2.1 (by omega)
    exact this
  unfold fn332 at e2
  rw [m_let, x1, Option.bind_some, if_pos (by omega)] at e2
  dsimp only at e2
  rw [key, key, Int.toNat_natCast] at e2
  split at e2
  · rename_i c; rw [ew] at c; cases e2; exact c.symm
  · rename_i c; rw [ew] at c; cases e2; omega
theorem a_p19 {h h1 h2 : q_F} {S S1 : m_St} {v v1 v2 : Int} (hv : v = 0 ∨ v = 1) (J : j_T S S h) (J1 : j_T S1 S h1) (e1 : fn210 v h = some (v1, h1)) (e2 : fn328 v h1 = some (v2, h2)) : v1 = v2 := by
  obtain ⟨g1, a1, a2, a3⟩ := c_remember J.1.2 J.1.1
  have f1 : fn210 v h = some (g1 6 5, q_ud g1 6 5 v) := by rw [fn210, a1, Option.bind_some, m_let]
  have d1 : v1 = g1 6 5 := congrArg Prod.fst (a_i e1 f1)
  rw [fn328, s_id] at e2
  have d2 := a_sets (j := 1) (Or.inl rfl) hv J1 e2
  have d3 : g1 6 5 = S.w 1 := by rw [← a_rem (S := S)]; exact (a_tb a2).2.1
  rw [d1, d2]; exact d3
theorem a_p20 {h h1 h2 : q_F} {S S1 : m_St} {v v1 v2 : Int} (hv : v = 0 ∨ v = 1) (J : j_T S S h) (J1 : j_T S1 S h1) (e1 : fn211 v h = some (v1, h1)) (e2 : fn329 v h1 = some (v2, h2)) : v1 = v2 := by
  obtain ⟨g1, a1, a2, a3⟩ := c_remember J.1.2 J.1.1
  have f1 : fn211 v h = some (g1 6 6, q_ud g1 6 6 v) := by rw [fn211, a1, Option.bind_some, m_let]
  have d1 : v1 = g1 6 6 := congrArg Prod.fst (a_i e1 f1)
  rw [fn329, s_id] at e2
  have d2 := a_sets (j := 2) (Or.inr rfl) hv J1 e2
  have d3 : g1 6 6 = S.w 2 := by rw [← a_rem (S := S)]; exact (a_tb a2).2.2.1
  rw [d1, d2]; exact d3
theorem a_p61 {h h1 h2 : q_F} {S : m_St} {v1 v2 : Int} (J : j_T S S h) (J1 : j_T (m_oUndo S) S h1) (J2 : j_T (m_oUndo S) (m_oUndo S) h2) (e1 : fn228 h = some (v1, h1)) (e2 : fn360 h1 = some (v2, h2)) : v1 = v2 := by
  have n1 : h 33 1 = (S.n : Int) := J.1.2.2.1.1
  have n2 : h1 139 5 = (S.n : Int) := J1.2.1.2.2.1.1
  have m1 : h1 33 1 = ((m_oUndo S).n : Int) := J1.1.2.2.1.1
  have m2 : h2 139 5 = ((m_oUndo S).n : Int) := J2.2.1.2.2.1.1
  unfold fn228 at e1
  unfold fn360 at e2
  rw [m_let, q_ud_n (by omega), n2] at e2
  rw [n1] at e1
  by_cases c : S.n = 0
  · rw [if_pos (by omega)] at e1 e2
    cases e1; cases e2; rfl
  · rw [if_neg (by omega)] at e1 e2
    rw [m_let] at e2
    generalize q_ud (q_ud h1 139 7 0) 139 5 (q_w32 ((S.n : Int) - 1)) = gg at e2
    cases h4 : fn249 144 1220 140 122 (q_w32 ((122 : Int) * (gg 139 5))) (0 : Int) (122 : Int) gg with
    | none => rw [h4] at e2; cases e2
    | some y =>
      rw [h4, Option.bind_some] at e2
      cases e2
      rw [m2]
      cases h3 : fn69 6 h with
      | none => rw [h3] at e1; cases e1
      | some x =>
        rw [h3, Option.bind_some] at e1
        cases e1
        rw [m1]
theorem a_p62 {h h1 h2 : q_F} {S : m_St} {v1 v2 : Int} (J : j_T S S h) (J1 : j_T (m_oSave S) S h1) (J2 : j_T (m_oSave S) (m_oSave S) h2) (e1 : fn209 h = some (v1, h1)) (e2 : fn326 h1 = some (v2, h2)) : v1 = v2 := by
  have r := (m_R0_ok J.1.1.1.1).2.1
  have m1 : h1 13 1 = S.w 4 := J1.1.2.1.2.2.1
  have m2 : h2 140 4 = S.w 4 := by rw [J2.2.1.2.1]; rfl
  unfold fn209 at e1
  unfold fn326 at e2
  rw [m_let] at e2
  cases h3 : fn127 15 6 h with
  | none => rw [h3] at e1; cases e1
  | some x =>
    rw [h3, Option.bind_some, m_let] at e1
    cases h4 : fn249 140 122 143 122 (0 : Int) (0 : Int) (122 : Int) (q_ud h1 139 7 0) with
    | none => rw [h4] at e2; cases e2
    | some y =>
      rw [h4, Option.bind_some, m_let] at e2
      cases e1
      cases h5 : fn303 (4 : Int) (q_ud y.2 139 6 1) with
      | none => rw [h5] at e2; cases e2
      | some z =>
        rw [h5, Option.bind_some] at e2
        cases e2
        have := a_i h5 (r_of (v := S.w 4) (by omega) (by omega) m2 (by omega))
        rw [m1, this]
end -- [98zg.ans]
section -- [98zh.ans]
/-! Part 98zh: two long answers that are the same. -/
theorem y_lc {Γ : q_Γ} {P : Nat → q_V → q_F → Prop} {i n p x cl sl : Nat} {off a b : Int} {K : Nat → q_Ly} {lo : q_L} {st : List q_V} {hp : q_H} (c0 : q_cat i p .lcmp 1 0 0 0) (c1 : q_cat i (p + 1) (.ifCond .eq off) 3 x 0 0) (h : a = b) (k : q_R Γ K n i P (x, lo, st, hp, [], cl, sl)) : q_R Γ K n i P (p, lo, (1, b) :: (1, a) :: st, hp, [], cl, sl) := by
  subst h
  refine r_lcmp c0 rfl (fun h9 => absurd h9 (Int.lt_irrefl _)) (fun _ => ?_) (fun h9 => absurd h9 (Int.lt_irrefl _))
  exact r_if_eq (a' := 0) c1 rfl (q_w32_id (by decide) (by decide)) (fun _ => k) (fun h9 => absurd rfl h9.1)
end -- [98zh.ans]
section -- [98zi.ans]
/-! Part 98zi: what was thrown and the answers of the calls that may throw. -/
theorem a_F {f : Option (Int × q_F)} {h h2 : q_F} {S : m_St} {v : Int} (g : r_W f h S) (e : f = some (v, h2)) : r_F h h2 := by
  obtain ⟨v', h', a, -, b⟩ := g
  have := congrArg Prod.snd (a_i e a)
  have e2 : h2 = h' := this
  rw [e2]; exact b
theorem a_258 (c k : Int) (g : q_F) : fn258 c k g = some (c, if c = 0 then g else q_ud g 139 7 k) := by
  unfold fn258
  by_cases e : c = 0
  · rw [if_pos e, if_pos e]
  · rw [if_neg e, if_neg e, m_let]
/-- how the two sides of such a call compare -/
def a_Q (h2 : q_F) (v1 v2 : Int) : Prop := h2 139 7 = v1 ∧ (v1 = 0 → h2 153 0 = v2)
theorem a_p7 {v : Int} {h h1 h2 : q_F} {S S1 : m_St} {v1 v2 : Int} (J : j_T S S h) (J1 : j_T S1 S h1) (e1 : fn5 v h = some (v1, h1)) (e2 : fn250 v h1 = some (v2, h2)) : a_Q h2 v1 v2 := by
  have hm := J1.2.1.1
  have hI := J1.2.1.2
  have F := a_F (r_count hI hm) e2
  have f153 : h2 153 = h1 153 := F.1 153 (by omega)
  have tb := a_tb J.1.2
  have g0 : r_I (q_ud h1 139 7 0) S := r_I_T hI (r_T_u r_T_r)
  have w := (m_R0_ok J.1.1.1.1)
  unfold fn250 at e2
  rw [m_let, r_rng, Option.bind_some, fn250_23, fn250_23, a_258, a_258, Option.bind_some, Option.bind_some] at e2
  dsimp only at e2
  unfold fn5 fn171 at e1
  by_cases c : 0 ≤ v ∧ v ≤ 6
  · rw [if_pos c, if_neg (show ¬ (1 : Int) = 0 by decide), if_pos rfl, if_pos rfl] at e2
    have w0 := w.1
    have wx : ∀ j : Nat, j < 5 → -2147483648 ≤ S.w j ∧ S.w j < 2147483648 := fun j hj => by
      obtain rfl | rfl | rfl | rfl | rfl : j = 0 ∨ j = 1 ∨ j = 2 ∨ j = 3 ∨ j = 4 := by omega
      · omega
      · have := (hm.1.1.1 1 (by omega)).2.1 (by omega); omega
      · have := (hm.1.1.1 2 (by omega)).2.1 (by omega); omega
      · have := (hm.1.1.1 3 (by omega)).2.2.1 rfl; omega
      · have := w.2.1; omega
    have key : ∀ j : Nat, j < 5 → fn303 (j : Int) (q_ud h1 139 7 0) = some (S.w j) := fun j hj => r_of (by omega) (by omega) (by rw [Int.toNat_natCast, g0.1]) (wx j hj)
    have fin : ∀ x y : Int, (some ((0 : Int), q_ud h 153 0 x) : Option (Int × q_F)) = some (v1, h1) → (some (y, q_ud h1 139 7 0) : Option (Int × q_F)) = some (v2, h2) → x = y → a_Q h2 v1 v2 := fun x y e3 e4 exy => by
      have a1 : v1 = 0 := (congrArg Prod.fst (Option.some.inj e3)).symm
      have a2 : h1 = q_ud h 153 0 x := (congrArg Prod.snd (Option.some.inj e3)).symm
      have b1 : v2 = y := (congrArg Prod.fst (Option.some.inj e4)).symm
      have b2 : h2 = q_ud h1 139 7 0 := (congrArg Prod.snd (Option.some.inj e4)).symm
      refine ⟨by rw [b2, q_ud_s, a1], fun _ => ?_⟩
      rw [f153, a2, q_ud_s, b1, exy]
    obtain ⟨n, rfl⟩ : ∃ n : Nat, v = (n : Int) := ⟨v.toNat, by omega⟩
    by_cases n5 : n = 5
    · subst n5
      rw [if_pos (show ((5 : Nat) : Int) = 5 from rfl), r_homed g0 hm, Option.bind_some] at e2
      rw [if_neg (by decide), if_neg (by decide), if_neg (by decide), if_neg (by decide), if_neg (by decide), if_pos (show ((5 : Nat) : Int) = 5 from rfl), c_homed J.1.2 J.1.1, Option.bind_some, Option.bind_some] at e1
      dsimp only at e1
      rw [if_pos (show (1 : Nat) = 1 from rfl), m_let] at e1
      exact fin _ _ e1 e2 rfl
    · rw [if_neg (show ¬ (n : Int) = 5 by omega)] at e2
      by_cases n6 : n = 6
      · subst n6
        rw [if_pos (show ((6 : Nat) : Int) = 6 from rfl)] at e2
        rw [if_neg (by decide), if_neg (by decide), if_neg (by decide), if_neg (by decide), if_neg (by decide), if_neg (by decide), if_pos (show ((6 : Nat) : Int) = 6 from rfl), Option.bind_some] at e1
        dsimp only at e1
        rw [if_pos (show (1 : Nat) = 1 from rfl), m_let] at e1
        exact fin _ _ e1 e2 (by rw [g0.2.1.1]; exact J.1.2.2.1.1)
      · rw [if_neg (show ¬ (n : Int) = 6 by omega), key n (by omega), Option.bind_some] at e2
        obtain rfl | rfl | rfl | rfl | rfl : n = 0 ∨ n = 1 ∨ n = 2 ∨ n = 3 ∨ n = 4 := by omega
        · rw [if_pos (show ((0 : Nat) : Int) = 0 from rfl), Option.bind_some] at e1
          dsimp only at e1
          rw [if_pos (show (1 : Nat) = 1 from rfl), m_let] at e1
          exact fin _ _ e1 e2 tb.1
        · rw [if_neg (by decide), if_pos (show ((1 : Nat) : Int) = 1 from rfl)] at e1
          have b := (hm.1.1.1 1 (by omega)).2.1 (by omega)
          split at e1
          · rename_i c9
            rw [Option.bind_some] at e1
            dsimp only at e1
            rw [if_pos (show (1 : Nat) = 1 from rfl), m_let] at e1
            exact fin _ _ e1 e2 (by rw [← tb.2.1]; exact c9.symm)
          · rename_i c9
            rw [Option.bind_some] at e1
            dsimp only at e1
            rw [if_pos (show (1 : Nat) = 1 from rfl), m_let] at e1
            rw [tb.2.1] at c9
            exact fin _ _ e1 e2 (by omega)
        · rw [if_neg (by decide), if_neg (by decide), if_pos (show ((2 : Nat) : Int) = 2 from rfl)] at e1
          have b := (hm.1.1.1 2 (by omega)).2.1 (by omega)
          split at e1
          · rename_i c9
            rw [Option.bind_some] at e1
            dsimp only at e1
            rw [if_pos (show (1 : Nat) = 1 from rfl), m_let] at e1
            exact fin _ _ e1 e2 (by rw [← tb.2.2.1]; exact c9.symm)
          · rename_i c9
            rw [Option.bind_some] at e1
            dsimp only at e1
            rw [if_pos (show (1 : Nat) = 1 from rfl), m_let] at e1
            rw [tb.2.2.1] at c9
            exact fin _ _ e1 e2 (by omega)
        · rw [if_neg (by decide), if_neg (by decide), if_neg (by decide), if_pos (show ((3 : Nat) : Int) = 3 from rfl), Option.bind_some] at e1
          dsimp only at e1
          rw [if_pos (show (1 : Nat) = 1 from rfl), m_let] at e1
          exact fin _ _ e1 e2 tb.2.2.2.1
        · rw [if_neg (by decide), if_neg (by decide), if_neg (by decide), if_neg (by decide), if_pos (show ((4 : Nat) : Int) = 4 from rfl), Option.bind_some] at e1
          dsimp only at e1
          rw [if_pos (show (1 : Nat) = 1 from rfl), m_let] at e1
          exact fin _ _ e1 e2 J.1.2.1.2.2.1
  · rw [if_neg c, if_pos rfl, if_neg (show ¬ (1 : Int) = 0 by decide), if_neg (show ¬ (1 : Int) = 0 by decide)] at e2
    rw [if_neg (by omega), if_neg (by omega), if_neg (by omega), if_neg (by omega), if_neg (by omega), if_neg (by omega), if_neg (by omega), Option.bind_some] at e1
    dsimp only at e1
    rw [if_neg (show ¬ (2 : Nat) = 1 by decide), if_pos rfl] at e1
    cases e1; cases e2
    exact ⟨q_ud_s _ _ _ _, fun h9 => absurd h9 (by decide)⟩
end -- [98zi.ans]
section -- [98zj.ans]
/-! Part 98zj: axis, coordinate, error, readsClosed. -/
theorem a_ok {x : Int} {hc g h1 h2 : q_F} {v1 v2 : Int} (f1 : some ((0 : Int), q_ud hc 153 0 x) = some (v1, h1)) (f2 : some (x, g) = some (v2, h2)) (z : g 139 7 = 0) (f : h2 153 = h1 153) : a_Q h2 v1 v2 := by
  have a1 : v1 = 0 := (congrArg Prod.fst (Option.some.inj f1)).symm
  have a2 : h1 = q_ud hc 153 0 x := (congrArg Prod.snd (Option.some.inj f1)).symm
  have b1 : v2 = x := (congrArg Prod.fst (Option.some.inj f2)).symm
  have b2 : h2 = g := (congrArg Prod.snd (Option.some.inj f2)).symm
  refine ⟨by rw [b2, z, a1], fun _ => ?_⟩
  rw [f, a2, q_ud_s, b1]
theorem a_er {c y : Int} {hc g h1 h2 : q_F} {v1 v2 : Int} (f1 : some (c, hc) = some (v1, h1)) (f2 : some (y, g) = some (v2, h2)) (z : g 139 7 = c) (c0 : c ≠ 0) : a_Q h2 v1 v2 := by
  have a1 : v1 = c := (congrArg Prod.fst (Option.some.inj f1)).symm
  have b2 : h2 = g := (congrArg Prod.snd (Option.some.inj f2)).symm
  exact ⟨by rw [b2, z, a1], fun h9 => absurd (a1.symm.trans h9) c0⟩
/-- the heap of the reference behind a check -/
def a_g (c k : Int) (g : q_F) : q_F := if c = 0 then g else q_ud g 139 7 k
theorem a_298 (v : Int) (h : q_F) : fn298 v h = some (if 0 ≤ v ∧ v ≤ 2 then 0 else 1, if 0 ≤ v ∧ v ≤ 2 then q_ud h 139 7 0 else q_ud (q_ud h 139 7 0) 139 7 1) := by
  unfold fn298 fn298_23
  rw [m_let, r_rng, Option.bind_some, a_258, a_258, Option.bind_some, Option.bind_some]
  by_cases c : 0 ≤ v ∧ v ≤ 2
  · rw [if_pos c, if_neg (show ¬ (1 : Int) = 0 by decide), if_pos c, if_pos c, if_pos rfl]
  · rw [if_neg c, if_pos rfl, if_neg c, if_neg c, if_neg (show ¬ (1 : Int) = 0 by decide)]
theorem a_302 {a k : Int} {h : q_F} (ha : 0 ≤ a ∧ a ≤ 2) : fn302 a k h = some (if h 140 (41 + a).toNat = 0 then 1 else 0, if h 140 (41 + a).toNat = 0 then q_ud h 139 7 k else h) := by
  unfold fn302 fn302_20
  rw [q_w32_id (z := 41 + a) (by omega) (by omega), if_pos (by omega), a_258, a_258, Option.bind_some, Option.bind_some]
  split
  · rw [if_neg (show ¬ (1 : Int) = 0 by decide)]
  · rw [if_pos rfl]
theorem a_ax {h : q_F} {S : m_St} {a : Nat} (hI : c_I h S) (ha : a < 3) : c_ax h (q_axn 6 a) S.w a := by rw [q_axn_e ha]; exact hI.1.1 a ha
theorem a_g0 {h : q_F} {S : m_St} (hI : r_I h S) : r_I (q_ud h 139 7 0) S := r_I_T hI (r_T_u r_T_r)
theorem a_p9 {a : Int} {h h1 h2 : q_F} {S S1 : m_St} {v1 v2 : Int} (J : j_T S S h) (J1 : j_T S1 S h1) (e1 : fn4 a h = some (v1, h1)) (e2 : fn248 a h1 = some (v2, h2)) : a_Q h2 v1 v2 := by
  have hm := J1.2.1.1
  have f := (a_F (r_coordinate J1.2.1.2) e2).1 153 (by omega)
  have g0 := a_g0 J1.2.1.2
  unfold fn248 fn248_17 at e2
  unfold fn4 fn170 at e1
  rw [a_298, Option.bind_some] at e2
  rw [c_axis, Option.bind_some] at e1
  dsimp only at e1 e2
  by_cases c : 0 ≤ a ∧ a ≤ 2
  · rw [if_pos c, if_pos rfl] at e1
    rw [if_pos c, if_pos c, if_pos rfl, a_302 c, Option.bind_some] at e2
    obtain ⟨n, rfl⟩ : ∃ n : Nat, a = (n : Int) := ⟨a.toNat, by omega⟩
    have X := a_ax J.1.2 (a := n) (by omega)
    have x11 : h (q_axn 6 (n : Int)) 11 = S.w (41 + n) := X.1 11 (by omega)
    have x12 : h (q_axn 6 (n : Int)) 12 = S.w (47 + n) := X.1 12 (by omega)
    have g41 : q_ud h1 139 7 0 140 (41 + (n : Int)).toNat = S.w (41 + n) := by rw [show (41 + (n : Int)).toNat = 41 + n by omega, g0.1]
    unfold fn163 at e1
    dsimp only at e1 e2
    rw [x11] at e1
    rw [g41] at e2
    by_cases z : S.w (41 + n) = 0
    · rw [if_pos z, Option.bind_some] at e1
      dsimp only at e1
      rw [if_neg (show ¬ (4 : Nat) = 0 by decide), if_pos rfl, Option.bind_some] at e1
      dsimp only at e1
      rw [if_neg (show ¬ (4 : Nat) = 1 by decide), if_neg (show ¬ (4 : Nat) = 3 by decide), if_pos rfl] at e1
      rw [if_pos z, if_pos z, if_neg (show ¬ (1 : Int) = 0 by decide)] at e2
      exact a_er e1 e2 (q_ud_s _ _ _ _) (by decide)
    · have b := (hm.1.1.1 (47 + n) (by omega)).2.2.2.2.2.2.2.2.2 (by omega)
      rw [if_neg z, Option.bind_some] at e1
      dsimp only at e1
      rw [if_pos rfl, Option.bind_some] at e1
      dsimp only at e1
      rw [if_pos rfl, m_let, x12] at e1
      rw [if_neg z, if_neg z, if_pos rfl, q_w32_id (z := 47 + (n : Int)) (by omega) (by omega), r_of (v := S.w (47 + n)) (by omega) (by omega) (by rw [show (47 + (n : Int)).toNat = 47 + n by omega, g0.1]) (by omega), Option.bind_some] at e2
      exact a_ok e1 e2 (q_ud_s _ _ _ _) f
  · rw [if_neg c, if_neg (show ¬ (3 : Nat) = 0 by decide), if_pos rfl, Option.bind_some] at e1
    dsimp only at e1
    rw [if_neg (show ¬ (3 : Nat) = 1 by decide), if_pos rfl] at e1
    rw [if_neg c, if_neg c, if_neg (show ¬ (1 : Int) = 0 by decide)] at e2
    exact a_er e1 e2 (q_ud_s _ _ _ _) (by decide)
end -- [98zj.ans]
section -- [98zk.ans]
/-! Part 98zk: error, readsClosed, axis. -/
theorem a_rw {h : q_F} {S : m_St} {j : Nat} {z : Int} (hI : r_I h S) (hj : j < 122) (hz : z = (j : Int)) (hb : -2147483648 ≤ S.w j ∧ S.w j < 2147483648) : fn303 z h = some (S.w j) := by
  subst hz
  exact r_of (by omega) (by omega) (by rw [Int.toNat_natCast, hI.1]) hb
theorem a_p10 {a : Int} {h h1 h2 : q_F} {S S1 : m_St} {v1 v2 : Int} (J : j_T S S h) (J1 : j_T S1 S h1) (e1 : fn8 a h = some (v1, h1)) (e2 : fn254 a h1 = some (v2, h2)) : a_Q h2 v1 v2 := by
  have hm := J1.2.1.1
  have f := (a_F (r_errorC J1.2.1.2) e2).1 153 (by omega)
  have g0 := a_g0 J1.2.1.2
  unfold fn254 fn254_17 at e2
  unfold fn8 fn176 fn47 at e1
  rw [a_298, Option.bind_some] at e2
  rw [c_axis, Option.bind_some] at e1
  dsimp only at e1 e2
  by_cases c : 0 ≤ a ∧ a ≤ 2
  · rw [if_pos c, if_pos rfl] at e1
    rw [if_pos c, if_pos c, if_pos rfl, a_302 c, Option.bind_some] at e2
    obtain ⟨n, rfl⟩ : ∃ n : Nat, a = (n : Int) := ⟨a.toNat, by omega⟩
    have X := a_ax J.1.2 (a := n) (by omega)
    have x11 : h (q_axn 6 (n : Int)) 11 = S.w (41 + n) := X.1 11 (by omega)
    have x12 : h (q_axn 6 (n : Int)) 12 = S.w (47 + n) := X.1 12 (by omega)
    have x13 : h (q_axn 6 (n : Int)) 13 = S.w (50 + n) := X.1 13 (by omega)
    have x6 : h (q_axn 6 (n : Int)) 6 = S.w (26 + n) := X.1 6 (by omega)
    have g41 : q_ud h1 139 7 0 140 (41 + (n : Int)).toNat = S.w (41 + n) := by rw [show (41 + (n : Int)).toNat = 41 + n by omega, g0.1]
    unfold fn163 at e1
    dsimp only at e1 e2
    rw [x11] at e1
    rw [g41] at e2
    by_cases z : S.w (41 + n) = 0
    · rw [if_pos z, Option.bind_some] at e1
      dsimp only at e1
      rw [if_neg (show ¬ (4 : Nat) = 0 by decide), if_pos rfl, Option.bind_some] at e1
      dsimp only at e1
      rw [if_neg (show ¬ (4 : Nat) = 1 by decide), if_neg (show ¬ (4 : Nat) = 3 by decide), if_pos rfl] at e1
      rw [if_pos z, if_pos z, if_neg (show ¬ (1 : Int) = 0 by decide)] at e2
      exact a_er e1 e2 (q_ud_s _ _ _ _) (by decide)
    · have b1 := (hm.1.1.1 (47 + n) (by omega)).2.2.2.2.2.2.2.2.2 (by omega)
      have b2 := (hm.1.1.1 (50 + n) (by omega)).2.2.2.2.2.2.2.2.2 (by omega)
      have b3 := (m_a3_i hm.1.1.2 (a := n) (by omega)).2.1
      rw [if_neg z, Option.bind_some] at e1
      dsimp only at e1
      rw [if_pos rfl, Option.bind_some, Option.bind_some] at e1
      dsimp only at e1
      rw [if_pos rfl, m_let, x12, x13, x6] at e1
      rw [if_neg z, if_neg z, if_pos rfl] at e2
      unfold fn256 at e2
      rw [q_w32_id (z := 26 + (n : Int)) (by omega) (by omega), q_w32_id (z := 50 + (n : Int)) (by omega) (by omega), q_w32_id (z := 47 + (n : Int)) (by omega) (by omega), a_rw (j := 26 + n) g0 (by omega) (by omega) (by omega), Option.bind_some, a_rw (j := 50 + n) g0 (by omega) (by omega) (by omega), Option.bind_some, a_rw (j := 47 + n) g0 (by omega) (by omega) (by omega), Option.bind_some, Option.bind_some] at e2
      exact a_ok e1 e2 (q_ud_s _ _ _ _) f
  · rw [if_neg c, if_neg (show ¬ (3 : Nat) = 0 by decide), if_pos rfl, Option.bind_some] at e1
    dsimp only at e1
    rw [if_neg (show ¬ (3 : Nat) = 1 by decide), if_pos rfl] at e1
    rw [if_neg c, if_neg c, if_neg (show ¬ (1 : Int) = 0 by decide)] at e2
    exact a_er e1 e2 (q_ud_s _ _ _ _) (by decide)
theorem a_p11 {a : Int} {h h1 h2 : q_F} {S S1 : m_St} {v1 v2 : Int} (J : j_T S S h) (J1 : j_T S1 S h1) (e1 : fn22 a h = some (v1, h1)) (e2 : fn319 a h1 = some (v2, h2)) : a_Q h2 v1 v2 := by
  have hm := J1.2.1.1
  have f := (a_F (r_readsC J1.2.1.2) e2).1 153 (by omega)
  have g0 := a_g0 J1.2.1.2
  unfold fn319 at e2
  unfold fn22 fn204 at e1
  rw [a_298, Option.bind_some] at e2
  rw [c_axis, Option.bind_some] at e1
  dsimp only at e1 e2
  by_cases c : 0 ≤ a ∧ a ≤ 2
  · rw [if_pos c, if_pos rfl] at e1
    rw [if_pos c, if_pos c, if_pos rfl] at e2
    obtain ⟨n, rfl⟩ : ∃ n : Nat, a = (n : Int) := ⟨a.toNat, by omega⟩
    have X := a_ax J.1.2 (a := n) (by omega)
    have x9 : h (q_axn 6 (n : Int)) 9 = S.w (38 + n) := X.1 9 (by omega)
    have x10 : h (q_axn 6 (n : Int)) 10 = S.w (53 + n) := X.1 10 (by omega)
    have g38 : q_ud h1 139 7 0 140 (38 + (n : Int)).toNat = S.w (38 + n) := by rw [show (38 + (n : Int)).toNat = 38 + n by omega, g0.1]
    have g53 : q_ud h1 139 7 0 140 (53 + (n : Int)).toNat = S.w (53 + n) := by rw [show (53 + (n : Int)).toNat = 53 + n by omega, g0.1]
    have b := (m_a3_i hm.1.1.2 (a := n) (by omega)).2.2.1
    unfold fn54 at e1
    unfold fn318 fn318_44 at e2
    rw [q_w32_id (z := 38 + (n : Int)) (by omega) (by omega), q_w32_id (z := 53 + (n : Int)) (by omega) (by omega), if_pos (show 0 ≤ 38 + (n : Int) ∧ 38 + (n : Int) < 122 by omega), if_pos (show 0 ≤ 38 + (n : Int) ∧ 38 + (n : Int) < 122 by omega), if_pos (show 0 ≤ 53 + (n : Int) ∧ 53 + (n : Int) < 122 by omega)] at e2
    rw [x9, x10] at e1
    rw [g38, g53] at e2
    have f0 : fn22_15 0 0 h = some (0, q_ud h 153 0 0) := by unfold fn22_15; rw [if_pos (by decide), m_let]; rfl
    have f1 : fn22_15 1 0 h = some (0, q_ud h 153 0 1) := by unfold fn22_15; rw [if_pos (by decide), m_let]; rfl
    by_cases s0 : S.w (38 + n) = 0
    · rw [if_pos s0, Option.bind_some, Option.bind_some] at e1
      dsimp only at e1
      rw [if_pos rfl, f0, f1] at e1
      rw [if_neg (show ¬ S.w (38 + n) = 2 by omega), if_pos s0] at e2
      rcases b with b | b
      · rw [if_pos b] at e1
        rw [if_neg (by omega), Option.bind_some, if_pos rfl] at e2
        exact a_ok e1 e2 (q_ud_s _ _ _ _) f
      · rw [if_neg (by omega)] at e1
        rw [if_pos b, Option.bind_some, if_neg (by decide)] at e2
        exact a_ok e1 e2 (q_ud_s _ _ _ _) f
    · rw [if_neg s0] at e1
      by_cases s2 : S.w (38 + n) = 2
      · rw [if_pos s2, Option.bind_some, Option.bind_some] at e1
        dsimp only at e1
        rw [if_pos rfl, if_neg (by decide), f1] at e1
        rw [if_pos s2, Option.bind_some, if_neg (by decide)] at e2
        exact a_ok e1 e2 (q_ud_s _ _ _ _) f
      · rw [if_neg s2, Option.bind_some, Option.bind_some] at e1
        dsimp only at e1
        rw [if_pos rfl, if_pos rfl, f0] at e1
        rw [if_neg s2, if_neg s0, Option.bind_some, if_pos rfl] at e2
        exact a_ok e1 e2 (q_ud_s _ _ _ _) f
  · rw [if_neg c, if_neg (show ¬ (3 : Nat) = 0 by decide), if_pos rfl, Option.bind_some] at e1
    dsimp only at e1
    rw [if_neg (show ¬ (3 : Nat) = 1 by decide), if_pos rfl] at e1
    rw [if_neg c, if_neg c, if_neg (show ¬ (1 : Int) = 0 by decide)] at e2
    exact a_er e1 e2 (q_ud_s _ _ _ _) (by decide)
end -- [98zk.ans]
section -- [98zm.ans]
/-! Part 98zm: account, setStart, setStuck, unqueue, slackLeft, restoreState. -/
theorem a_p56v {h : q_F} {S : m_St} {n v : Nat} (hI : c_I h S) (hn : n < 3) (hv : v ≤ 5) : fn44 (q_axn 6 (n : Int) + 1) v h = some (q_w32 (S.w (56 + 3 * v + n))) := by
  have X := a_ax hI hn
  obtain rfl | rfl | rfl | rfl | rfl | rfl : v = 0 ∨ v = 1 ∨ v = 2 ∨ v = 3 ∨ v = 4 ∨ v = 5 := by omega
  · have e : h (q_axn 6 (n : Int) + 1) 0 = q_w32 (S.w (56 + n)) := X.2 0 (by omega)
    rw [fn44, if_pos (show ((0 : Nat) : Int) = 0 from rfl), e]
  · have e : h (q_axn 6 (n : Int) + 1) 1 = q_w32 (S.w (59 + n)) := X.2 1 (by omega)
    rw [fn44, if_neg (by decide), if_pos (show ((1 : Nat) : Int) = 1 from rfl), e]
  · have e : h (q_axn 6 (n : Int) + 1) 3 = q_w32 (S.w (62 + n)) := X.2 3 (by omega)
    rw [fn44, if_neg (by decide), if_neg (by decide), if_pos (show ((2 : Nat) : Int) = 2 from rfl), e]
  · have e : h (q_axn 6 (n : Int) + 1) 4 = q_w32 (S.w (65 + n)) := X.2 4 (by omega)
    rw [fn44, if_neg (by decide), if_neg (by decide), if_neg (by decide), if_pos (show ((3 : Nat) : Int) = 3 from rfl), e]
  · have e : h (q_axn 6 (n : Int) + 1) 5 = q_w32 (S.w (68 + n)) := X.2 5 (by omega)
    rw [fn44, if_neg (by decide), if_neg (by decide), if_neg (by decide), if_neg (by decide), if_pos (show ((4 : Nat) : Int) = 4 from rfl), e]
  · have e : h (q_axn 6 (n : Int) + 1) 6 = q_w32 (S.w (71 + n)) := X.2 6 (by omega)
    rw [fn44, if_neg (by decide), if_neg (by decide), if_neg (by decide), if_neg (by decide), if_neg (by decide), e]
theorem a_p56 {a v : Int} {h h1 h2 : q_F} {S S1 : m_St} {v1 v2 : Int} (J : j_T S S h) (J1 : j_T S1 S h1) (e1 : fn0 a v h = some (v1, h1)) (e2 : fn234 a v h1 = some (v2, h2)) : a_Q h2 v1 v2 := by
  have f := (a_F (r_account J1.2.1.2) e2).1 153 (by omega)
  have g0 := a_g0 J1.2.1.2
  unfold fn234 fn234_26 at e2
  unfold fn0 fn155 fn155_14 at e1
  rw [a_298, Option.bind_some] at e2
  rw [c_axis, Option.bind_some] at e1
  dsimp only at e1 e2
  by_cases c : 0 ≤ a ∧ a ≤ 2
  · rw [if_pos c, if_pos rfl] at e1
    rw [if_pos c, if_pos c, if_pos rfl, r_rng, Option.bind_some, a_258, a_258, Option.bind_some, Option.bind_some] at e2
    dsimp only at e2
    obtain ⟨n, rfl⟩ : ∃ n : Nat, a = (n : Int) := ⟨a.toNat, by omega⟩
    by_cases cv : 0 ≤ v ∧ v ≤ 5
    · obtain ⟨m, rfl⟩ : ∃ m : Nat, v = (m : Int) := ⟨v.toNat, by omega⟩
      have V := a_p56v (n := n) (v := m) J.1.2 (by omega) (by omega)
      rw [if_neg (show ¬ (m : Int) < 0 by omega), if_pos cv.2, V, Option.bind_some, Option.bind_some] at e1
      rw [if_pos cv, if_neg (show ¬ (1 : Int) = 0 by decide), if_pos rfl, if_pos rfl, q_w32_id (z := 3 * (m : Int)) (by omega) (by omega), q_w32_id (z := 56 + 3 * (m : Int)) (by omega) (by omega), q_w32_id (by omega) (by omega), fn303_i (by omega) (by omega), Option.bind_some, show (56 + 3 * (m : Int) + n).toNat = 56 + 3 * m + n by omega, g0.1] at e2
      exact a_ok e1 e2 (q_ud_s _ _ _ _) f
    · rw [if_neg cv, if_pos rfl, if_neg (show ¬ (1 : Int) = 0 by decide), if_neg (show ¬ (1 : Int) = 0 by decide)] at e2
      have e3 : some ((2 : Int), h) = some (v1, h1) := by
        rw [← e1]
        by_cases c5 : v < 0
        · rw [if_pos c5, Option.bind_some]; rfl
        · rw [if_neg c5, if_neg (show ¬ v ≤ 5 by omega), Option.bind_some]; rfl
      exact a_er e3 e2 (q_ud_s _ _ _ _) (by decide)
  · rw [if_neg c, if_neg (show ¬ (3 : Nat) = 0 by decide), if_pos rfl, Option.bind_some] at e1
    dsimp only at e1
    rw [if_neg (show ¬ (3 : Nat) = 1 by decide), if_neg (show ¬ (3 : Nat) = 2 by decide), if_pos rfl] at e1
    rw [if_neg c, if_neg c, if_neg (show ¬ (1 : Int) = 0 by decide)] at e2
    exact a_er e1 e2 (q_ud_s _ _ _ _) (by decide)
/-- the reference remembers: its row stays, what was thrown stays 0 -/
theorem a_rm {h : q_F} {S : m_St} (hI : r_I h S) (hm : m_I S) : ∃ k, fn320 (q_ud h 139 7 0) = some (0, k) ∧ k 140 = S.w ∧ k 139 7 = 0 ∧ r_I k (m_rem S) := by
  obtain ⟨k, x1, x2, x3, x4⟩ := r_remember (a_g0 hI) hm.2.1.1
  exact ⟨k, x1, by rw [x2.1, a_rem], by rw [x4 7 (by omega), q_ud_s], x2⟩
theorem a_p22 {v : Int} {h h1 h2 : q_F} {S S1 : m_St} {v1 v2 : Int} (J : j_T S S h) (J1 : j_T S1 S h1) (e1 : fn25 v h = some (v1, h1)) (e2 : fn330 v h1 = some (v2, h2)) : a_Q h2 v1 v2 := by
  have hm := J1.2.1.1
  have f := (a_F (r_setStart J1.2.1.2 hm) e2).1 153 (by omega)
  have w0 := (m_R0_ok hm.1.1).1
  unfold fn330 fn330_23 at e2
  unfold fn25 fn212 fn212_12 at e1
  rw [m_let, r_rng, Option.bind_some, a_258, a_258, Option.bind_some, Option.bind_some] at e2
  dsimp only at e2
  by_cases c : 1 ≤ v ∧ v ≤ 1000
  · obtain ⟨g1, a1, a2, a3⟩ := c_remember J.1.2 J.1.1
    obtain ⟨k, x1, x2, x3, -⟩ := a_rm J1.2.1.2 hm
    have d3 : g1 6 4 = S.w 0 := by rw [← a_rem (S := S)]; exact (a_tb a2).1
    rw [if_neg (show ¬ v < 1 by omega), if_pos c.2, a1, Option.bind_some, m_let, Option.bind_some] at e1
    dsimp only at e1
    rw [if_pos rfl, m_let, d3] at e1
    rw [if_pos c, if_neg (show ¬ (1 : Int) = 0 by decide), if_pos rfl, if_pos rfl, x1, Option.bind_some] at e2
    dsimp only at e2
    rw [r_of (v := S.w 0) (by omega) (by omega) (by rw [x2]; rfl) (by omega), Option.bind_some, m_let] at e2
    exact a_ok e1 e2 (by rw [q_ud_n (by omega)]; exact x3) f
  · rw [if_neg c, if_pos rfl, if_neg (show ¬ (1 : Int) = 0 by decide), if_neg (show ¬ (1 : Int) = 0 by decide)] at e2
    have e3 : some ((1 : Int), h) = some (v1, h1) := by
      rw [← e1]
      by_cases c5 : v < 1
      · rw [if_pos c5, Option.bind_some]; rfl
      · rw [if_neg c5, if_neg (show ¬ v ≤ 1000 by omega), Option.bind_some]; rfl
    exact a_er e3 e2 (q_ud_s _ _ _ _) (by decide)
theorem a_p21 {a v : Int} {h h1 h2 : q_F} {S S1 : m_St} {v1 v2 : Int} (J : j_T S S h) (J1 : j_T S1 S h1) (e1 : fn26 a v h = some (v1, h1)) (e2 : fn331 a v h1 = some (v2, h2)) : a_Q h2 v1 v2 := by
  have hm := J1.2.1.1
  have f := (a_F (r_setStuck J1.2.1.2 hm) e2).1 153 (by omega)
  unfold fn331 fn331_26 at e2
  unfold fn26 fn213 fn213_14 at e1
  rw [a_298, Option.bind_some] at e2
  rw [c_axis, Option.bind_some] at e1
  dsimp only at e1 e2
  by_cases c : 0 ≤ a ∧ a ≤ 2
  · rw [if_pos c, if_pos rfl] at e1
    rw [if_pos c, if_pos c, if_pos rfl, r_rng, Option.bind_some, a_258, a_258, Option.bind_some, Option.bind_some] at e2
    dsimp only at e2
    obtain ⟨n, rfl⟩ : ∃ n : Nat, a = (n : Int) := ⟨a.toNat, by omega⟩
    by_cases cv : 0 ≤ v ∧ v ≤ 2
    · obtain ⟨g1, a1, a2, a3⟩ := c_remember J.1.2 J.1.1
      obtain ⟨k, x1, x2, x3, -⟩ := a_rm J1.2.1.2 hm
      have d3 : g1 (q_axn 6 (n : Int)) 9 = S.w (38 + n) := by rw [← a_rem (S := S)]; exact (a_ax a2 (a := n) (by omega)).1 9 (by omega)
      have b := (hm.1.1.1 (38 + n) (by omega)).2.2.2.2.1 (by omega)
      rw [if_neg (show ¬ v < 0 by omega), if_pos cv.2, a1, Option.bind_some, m_let, Option.bind_some] at e1
      dsimp only at e1
      rw [if_pos rfl, m_let, d3] at e1
      rw [if_pos cv, if_neg (show ¬ (1 : Int) = 0 by decide), if_pos rfl, if_pos rfl, x1, Option.bind_some] at e2
      dsimp only at e2
      rw [q_w32_id (z := 38 + (n : Int)) (by omega) (by omega), r_of (v := S.w (38 + n)) (by omega) (by omega) (by rw [x2, show (38 + (n : Int)).toNat = 38 + n by omega]) (by omega), Option.bind_some, if_pos (by omega), m_let] at e2
      exact a_ok e1 e2 (by rw [q_ud_n (by omega)]; exact x3) f
    · rw [if_neg cv, if_pos rfl, if_neg (show ¬ (1 : Int) = 0 by decide), if_neg (show ¬ (1 : Int) = 0 by decide)] at e2
      have e3 : some ((2 : Int), h) = some (v1, h1) := by
        rw [← e1]
        by_cases c5 : v < 0
        · rw [if_pos c5, Option.bind_some]; rfl
        · rw [if_neg c5, if_neg (show ¬ v ≤ 2 by omega), Option.bind_some]; rfl
      exact a_er e3 e2 (q_ud_s _ _ _ _) (by decide)
  · rw [if_neg c, if_neg (show ¬ (3 : Nat) = 0 by decide), if_pos rfl, Option.bind_some] at e1
    dsimp only at e1
    rw [if_neg (show ¬ (3 : Nat) = 1 by decide), if_neg (show ¬ (3 : Nat) = 2 by decide), if_pos rfl] at e1
    rw [if_neg c, if_neg c, if_neg (show ¬ (1 : Int) = 0 by decide)] at e2
    exact a_er e1 e2 (q_ud_s _ _ _ _) (by decide)
end -- [98zm.ans]
section -- [98zn.ans]
/-! Part 98zn: unqueue, slackLeft, target, restoreState. -/
theorem a_153 {h' h1 : q_F} {v1 x : Int} (f1 : some ((0 : Int), q_ud h' 153 0 x) = some (v1, h1)) {k j : Nat} (hk : k ≠ 153) : h1 k j = h' k j := by
  have a2 : h1 = q_ud h' 153 0 x := (congrArg Prod.snd (Option.some.inj f1)).symm
  rw [a2, q_ud_n (by omega)]
theorem a_p16 {h h1 h2 : q_F} {S : m_St} {v1 v2 : Int} (J : j_T S S h) (J1 : j_T (m_oUnq S) S h1) (J2 : j_T (m_oUnq S) (m_oUnq S) h2) (e1 : fn37 h = some (v1, h1)) (e2 : fn361 h1 = some (v2, h2)) : a_Q h2 v1 v2 := by
  have hm := J1.2.1.1
  have f := (a_F (r_unqueue J1.2.1.2 hm) e2).1 153 (by omega)
  have g0 := a_g0 J1.2.1.2
  have c4 : h 13 1 = S.w 4 := J.1.2.1.2.2.1
  have m1 : h1 13 1 = (m_oUnq S).w 4 := J1.1.2.1.2.2.1
  have m2 : h2 140 4 = (m_oUnq S).w 4 := by rw [J2.2.1.2.1]
  have b := (m_R0_ok J2.2.1.1.1.1).2.1
  unfold fn361 fn361_22 at e2
  unfold fn37 fn229 at e1
  rw [m_let, a_258, a_258, Option.bind_some, Option.bind_some, g0.1] at e2
  rw [c4] at e1
  dsimp only at e2
  by_cases c : S.w 4 = 0
  · rw [if_pos c, Option.bind_some] at e1
    dsimp only at e1
    rw [if_neg (show ¬ (5 : Nat) = 1 by decide), if_pos rfl] at e1
    rw [if_pos c, if_neg (show ¬ (1 : Int) = 0 by decide), if_neg (show ¬ (1 : Int) = 0 by decide)] at e2
    exact a_er e1 e2 (q_ud_s _ _ _ _) (by decide)
  · obtain ⟨g1, a1, a2, a3⟩ := c_remember J.1.2 J.1.1
    obtain ⟨k, x1, x2, x3, -⟩ := a_rm J1.2.1.2 hm
    rw [if_neg c, a1, Option.bind_some] at e1
    dsimp only at e1
    rw [if_neg c, if_pos rfl, if_pos rfl, x1, Option.bind_some] at e2
    dsimp only at e2
    rw [m_let] at e2
    cases y : fn152 13 (q_w32 (g1 13 1 - 1)) g1 with
    | none => rw [y] at e1; cases e1
    | some z =>
      rw [y, Option.bind_some, Option.bind_some] at e1
      dsimp only at e1
      rw [if_pos rfl, m_let] at e1
      have d1 : z.2 13 1 = (m_oUnq S).w 4 := by rw [← a_153 e1 (k := 13) (j := 1) (by decide)]; exact m1
      rw [d1] at e1
      generalize hgg : q_ud k 140 4 (q_w64 (k 140 4 - 1)) = gg at e2
      have hgg7 : gg 139 7 = 0 := by rw [← hgg, q_ud_n (by omega)]; exact x3
      cases y2 : fn303 4 gg with
      | none => rw [y2] at e2; cases e2
      | some z2 =>
        rw [y2, Option.bind_some] at e2
        have b2 : h2 = gg := (congrArg Prod.snd (Option.some.inj e2)).symm
        have y3 := r_of (z := 4) (h := gg) (v := (m_oUnq S).w 4) (by omega) (by omega) (by rw [← b2]; exact m2) (by omega)
        have z3 := a_i y2 y3
        rw [z3] at e2
        exact a_ok e1 e2 hgg7 f
theorem a_p63 {h h1 h2 : q_F} {S : m_St} {v1 v2 : Int} (J : j_T S S h) (J1 : j_T (m_oRest S) S h1) (J2 : j_T (m_oRest S) (m_oRest S) h2) (e1 : fn23 h = some (v1, h1)) (e2 : fn322 h1 = some (v2, h2)) : a_Q h2 v1 v2 := by
  have hm := J1.2.1.1
  have f := (a_F (r_rest J1.2.1.2 hm) e2).1 153 (by omega)
  have g0 := a_g0 J1.2.1.2
  have c9 : h 0 9 = S.sv := J.1.2.2.2.1
  have r6 : q_ud h1 139 7 0 139 6 = S.sv := g0.2.2.1
  have m1 : h1 13 1 = (m_oRest S).w 4 := J1.1.2.1.2.2.1
  have m2 : h2 140 4 = (m_oRest S).w 4 := by rw [J2.2.1.2.1]
  have b := (m_R0_ok J2.2.1.1.1.1).2.1
  unfold fn322 fn322_18 at e2
  unfold fn23 fn206 at e1
  rw [m_let, a_258, a_258, Option.bind_some, Option.bind_some, r6] at e2
  rw [c9] at e1
  dsimp only at e2
  by_cases c : S.sv = 0
  · rw [if_pos c, Option.bind_some] at e1
    dsimp only at e1
    rw [if_neg (show ¬ (4 : Nat) = 1 by decide), if_pos rfl] at e1
    rw [if_pos c, if_neg (show ¬ (1 : Int) = 0 by decide), if_neg (show ¬ (1 : Int) = 0 by decide)] at e2
    exact a_er e1 e2 (q_ud_s _ _ _ _) (by decide)
  · rw [if_neg c] at e1
    rw [if_neg c, if_pos rfl, if_pos rfl, fn249_i (by omega) (by omega) (by omega) (by omega) (by omega) (by omega) (by omega) (by omega), Option.bind_some, m_let] at e2
    cases y : fn127 6 15 h with
    | none => rw [y] at e1; cases e1
    | some z =>
      rw [y, Option.bind_some, fn65, m_let, Option.bind_some, Option.bind_some] at e1
      dsimp only at e1
      rw [if_pos rfl, m_let] at e1
      have d1 : q_ud z.2 33 1 0 13 1 = (m_oRest S).w 4 := by rw [← a_153 e1 (k := 13) (j := 1) (by decide)]; exact m1
      rw [d1] at e1
      dsimp only at e2
      generalize hgg : q_ud (m_sr (q_ud h1 139 7 0) 140 (m_cp (q_ud h1 139 7 0 143) (q_ud h1 139 7 0 140) (0 : Int).toNat (0 : Int).toNat (122 : Int).toNat)) 139 5 0 = gg at e2
      have hgg7 : gg 139 7 = 0 := by rw [← hgg, q_ud_n (by omega), m_sr_n (by omega), q_ud_s]
      cases y2 : fn303 4 gg with
      | none => rw [y2] at e2; cases e2
      | some z2 =>
        rw [y2, Option.bind_some] at e2
        have b2 : h2 = gg := (congrArg Prod.snd (Option.some.inj e2)).symm
        have y3 := r_of (z := 4) (h := gg) (v := (m_oRest S).w 4) (by omega) (by omega) (by rw [← b2]; exact m2) (by omega)
        have z3 := a_i y2 y3
        rw [z3] at e2
        exact a_ok e1 e2 hgg7 f
end -- [98zn.ans]
section -- [98zo.ans]
/-! Part 98zo: slackLeft, target. -/
theorem a_p55 {a v : Int} {h h1 h2 : q_F} {S S1 : m_St} {v1 v2 : Int} (J : j_T S S h) (J1 : j_T S1 S h1) (e1 : fn27 a v h = some (v1, h1)) (e2 : fn334 a v h1 = some (v2, h2)) : a_Q h2 v1 v2 := by
  have hm := J1.2.1.1
  have f := (a_F (r_slack J1.2.1.2) e2).1 153 (by omega)
  have g0 := a_g0 J1.2.1.2
  unfold fn334 at e2
  unfold fn27 fn214 at e1
  rw [a_298, Option.bind_some] at e2
  rw [c_axis, Option.bind_some] at e1
  dsimp only at e1 e2
  by_cases c : 0 ≤ a ∧ a ≤ 2
  · rw [if_pos c, if_pos rfl] at e1
    rw [if_pos c, if_pos c, if_pos rfl] at e2
    obtain ⟨n, rfl⟩ : ∃ n : Nat, a = (n : Int) := ⟨a.toNat, by omega⟩
    have X := a_ax J.1.2 (a := n) (by omega)
    have x0 : h (q_axn 6 (n : Int)) 0 = S.w (8 + n) := X.1 0 (by omega)
    have x1 : h (q_axn 6 (n : Int)) 1 = S.w (11 + n) := X.1 1 (by omega)
    have x6 : h (q_axn 6 (n : Int)) 6 = S.w (26 + n) := X.1 6 (by omega)
    have x7 : h (q_axn 6 (n : Int)) 7 = S.w (29 + n) := X.1 7 (by omega)
    obtain ⟨A1, A2, -⟩ := m_a3_i hm.1.1.2 (a := n) (by omega)
    have b26 : (26 + (n : Int)).toNat = 26 + n := by omega
    have b8 : (8 + (n : Int)).toNat = 8 + n := by omega
    unfold fn57 at e1
    rw [x0, x1, x6, x7] at e1
    rw [q_w32_id (z := 26 + (n : Int)) (by omega) (by omega), q_w32_id (z := 8 + (n : Int)) (by omega) (by omega), if_pos (show 0 ≤ 26 + (n : Int) ∧ 26 + (n : Int) < 122 by omega), if_pos (show 0 ≤ 8 + (n : Int) ∧ 8 + (n : Int) < 122 by omega), b26, b8, g0.1] at e2
    unfold fn334_36 at e2
    rw [q_w32_id (z := 29 + (n : Int)) (by omega) (by omega), q_w32_id (z := 11 + (n : Int)) (by omega) (by omega), a_rw (j := 29 + n) g0 (by omega) (by omega) (by omega), a_rw (j := 11 + n) g0 (by omega) (by omega) (by omega)] at e2
    have fin : ∀ x : Int, ((some x).bind fun x3 => some ((1 : Nat), x3, h)).bind (fun x1 => if x1.1 = 1 then q_let (q_ud x1.2.2 153 0 x1.2.1) fun g2 => some ((0 : Int), g2) else if x1.1 = 3 then some ((1 : Int), x1.2.2) else none) = some (v1, h1) → some (x, q_ud h1 139 7 0) = some (v2, h2) → a_Q h2 v1 v2 := fun x y1 y2 => by
      rw [Option.bind_some, Option.bind_some] at y1
      dsimp only at y1
      rw [if_pos rfl, m_let] at y1
      exact a_ok y1 y2 (q_ud_s _ _ _ _) f
    by_cases v0 : v = 0
    · rw [if_pos v0] at e1
      rw [if_pos v0] at e2
      by_cases z : S.w (26 + n) = 0
      · rw [if_pos (show S.w (26 + n) ≤ 0 by omega)] at e1
        rw [if_pos z] at e2
        exact fin _ e1 e2
      · rw [if_neg (show ¬ S.w (26 + n) ≤ 0 by omega)] at e1
        rw [if_neg z, if_pos v0, Option.bind_some] at e2
        exact fin _ e1 e2
    · rw [if_neg v0] at e1
      rw [if_neg v0] at e2
      by_cases z : S.w (26 + n) = S.w (8 + n)
      · rw [if_pos (show S.w (8 + n) ≤ S.w (26 + n) by omega)] at e1
        rw [if_pos z] at e2
        exact fin _ e1 e2
      · rw [if_neg (show ¬ S.w (8 + n) ≤ S.w (26 + n) by omega)] at e1
        rw [if_neg z, if_neg v0, Option.bind_some, Option.bind_some] at e2
        exact fin _ e1 e2
  · rw [if_neg c, if_neg (show ¬ (3 : Nat) = 0 by decide), if_pos rfl, Option.bind_some] at e1
    dsimp only at e1
    rw [if_neg (show ¬ (3 : Nat) = 1 by decide), if_pos rfl] at e1
    rw [if_neg c, if_neg c, if_neg (show ¬ (1 : Int) = 0 by decide)] at e2
    exact a_er e1 e2 (q_ud_s _ _ _ _) (by decide)
theorem a_299 {m : Int} {h : q_F} {S : m_St} (hI : r_I h S) (hm : m_I S) : fn299 m h = some (if 0 ≤ m ∧ m < S.w 4 then 0 else 1, if 0 ≤ m ∧ m < S.w 4 then q_ud h 139 7 0 else q_ud (q_ud h 139 7 0) 139 7 1) := by
  have b := (m_R0_ok hm.1.1).2.1
  have g0 := a_g0 hI
  unfold fn299 fn299_28
  rw [m_let, g0.1, q_w64_id (by omega) (by omega), r_rng, Option.bind_some, a_258, a_258, Option.bind_some, Option.bind_some]
  by_cases c : 0 ≤ m ∧ m < S.w 4
  · rw [if_pos (show 0 ≤ m ∧ m ≤ S.w 4 - 1 by omega), if_neg (show ¬ (1 : Int) = 0 by decide), if_pos c, if_pos c, if_pos rfl]
  · rw [if_neg (show ¬ (0 ≤ m ∧ m ≤ S.w 4 - 1) by omega), if_pos rfl, if_neg c, if_neg c, if_neg (show ¬ (1 : Int) = 0 by decide)]
theorem a_00 {h : q_F} : q_ud (q_ud h 139 7 0) 139 7 0 = q_ud h 139 7 0 := q_ud_u _ _ _ _ _
theorem a_300 {m a : Int} {h : q_F} {S : m_St} (hI : r_I h S) (hm : m_I S) : fn300 m a h = some (if (0 ≤ m ∧ m < S.w 4) ∧ 0 ≤ a ∧ a ≤ 2 then 0 else 1, if (0 ≤ m ∧ m < S.w 4) ∧ 0 ≤ a ∧ a ≤ 2 then q_ud h 139 7 0 else q_ud h 139 7 1) := by
  unfold fn300 fn300_16
  rw [a_299 hI hm, Option.bind_some]
  dsimp only
  by_cases c : 0 ≤ m ∧ m < S.w 4
  · rw [if_pos c, if_pos c, if_pos rfl, a_298, Option.bind_some, a_00]
    dsimp only
    by_cases d : 0 ≤ a ∧ a ≤ 2
    · rw [if_pos d, if_pos d, if_pos rfl, if_pos ⟨c, d⟩, if_pos ⟨c, d⟩]
    · rw [if_neg d, if_neg d, if_neg (show ¬ (1 : Int) = 0 by decide), if_neg (fun h9 => d h9.2), if_neg (fun h9 => d h9.2), q_ud_u]
  · rw [if_neg c, if_neg c, if_neg (show ¬ (1 : Int) = 0 by decide), if_neg (fun h9 => c h9.1), if_neg (fun h9 => c h9.1), q_ud_u]
theorem a_148 {h : q_F} {S : m_St} {m a : Nat} (hI : c_I h S) (hm : m_I S) (h4 : (m : Int) < S.w 4) (ha : a < 3) : fn148 13 m a h = some (S.w (74 + 3 * m + a)) := by
  have b := (m_R0_ok hm.1.1).2.1
  have e := hI.1.2.2.2 (3 * m + a) (by omega)
  rw [fn148, q_w32_id (z := (m : Int) * 3) (by omega) (by omega), q_w32_id (by omega) (by omega), c_ent (by omega) (by omega), Option.bind_some, show ((m : Int) * 3 + a).toNat = 3 * m + a by omega, show 13 + 1 = 6 + 8 from rfl, e, show 74 + (3 * m + a) = 74 + 3 * m + a by omega]
theorem a_p23 {m a : Int} {h h1 h2 : q_F} {S S1 : m_St} {v1 v2 : Int} (J : j_T S S h) (J1 : j_T S1 S h1) (e1 : fn33 m a h = some (v1, h1)) (e2 : fn350 m a h1 = some (v2, h2)) : a_Q h2 v1 v2 := by
  have hm := J1.2.1.1
  have b := (m_R0_ok hm.1.1)
  have f := (a_F (r_target J1.2.1.2 hm) e2).1 153 (by omega)
  have g0 := a_g0 J1.2.1.2
  unfold fn350 at e2
  unfold fn33 fn222 at e1
  rw [a_300 J1.2.1.2 hm, Option.bind_some] at e2
  rw [c_move m J.1.2, Option.bind_some] at e1
  dsimp only at e1 e2
  by_cases c : 0 ≤ m ∧ m < S.w 4
  · rw [if_pos c, if_pos rfl, c_axis, Option.bind_some] at e1
    dsimp only at e1
    by_cases d : 0 ≤ a ∧ a ≤ 2
    · obtain ⟨n, rfl⟩ : ∃ n : Nat, a = (n : Int) := ⟨a.toNat, by omega⟩
      obtain ⟨k, rfl⟩ : ∃ k : Nat, m = (k : Int) := ⟨m.toNat, by omega⟩
      have b4 := b.2.1
      have bb := b.2.2.2 (74 + 3 * k + n) (by omega) (by omega)
      rw [if_pos d, if_pos rfl, a_148 J.1.2 J.1.1 c.2 (by omega), Option.bind_some, Option.bind_some] at e1
      dsimp only at e1
      rw [if_pos rfl, m_let] at e1
      have cd : (0 ≤ (k : Int) ∧ (k : Int) < S.w 4) ∧ 0 ≤ (n : Int) ∧ (n : Int) ≤ 2 := ⟨c, d⟩
      rw [if_pos cd, if_pos cd, if_pos rfl, q_w32_id (z := 3 * (k : Int)) (by omega) (by omega), q_w32_id (z := 74 + 3 * (k : Int)) (by omega) (by omega), q_w32_id (by omega) (by omega), a_rw (j := 74 + 3 * k + n) g0 (by omega) (by omega) (by omega), Option.bind_some] at e2
      exact a_ok e1 e2 (q_ud_s _ _ _ _) f
    · rw [if_neg d, if_neg (show ¬ (3 : Nat) = 0 by decide), if_pos rfl, Option.bind_some] at e1
      dsimp only at e1
      rw [if_neg (show ¬ (3 : Nat) = 1 by decide), if_pos rfl] at e1
      have cd : ¬ ((0 ≤ m ∧ m < S.w 4) ∧ 0 ≤ a ∧ a ≤ 2) := fun h9 => d h9.2
      rw [if_neg cd, if_neg cd, if_neg (show ¬ (1 : Int) = 0 by decide)] at e2
      exact a_er e1 e2 (q_ud_s _ _ _ _) (by decide)
  · rw [if_neg c, if_neg (show ¬ (3 : Nat) = 0 by decide), if_pos rfl, Option.bind_some] at e1
    dsimp only at e1
    rw [if_neg (show ¬ (3 : Nat) = 1 by decide), if_pos rfl] at e1
    have cd : ¬ ((0 ≤ m ∧ m < S.w 4) ∧ 0 ≤ a ∧ a ≤ 2) := fun h9 => c h9.1
    rw [if_neg cd, if_neg cd, if_neg (show ¬ (1 : Int) = 0 by decide)] at e2
    exact a_er e1 e2 (q_ud_s _ _ _ _) (by decide)
end -- [98zo.ans]
section -- [98zq.ans]
/-! Part 98zq: jog. -/
theorem a_jl {a : Nat} {v : Int} (ha : a < 3) : ∀ (f : Nat) (l n : Int) (h h2 : q_F) (x : Int), fn274_77 f a v l n h = some (x, h2) → x = q_w32 (h2 140 (26 + a)) ∧ h2 139 7 = h 139 7 := by
  have fin : ∀ (p : Int) (h h2 : q_F) (x : Int), fn274_146 a p (q_w32 ((41 : Int) + a)) h = some (x, h2) → x = q_w32 (h2 140 (26 + a)) ∧ h2 139 7 = h 139 7 := fun p h h2 x e => by
    rw [fn274_146, q_w32_id (z := 41 + (a : Int)) (by omega) (by omega), if_pos (by omega), m_let, q_w32_id (z := 26 + (a : Int)) (by omega) (by omega), fn303_i (by omega) (by omega), Option.bind_some] at e
    have a1 : x = q_w32 (q_ud h 140 (41 + (a : Int)).toNat p 140 (26 + (a : Int)).toNat) := (congrArg Prod.fst (Option.some.inj e)).symm
    have a2 : h2 = q_ud h 140 (41 + (a : Int)).toNat p := (congrArg Prod.snd (Option.some.inj e)).symm
    refine ⟨by rw [a1, a2, show (26 + (a : Int)).toNat = 26 + a by omega], by rw [a2, q_ud_n (by omega)]⟩
  intro f
  induction f with
  | zero => intro l n h h2 x e; rw [fn274_77] at e; cases e
  | succ f ih =>
    intro l n h h2 x e
    rw [fn274_77] at e
    split at e
    · split at e
      · exact fin _ _ _ _ e
      · split at e
        · exact fin _ _ _ _ e
        · cases e
    · rw [fn333_m, Option.bind_some, fn340_m ha, Option.bind_some] at e
      dsimp only at e
      have key : ∀ p : Int, fn274_100 (fn274_77 f) a v n p l (m_sr h 140 (m_step a (m_sg v) (h 140)).2) = some (x, h2) → x = q_w32 (h2 140 (26 + a)) ∧ h2 139 7 = h 139 7 := fun p e9 => by
        rw [fn274_100] at e9
        cases y : fn335 (m_sr h 140 (m_step a (m_sg v) (h 140)).2) with
        | none => rw [y] at e9; cases e9
        | some z =>
          rw [y, Option.bind_some, m_let] at e9
          have g := ih _ _ _ _ _ e9
          rw [q_ud_n (by omega), m_sr_n (by omega)] at g
          exact g
      split at e
      · exact key 0 e
      · exact key 1 e
theorem a_2580 (k : Int) (g : q_F) : fn258 0 k g = some (0, g) := by rw [a_258, if_pos rfl]
theorem a_2581 (k : Int) (g : q_F) : fn258 1 k g = some (1, q_ud g 139 7 k) := by rw [a_258, if_neg (by decide)]
theorem a_274b (a v : Int) (g : q_F) : fn274_32 a v 1 g = some (0, q_ud g 139 7 2) := by
  unfold fn274_32; rw [a_2581]; rfl
theorem a_274g (a v : Int) (g : q_F) : fn274_32 a v 0 g = if g 140 4 = (0 : Int) then fn274_56 a v 0 g else fn274_56 a v 1 g := by
  unfold fn274_32; rw [a_2580]; rfl
theorem a_p14 {a v : Int} {h h1 h2 : q_F} {S : m_St} {v1 v2 : Int} (J : j_T S S h) (J1 : j_T (m_oJog a v S) S h1) (J2 : j_T (m_oJog a v S) (m_oJog a v S) h2) (e1 : fn12 a v h = some (v1, h1)) (e2 : fn274 a v h1 = some (v2, h2)) : a_Q h2 v1 v2 := by
  have hm := J1.2.1.1
  have f := (a_F (r_jogC J1.2.1.2 hm) e2).1 153 (by omega)
  have g0 := a_g0 J1.2.1.2
  unfold fn274 fn274_27 at e2
  unfold fn12 fn184 fn184_21 at e1
  rw [a_298, Option.bind_some] at e2
  rw [c_axis, Option.bind_some] at e1
  dsimp only at e1 e2
  by_cases c : 0 ≤ a ∧ a ≤ 2
  · rw [if_pos c, if_pos rfl] at e1
    rw [if_pos c, if_pos c, if_pos rfl, r_rng, Option.bind_some, a_274b, a_274g, g0.1] at e2
    obtain ⟨n, hn, rfl⟩ := m_ax_n c
    by_cases cv : -100 ≤ v ∧ v ≤ 100 ∧ v ≠ 0
    · rw [if_neg (show ¬ v < -100 by omega), if_neg (show ¬ 100 < v by omega), if_neg cv.2.2, c_qEmpty J.1.2 J.1.1, Option.bind_some] at e1
      rw [if_pos (show -100 ≤ v ∧ v ≤ 100 by omega), if_neg (show ¬ (1 : Int) = 0 by decide), if_neg cv.2.2] at e2
      dsimp only at e1
      by_cases c4 : S.w 4 = 0
      · obtain ⟨g1, a1, a2, a3⟩ := c_remember J.1.2 J.1.1
        obtain ⟨k, x1, x2, x3, -⟩ := a_rm J1.2.1.2 hm
        have m1 : h1 (q_axn 6 (n : Int)) 6 = (m_oJog n v S).w (26 + n) := (a_ax J1.1.2 (a := n) hn).1 6 (by omega)
        have m2 : h2 140 = (m_oJog n v S).w := J2.2.1.2.1
        have A := (m_a3_i J2.2.1.1.1.1.2 hn).2.1
        have qa : q_axn 6 (n : Int) ≠ 153 := by rw [q_axn_e hn]; omega
        rw [if_pos c4, if_pos rfl, a1, Option.bind_some] at e1
        dsimp only at e1
        cases y : fn134 6 (n : Int) v g1 with
        | none => rw [y] at e1; cases e1
        | some z =>
          rw [y, Option.bind_some, Option.bind_some] at e1
          dsimp only at e1
          rw [if_pos rfl, m_let] at e1
          rw [← a_153 e1 (k := q_axn 6 (n : Int)) (j := 6) qa, m1] at e1
          rw [if_pos c4] at e2
          unfold fn274_56 at e2
          rw [a_2580, Option.bind_some] at e2
          dsimp only at e2
          rw [if_pos rfl, x1, Option.bind_some] at e2
          dsimp only at e2
          cases y2 : fn236 v k with
          | none => rw [y2] at e2; cases e2
          | some z2 =>
            rw [y2, Option.bind_some] at e2
            obtain ⟨b1, b2⟩ := a_jl hn _ _ _ _ _ _ e2
            rw [m2, q_w32_id (by omega) (by omega)] at b1
            rw [b1] at e2
            have e3 : some ((m_oJog n v S).w (26 + n), h2) = some (v2, h2) := by rw [b1]
            exact a_ok e1 e3 (by rw [b2]; exact x3) f
      · rw [if_neg c4, if_neg (show ¬ (4 : Nat) = 0 by decide), if_pos rfl, Option.bind_some] at e1
        dsimp only at e1
        rw [if_neg (show ¬ (4 : Nat) = 1 by decide), if_neg (show ¬ (4 : Nat) = 2 by decide), if_neg (show ¬ (4 : Nat) = 3 by decide), if_pos rfl] at e1
        rw [if_neg c4] at e2
        unfold fn274_56 at e2
        rw [a_2581, Option.bind_some] at e2
        dsimp only at e2
        rw [if_neg (show ¬ (1 : Int) = 0 by decide)] at e2
        exact a_er e1 e2 (q_ud_s _ _ _ _) (by decide)
    · have e3 : some ((2 : Int), h) = some (v1, h1) := by
        rw [← e1]
        by_cases c5 : v < -100
        · rw [if_pos c5, Option.bind_some]; rfl
        · rw [if_neg c5]
          by_cases c6 : 100 < v
          · rw [if_pos c6, Option.bind_some]; rfl
          · rw [if_neg c6, if_pos (show v = 0 by omega), Option.bind_some]; rfl
      have e4 : some ((0 : Int), q_ud (q_ud h1 139 7 0) 139 7 2) = some (v2, h2) := by
        rw [← e2]
        by_cases c5 : -100 ≤ v ∧ v ≤ 100
        · rw [if_pos c5, if_neg (show ¬ (1 : Int) = 0 by decide), if_pos (show v = 0 by omega)]
        · rw [if_neg c5, if_pos rfl]
      exact a_er e3 e4 (q_ud_s _ _ _ _) (by decide)
  · rw [if_neg c, if_neg (show ¬ (3 : Nat) = 0 by decide), if_pos rfl, Option.bind_some] at e1
    dsimp only at e1
    rw [if_neg (show ¬ (3 : Nat) = 1 by decide), if_neg (show ¬ (3 : Nat) = 2 by decide), if_pos rfl] at e1
    rw [if_neg c, if_neg c, if_neg (show ¬ (1 : Int) = 0 by decide)] at e2
    exact a_er e1 e2 (q_ud_s _ _ _ _) (by decide)
end -- [98zq.ans]
section -- [98zu.ans]
/-! Part 98zu: speed, stepsBehind. -/
theorem a_plan {h : q_F} {S : m_St} (hI : r_I h S) (hm : m_I S) : ∃ h', fn278 h = some (0, h') ∧ m_Plan h' S.w ∧ h' 139 7 = h 139 7 ∧ r_I h' S := by
  obtain ⟨h', g1, g2, g3, g4, -⟩ := r_plan hI hm
  exact ⟨h', g1, g2, by rw [g3 139 (by omega)], g4⟩
theorem a_79 {h : q_F} {S : m_St} {n : Nat} (hm : m_I S) (P : c_Plan h S.w) (h1 : (n : Int) < S.w 4) : fn79 n h = some (m_l S.w n) := by
  have r := (m_R0_ok hm.1.1).2.1
  exact c_lead (P.1.2 n (by omega)).1 (by omega)
theorem a_p25 {m k : Int} {h h1 h2 : q_F} {S S1 : m_St} {v1 v2 : Int} (J : j_T S S h) (J1 : j_T S1 S h1) (e1 : fn29 m k h = some (v1, h1)) (e2 : fn337 m k h1 = some (v2, h2)) : a_Q h2 v1 v2 := by
  have hm := J1.2.1.1
  have f := (a_F (r_speed J1.2.1.2 hm) e2).1 153 (by omega)
  have g0 := a_g0 J1.2.1.2
  have ok := m_R0_ok hm.1.1
  have r := ok.2.1
  unfold fn337 at e2
  unfold fn29 fn216 fn216_23 at e1
  rw [a_299 J1.2.1.2 hm, Option.bind_some] at e2
  rw [c_move m J.1.2, Option.bind_some] at e1
  dsimp only at e1 e2
  by_cases c : 0 ≤ m ∧ m < S.w 4
  · obtain ⟨n, rfl⟩ : ∃ k : Nat, m = (k : Int) := ⟨m.toNat, by omega⟩
    obtain ⟨g, a1, a2, a3, a4⟩ := c_planned J.1.2 J.1.1
    obtain ⟨p, b1, b2, b3, b4⟩ := a_plan g0 hm
    have l := m_l_r ok (m := n) (by omega)
    rw [if_pos c, if_pos rfl, a1, Option.bind_some] at e1
    dsimp only at e1
    rw [a_79 hm a2 c.2, Option.bind_some] at e1
    rw [if_pos c, if_pos c, if_pos rfl, b1, Option.bind_some] at e2
    dsimp only at e2
    rw [if_pos (show 0 ≤ (n : Int) ∧ (n : Int) < 16 by omega), Int.toNat_natCast, (b2.1 n (by omega)).2.1, q_w32_id (by omega) (by omega), r_rng, Option.bind_some] at e2
    have z7 : p 139 7 = 0 := by rw [b3]; exact q_ud_s _ _ _ _
    by_cases ck : 0 ≤ k ∧ k < m_l S.w n
    · rw [if_neg (show ¬ k < 0 by omega), if_pos ck.2, c_sp ok hm.1.2 a2 c.2 ck.1 ck.2, Option.bind_some, Option.bind_some] at e1
      dsimp only at e1
      rw [if_pos rfl, m_let] at e1
      rw [if_pos (show 0 ≤ k ∧ k ≤ m_l S.w n - 1 by omega), if_neg (show ¬ (1 : Int) = 0 by decide)] at e2
      unfold fn337_38 at e2
      rw [a_2580, Option.bind_some] at e2
      dsimp only at e2
      rw [if_pos rfl, fn338_m ok hm.1.2 b2 c.2 ck.1 ck.2, Option.bind_some] at e2
      exact a_ok e1 e2 z7 f
    · have e3 : some ((2 : Int), g) = some (v1, h1) := by
        rw [← e1]
        by_cases c5 : k < 0
        · rw [if_pos c5, Option.bind_some]; rfl
        · rw [if_neg c5, if_neg (show ¬ k < m_l S.w n by omega), Option.bind_some]; rfl
      rw [if_neg (show ¬ (0 ≤ k ∧ k ≤ m_l S.w n - 1) by omega), if_pos rfl] at e2
      unfold fn337_38 at e2
      rw [a_2581, Option.bind_some] at e2
      dsimp only at e2
      rw [if_neg (show ¬ (1 : Int) = 0 by decide)] at e2
      exact a_er e3 e2 (q_ud_s _ _ _ _) (by decide)
  · rw [if_neg c, if_neg (show ¬ (3 : Nat) = 0 by decide), if_pos rfl, Option.bind_some] at e1
    dsimp only at e1
    rw [if_neg (show ¬ (3 : Nat) = 1 by decide), if_pos rfl] at e1
    rw [if_neg c, if_neg c, if_neg (show ¬ (1 : Int) = 0 by decide)] at e2
    exact a_er e1 e2 (q_ud_s _ _ _ _) (by decide)
/-- the reference's check of a move, an axis and a number of steps -/
theorem a_301 {m a k : Int} {h : q_F} {S : m_St} (hI : r_I h S) (hm : m_I S) : (¬ ((0 ≤ m ∧ m < S.w 4) ∧ 0 ≤ a ∧ a ≤ 2) → fn301 m a k h = some (1, q_ud h 139 7 1)) ∧ (((0 ≤ m ∧ m < S.w 4) ∧ 0 ≤ a ∧ a ≤ 2) → ∃ p, m_Plan p S.w ∧ p 139 7 = 0 ∧ r_I p S ∧ fn301 m a k h = some (if 0 ≤ k ∧ k ≤ m_l S.w m.toNat then 0 else 1, if 0 ≤ k ∧ k ≤ m_l S.w m.toNat then p else q_ud p 139 7 2)) := by
  have r := (m_R0_ok hm.1.1).2.1
  unfold fn301
  rw [a_300 hI hm, Option.bind_some]
  dsimp only
  refine ⟨fun c => ?_, fun c => ?_⟩
  · rw [if_neg c, if_neg c, if_neg (show ¬ (1 : Int) = 0 by decide)]
  · obtain ⟨p, b1, b2, b3, b4⟩ := a_plan (a_g0 hI) hm
    obtain ⟨n, rfl⟩ : ∃ k : Nat, m = (k : Int) := ⟨m.toNat, by omega⟩
    refine ⟨p, b2, by rw [b3]; exact q_ud_s _ _ _ _, b4, ?_⟩
    rw [if_pos c, if_pos c, if_pos rfl, b1, Option.bind_some]
    dsimp only
    rw [if_pos (show 0 ≤ (n : Int) ∧ (n : Int) < 16 by omega), Int.toNat_natCast, (b2.1 n (by omega)).2.1, r_rng, Option.bind_some]
    by_cases ck : 0 ≤ k ∧ k ≤ m_l S.w n
    · rw [if_pos ck, if_neg (show ¬ (1 : Int) = 0 by decide), if_pos ck, if_pos ck]
      unfold fn301_37; rw [a_2580, Option.bind_some]
    · rw [if_neg ck, if_pos rfl, if_neg ck, if_neg ck]
      unfold fn301_37; rw [a_2581, Option.bind_some]
theorem a_p26 {m a k : Int} {h h1 h2 : q_F} {S S1 : m_St} {v1 v2 : Int} (J : j_T S S h) (J1 : j_T S1 S h1) (e1 : fn30 m a k h = some (v1, h1)) (e2 : fn341 m a k h1 = some (v2, h2)) : a_Q h2 v1 v2 := by
  have hm := J1.2.1.1
  have f := (a_F (r_behind J1.2.1.2 hm) e2).1 153 (by omega)
  have ok := m_R0_ok hm.1.1
  have r := ok.2.1
  obtain ⟨Q1, Q2⟩ := a_301 (m := m) (a := a) (k := k) J1.2.1.2 hm
  unfold fn341 at e2
  unfold fn30 fn217 at e1
  rw [c_move m J.1.2, Option.bind_some] at e1
  dsimp only at e1
  have bad1 : ((some ((3 : Nat), (0 : Int), h)).bind fun x1 => if x1.1 = 1 then q_let (q_ud x1.2.2 153 0 x1.2.1) fun g2 => some ((0 : Int), g2) else if x1.1 = 2 then some ((2 : Int), x1.2.2) else if x1.1 = 3 then some ((1 : Int), x1.2.2) else none) = some ((1 : Int), h) := rfl
  by_cases c : 0 ≤ m ∧ m < S.w 4
  · rw [if_pos c, if_pos rfl, c_axis, Option.bind_some] at e1
    dsimp only at e1
    by_cases d : 0 ≤ a ∧ a ≤ 2
    · obtain ⟨p, b2, b3, b4, b5⟩ := Q2 ⟨c, d⟩
      obtain ⟨n, rfl⟩ : ∃ k : Nat, m = (k : Int) := ⟨m.toNat, by omega⟩
      obtain ⟨b, hb, rfl⟩ := m_ax_n d
      obtain ⟨g, a1, a2, a3, a4⟩ := c_planned J.1.2 J.1.1
      rw [if_pos d, if_pos rfl, a1, Option.bind_some] at e1
      dsimp only at e1
      rw [a_79 hm a2 c.2, Option.bind_some, c_steps169, Option.bind_some] at e1
      dsimp only at e1
      rw [b5, Option.bind_some, Int.toNat_natCast] at e2
      dsimp only at e2
      by_cases ck : 0 ≤ k ∧ k ≤ m_l S.w n
      · rw [if_pos ck, if_pos rfl, c_made ok hm.1.2 a2 c.2 hb ck.1 ck.2, Option.bind_some, Option.bind_some] at e1
        dsimp only at e1
        rw [if_pos rfl, m_let] at e1
        rw [if_pos ck, if_pos ck, if_pos rfl, fn286_m ok hm.1.2 b2.1 c.2 hb ck.1 ck.2, Option.bind_some] at e2
        exact a_ok e1 e2 b3 f
      · rw [if_neg ck, if_neg (show ¬ (2 : Nat) = 0 by decide), if_pos rfl, Option.bind_some] at e1
        dsimp only at e1
        rw [if_neg (show ¬ (2 : Nat) = 1 by decide), if_pos rfl] at e1
        rw [if_neg ck, if_neg ck, if_neg (show ¬ (1 : Int) = 0 by decide)] at e2
        exact a_er e1 e2 (q_ud_s _ _ _ _) (by decide)
    · rw [if_neg d, if_neg (show ¬ (3 : Nat) = 0 by decide), if_pos rfl, bad1] at e1
      rw [Q1 (fun h9 => d h9.2), Option.bind_some] at e2
      dsimp only at e2
      rw [if_neg (show ¬ (1 : Int) = 0 by decide)] at e2
      exact a_er e1 e2 (q_ud_s _ _ _ _) (by decide)
  · rw [if_neg c, if_neg (show ¬ (3 : Nat) = 0 by decide), if_pos rfl, bad1] at e1
    rw [Q1 (fun h9 => c h9.1), Option.bind_some] at e2
    dsimp only at e2
    rw [if_neg (show ¬ (1 : Int) = 0 by decide)] at e2
    exact a_er e1 e2 (q_ud_s _ _ _ _) (by decide)
end -- [98zu.ans]
