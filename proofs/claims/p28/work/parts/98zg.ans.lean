section -- [98zg.ans]
/-! Part 98zg: answers that are the same on both sides. -/
theorem a_i {α : Type} {a b : α} {f : Option α} (h1 : f = some a) (h2 : f = some b) : a = b := Option.some.inj (h1.symm.trans h2)
theorem a_tb {h : q_F} {S : m_St} (hI : c_I h S) : h 6 4 = S.w 0 ∧ h 6 5 = S.w 1 ∧ h 6 6 = S.w 2 ∧ h 6 7 = S.w 3 ∧ h 6 8 = S.w 5 ∧ h 6 9 = S.w 6 ∧ h 6 10 = S.w 7 := hI.1.2.1
theorem a_p5 {h h2 : q_F} {S : m_St} {v1 v2 : Int} (J : j_T S S h) (e1 : fn177 h = some v1) (e2 : fn255 h = some (v2, h2)) : v1 = v2 := by
  unfold fn177 at e1
  unfold fn255 at e2
  rw [m_let] at e2
  cases e1; cases e2
  rw [q_ud_n (by omega)]
  exact J.2.2.2.1.1
theorem a_p6 {h h2 : q_F} {S : m_St} {v1 v2 : Int} (J : j_T S S h) (e1 : fn178 h = some v1) (e2 : fn257 h = some (v2, h2)) : v1 = v2 := by
  unfold fn178 at e1
  unfold fn257 at e2
  rw [m_let] at e2
  cases e1; cases e2
  rw [q_ud_n (by omega)]
  exact J.2.2.2.1.2
theorem a_p12 {h h2 : q_F} {S : m_St} {v1 v2 : Int} (J : j_T S S h) (e1 : fn223 h = some v1) (e2 : fn352 h = some (v2, h2)) : v1 = v2 := by
  unfold fn223 at e1
  unfold fn352 at e2
  rw [m_let] at e2
  cases e1; cases e2
  rw [q_ud_n (by omega), J.2.1.2.1]
  exact (a_tb J.1.2).2.2.2.2.1
theorem a_rem {S : m_St} : (m_rem S).w = S.w := by unfold m_rem; split <;> rfl
theorem a_p18 {h h1 h2 : q_F} {S S1 : m_St} {v1 v2 : Int} (J : j_T S S h) (J1 : j_T S1 S h1) (e1 : fn205 h = some (v1, h1)) (e2 : fn321 h1 = some (v2, h2)) : v1 = v2 := by
  obtain ⟨g1, a1, a2, a3⟩ := c_remember J.1.2 J.1.1
  obtain ⟨g2, b1, b2, b3⟩ := c_stop (v := 0) a2.1
  have f1 : fn205 h = some (g1 6 7, g2) := by rw [fn205, a1, Option.bind_some, b1, Option.bind_some]
  have d1 : v1 = g1 6 7 := congrArg Prod.fst (a_i e1 f1)
  have hT : r_T h1 (q_ud h1 139 7 0) := r_T_u r_T_r
  have hm := J1.2.1.1
  obtain ⟨k1, x1, x2, x3, x4⟩ := r_remember (r_I_T J1.2.1.2 hT) hm.2.1.1
  have ew : k1 140 = S.w := by rw [x2.1, a_rem]
  have w3 := (hm.1.1.1 3 (by omega)).2.2.1 rfl
  have f2 : fn321 h1 = some (S.w 3, m_sr k1 140 (m_stops (m_u S.w 3 0))) := by
    rw [fn321, m_let, x1, Option.bind_some]
    dsimp only
    rw [r_of (v := S.w 3) (by omega) (by omega) (by rw [ew]; rfl) (by omega), Option.bind_some, m_let, m_ud_sr, fn342_m, Option.bind_some, m_sr_s, m_sr_sr, ew]
  have d2 : v2 = S.w 3 := congrArg Prod.fst (a_i e2 f2)
  have d3 : g1 6 7 = S.w 3 := by rw [← a_rem (S := S)]; exact (a_tb a2).2.2.2.1
  rw [d1, d2]; exact d3
theorem a_sets {h2 h1 : q_F} {S S1 : m_St} {j : Nat} {v v2 : Int} (hj : j = 1 ∨ j = 2) (hv : v = 0 ∨ v = 1) (J1 : j_T S1 S h1) (e2 : fn332 j v h1 = some (v2, h2)) : v2 = S.w j := by
  have hT : r_T h1 (q_ud h1 139 7 0) := r_T_u r_T_r
  have hm := J1.2.1.1
  obtain ⟨k1, x1, x2, x3, x4⟩ := r_remember (r_I_T J1.2.1.2 hT) hm.2.1.1
  have ew : k1 140 = S.w := by rw [x2.1, a_rem]
  have key : ∀ p0 : Int, fn332_25 (j : Int) v p0 k1 = some (p0, m_sr k1 140 (m_u S.w j v)) := fun p0 => by
    rw [fn332_25]
    rcases hv with rfl | rfl
    · rw [if_pos rfl, fn332_40, if_pos (by omega), m_let, m_ud_sr, Int.toNat_natCast, ew]
    · rw [if_neg (by decide), fn332_40, if_pos (by omega), m_let, m_ud_sr, Int.toNat_natCast, ew]
  have w01 : S.w j = 0 ∨ S.w j = 1 := by
    have := (hm.1.1.1 j (by omega)).2.1 (by omega)
    exact this
  unfold fn332 at e2
  rw [m_let, x1, Option.bind_some, if_pos (by omega)] at e2
  dsimp only at e2
  rw [key, key, Int.toNat_natCast] at e2
  split at e2
  · rename_i c; rw [ew] at c; cases e2; exact c.symm
  · rename_i c; rw [ew] at c; cases e2; omega
theorem a_p19 {h h1 h2 : q_F} {S S1 : m_St} {v v1 v2 : Int} (hv : v = 0 ∨ v = 1) (J : j_T S S h) (J1 : j_T S1 S h1) (e1 : fn210 v h = some (v1, h1)) (e2 : fn328 v h1 = some (v2, h2)) : v1 = v2 := by
  obtain ⟨g1, a1, a2, a3⟩ := c_remember J.1.2 J.1.1
  have f1 : fn210 v h = some (g1 6 5, q_ud g1 6 5 v) := by rw [fn210, a1, Option.bind_some, m_let]
  have d1 : v1 = g1 6 5 := congrArg Prod.fst (a_i e1 f1)
  rw [fn328, s_id] at e2
  have d2 := a_sets (j := 1) (Or.inl rfl) hv J1 e2
  have d3 : g1 6 5 = S.w 1 := by rw [← a_rem (S := S)]; exact (a_tb a2).2.1
  rw [d1, d2]; exact d3
theorem a_p20 {h h1 h2 : q_F} {S S1 : m_St} {v v1 v2 : Int} (hv : v = 0 ∨ v = 1) (J : j_T S S h) (J1 : j_T S1 S h1) (e1 : fn211 v h = some (v1, h1)) (e2 : fn329 v h1 = some (v2, h2)) : v1 = v2 := by
  obtain ⟨g1, a1, a2, a3⟩ := c_remember J.1.2 J.1.1
  have f1 : fn211 v h = some (g1 6 6, q_ud g1 6 6 v) := by rw [fn211, a1, Option.bind_some, m_let]
  have d1 : v1 = g1 6 6 := congrArg Prod.fst (a_i e1 f1)
  rw [fn329, s_id] at e2
  have d2 := a_sets (j := 2) (Or.inr rfl) hv J1 e2
  have d3 : g1 6 6 = S.w 2 := by rw [← a_rem (S := S)]; exact (a_tb a2).2.2.1
  rw [d1, d2]; exact d3
theorem a_p61 {h h1 h2 : q_F} {S : m_St} {v1 v2 : Int} (J : j_T S S h) (J1 : j_T (m_oUndo S) S h1) (J2 : j_T (m_oUndo S) (m_oUndo S) h2) (e1 : fn228 h = some (v1, h1)) (e2 : fn360 h1 = some (v2, h2)) : v1 = v2 := by
  have n1 : h 33 1 = (S.n : Int) := J.1.2.2.1.1
  have n2 : h1 139 5 = (S.n : Int) := J1.2.1.2.2.1.1
  have m1 : h1 33 1 = ((m_oUndo S).n : Int) := J1.1.2.2.1.1
  have m2 : h2 139 5 = ((m_oUndo S).n : Int) := J2.2.1.2.2.1.1
  unfold fn228 at e1
  unfold fn360 at e2
  rw [m_let, q_ud_n (by omega), n2] at e2
  rw [n1] at e1
  by_cases c : S.n = 0
  · rw [if_pos (by omega)] at e1 e2
    cases e1; cases e2; rfl
  · rw [if_neg (by omega)] at e1 e2
    rw [m_let] at e2
    generalize q_ud (q_ud h1 139 7 0) 139 5 (q_w32 ((S.n : Int) - 1)) = gg at e2
    cases h4 : fn249 144 1220 140 122 (q_w32 ((122 : Int) * (gg 139 5))) (0 : Int) (122 : Int) gg with
    | none => rw [h4] at e2; cases e2
    | some y =>
      rw [h4, Option.bind_some] at e2
      cases e2
      rw [m2]
      cases h3 : fn69 6 h with
      | none => rw [h3] at e1; cases e1
      | some x =>
        rw [h3, Option.bind_some] at e1
        cases e1
        rw [m1]
theorem a_p62 {h h1 h2 : q_F} {S : m_St} {v1 v2 : Int} (J : j_T S S h) (J1 : j_T (m_oSave S) S h1) (J2 : j_T (m_oSave S) (m_oSave S) h2) (e1 : fn209 h = some (v1, h1)) (e2 : fn326 h1 = some (v2, h2)) : v1 = v2 := by
  have r := (m_R0_ok J.1.1.1.1).2.1
  have m1 : h1 13 1 = S.w 4 := J1.1.2.1.2.2.1
  have m2 : h2 140 4 = S.w 4 := by rw [J2.2.1.2.1]; rfl
  unfold fn209 at e1
  unfold fn326 at e2
  rw [m_let] at e2
  cases h3 : fn127 15 6 h with
  | none => rw [h3] at e1; cases e1
  | some x =>
    rw [h3, Option.bind_some, m_let] at e1
    cases h4 : fn249 140 122 143 122 (0 : Int) (0 : Int) (122 : Int) (q_ud h1 139 7 0) with
    | none => rw [h4] at e2; cases e2
    | some y =>
      rw [h4, Option.bind_some, m_let] at e2
      cases e1
      cases h5 : fn303 (4 : Int) (q_ud y.2 139 6 1) with
      | none => rw [h5] at e2; cases e2
      | some z =>
        rw [h5, Option.bind_some] at e2
        cases e2
        have := a_i h5 (r_of (v := S.w 4) (by omega) (by omega) m2 (by omega))
        rw [m1, this]
end -- [98zg.ans]
section -- [98zh.ans]
/-! Part 98zh: two long answers that are the same. -/
theorem y_lc {Γ : q_Γ} {P : Nat → q_V → q_F → Prop} {i n p x cl sl : Nat} {off a b : Int} {K : Nat → q_Ly} {lo : q_L} {st : List q_V} {hp : q_H} (c0 : q_cat i p .lcmp 1 0 0 0) (c1 : q_cat i (p + 1) (.ifCond .eq off) 3 x 0 0) (h : a = b) (k : q_R Γ K n i P (x, lo, st, hp, [], cl, sl)) : q_R Γ K n i P (p, lo, (1, b) :: (1, a) :: st, hp, [], cl, sl) := by
  subst h
  refine r_lcmp c0 rfl (fun h9 => absurd h9 (Int.lt_irrefl _)) (fun _ => ?_) (fun h9 => absurd h9 (Int.lt_irrefl _))
  exact r_if_eq (a' := 0) c1 rfl (q_w32_id (by decide) (by decide)) (fun _ => k) (fun h9 => absurd rfl h9.1)
end -- [98zh.ans]
section -- [98zi.ans]
/-! Part 98zi: what was thrown and the answers of the calls that may throw. -/
theorem a_F {f : Option (Int × q_F)} {h h2 : q_F} {S : m_St} {v : Int} (g : r_W f h S) (e : f = some (v, h2)) : r_F h h2 := by
  obtain ⟨v', h', a, -, b⟩ := g
  have := congrArg Prod.snd (a_i e a)
  have e2 : h2 = h' := this
  rw [e2]; exact b
theorem a_258 (c k : Int) (g : q_F) : fn258 c k g = some (c, if c = 0 then g else q_ud g 139 7 k) := by
  unfold fn258
  by_cases e : c = 0
  · rw [if_pos e, if_pos e]
  · rw [if_neg e, if_neg e, m_let]
/-- how the two sides of such a call compare -/
def a_Q (h2 : q_F) (v1 v2 : Int) : Prop := h2 139 7 = v1 ∧ (v1 = 0 → h2 153 0 = v2)
theorem a_p7 {v : Int} {h h1 h2 : q_F} {S S1 : m_St} {v1 v2 : Int} (J : j_T S S h) (J1 : j_T S1 S h1) (e1 : fn5 v h = some (v1, h1)) (e2 : fn250 v h1 = some (v2, h2)) : a_Q h2 v1 v2 := by
  have hm := J1.2.1.1
  have hI := J1.2.1.2
  have F := a_F (r_count hI hm) e2
  have f153 : h2 153 = h1 153 := F.1 153 (by omega)
  have tb := a_tb J.1.2
  have g0 : r_I (q_ud h1 139 7 0) S := r_I_T hI (r_T_u r_T_r)
  have w := (m_R0_ok J.1.1.1.1)
  unfold fn250 at e2
  rw [m_let, r_rng, Option.bind_some, fn250_23, fn250_23, a_258, a_258, Option.bind_some, Option.bind_some] at e2
  dsimp only at e2
  unfold fn5 fn171 at e1
  by_cases c : 0 ≤ v ∧ v ≤ 6
  · rw [if_pos c, if_neg (show ¬ (1 : Int) = 0 by decide), if_pos rfl, if_pos rfl] at e2
    have w0 := w.1
    have wx : ∀ j : Nat, j < 5 → -2147483648 ≤ S.w j ∧ S.w j < 2147483648 := fun j hj => by
      obtain rfl | rfl | rfl | rfl | rfl : j = 0 ∨ j = 1 ∨ j = 2 ∨ j = 3 ∨ j = 4 := by omega
      · omega
      · have := (hm.1.1.1 1 (by omega)).2.1 (by omega); omega
      · have := (hm.1.1.1 2 (by omega)).2.1 (by omega); omega
      · have := (hm.1.1.1 3 (by omega)).2.2.1 rfl; omega
      · have := w.2.1; omega
    have key : ∀ j : Nat, j < 5 → fn303 (j : Int) (q_ud h1 139 7 0) = some (S.w j) := fun j hj => r_of (by omega) (by omega) (by rw [Int.toNat_natCast, g0.1]) (wx j hj)
    have fin : ∀ x y : Int, (some ((0 : Int), q_ud h 153 0 x) : Option (Int × q_F)) = some (v1, h1) → (some (y, q_ud h1 139 7 0) : Option (Int × q_F)) = some (v2, h2) → x = y → a_Q h2 v1 v2 := fun x y e3 e4 exy => by
      have a1 : v1 = 0 := (congrArg Prod.fst (Option.some.inj e3)).symm
      have a2 : h1 = q_ud h 153 0 x := (congrArg Prod.snd (Option.some.inj e3)).symm
      have b1 : v2 = y := (congrArg Prod.fst (Option.some.inj e4)).symm
      have b2 : h2 = q_ud h1 139 7 0 := (congrArg Prod.snd (Option.some.inj e4)).symm
      refine ⟨by rw [b2, q_ud_s, a1], fun _ => ?_⟩
      rw [f153, a2, q_ud_s, b1, exy]
    obtain ⟨n, rfl⟩ : ∃ n : Nat, v = (n : Int) := ⟨v.toNat, by omega⟩
    by_cases n5 : n = 5
    · subst n5
      rw [if_pos (show ((5 : Nat) : Int) = 5 from rfl), r_homed g0 hm, Option.bind_some] at e2
      rw [if_neg (by decide), if_neg (by decide), if_neg (by decide), if_neg (by decide), if_neg (by decide), if_pos (show ((5 : Nat) : Int) = 5 from rfl), c_homed J.1.2 J.1.1, Option.bind_some, Option.bind_some] at e1
      dsimp only at e1
      rw [if_pos (show (1 : Nat) = 1 from rfl), m_let] at e1
      exact fin _ _ e1 e2 rfl
    · rw [if_neg (show ¬ (n : Int) = 5 by omega)] at e2
      by_cases n6 : n = 6
      · subst n6
        rw [if_pos (show ((6 : Nat) : Int) = 6 from rfl)] at e2
        rw [if_neg (by decide), if_neg (by decide), if_neg (by decide), if_neg (by decide), if_neg (by decide), if_neg (by decide), if_pos (show ((6 : Nat) : Int) = 6 from rfl), Option.bind_some] at e1
        dsimp only at e1
        rw [if_pos (show (1 : Nat) = 1 from rfl), m_let] at e1
        exact fin _ _ e1 e2 (by rw [g0.2.1.1]; exact J.1.2.2.1.1)
      · rw [if_neg (show ¬ (n : Int) = 6 by omega), key n (by omega), Option.bind_some] at e2
        obtain rfl | rfl | rfl | rfl | rfl : n = 0 ∨ n = 1 ∨ n = 2 ∨ n = 3 ∨ n = 4 := by omega
        · rw [if_pos (show ((0 : Nat) : Int) = 0 from rfl), Option.bind_some] at e1
          dsimp only at e1
          rw [if_pos (show (1 : Nat) = 1 from rfl), m_let] at e1
          exact fin _ _ e1 e2 tb.1
        · rw [if_neg (by decide), if_pos (show ((1 : Nat) : Int) = 1 from rfl)] at e1
          have b := (hm.1.1.1 1 (by omega)).2.1 (by omega)
          split at e1
          · rename_i c9
            rw [Option.bind_some] at e1
            dsimp only at e1
            rw [if_pos (show (1 : Nat) = 1 from rfl), m_let] at e1
            exact fin _ _ e1 e2 (by rw [← tb.2.1]; exact c9.symm)
          · rename_i c9
            rw [Option.bind_some] at e1
            dsimp only at e1
            rw [if_pos (show (1 : Nat) = 1 from rfl), m_let] at e1
            rw [tb.2.1] at c9
            exact fin _ _ e1 e2 (by omega)
        · rw [if_neg (by decide), if_neg (by decide), if_pos (show ((2 : Nat) : Int) = 2 from rfl)] at e1
          have b := (hm.1.1.1 2 (by omega)).2.1 (by omega)
          split at e1
          · rename_i c9
            rw [Option.bind_some] at e1
            dsimp only at e1
            rw [if_pos (show (1 : Nat) = 1 from rfl), m_let] at e1
            exact fin _ _ e1 e2 (by rw [← tb.2.2.1]; exact c9.symm)
          · rename_i c9
            rw [Option.bind_some] at e1
            dsimp only at e1
            rw [if_pos (show (1 : Nat) = 1 from rfl), m_let] at e1
            rw [tb.2.2.1] at c9
            exact fin _ _ e1 e2 (by omega)
        · rw [if_neg (by decide), if_neg (by decide), if_neg (by decide), if_pos (show ((3 : Nat) : Int) = 3 from rfl), Option.bind_some] at e1
          dsimp only at e1
          rw [if_pos (show (1 : Nat) = 1 from rfl), m_let] at e1
          exact fin _ _ e1 e2 tb.2.2.2.1
        · rw [if_neg (by decide), if_neg (by decide), if_neg (by decide), if_neg (by decide), if_pos (show ((4 : Nat) : Int) = 4 from rfl), Option.bind_some] at e1
          dsimp only at e1
          rw [if_pos (show (1 : Nat) = 1 from rfl), m_let] at e1
          exact fin _ _ e1 e2 J.1.2.1.2.2.1
  · rw [if_neg c, if_pos rfl, if_neg (show ¬ (1 : Int) = 0 by decide), if_neg (show ¬ (1 : Int) = 0 by decide)] at e2
    rw [if_neg (by omega), if_neg (by omega), if_neg (by omega), if_neg (by omega), if_neg (by omega), if_neg (by omega), if_neg (by omega), Option.bind_some] at e1
    dsimp only at e1
    rw [if_neg (show ¬ (2 : Nat) = 1 by decide), if_pos rfl] at e1
    cases e1; cases e2
    exact ⟨q_ud_s _ _ _ _, fun h9 => absurd h9 (by decide)⟩
end -- [98zi.ans]
section -- [98zj.ans]
/-! Part 98zj: axis, coordinate, error, readsClosed. -/
theorem a_ok {x : Int} {hc g h1 h2 : q_F} {v1 v2 : Int} (f1 : some ((0 : Int), q_ud hc 153 0 x) = some (v1, h1)) (f2 : some (x, g) = some (v2, h2)) (z : g 139 7 = 0) (f : h2 153 = h1 153) : a_Q h2 v1 v2 := by
  have a1 : v1 = 0 := (congrArg Prod.fst (Option.some.inj f1)).symm
  have a2 : h1 = q_ud hc 153 0 x := (congrArg Prod.snd (Option.some.inj f1)).symm
  have b1 : v2 = x := (congrArg Prod.fst (Option.some.inj f2)).symm
  have b2 : h2 = g := (congrArg Prod.snd (Option.some.inj f2)).symm
  refine ⟨by rw [b2, z, a1], fun _ => ?_⟩
  rw [f, a2, q_ud_s, b1]
theorem a_er {c y : Int} {hc g h1 h2 : q_F} {v1 v2 : Int} (f1 : some (c, hc) = some (v1, h1)) (f2 : some (y, g) = some (v2, h2)) (z : g 139 7 = c) (c0 : c ≠ 0) : a_Q h2 v1 v2 := by
  have a1 : v1 = c := (congrArg Prod.fst (Option.some.inj f1)).symm
  have b2 : h2 = g := (congrArg Prod.snd (Option.some.inj f2)).symm
  exact ⟨by rw [b2, z, a1], fun h9 => absurd (a1.symm.trans h9) c0⟩
/-- the heap of the reference behind a check -/
def a_g (c k : Int) (g : q_F) : q_F := if c = 0 then g else q_ud g 139 7 k
theorem a_298 (v : Int) (h : q_F) : fn298 v h = some (if 0 ≤ v ∧ v ≤ 2 then 0 else 1, if 0 ≤ v ∧ v ≤ 2 then q_ud h 139 7 0 else q_ud (q_ud h 139 7 0) 139 7 1) := by
  unfold fn298 fn298_23
  rw [m_let, r_rng, Option.bind_some, a_258, a_258, Option.bind_some, Option.bind_some]
  by_cases c : 0 ≤ v ∧ v ≤ 2
  · rw [if_pos c, if_neg (show ¬ (1 : Int) = 0 by decide), if_pos c, if_pos c, if_pos rfl]
  · rw [if_neg c, if_pos rfl, if_neg c, if_neg c, if_neg (show ¬ (1 : Int) = 0 by decide)]
theorem a_302 {a k : Int} {h : q_F} (ha : 0 ≤ a ∧ a ≤ 2) : fn302 a k h = some (if h 140 (41 + a).toNat = 0 then 1 else 0, if h 140 (41 + a).toNat = 0 then q_ud h 139 7 k else h) := by
  unfold fn302 fn302_20
  rw [q_w32_id (z := 41 + a) (by omega) (by omega), if_pos (by omega), a_258, a_258, Option.bind_some, Option.bind_some]
  split
  · rw [if_neg (show ¬ (1 : Int) = 0 by decide)]
  · rw [if_pos rfl]
theorem a_ax {h : q_F} {S : m_St} {a : Nat} (hI : c_I h S) (ha : a < 3) : c_ax h (q_axn 6 a) S.w a := by rw [q_axn_e ha]; exact hI.1.1 a ha
theorem a_g0 {h : q_F} {S : m_St} (hI : r_I h S) : r_I (q_ud h 139 7 0) S := r_I_T hI (r_T_u r_T_r)
theorem a_p9 {a : Int} {h h1 h2 : q_F} {S S1 : m_St} {v1 v2 : Int} (J : j_T S S h) (J1 : j_T S1 S h1) (e1 : fn4 a h = some (v1, h1)) (e2 : fn248 a h1 = some (v2, h2)) : a_Q h2 v1 v2 := by
  have hm := J1.2.1.1
  have f := (a_F (r_coordinate J1.2.1.2) e2).1 153 (by omega)
  have g0 := a_g0 J1.2.1.2
  unfold fn248 fn248_17 at e2
  unfold fn4 fn170 at e1
  rw [a_298, Option.bind_some] at e2
  rw [c_axis, Option.bind_some] at e1
  dsimp only at e1 e2
  by_cases c : 0 ≤ a ∧ a ≤ 2
  · rw [if_pos c, if_pos rfl] at e1
    rw [if_pos c, if_pos c, if_pos rfl, a_302 c, Option.bind_some] at e2
    obtain ⟨n, rfl⟩ : ∃ n : Nat, a = (n : Int) := ⟨a.toNat, by omega⟩
    have X := a_ax J.1.2 (a := n) (by omega)
    have x11 : h (q_axn 6 (n : Int)) 11 = S.w (41 + n) := X.1 11 (by omega)
    have x12 : h (q_axn 6 (n : Int)) 12 = S.w (47 + n) := X.1 12 (by omega)
    have g41 : q_ud h1 139 7 0 140 (41 + (n : Int)).toNat = S.w (41 + n) := by rw [show (41 + (n : Int)).toNat = 41 + n by omega, g0.1]
    unfold fn163 at e1
    dsimp only at e1 e2
    rw [x11] at e1
    rw [g41] at e2
    by_cases z : S.w (41 + n) = 0
    · rw [if_pos z, Option.bind_some] at e1
      dsimp only at e1
      rw [if_neg (show ¬ (4 : Nat) = 0 by decide), if_pos rfl, Option.bind_some] at e1
      dsimp only at e1
      rw [if_neg (show ¬ (4 : Nat) = 1 by decide), if_neg (show ¬ (4 : Nat) = 3 by decide), if_pos rfl] at e1
      rw [if_pos z, if_pos z, if_neg (show ¬ (1 : Int) = 0 by decide)] at e2
      exact a_er e1 e2 (q_ud_s _ _ _ _) (by decide)
    · have b := (hm.1.1.1 (47 + n) (by omega)).2.2.2.2.2.2.2.2.2 (by omega)
      rw [if_neg z, Option.bind_some] at e1
      dsimp only at e1
      rw [if_pos rfl, Option.bind_some] at e1
      dsimp only at e1
      rw [if_pos rfl, m_let, x12] at e1
      rw [if_neg z, if_neg z, if_pos rfl, q_w32_id (z := 47 + (n : Int)) (by omega) (by omega), r_of (v := S.w (47 + n)) (by omega) (by omega) (by rw [show (47 + (n : Int)).toNat = 47 + n by omega, g0.1]) (by omega), Option.bind_some] at e2
      exact a_ok e1 e2 (q_ud_s _ _ _ _) f
  · rw [if_neg c, if_neg (show ¬ (3 : Nat) = 0 by decide), if_pos rfl, Option.bind_some] at e1
    dsimp only at e1
    rw [if_neg (show ¬ (3 : Nat) = 1 by decide), if_pos rfl] at e1
    rw [if_neg c, if_neg c, if_neg (show ¬ (1 : Int) = 0 by decide)] at e2
    exact a_er e1 e2 (q_ud_s _ _ _ _) (by decide)
end -- [98zj.ans]
section -- [98zm.ans]
/-! Part 98zm: account, setStart, setStuck, unqueue, slackLeft, restoreState. -/
theorem a_p56v {h : q_F} {S : m_St} {n v : Nat} (hI : c_I h S) (hn : n < 3) (hv : v ≤ 5) : fn44 (q_axn 6 (n : Int) + 1) v h = some (q_w32 (S.w (56 + 3 * v + n))) := by
  have X := a_ax hI hn
  obtain rfl | rfl | rfl | rfl | rfl | rfl : v = 0 ∨ v = 1 ∨ v = 2 ∨ v = 3 ∨ v = 4 ∨ v = 5 := by omega
  · have e : h (q_axn 6 (n : Int) + 1) 0 = q_w32 (S.w (56 + n)) := X.2 0 (by omega)
    rw [fn44, if_pos (show ((0 : Nat) : Int) = 0 from rfl), e]
  · have e : h (q_axn 6 (n : Int) + 1) 1 = q_w32 (S.w (59 + n)) := X.2 1 (by omega)
    rw [fn44, if_neg (by decide), if_pos (show ((1 : Nat) : Int) = 1 from rfl), e]
  · have e : h (q_axn 6 (n : Int) + 1) 3 = q_w32 (S.w (62 + n)) := X.2 3 (by omega)
    rw [fn44, if_neg (by decide), if_neg (by decide), if_pos (show ((2 : Nat) : Int) = 2 from rfl), e]
  · have e : h (q_axn 6 (n : Int) + 1) 4 = q_w32 (S.w (65 + n)) := X.2 4 (by omega)
    rw [fn44, if_neg (by decide), if_neg (by decide), if_neg (by decide), if_pos (show ((3 : Nat) : Int) = 3 from rfl), e]
  · have e : h (q_axn 6 (n : Int) + 1) 5 = q_w32 (S.w (68 + n)) := X.2 5 (by omega)
    rw [fn44, if_neg (by decide), if_neg (by decide), if_neg (by decide), if_neg (by decide), if_pos (show ((4 : Nat) : Int) = 4 from rfl), e]
  · have e : h (q_axn 6 (n : Int) + 1) 6 = q_w32 (S.w (71 + n)) := X.2 6 (by omega)
    rw [fn44, if_neg (by decide), if_neg (by decide), if_neg (by decide), if_neg (by decide), if_neg (by decide), e]
theorem a_p56 {a v : Int} {h h1 h2 : q_F} {S S1 : m_St} {v1 v2 : Int} (J : j_T S S h) (J1 : j_T S1 S h1) (e1 : fn0 a v h = some (v1, h1)) (e2 : fn234 a v h1 = some (v2, h2)) : a_Q h2 v1 v2 := by
  have f := (a_F (r_account J1.2.1.2) e2).1 153 (by omega)
  have g0 := a_g0 J1.2.1.2
  unfold fn234 fn234_26 at e2
  unfold fn0 fn155 fn155_14 at e1
  rw [a_298, Option.bind_some] at e2
  rw [c_axis, Option.bind_some] at e1
  dsimp only at e1 e2
  by_cases c : 0 ≤ a ∧ a ≤ 2
  · rw [if_pos c, if_pos rfl] at e1
    rw [if_pos c, if_pos c, if_pos rfl, r_rng, Option.bind_some, a_258, a_258, Option.bind_some, Option.bind_some] at e2
    dsimp only at e2
    obtain ⟨n, rfl⟩ : ∃ n : Nat, a = (n : Int) := ⟨a.toNat, by omega⟩
    by_cases cv : 0 ≤ v ∧ v ≤ 5
    · obtain ⟨m, rfl⟩ : ∃ m : Nat, v = (m : Int) := ⟨v.toNat, by omega⟩
      have V := a_p56v (n := n) (v := m) J.1.2 (by omega) (by omega)
      rw [if_neg (show ¬ (m : Int) < 0 by omega), if_pos cv.2, V, Option.bind_some, Option.bind_some] at e1
      rw [if_pos cv, if_neg (show ¬ (1 : Int) = 0 by decide), if_pos rfl, if_pos rfl, q_w32_id (z := 3 * (m : Int)) (by omega) (by omega), q_w32_id (z := 56 + 3 * (m : Int)) (by omega) (by omega), q_w32_id (by omega) (by omega), fn303_i (by omega) (by omega), Option.bind_some, show (56 + 3 * (m : Int) + n).toNat = 56 + 3 * m + n by omega, g0.1] at e2
      exact a_ok e1 e2 (q_ud_s _ _ _ _) f
    · rw [if_neg cv, if_pos rfl, if_neg (show ¬ (1 : Int) = 0 by decide), if_neg (show ¬ (1 : Int) = 0 by decide)] at e2
      have e3 : some ((2 : Int), h) = some (v1, h1) := by
        rw [← e1]
        by_cases c5 : v < 0
        · rw [if_pos c5, Option.bind_some]; rfl
        · rw [if_neg c5, if_neg (show ¬ v ≤ 5 by omega), Option.bind_some]; rfl
      exact a_er e3 e2 (q_ud_s _ _ _ _) (by decide)
  · rw [if_neg c, if_neg (show ¬ (3 : Nat) = 0 by decide), if_pos rfl, Option.bind_some] at e1
    dsimp only at e1
    rw [if_neg (show ¬ (3 : Nat) = 1 by decide), if_neg (show ¬ (3 : Nat) = 2 by decide), if_pos rfl] at e1
    rw [if_neg c, if_neg c, if_neg (show ¬ (1 : Int) = 0 by decide)] at e2
    exact a_er e1 e2 (q_ud_s _ _ _ _) (by decide)
/-- the reference remembers: its row stays, what was thrown stays 0 -/
theorem a_rm {h : q_F} {S : m_St} (hI : r_I h S) (hm : m_I S) : ∃ k, fn320 (q_ud h 139 7 0) = some (0, k) ∧ k 140 = S.w ∧ k 139 7 = 0 ∧ r_I k (m_rem S) := by
  obtain ⟨k, x1, x2, x3, x4⟩ := r_remember (a_g0 hI) hm.2.1.1
  exact ⟨k, x1, by rw [x2.1, a_rem], by rw [x4 7 (by omega), q_ud_s], x2⟩
theorem a_p22 {v : Int} {h h1 h2 : q_F} {S S1 : m_St} {v1 v2 : Int} (J : j_T S S h) (J1 : j_T S1 S h1) (e1 : fn25 v h = some (v1, h1)) (e2 : fn330 v h1 = some (v2, h2)) : a_Q h2 v1 v2 := by
  have hm := J1.2.1.1
  have f := (a_F (r_setStart J1.2.1.2 hm) e2).1 153 (by omega)
  have w0 := (m_R0_ok hm.1.1).1
  unfold fn330 fn330_23 at e2
  unfold fn25 fn212 fn212_12 at e1
  rw [m_let, r_rng, Option.bind_some, a_258, a_258, Option.bind_some, Option.bind_some] at e2
  dsimp only at e2
  by_cases c : 1 ≤ v ∧ v ≤ 1000
  · obtain ⟨g1, a1, a2, a3⟩ := c_remember J.1.2 J.1.1
    obtain ⟨k, x1, x2, x3, -⟩ := a_rm J1.2.1.2 hm
    have d3 : g1 6 4 = S.w 0 := by rw [← a_rem (S := S)]; exact (a_tb a2).1
    rw [if_neg (show ¬ v < 1 by omega), if_pos c.2, a1, Option.bind_some, m_let, Option.bind_some] at e1
    dsimp only at e1
    rw [if_pos rfl, m_let, d3] at e1
    rw [if_pos c, if_neg (show ¬ (1 : Int) = 0 by decide), if_pos rfl, if_pos rfl, x1, Option.bind_some] at e2
    dsimp only at e2
    rw [r_of (v := S.w 0) (by omega) (by omega) (by rw [x2]; rfl) (by omega), Option.bind_some, m_let] at e2
    exact a_ok e1 e2 (by rw [q_ud_n (by omega)]; exact x3) f
  · rw [if_neg c, if_pos rfl, if_neg (show ¬ (1 : Int) = 0 by decide), if_neg (show ¬ (1 : Int) = 0 by decide)] at e2
    have e3 : some ((1 : Int), h) = some (v1, h1) := by
      rw [← e1]
      by_cases c5 : v < 1
      · rw [if_pos c5, Option.bind_some]; rfl
      · rw [if_neg c5, if_neg (show ¬ v ≤ 1000 by omega), Option.bind_some]; rfl
    exact a_er e3 e2 (q_ud_s _ _ _ _) (by decide)
theorem a_p21 {a v : Int} {h h1 h2 : q_F} {S S1 : m_St} {v1 v2 : Int} (J : j_T S S h) (J1 : j_T S1 S h1) (e1 : fn26 a v h = some (v1, h1)) (e2 : fn331 a v h1 = some (v2, h2)) : a_Q h2 v1 v2 := by
  have hm := J1.2.1.1
  have f := (a_F (r_setStuck J1.2.1.2 hm) e2).1 153 (by omega)
  unfold fn331 fn331_26 at e2
  unfold fn26 fn213 fn213_14 at e1
  rw [a_298, Option.bind_some] at e2
  rw [c_axis, Option.bind_some] at e1
  dsimp only at e1 e2
  by_cases c : 0 ≤ a ∧ a ≤ 2
  · rw [if_pos c, if_pos rfl] at e1
    rw [if_pos c, if_pos c, if_pos rfl, r_rng, Option.bind_some, a_258, a_258, Option.bind_some, Option.bind_some] at e2
    dsimp only at e2
    obtain ⟨n, rfl⟩ : ∃ n : Nat, a = (n : Int) := ⟨a.toNat, by omega⟩
    by_cases cv : 0 ≤ v ∧ v ≤ 2
    · obtain ⟨g1, a1, a2, a3⟩ := c_remember J.1.2 J.1.1
      obtain ⟨k, x1, x2, x3, -⟩ := a_rm J1.2.1.2 hm
      have d3 : g1 (q_axn 6 (n : Int)) 9 = S.w (38 + n) := by rw [← a_rem (S := S)]; exact (a_ax a2 (a := n) (by omega)).1 9 (by omega)
      have b := (hm.1.1.1 (38 + n) (by omega)).2.2.2.2.1 (by omega)
      rw [if_neg (show ¬ v < 0 by omega), if_pos cv.2, a1, Option.bind_some, m_let, Option.bind_some] at e1
      dsimp only at e1
      rw [if_pos rfl, m_let, d3] at e1
      rw [if_pos cv, if_neg (show ¬ (1 : Int) = 0 by decide), if_pos rfl, if_pos rfl, x1, Option.bind_some] at e2
      dsimp only at e2
      rw [q_w32_id (z := 38 + (n : Int)) (by omega) (by omega), r_of (v := S.w (38 + n)) (by omega) (by omega) (by rw [x2, show (38 + (n : Int)).toNat = 38 + n by omega]) (by omega), Option.bind_some, if_pos (by omega), m_let] at e2
      exact a_ok e1 e2 (by rw [q_ud_n (by omega)]; exact x3) f
    · rw [if_neg cv, if_pos rfl, if_neg (show ¬ (1 : Int) = 0 by decide), if_neg (show ¬ (1 : Int) = 0 by decide)] at e2
      have e3 : some ((2 : Int), h) = some (v1, h1) := by
        rw [← e1]
        by_cases c5 : v < 0
        · rw [if_pos c5, Option.bind_some]; rfl
        · rw [if_neg c5, if_neg (show ¬ v ≤ 2 by omega), Option.bind_some]; rfl
      exact a_er e3 e2 (q_ud_s _ _ _ _) (by decide)
  · rw [if_neg c, if_neg (show ¬ (3 : Nat) = 0 by decide), if_pos rfl, Option.bind_some] at e1
    dsimp only at e1
    rw [if_neg (show ¬ (3 : Nat) = 1 by decide), if_neg (show ¬ (3 : Nat) = 2 by decide), if_pos rfl] at e1
    rw [if_neg c, if_neg c, if_neg (show ¬ (1 : Int) = 0 by decide)] at e2
    exact a_er e1 e2 (q_ud_s _ _ _ _) (by decide)
end -- [98zm.ans]
section -- [98zp.ans]
/-! Part 98zp: home, homeAll, run, runAll. -/
theorem a_p13 {a : Int} {h h1 h2 : q_F} {S S1 : m_St} {v1 v2 : Int} (hA : q_Al 0 155 h) (J : j_T S S h) (J1 : j_T S1 S h1) (e1 : fn9 a h = some (v1, h1)) (e2 : fn263 a h1 = some (v2, h2)) : a_Q h2 v1 v2 := by
  have hm := J1.2.1.1
  have f := (a_F (r_homeC J1.2.1.2 hm) e2).1 153 (by omega)
  have g0 := a_g0 J1.2.1.2
  have ok := m_R0_ok hm.1.1
  unfold fn263 at e2
  unfold fn9 fn180 at e1
  rw [a_298, Option.bind_some] at e2
  rw [c_axis, Option.bind_some] at e1
  dsimp only at e1 e2
  by_cases c : 0 ≤ a ∧ a ≤ 2
  · rw [if_pos c, if_pos rfl, c_noAlarm J.1.2, Option.bind_some] at e1
    rw [if_pos c, if_pos c, if_pos rfl, r_busy g0, Option.bind_some, a_258, Option.bind_some] at e2
    dsimp only at e1 e2
    have bad : ∀ g : q_F, ((some ((4 : Nat), (0 : Int), g)).bind fun x1 => if x1.1 = 1 then q_let (q_ud x1.2.2 153 0 x1.2.1) fun g2 => some ((0 : Int), g2) else if x1.1 = 3 then some ((1 : Int), x1.2.2) else if x1.1 = 4 then some ((2 : Int), x1.2.2) else none) = some ((2 : Int), g) := fun g => rfl
    by_cases c3 : S.w 3 = 0
    · rw [if_pos c3, if_pos rfl, c_qEmpty J.1.2 J.1.1, Option.bind_some] at e1
      dsimp only at e1
      by_cases c4 : S.w 4 = 0
      · obtain ⟨n, hn, rfl⟩ := m_ax_n c
        obtain ⟨g1, a1, a2, a3⟩ := c_remember J.1.2 J.1.1
        obtain ⟨g2, b1, b2, b3, b4⟩ := c_home q_T6 hn a2.1 (m_R0_ok (m_I_rem J.1.1).1.1) (m_I_rem J.1.1).1.1.2 (by rw [a_rem]; exact j_w5 hA J.1.2)
        rw [a_rem] at b1
        obtain ⟨k, x1, x2, x3, -⟩ := a_rm J1.2.1.2 hm
        rw [if_pos c4, if_pos rfl, a1, Option.bind_some, b1, Option.bind_some, Option.bind_some] at e1
        dsimp only at e1
        rw [if_pos rfl, m_let] at e1
        rw [if_pos (show S.w 3 = 0 ∧ S.w 4 = 0 from ⟨c3, c4⟩), if_pos rfl, if_pos rfl, x1, Option.bind_some] at e2
        dsimp only at e2
        rw [fn266_m hn (by rw [x2]; exact ok), Option.bind_some, x2] at e2
        exact a_ok e1 e2 (by dsimp only; rw [m_sr_n (by omega)]; exact x3) f
      · rw [if_neg c4, if_neg (show ¬ (4 : Nat) = 0 by decide), if_pos rfl, bad] at e1
        rw [if_neg (show ¬ (S.w 3 = 0 ∧ S.w 4 = 0) from fun h9 => c4 h9.2), if_neg (show ¬ (1 : Int) = 0 by decide), if_neg (show ¬ (1 : Int) = 0 by decide)] at e2
        exact a_er e1 e2 (q_ud_s _ _ _ _) (by decide)
    · rw [if_neg c3, if_neg (show ¬ (4 : Nat) = 0 by decide), if_pos rfl, bad] at e1
      rw [if_neg (show ¬ (S.w 3 = 0 ∧ S.w 4 = 0) from fun h9 => c3 h9.1), if_neg (show ¬ (1 : Int) = 0 by decide), if_neg (show ¬ (1 : Int) = 0 by decide)] at e2
      exact a_er e1 e2 (q_ud_s _ _ _ _) (by decide)
  · rw [if_neg c, if_neg (show ¬ (3 : Nat) = 0 by decide), if_pos rfl, Option.bind_some] at e1
    dsimp only at e1
    rw [if_neg (show ¬ (3 : Nat) = 1 by decide), if_pos rfl] at e1
    rw [if_neg c, if_neg c, if_neg (show ¬ (1 : Int) = 0 by decide)] at e2
    exact a_er e1 e2 (q_ud_s _ _ _ _) (by decide)
/-- what homeAll answers, from the axis n - 1 down -/
noncomputable def m_hv : Nat → Int → (Nat → Int) → Int
  | 0, s, _ => s
  | n + 1, s, w => if (m_home n w).1 = -1 then -1 else m_hv n (q_w32 (s + (m_home n w).1)) (m_home n w).2
theorem a_cha : ∀ (n f : Nat) (s : Int) (h : q_F) (w : Nat → Int), n ≤ 3 → n < f → c_tb h 6 w → m_RI w → w 4 = 0 → q_r64 (w 5) → ∃ h', fn181_23 f s ((n : Int) - 1) h = some (1, m_hv n s w, h') := by
  intro n
  induction n with
  | zero =>
    intro f s h w hn hf hc _ _ _
    obtain ⟨f, rfl⟩ : ∃ f', f = f' + 1 := ⟨f - 1, by omega⟩
    exact ⟨h, by rw [fn181_23, if_pos (by omega), m_hv]⟩
  | succ n ih =>
    intro f s h w hn hf hc hR h4 h5
    obtain ⟨f, rfl⟩ : ∃ f', f = f' + 1 := ⟨f - 1, by omega⟩
    have hn3 : n < 3 := by omega
    obtain ⟨h2, b1, b2, b3, b4⟩ := c_home q_T6 hn3 hc (m_R0_ok hR.1) hR.1.2 h5
    rw [fn181_23, if_neg (by omega), show ((n + 1 : Nat) : Int) - 1 = (n : Int) by omega, b1, Option.bind_some]
    dsimp only
    rw [m_hv]
    have z := m_home_z (m_R0_ok hR.1) hn3
    by_cases c : (m_home n w).1 = -1
    · rw [if_neg (show ¬ 0 ≤ (m_home n w).1 by omega), if_pos c]
      exact ⟨h2, rfl⟩
    · rw [if_pos (show 0 ≤ (m_home n w).1 by omega), if_neg c, q_w32_id (z := (n : Int) + -1) (by omega) (by omega)]
      exact ih f (q_w32 (s + (m_home n w).1)) h2 _ (by omega) (by omega) b2 (m_RI_home hR.1 hn3 h4) ((m_home_4 hn3).trans h4) (m_home_5 hn3 h5)
theorem a_rha : ∀ (n f : Nat) (s : Int) (h : q_F), n ≤ 3 → n < f → m_RI (h 140) → h 140 4 = 0 → fn264_27 f s ((n : Int) - 1) h = some (m_hv n s (h 140), m_sr h 140 (m_ha n (h 140))) := by
  intro n
  induction n with
  | zero =>
    intro f s h hn hf _ _
    obtain ⟨f, rfl⟩ : ∃ f', f = f' + 1 := ⟨f - 1, by omega⟩
    rw [fn264_27, if_pos (by omega), m_hv]
    unfold m_ha; rw [m_sr_id]
  | succ n ih =>
    intro f s h hn hf hR h4
    obtain ⟨f, rfl⟩ : ∃ f', f = f' + 1 := ⟨f - 1, by omega⟩
    have hn3 : n < 3 := by omega
    rw [fn264_27, if_neg (by omega), show ((n + 1 : Nat) : Int) - 1 = (n : Int) by omega, fn266_m hn3 (m_R0_ok hR.1), Option.bind_some]
    dsimp only
    rw [m_hv]
    unfold m_ha
    by_cases c : (m_home n (h 140)).1 = -1
    · rw [if_pos c, if_pos c, if_pos c]
    · rw [if_neg c, if_neg c, if_neg c, q_w32_id (z := (n : Int) + -1) (by omega) (by omega)]
      have d1 := ih f (q_w32 (s + (m_home n (h 140)).1)) (m_sr h 140 (m_home n (h 140)).2) (by omega) (by omega) (by rw [m_sr_s]; exact m_RI_home hR.1 hn3 h4) (by rw [m_sr_s]; exact (m_home_4 hn3).trans h4)
      rw [m_sr_s, m_sr_sr] at d1
      exact d1
theorem a_p28 {h h1 h2 : q_F} {S S1 : m_St} {v1 v2 : Int} (hA : q_Al 0 155 h) (J : j_T S S h) (J1 : j_T S1 S h1) (e1 : fn10 h = some (v1, h1)) (e2 : fn264 h1 = some (v2, h2)) : a_Q h2 v1 v2 := by
  have hm := J1.2.1.1
  have f := (a_F (r_homeAllC J1.2.1.2 hm) e2).1 153 (by omega)
  have g0 := a_g0 J1.2.1.2
  unfold fn264 at e2
  unfold fn10 fn181 at e1
  rw [m_let, r_busy g0, Option.bind_some, a_258, Option.bind_some] at e2
  rw [c_noAlarm J.1.2, Option.bind_some] at e1
  dsimp only at e1 e2
  have bad : ∀ g : q_F, ((some ((4 : Nat), (0 : Int), g)).bind fun x1 => if x1.1 = 1 then q_let (q_ud x1.2.2 153 0 x1.2.1) fun g2 => some ((0 : Int), g2) else if x1.1 = 4 then some ((1 : Int), x1.2.2) else none) = some ((1 : Int), g) := fun g => rfl
  by_cases c3 : S.w 3 = 0
  · rw [if_pos c3, if_pos rfl, c_qEmpty J.1.2 J.1.1, Option.bind_some] at e1
    dsimp only at e1
    by_cases c4 : S.w 4 = 0
    · obtain ⟨g1, a1, a2, a3⟩ := c_remember J.1.2 J.1.1
      obtain ⟨k, x1, x2, x3, -⟩ := a_rm J1.2.1.2 hm
      have tb := a2.1
      rw [a_rem] at tb
      obtain ⟨g2, b1⟩ := a_cha 3 q_fu 0 g1 S.w (by omega) (by have := q_fu_ge; omega) tb J.1.1.1 c4 (j_w5 hA J.1.2)
      have b1' : fn181_23 q_fu 0 2 g1 = some (1, m_hv 3 0 S.w, g2) := b1
      have y1 := a_rha 3 q_fu 0 k (by omega) (by have := q_fu_ge; omega) (by rw [x2]; exact hm.1) (by rw [x2]; exact c4)
      have y1' : fn264_27 q_fu 0 2 k = some (m_hv 3 0 (k 140), m_sr k 140 (m_ha 3 (k 140))) := y1
      rw [if_pos c4, if_pos rfl, a1, Option.bind_some] at e1
      dsimp only at e1
      rw [b1', Option.bind_some] at e1
      dsimp only at e1
      rw [if_pos rfl, m_let] at e1
      rw [if_pos (show S.w 3 = 0 ∧ S.w 4 = 0 from ⟨c3, c4⟩), if_pos rfl, if_pos rfl, x1, Option.bind_some] at e2
      dsimp only at e2
      rw [y1', x2] at e2
      exact a_ok e1 e2 (by rw [m_sr_n (by omega)]; exact x3) f
    · rw [if_neg c4, if_neg (show ¬ (4 : Nat) = 0 by decide), if_pos rfl, bad] at e1
      rw [if_neg (show ¬ (S.w 3 = 0 ∧ S.w 4 = 0) from fun h9 => c4 h9.2), if_neg (show ¬ (1 : Int) = 0 by decide), if_neg (show ¬ (1 : Int) = 0 by decide)] at e2
      exact a_er e1 e2 (q_ud_s _ _ _ _) (by decide)
  · rw [if_neg c3, if_neg (show ¬ (4 : Nat) = 0 by decide), if_pos rfl, bad] at e1
    rw [if_neg (show ¬ (S.w 3 = 0 ∧ S.w 4 = 0) from fun h9 => c3 h9.1), if_neg (show ¬ (1 : Int) = 0 by decide), if_neg (show ¬ (1 : Int) = 0 by decide)] at e2
    exact a_er e1 e2 (q_ud_s _ _ _ _) (by decide)
theorem a_crun {h : q_F} {S : m_St} {n : Nat} (hI : c_I h S) (hm : m_I S) (hn : (n : Int) ≤ S.w 4) : ∃ h1 h2 h3, fn67 6 h = some (0, h1) ∧ fn195 h1 = some (0, h2) ∧ h2 13 1 = S.w 4 ∧ fn138 6 n h2 = some ((m_run n S.w).1, h3) := by
  obtain ⟨h1, a1, a2, a3⟩ := c_remember hI hm
  obtain ⟨h2, b1, b2, b3, b4⟩ := c_planned a2 (m_I_rem hm)
  have b41 := b4.1
  rw [a_rem] at b2 b41
  obtain ⟨h3, d1, d2, d3, d4⟩ := c_run (t := 6) (n := n) (w := S.w) (by omega) (m_R0_ok hm.1.1) hm.1.2 hm.1.1.2 ((hm.1.1.1 2 (by omega)).2.1 (by omega)) hn b41 b2
  exact ⟨h1, h2, h3, a1, b1, b41.2.2.1, d1⟩
theorem a_rrun {h : q_F} {S : m_St} {n : Nat} (hI : r_I h S) (hm : m_I S) (hn : (n : Int) ≤ S.w 4) : ∃ k h2, fn320 (q_ud h 139 7 0) = some (0, k) ∧ k 140 = S.w ∧ fn287 n k = some ((m_run n S.w).1, h2) ∧ h2 139 7 = 0 := by
  obtain ⟨k, x1, x2, x3, -⟩ := a_rm hI hm
  obtain ⟨h2, b1, b2, b3⟩ := fn287_m x2 (m_R0_ok hm.1.1) hm.1.2 hn
  exact ⟨k, h2, x1, x2, b1, by rw [b3 139 (by omega) (by omega)]; exact x3⟩
theorem a_324 (n : Int) (g : q_F) : fn324_23 n 0 g = if n ≤ g 140 4 then fn324_48 n 0 g else fn324_48 n 1 g := by
  unfold fn324_23; rw [a_258, if_pos rfl]; rfl
theorem a_324e (n : Int) (g : q_F) : fn324_23 n 1 g = some (0, q_ud g 139 7 1) := by
  unfold fn324_23; rw [a_258, if_neg (by decide)]; rfl
theorem a_p17 {n : Int} {h h1 h2 : q_F} {S S1 : m_St} {v1 v2 : Int} (J : j_T S S h) (J1 : j_T S1 S h1) (e1 : fn24 n h = some (v1, h1)) (e2 : fn324 n h1 = some (v2, h2)) : a_Q h2 v1 v2 := by
  have hm := J1.2.1.1
  have f := (a_F (r_runC J1.2.1.2 hm) e2).1 153 (by omega)
  have g0 := a_g0 J1.2.1.2
  have e : h 13 1 = S.w 4 := J.1.2.1.2.2.1
  unfold fn324 at e2
  unfold fn24 fn207 fn207_11 at e1
  rw [m_let, r_rng, Option.bind_some, a_324, a_324e] at e2
  rw [e] at e1
  by_cases c : 1 ≤ n ∧ n ≤ 16
  · rw [if_neg (show ¬ n < 1 by omega), if_pos c.2] at e1
    rw [if_pos c, if_neg (show ¬ (1 : Int) = 0 by decide), g0.1] at e2
    unfold fn324_48 at e2
    rw [a_258, a_258, Option.bind_some, Option.bind_some] at e2
    dsimp only at e2
    by_cases c4 : n ≤ S.w 4
    · obtain ⟨m, rfl⟩ : ∃ m : Nat, n = (m : Int) := ⟨n.toNat, by omega⟩
      obtain ⟨g1, g2, g3, y1, y2, -, y4⟩ := a_crun J.1.2 J.1.1 c4
      obtain ⟨k, k2, x1, x2, x3, x4⟩ := a_rrun J1.2.1.2 hm c4
      rw [if_pos c4, y1, Option.bind_some, y2, Option.bind_some, y4, Option.bind_some, Option.bind_some] at e1
      dsimp only at e1
      rw [if_pos rfl, m_let] at e1
      rw [if_pos c4, if_pos rfl, if_pos rfl, x1, Option.bind_some] at e2
      dsimp only at e2
      rw [x3, Option.bind_some] at e2
      exact a_ok e1 e2 x4 f
    · rw [if_neg c4, Option.bind_some] at e1
      dsimp only at e1
      rw [if_neg (show ¬ (5 : Nat) = 1 by decide), if_neg (show ¬ (5 : Nat) = 2 by decide), if_pos rfl] at e1
      rw [if_neg c4, if_neg (show ¬ (1 : Int) = 0 by decide), if_neg (show ¬ (1 : Int) = 0 by decide)] at e2
      exact a_er e1 e2 (q_ud_s _ _ _ _) (by decide)
  · rw [if_neg c, if_pos rfl] at e2
    have e3 : some ((1 : Int), h) = some (v1, h1) := by
      rw [← e1]
      by_cases c5 : n < 1
      · rw [if_pos c5, Option.bind_some]; rfl
      · rw [if_neg c5, if_neg (show ¬ n ≤ 16 by omega), Option.bind_some]; rfl
    exact a_er e3 e2 (q_ud_s _ _ _ _) (by decide)
theorem a_p29 {h h1 h2 : q_F} {S S1 : m_St} {v1 v2 : Int} (J : j_T S S h) (J1 : j_T S1 S h1) (e1 : fn208 h = some (v1, h1)) (e2 : fn325 h1 = some (v2, h2)) : v1 = v2 := by
  have hm := J1.2.1.1
  have r := (m_R0_ok hm.1.1).2.1
  obtain ⟨n, hn⟩ : ∃ n : Nat, S.w 4 = (n : Int) := ⟨(S.w 4).toNat, by omega⟩
  obtain ⟨g1, g2, g3, y1, y2, y3, y4⟩ := a_crun (n := n) J.1.2 J.1.1 (by omega)
  obtain ⟨k, k2, x1, x2, x3, x4⟩ := a_rrun (n := n) J1.2.1.2 hm (by omega)
  rw [fn208, y1, Option.bind_some, y2, Option.bind_some] at e1
  dsimp only at e1
  rw [y3, hn, y4, Option.bind_some] at e1
  rw [fn325, m_let, x1, Option.bind_some] at e2
  dsimp only at e2
  rw [r_of (v := S.w 4) (by omega) (by omega) (by rw [x2]; rfl) (by omega), Option.bind_some, hn, x3, Option.bind_some] at e2
  have a1 : v1 = (m_run n S.w).1 := (congrArg Prod.fst (Option.some.inj e1)).symm
  have a2 : v2 = (m_run n S.w).1 := (congrArg Prod.fst (Option.some.inj e2)).symm
  rw [a1, a2]
end -- [98zp.ans]
