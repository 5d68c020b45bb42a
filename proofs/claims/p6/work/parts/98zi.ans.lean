/-! Part 98zi: what was thrown and the answers of the calls that may throw. -/
theorem a_F {f : Option (Int × q_F)} {h h2 : q_F} {S : m_St} {v : Int} (g : r_W f h S) (e : f = some (v, h2)) : r_F h h2 := by
  obtain ⟨v', h', a, -, b⟩ := g
  have := congrArg Prod.snd (a_i e a)
  have e2 : h2 = h' := this
  rw [e2]; exact b
theorem a_258 (c k : Int) (g : q_F) : fn258 c k g = some (c, if c = 0 then g else q_ud g 139 7 k) := by
  unfold fn258
  by_cases e : c = 0
  · rw [if_pos e, if_pos e]
  · rw [if_neg e, if_neg e, m_let]
/-- how the two sides of such a call compare -/
def a_Q (h2 : q_F) (v1 v2 : Int) : Prop := h2 139 7 = v1 ∧ (v1 = 0 → h2 153 0 = v2)
theorem a_p7 {v : Int} {h h1 h2 : q_F} {S S1 : m_St} {v1 v2 : Int} (J : j_T S S h) (J1 : j_T S1 S h1) (e1 : fn5 v h = some (v1, h1)) (e2 : fn250 v h1 = some (v2, h2)) : a_Q h2 v1 v2 := by
  have hm := J1.2.1.1
  have hI := J1.2.1.2
  have F := a_F (r_count hI hm) e2
  have f153 : h2 153 = h1 153 := F.1 153 (by omega)
  have tb := a_tb J.1.2
  have g0 : r_I (q_ud h1 139 7 0) S := r_I_T hI (r_T_u r_T_r)
  have w := (m_R0_ok J.1.1.1.1)
  unfold fn250 at e2
  rw [m_let, r_rng, Option.bind_some, fn250_23, fn250_23, a_258, a_258, Option.bind_some, Option.bind_some] at e2
  dsimp only at e2
  unfold fn5 fn171 at e1
  by_cases c : 0 ≤ v ∧ v ≤ 6
  · rw [if_pos c, if_neg (show ¬ (1 : Int) = 0 by decide), if_pos rfl, if_pos rfl] at e2
    have w0 := w.1
    have wx : ∀ j : Nat, j < 5 → -2147483648 ≤ S.w j ∧ S.w j < 2147483648 := fun j hj => by
      obtain rfl | rfl | rfl | rfl | rfl : j = 0 ∨ j = 1 ∨ j = 2 ∨ j = 3 ∨ j = 4 := by omega
      · omega
      · have := (hm.1.1.1 1 (by omega)).2.1 (by omega); omega
      · have := (hm.1.1.1 2 (by omega)).2.1 (by omega); omega
      · have := (hm.1.1.1 3 (by omega)).2.2.1 rfl; omega
      · have := w.2.1; omega
    have key : ∀ j : Nat, j < 5 → fn303 (j : Int) (q_ud h1 139 7 0) = some (S.w j) := fun j hj => r_of (by omega) (by omega) (by rw [Int.toNat_natCast, g0.1]) (wx j hj)
    have fin : ∀ x y : Int, (some ((0 : Int), q_ud h 153 0 x) : Option (Int × q_F)) = some (v1, h1) → (some (y, q_ud h1 139 7 0) : Option (Int × q_F)) = some (v2, h2) → x = y → a_Q h2 v1 v2 := fun x y e3 e4 exy => by
      have a1 : v1 = 0 := (congrArg Prod.fst (Option.some.inj e3)).symm
      have a2 : h1 = q_ud h 153 0 x := (congrArg Prod.snd (Option.some.inj e3)).symm
      have b1 : v2 = y := (congrArg Prod.fst (Option.some.inj e4)).symm
      have b2 : h2 = q_ud h1 139 7 0 := (congrArg Prod.snd (Option.some.inj e4)).symm
      refine ⟨by rw [b2, q_ud_s, a1], fun _ => ?_⟩
      rw [f153, a2, q_ud_s, b1, exy]
    obtain ⟨n, rfl⟩ : ∃ n : Nat, v = (n : Int) := ⟨v.toNat, by omega⟩
    by_cases n5 : n = 5
    · subst n5
      rw [if_pos (show ((5 : Nat) : Int) = 5 from rfl), r_homed g0 hm, Option.bind_some] at e2
      rw [if_neg (by decide), if_neg (by decide), if_neg (by decide), if_neg (by decide), if_neg (by decide), if_pos (show ((5 : Nat) : Int) = 5 from rfl), c_homed J.1.2 J.1.1, Option.bind_some, Option.bind_some] at e1
      dsimp only at e1
      rw [if_pos (show (1 : Nat) = 1 from rfl), m_let] at e1
      exact fin _ _ e1 e2 rfl
    · rw [if_neg (show ¬ (n : Int) = 5 by omega)] at e2
      by_cases n6 : n = 6
      · subst n6
        rw [if_pos (show ((6 : Nat) : Int) = 6 from rfl)] at e2
        rw [if_neg (by decide), if_neg (by decide), if_neg (by decide), if_neg (by decide), if_neg (by decide), if_neg (by decide), if_pos (show ((6 : Nat) : Int) = 6 from rfl), Option.bind_some] at e1
        dsimp only at e1
        rw [if_pos (show (1 : Nat) = 1 from rfl), m_let] at e1
        exact fin _ _ e1 e2 (by rw [g0.2.1.1]; exact J.1.2.2.1.1)
      · rw [if_neg (show ¬ (n : Int) = 6 by omega), key n (by omega), Option.bind_some] at e2
        obtain rfl | rfl | rfl | rfl | rfl : n = 0 ∨ n = 1 ∨ n = 2 ∨ n = 3 ∨ n = 4 := by omega
        · rw [if_pos (show ((0 : Nat) : Int) = 0 from rfl), Option.bind_some] at e1
          dsimp only at e1
          rw [if_pos (show (1 : Nat) = 1 from rfl), m_let] at e1
          exact fin _ _ e1 e2 tb.1
        · rw [if_neg (by decide), if_pos (show ((1 : Nat) : Int) = 1 from rfl)] at e1
          have b := (hm.1.1.1 1 (by omega)).2.1 (by omega)
          split at e1
          · rename_i c9
            rw [Option.bind_some] at e1
            dsimp only at e1
            rw [if_pos (show (1 : Nat) = 1 from rfl), m_let] at e1
            exact fin _ _ e1 e2 (by rw [← tb.2.1]; exact c9.symm)
          · rename_i c9
            rw [Option.bind_some] at e1
            dsimp only at e1
            rw [if_pos (show (1 : Nat) = 1 from rfl), m_let] at e1
            rw [tb.2.1] at c9
            exact fin _ _ e1 e2 (by omega)
        · rw [if_neg (by decide), if_neg (by decide), if_pos (show ((2 : Nat) : Int) = 2 from rfl)] at e1
          have b := (hm.1.1.1 2 (by omega)).2.1 (by omega)
          split at e1
          · rename_i c9
            rw [Option.bind_some] at e1
            dsimp only at e1
            rw [if_pos (show (1 : Nat) = 1 from rfl), m_let] at e1
            exact fin _ _ e1 e2 (by rw [← tb.2.2.1]; exact c9.symm)
          · rename_i c9
            rw [Option.bind_some] at e1
            dsimp only at e1
            rw [if_pos (show (1 : Nat) = 1 from rfl), m_let] at e1
            rw [tb.2.2.1] at c9
            exact fin _ _ e1 e2 (by omega)
        · rw [if_neg (by decide), if_neg (by decide), if_neg (by decide), if_pos (show ((3 : Nat) : Int) = 3 from rfl), Option.bind_some] at e1
          dsimp only at e1
          rw [if_pos (show (1 : Nat) = 1 from rfl), m_let] at e1
          exact fin _ _ e1 e2 tb.2.2.2.1
        · rw [if_neg (by decide), if_neg (by decide), if_neg (by decide), if_neg (by decide), if_pos (show ((4 : Nat) : Int) = 4 from rfl), Option.bind_some] at e1
          dsimp only at e1
          rw [if_pos (show (1 : Nat) = 1 from rfl), m_let] at e1
          exact fin _ _ e1 e2 J.1.2.1.2.2.1
  · rw [if_neg c, if_pos rfl, if_neg (show ¬ (1 : Int) = 0 by decide), if_neg (show ¬ (1 : Int) = 0 by decide)] at e2
    rw [if_neg (by omega), if_neg (by omega), if_neg (by omega), if_neg (by omega), if_neg (by omega), if_neg (by omega), if_neg (by omega), Option.bind_some] at e1
    dsimp only at e1
    rw [if_neg (show ¬ (2 : Nat) = 1 by decide), if_pos rfl] at e1
    cases e1; cases e2
    exact ⟨q_ud_s _ _ _ _, fun h9 => absurd h9 (by decide)⟩
