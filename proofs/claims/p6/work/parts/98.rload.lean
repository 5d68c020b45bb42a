/-! Part 98: the reference reads a setup text: tokens. -/
def r_Q (h : q_F) : Prop := (0 ≤ h 139 14 ∧ h 139 14 ≤ 600) ∧ (0 ≤ h 139 20 ∧ h 139 20 ≤ h 139 19 ∧ h 139 19 ≤ h 139 14) ∧ (h 139 22 ≠ 0 → h 139 20 < h 139 19) ∧ ∃ s : Nat, s < 128 ∧ h 139 23 = (s : Int)
def r_L (h h' : q_F) : Prop := (∀ k, k ≠ 139 → k ≠ 140 → h' k = h k) ∧ (∀ j, j < 17 ∨ 24 ≤ j → h' 139 j = h 139 j) ∧ h 139 20 ≤ h' 139 20
theorem r_L_r {h : q_F} : r_L h h := ⟨fun _ _ _ => rfl, fun _ _ => rfl, Int.le_refl _⟩
theorem r_L_t {h h1 h2 : q_F} (f : r_L h h1) (g : r_L h1 h2) : r_L h h2 := ⟨fun k a b => (g.1 k a b).trans (f.1 k a b), fun j hj => (g.2.1 j hj).trans (f.2.1 j hj), Int.le_trans f.2.2 g.2.2⟩
/-- while a token is read: the input, the next byte -/
def r_N (g g' : q_F) : Prop := (∀ k, k ≠ 139 → g' k = g k) ∧ ∀ j, j ≠ 19 → j ≠ 20 → j ≠ 21 → j ≠ 22 → g' 139 j = g 139 j
theorem r_N_r {g : q_F} : r_N g g := ⟨fun _ _ => rfl, fun _ _ _ _ _ => rfl⟩
theorem r_N_t {h h1 h2 : q_F} (f : r_N h h1) (g : r_N h1 h2) : r_N h h2 := ⟨fun k a => (g.1 k a).trans (f.1 k a), fun j a b c d => (g.2 j a b c d).trans (f.2 j a b c d)⟩
theorem r_N_u {h h1 : q_F} {j : Nat} {v : Int} (f : r_N h h1) (hj : 19 ≤ j ∧ j ≤ 22) : r_N h (q_ud h1 139 j v) := ⟨fun k a => by funext i; rw [q_ud_n (by omega)]; rw [f.1 k a], fun i a b c d => by rw [q_ud_n (by omega)]; exact f.2 i a b c d⟩
theorem r_byte {z n : Int} {h : q_F} (e : h 139 14 = n) (hz : 0 ≤ z) (hn : n ≤ 600) : fn245 z h = some (if n ≤ z then -1 else h 150 z.toNat) := by
  unfold fn245; rw [e]
  by_cases c : n ≤ z
  · rw [if_pos c, if_pos c]
  · rw [if_neg c, if_neg c, if_pos (by omega)]
/-- letters -/
theorem r_let : ∀ (d f : Nat) (g : q_F), (g 139 14 - g 139 19).toNat ≤ d → d < f → 0 ≤ g 139 19 → g 139 19 ≤ g 139 14 → g 139 14 ≤ 600 → ∃ g', fn235_93 f g = some (0, g') ∧ r_N g g' ∧ g 139 19 ≤ g' 139 19 ∧ g' 139 19 ≤ g 139 14 ∧ g' 139 20 = g 139 20 ∧ g' 139 22 = g 139 22 ∧ (g 139 19 < g 139 14 → 97 ≤ g 150 (g 139 19).toNat → g 150 (g 139 19).toNat ≤ 122 → g 139 19 < g' 139 19) := by
  intro d
  induction d with
  | zero =>
    intro f g hd hf h0 h1 h2
    obtain ⟨f, rfl⟩ : ∃ f', f = f' + 1 := ⟨f - 1, by omega⟩
    rw [fn235_93, r_byte rfl h0 h2, Option.bind_some, if_pos (show g 139 14 ≤ g 139 19 by omega), r_rng, Option.bind_some, if_neg (show ¬ ((97 : Int) ≤ -1 ∧ (-1 : Int) ≤ 122) by decide), if_pos rfl]
    exact ⟨g, rfl, r_N_r, Int.le_refl _, h1, rfl, rfl, fun h9 => by omega⟩
  | succ d ih =>
    intro f g hd hf h0 h1 h2
    obtain ⟨f, rfl⟩ : ∃ f', f = f' + 1 := ⟨f - 1, by omega⟩
    rw [fn235_93, r_byte rfl h0 h2, Option.bind_some, r_rng, Option.bind_some]
    by_cases c : g 139 14 ≤ g 139 19
    · rw [if_pos c, if_neg (show ¬ ((97 : Int) ≤ -1 ∧ (-1 : Int) ≤ 122) by decide), if_pos rfl]
      exact ⟨g, rfl, r_N_r, Int.le_refl _, h1, rfl, rfl, fun h9 => by omega⟩
    · rw [if_neg c]
      by_cases l : 97 ≤ g 150 (g 139 19).toNat ∧ g 150 (g 139 19).toNat ≤ 122
      · rw [if_pos l, if_neg (by decide), m_let, q_w32_id (by omega) (by omega)]
        obtain ⟨g', a1, a2, a3, a4, a5, a6, -⟩ := ih f (q_ud g 139 19 (g 139 19 + 1)) (by rw [q_ud_s, q_ud_n (by omega)]; omega) (by omega) (by rw [q_ud_s]; omega) (by rw [q_ud_s, q_ud_n (by omega)]; omega) (by rw [q_ud_n (by omega)]; exact h2)
        rw [q_ud_s] at a3
        rw [q_ud_n (by omega)] at a4 a5 a6
        exact ⟨g', a1, r_N_t (r_N_u r_N_r (by omega)) a2, by omega, a4, a5, a6, fun _ _ _ => by omega⟩
      · rw [if_neg l, if_pos rfl]
        exact ⟨g, rfl, r_N_r, Int.le_refl _, h1, rfl, rfl, fun _ x y => absurd ⟨x, y⟩ l⟩
/-- digits -/
theorem r_dig : ∀ (d f : Nat) (g : q_F), (g 139 14 - g 139 19).toNat ≤ d → d < f → 0 ≤ g 139 19 → g 139 19 ≤ g 139 14 → g 139 14 ≤ 600 → ∃ g', fn235_146 f g = some (0, g') ∧ r_N g g' ∧ g 139 19 ≤ g' 139 19 ∧ g' 139 19 ≤ g 139 14 ∧ g' 139 20 = g 139 20 ∧ g' 139 22 = g 139 22 ∧ (g 139 19 < g 139 14 → 48 ≤ g 150 (g 139 19).toNat → g 150 (g 139 19).toNat ≤ 57 → g 139 19 < g' 139 19) := by
  intro d
  induction d with
  | zero =>
    intro f g hd hf h0 h1 h2
    obtain ⟨f, rfl⟩ : ∃ f', f = f' + 1 := ⟨f - 1, by omega⟩
    rw [fn235_146, r_byte rfl h0 h2, Option.bind_some, if_pos (show g 139 14 ≤ g 139 19 by omega), r_rng, Option.bind_some, if_neg (show ¬ ((48 : Int) ≤ -1 ∧ (-1 : Int) ≤ 57) by decide), if_pos rfl]
    exact ⟨g, rfl, r_N_r, Int.le_refl _, h1, rfl, rfl, fun h9 => by omega⟩
  | succ d ih =>
    intro f g hd hf h0 h1 h2
    obtain ⟨f, rfl⟩ : ∃ f', f = f' + 1 := ⟨f - 1, by omega⟩
    rw [fn235_146, r_byte rfl h0 h2, Option.bind_some, r_rng, Option.bind_some]
    by_cases c : g 139 14 ≤ g 139 19
    · rw [if_pos c, if_neg (show ¬ ((48 : Int) ≤ -1 ∧ (-1 : Int) ≤ 57) by decide), if_pos rfl]
      exact ⟨g, rfl, r_N_r, Int.le_refl _, h1, rfl, rfl, fun h9 => by omega⟩
    · rw [if_neg c]
      by_cases l : 48 ≤ g 150 (g 139 19).toNat ∧ g 150 (g 139 19).toNat ≤ 57
      · rw [if_pos l, if_neg (by decide)]
        have sub : ∀ g1, r_N g g1 → g1 139 19 = g 139 19 → g1 139 20 = g 139 20 → g1 139 22 = g 139 22 → ∃ g', fn235_203 (fn235_146 f) g1 = some (0, g') ∧ r_N g g' ∧ g 139 19 ≤ g' 139 19 ∧ g' 139 19 ≤ g 139 14 ∧ g' 139 20 = g 139 20 ∧ g' 139 22 = g 139 22 ∧ g 139 19 < g' 139 19 := fun g1 N e9 e0 e2 => by
          have e14 : g1 139 14 = g 139 14 := N.2 14 (by omega) (by omega) (by omega) (by omega)
          rw [fn235_203, m_let, e9, q_w32_id (by omega) (by omega)]
          obtain ⟨g', a1, a2, a3, a4, a5, a6, -⟩ := ih f (q_ud g1 139 19 (g 139 19 + 1)) (by rw [q_ud_s, q_ud_n (by omega), e14]; omega) (by omega) (by rw [q_ud_s]; omega) (by rw [q_ud_s, q_ud_n (by omega), e14]; omega) (by rw [q_ud_n (by omega), e14]; exact h2)
          rw [q_ud_s] at a3
          rw [q_ud_n (by omega)] at a4 a5 a6
          exact ⟨g', a1, r_N_t (r_N_u N (by omega)) a2, by omega, by omega, a5.trans e0, a6.trans e2, by omega⟩
        split
        · obtain ⟨g', a1, a2, a3, a4, a5, a6, a7⟩ := sub g r_N_r rfl rfl rfl
          exact ⟨g', a1, a2, a3, a4, a5, a6, fun _ _ _ => a7⟩
        · rw [Option.bind_some, m_let]
          obtain ⟨g', a1, a2, a3, a4, a5, a6, a7⟩ := sub (q_ud g 139 21 (q_w32 (q_w32 (q_w32 (10 * g 139 21) + g 150 (g 139 19).toNat) - 48))) (r_N_u r_N_r (by omega)) (q_ud_n (by omega)) (q_ud_n (by omega)) (q_ud_n (by omega))
          exact ⟨g', a1, a2, a3, a4, a5, a6, fun _ _ _ => a7⟩
      · rw [if_neg l, if_pos rfl]
        exact ⟨g, rfl, r_N_r, Int.le_refl _, h1, rfl, rfl, fun _ x y => absurd ⟨x, y⟩ l⟩
theorem r_adv0 : ∀ (d f : Nat) (g : q_F), (g 139 14 - g 139 19).toNat ≤ d → d < f → 0 ≤ g 139 19 → g 139 19 ≤ g 139 14 → g 139 14 ≤ 600 → ∃ g', fn235_0 f g = some (0, g') ∧ r_N g g' ∧ g 139 19 ≤ g' 139 20 ∧ g' 139 20 ≤ g' 139 19 ∧ g' 139 19 ≤ g 139 14 ∧ (g' 139 22 ≠ 0 → g' 139 20 < g' 139 19) := by
  have tail : ∀ (g : q_F), 0 ≤ g 139 19 → g 139 19 ≤ g 139 14 → g 139 14 ≤ 600 → ∃ g', (q_let (q_ud g 139 20 (g 139 19)) fun g6 =>
        (fn245 (g6 139 19) g6).bind fun x7 =>
        q_let (q_ud g6 139 21 (0 : Int)) fun g8 =>
        if x7 = (-1 : Int) then (
          q_let (q_ud g8 139 22 (0 : Int)) fun g30 =>
          some ((0 : Int), g30))
        else (
          (fn267 x7 (97 : Int) (122 : Int) g8).bind fun x10 =>
          if x10 = 0 then (
            (fn267 x7 (48 : Int) (57 : Int) g8).bind fun x12 =>
            if x12 = 0 then (
              if x7 = (59 : Int) then (
                fn235_228 (3 : Int) g8)
              else (
                fn235_228 (4 : Int) g8))
            else (
              q_let (q_ud g8 139 22 (2 : Int)) fun g17 =>
              fn235_146 q_fu g17))
          else (
            q_let (q_ud g8 139 22 (1 : Int)) fun g25 =>
            fn235_93 q_fu g25))) = some (0, g') ∧ r_N g g' ∧ g 139 19 ≤ g' 139 20 ∧ g' 139 20 ≤ g' 139 19 ∧ g' 139 19 ≤ g 139 14 ∧ (g' 139 22 ≠ 0 → g' 139 20 < g' 139 19) := by
    intro g h0 h1 h2
    have e19 : q_ud g 139 20 (g 139 19) 139 19 = g 139 19 := q_ud_n (by omega)
    have e14 : q_ud g 139 20 (g 139 19) 139 14 = g 139 14 := q_ud_n (by omega)
    have e150 : q_ud g 139 20 (g 139 19) 150 = g 150 := by funext j; rw [q_ud_n (by omega)]
    rw [m_let, e19, r_byte e14 h0 h2, Option.bind_some, m_let, e150]
    by_cases c : g 139 14 ≤ g 139 19
    · rw [if_pos c, if_pos rfl, m_let]
      refine ⟨_, rfl, r_N_u (r_N_u (r_N_u r_N_r (by omega)) (by omega)) (by omega), ?_, ?_, ?_, fun h9 => absurd (q_ud_s _ _ _ _) h9⟩
      · rw [q_ud_n (by omega), q_ud_n (by omega), q_ud_s]; exact Int.le_refl _
      · rw [q_ud_n (by omega), q_ud_n (by omega), q_ud_s, q_ud_n (by omega), q_ud_n (by omega), e19]; exact Int.le_refl _
      · rw [q_ud_n (by omega), q_ud_n (by omega), e19]; exact h1
    · rw [if_neg c]
      by_cases cm : g 150 (g 139 19).toNat = -1
      · rw [if_pos cm, m_let]
        refine ⟨_, rfl, r_N_u (r_N_u (r_N_u r_N_r (by omega)) (by omega)) (by omega), ?_, ?_, ?_, fun h9 => absurd (q_ud_s _ _ _ _) h9⟩
        · rw [q_ud_n (by omega), q_ud_n (by omega), q_ud_s]; exact Int.le_refl _
        · rw [q_ud_n (by omega), q_ud_n (by omega), q_ud_s, q_ud_n (by omega), q_ud_n (by omega), e19]; exact Int.le_refl _
        · rw [q_ud_n (by omega), q_ud_n (by omega), e19]; exact h1
      · have N8 : ∀ t : Int, r_N g (q_ud (q_ud (q_ud g 139 20 (g 139 19)) 139 21 0) 139 22 t) := fun t => r_N_u (r_N_u (r_N_u r_N_r (by omega)) (by omega)) (by omega)
        have f19 : ∀ t : Int, q_ud (q_ud (q_ud g 139 20 (g 139 19)) 139 21 0) 139 22 t 139 19 = g 139 19 := fun t => by rw [q_ud_n (by omega), q_ud_n (by omega), e19]
        have f14 : ∀ t : Int, q_ud (q_ud (q_ud g 139 20 (g 139 19)) 139 21 0) 139 22 t 139 14 = g 139 14 := fun t => by rw [q_ud_n (by omega), q_ud_n (by omega), e14]
        have f20 : ∀ t : Int, q_ud (q_ud (q_ud g 139 20 (g 139 19)) 139 21 0) 139 22 t 139 20 = g 139 19 := fun t => by rw [q_ud_n (by omega), q_ud_n (by omega), q_ud_s]
        have f150 : ∀ t : Int, q_ud (q_ud (q_ud g 139 20 (g 139 19)) 139 21 0) 139 22 t 150 = g 150 := fun t => by funext j; rw [q_ud_n (by omega), q_ud_n (by omega), q_ud_n (by omega)]
        have oth : ∀ t : Int, ∃ g', fn235_228 t (q_ud (q_ud g 139 20 (g 139 19)) 139 21 0) = some (0, g') ∧ r_N g g' ∧ g 139 19 ≤ g' 139 20 ∧ g' 139 20 ≤ g' 139 19 ∧ g' 139 19 ≤ g 139 14 ∧ (g' 139 22 ≠ 0 → g' 139 20 < g' 139 19) := fun t => by
          rw [fn235_228, m_let, m_let, f19, q_w32_id (by omega) (by omega)]
          refine ⟨_, rfl, r_N_u (N8 t) (by omega), ?_, ?_, ?_, fun _ => ?_⟩
          · rw [q_ud_n (by omega), f20]; exact Int.le_refl _
          · rw [q_ud_n (by omega), f20, q_ud_s]; omega
          · rw [q_ud_s]; omega
          · rw [q_ud_n (by omega), f20, q_ud_s]; omega
        rw [if_neg cm, r_rng, Option.bind_some]
        by_cases l : 97 ≤ g 150 (g 139 19).toNat ∧ g 150 (g 139 19).toNat ≤ 122
        · rw [if_pos l, if_neg (by decide), m_let]
          obtain ⟨g', a1, a2, a3, a4, a5, a6, a7⟩ := r_let 600 q_fu (q_ud (q_ud (q_ud g 139 20 (g 139 19)) 139 21 0) 139 22 1) (by rw [f14, f19]; omega) (by have := q_fu_ge; omega) (by rw [f19]; exact h0) (by rw [f14, f19]; exact h1) (by rw [f14]; exact h2)
          rw [f19, f14, f150] at a7
          rw [f19] at a3
          rw [f14] at a4
          rw [f20] at a5
          exact ⟨g', a1, r_N_t (N8 1) a2, by omega, by omega, a4, fun _ => by have := a7 (by omega) l.1 l.2; omega⟩
        · rw [if_neg l, if_pos rfl, r_rng, Option.bind_some]
          by_cases m : 48 ≤ g 150 (g 139 19).toNat ∧ g 150 (g 139 19).toNat ≤ 57
          · rw [if_pos m, if_neg (by decide), m_let]
            obtain ⟨g', a1, a2, a3, a4, a5, a6, a7⟩ := r_dig 600 q_fu (q_ud (q_ud (q_ud g 139 20 (g 139 19)) 139 21 0) 139 22 2) (by rw [f14, f19]; omega) (by have := q_fu_ge; omega) (by rw [f19]; exact h0) (by rw [f14, f19]; exact h1) (by rw [f14]; exact h2)
            rw [f19, f14, f150] at a7
            rw [f19] at a3
            rw [f14] at a4
            rw [f20] at a5
            exact ⟨g', a1, r_N_t (N8 2) a2, by omega, by omega, a4, fun _ => by have := a7 (by omega) m.1 m.2; omega⟩
          · rw [if_neg m, if_pos rfl]
            split
            · exact oth 3
            · exact oth 4
  intro d
  induction d with
  | zero =>
    intro f g hd hf h0 h1 h2
    obtain ⟨f, rfl⟩ : ∃ f', f = f' + 1 := ⟨f - 1, by omega⟩
    rw [fn235_0, r_byte rfl h0 h2, Option.bind_some, if_pos (show g 139 14 ≤ g 139 19 by omega), if_neg (show ¬ (-1 : Int) = 32 by decide), Option.bind_some, if_neg (show ¬ (-1 : Int) = 10 by decide)]
    exact tail g h0 h1 h2
  | succ d ih =>
    intro f g hd hf h0 h1 h2
    obtain ⟨f, rfl⟩ : ∃ f', f = f' + 1 := ⟨f - 1, by omega⟩
    have blank : ¬ g 139 14 ≤ g 139 19 → ∃ g', fn235_26 (fn235_0 f) g = some (0, g') ∧ r_N g g' ∧ g 139 19 ≤ g' 139 20 ∧ g' 139 20 ≤ g' 139 19 ∧ g' 139 19 ≤ g 139 14 ∧ (g' 139 22 ≠ 0 → g' 139 20 < g' 139 19) := fun c => by
      rw [fn235_26, m_let, q_w32_id (by omega) (by omega)]
      obtain ⟨g', a1, a2, a3, a4, a5, a6⟩ := ih f (q_ud g 139 19 (g 139 19 + 1)) (by rw [q_ud_s, q_ud_n (by omega)]; omega) (by omega) (by rw [q_ud_s]; omega) (by rw [q_ud_s, q_ud_n (by omega)]; omega) (by rw [q_ud_n (by omega)]; exact h2)
      rw [q_ud_s] at a3
      rw [q_ud_n (by omega)] at a5
      exact ⟨g', a1, r_N_t (r_N_u r_N_r (by omega)) a2, by omega, a4, a5, a6⟩
    rw [fn235_0, r_byte rfl h0 h2, Option.bind_some]
    by_cases c : g 139 14 ≤ g 139 19
    · rw [if_pos c, if_neg (show ¬ (-1 : Int) = 32 by decide), Option.bind_some, if_neg (show ¬ (-1 : Int) = 10 by decide)]
      exact tail g h0 h1 h2
    · rw [if_neg c]
      split
      · exact blank c
      · rw [Option.bind_some]
        split
        · exact blank c
        · exact tail g h0 h1 h2
/-- the next token -/
theorem r_adv {g : q_F} (Q : r_Q g) : ∃ g', fn235 g = some (0, g') ∧ r_Q g' ∧ r_N g g' ∧ g 139 19 ≤ g' 139 20 := by
  obtain ⟨q1, q2, q3, s, s1, s2⟩ := Q
  obtain ⟨g', a1, a2, a3, a4, a5, a6⟩ := r_adv0 600 q_fu g (by omega) (by have := q_fu_ge; omega) (by omega) (by omega) (by omega)
  have e14 : g' 139 14 = g 139 14 := a2.2 14 (by omega) (by omega) (by omega) (by omega)
  have e23 : g' 139 23 = g 139 23 := a2.2 23 (by omega) (by omega) (by omega) (by omega)
  exact ⟨g', a1, ⟨by rw [e14]; exact q1, by rw [e14]; omega, a6, s, s1, e23.trans s2⟩, a2, a3⟩
theorem r_N_L {g g' : q_F} (Q : r_Q g) (N : r_N g g') (h : g 139 19 ≤ g' 139 20) : r_L g g' := ⟨fun k a b => N.1 k a, fun j hj => N.2 j (by omega) (by omega) (by omega) (by omega), by have := Q.2.1; omega⟩
