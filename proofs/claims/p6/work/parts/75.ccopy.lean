/-! Part 75: the class's tables copied. -/
def c_cpn (o o1 lo n : Nat) (h g : q_F) : Prop := (∀ j, lo ≤ j → j < n → g o j = h o1 j) ∧ ∀ k, k ≠ o → g k = h k
theorem c_cpn_0 {o o1 lo : Nat} {h : q_F} : c_cpn o o1 lo lo h h := ⟨fun j h1 h2 => absurd h1 (by omega), fun _ _ => rfl⟩
theorem c_cpn_s {o o1 lo n : Nat} {h g : q_F} (ho : o1 ≠ o) (hp : c_cpn o o1 lo n h g) : c_cpn o o1 lo (n + 1) h (q_ud g o n (g o1 n)) := by
  obtain ⟨p1, p2⟩ := hp
  refine ⟨fun j h1 h2 => ?_, fun k hk => ?_⟩
  · by_cases e : j = n
    · subst e; rw [q_ud_s, p2 o1 ho]
    · rw [q_ud_n (by omega)]; exact p1 j h1 (by omega)
  · funext j; rw [q_ud_n (by omega), p2 k hk]
theorem c_cp46 {o o1 : Nat} {h : q_F} (h1 : o1 ≠ o) (h2 : o1 ≠ o + 1) (h3 : o1 + 1 ≠ o) : ∃ h', fn46 o o1 h = some (0, h') ∧ (∀ w a, c_ax h o1 w a → c_ax h' o w a) ∧ c_fo o h h' := by
  have g1 : ∃ g, (∀ K : q_F → Option (Int × q_F), (q_let (q_ud h o 0 (h o1 0)) fun g1 =>
  q_let (q_ud g1 o 1 (g1 o1 1)) fun g2 =>
  q_let (q_ud g2 o 2 (g2 o1 2)) fun g3 =>
  q_let (q_ud g3 o 3 (g3 o1 3)) fun g4 =>
  q_let (q_ud g4 o 4 (g4 o1 4)) fun g5 =>
  q_let (q_ud g5 o 5 (g5 o1 5)) fun g6 =>
  q_let (q_ud g6 o 6 (g6 o1 6)) fun g7 =>
  q_let (q_ud g7 o 7 (g7 o1 7)) fun g8 =>
  q_let (q_ud g8 o 8 (g8 o1 8)) fun g9 =>
  q_let (q_ud g9 o 9 (g9 o1 9)) fun g10 =>
  q_let (q_ud g10 o 10 (g10 o1 10)) fun g11 =>
  q_let (q_ud g11 o 11 (g11 o1 11)) fun g12 =>
  q_let (q_ud g12 o 12 (g12 o1 12)) fun g13 =>
  q_let (q_ud g13 o 13 (g13 o1 13)) K) = K g) ∧ c_cpn o o1 0 14 h g :=
    ⟨_, fun K => rfl, c_cpn_s h1 (c_cpn_s h1 (c_cpn_s h1 (c_cpn_s h1 (c_cpn_s h1 (c_cpn_s h1 (c_cpn_s h1 (c_cpn_s h1 (c_cpn_s h1 (c_cpn_s h1 (c_cpn_s h1 (c_cpn_s h1 (c_cpn_s h1 (c_cpn_s h1 c_cpn_0)))))))))))))⟩
  obtain ⟨g, e, p1, p2⟩ := g1
  have g2 : ∃ g', fn42 (o + 1) (o1 + 1) g = some (0, g') ∧ c_cpn (o + 1) (o1 + 1) 0 7 g g' := by
    have h4 : o1 + 1 ≠ o + 1 := by omega
    exact ⟨_, rfl, c_cpn_s h4 (c_cpn_s h4 (c_cpn_s h4 (c_cpn_s h4 (c_cpn_s h4 (c_cpn_s h4 (c_cpn_s h4 c_cpn_0))))))⟩
  obtain ⟨g', e2, p3, p4⟩ := g2
  refine ⟨g', ?_, fun w a hc => ⟨fun j hj => ?_, fun j hj => ?_⟩, fun k k1 k2 => ?_⟩
  · unfold fn46
    rw [e, e2, Option.bind_some]
  · rw [p4 o (by omega), p1 j (by omega) hj]; exact hc.1 j hj
  · rw [p3 j (by omega) hj, p2 (o1 + 1) h3]; exact hc.2 j hj
  · rw [p4 k k2, p2 k k1]
theorem c_cp144s {o o1 s : Nat} {h0 : q_F} (hs : s ≤ 16) (h2 : o1 + 1 ≠ o + 1) : ∀ (d u f : Nat) (h : q_F), u + d = 3 * s → d < f → h o 1 = s → (∀ k, k ≠ o + 1 → h k = h0 k) → (∀ j, j < u → h (o + 1) j = h0 (o1 + 1) j) → ∃ h', fn144_10 o o1 f u h = some (0, h') ∧ (∀ k, k ≠ o + 1 → h' k = h0 k) ∧ ∀ j, j < 3 * s → h' (o + 1) j = h0 (o1 + 1) j := by
  intro d
  induction d with
  | zero =>
    intro u f h hu hf h1 hk hj
    obtain ⟨f, rfl⟩ : ∃ f', f = f' + 1 := ⟨f - 1, by omega⟩
    refine ⟨h, ?_, hk, fun j hj2 => hj j (by omega)⟩
    rw [fn144_10, h1, q_w32_id (by omega) (by omega), if_pos (by omega)]
  | succ d ih =>
    intro u f h hu hf h1 hk hj
    obtain ⟨f, rfl⟩ : ∃ f', f = f' + 1 := ⟨f - 1, by omega⟩
    obtain ⟨h', g1, g2, g3⟩ := ih (u + 1) f (q_ud h (o + 1) u (h (o1 + 1) u)) (by omega) (by omega) (by rw [q_ud_n (by omega)]; exact h1) (fun k hk2 => by funext j; rw [q_ud_n (by omega), hk k hk2]) (fun j hj2 => by
      by_cases e : j = u
      · subst e; rw [q_ud_s, hk _ h2]
      · rw [q_ud_n (by omega)]; exact hj j (by omega))
    refine ⟨h', ?_, g2, g3⟩
    rw [fn144_10, h1, q_w32_id (by omega) (by omega), if_neg (by omega), c_ent (by omega) (by omega), Option.bind_some, c_put (by omega) (by omega), Option.bind_some, q_w32_id (by omega) (by omega), Int.toNat_natCast, ← m_s1]
    exact g1
theorem c_cp144 {o o1 : Nat} {h : q_F} (h4 : 0 ≤ h o1 1 ∧ h o1 1 ≤ 16) (h1 : o1 ≠ o) (h3 : o1 + 1 ≠ o) : ∃ h', fn144 o o1 h = some (0, h') ∧ h' o 1 = h o1 1 ∧ (∀ j, j < 3 * (h o1 1).toNat → h' (o + 1) j = h (o1 + 1) j) ∧ c_fo o h h' := by
  obtain ⟨h', g1, g2, g3⟩ := c_cp144s (o := o) (o1 := o1) (s := (h o1 1).toNat) (h0 := q_ud h o 1 (h o1 1)) (by omega) (by omega) (3 * (h o1 1).toNat) 0 q_fu (q_ud h o 1 (h o1 1)) (by omega) (by have := q_fu_ge; omega) (by rw [q_ud_s]; omega) (fun _ _ => rfl) (fun j hj => absurd hj (by omega))
  refine ⟨h', by rw [fn144, m_let]; exact g1, by rw [g2 o (by omega), q_ud_s], fun j hj => ?_, fun k k1 k2 => ?_⟩
  · rw [g3 j hj, q_ud_n (by omega)]
  · rw [g2 k k2]; funext j; rw [q_ud_n (by omega)]
theorem c_tb_k {h h' : q_F} {t : Nat} {w : Nat → Int} (hc : c_tb h t w) (e : ∀ k, t ≤ k → k ≤ t + 8 → h' k = h k) : c_tb h' t w := by
  obtain ⟨h1, h2, h3, h4⟩ := hc
  refine ⟨fun a ha => c_ax_h (h1 a ha) (e _ (by omega) (by omega)) (e _ (by omega) (by omega)), ?_, ?_, fun j hj => ?_⟩
  · rw [e t (by omega) (by omega)]; exact h2
  · rw [e _ (by omega) (by omega)]; exact h3
  · rw [e _ (by omega) (by omega)]; exact h4 j hj
theorem c_copy {h : q_F} {t t1 : Nat} {w : Nat → Int} (hd : t + 8 < t1 ∨ t1 + 8 < t) (hc : c_tb h t1 w) (h4 : 0 ≤ w 4 ∧ w 4 ≤ 16) : ∃ h', fn127 t t1 h = some (0, h') ∧ c_tb h' t w ∧ c_ft t h h' := by
  obtain ⟨x1, a1, a2, a3⟩ := c_cp46 (o := t + 1) (o1 := t1 + 1) (h := h) (by omega) (by omega) (by omega)
  obtain ⟨x2, b1, b2, b3⟩ := c_cp46 (o := t + 3) (o1 := t1 + 3) (h := x1) (by omega) (by omega) (by omega)
  obtain ⟨x3, d1, d2, d3⟩ := c_cp46 (o := t + 5) (o1 := t1 + 5) (h := x2) (by omega) (by omega) (by omega)
  have k3 : ∀ k, k < t ∨ t + 6 < k → x3 k = h k := fun k hk => by rw [d3 k (by omega) (by omega), b3 k (by omega) (by omega), a3 k (by omega) (by omega)]
  have e7 : x3 (t1 + 7) 1 = w 4 := by rw [k3 _ (by omega)]; exact hc.2.2.1
  obtain ⟨x4, f1, f2, f3, f4⟩ := c_cp144 (o := t + 7) (o1 := t1 + 7) (h := x3) (by rw [e7]; exact h4) (by omega) (by omega)
  have g : ∃ g, (∀ K : q_F → Option (Int × q_F), (q_let (q_ud x4 t 4 (x4 t1 4)) fun g5 =>
  q_let (q_ud g5 t 5 (g5 t1 5)) fun g6 =>
  q_let (q_ud g6 t 6 (g6 t1 6)) fun g7 =>
  q_let (q_ud g7 t 7 (g7 t1 7)) fun g8 =>
  q_let (q_ud g8 t 8 (g8 t1 8)) fun g9 =>
  q_let (q_ud g9 t 9 (g9 t1 9)) fun g10 =>
  q_let (q_ud g10 t 10 (g10 t1 10)) K) = K g) ∧ c_cpn t t1 4 11 x4 g := by
    have h1 : t1 ≠ t := by omega
    exact ⟨_, fun K => rfl, c_cpn_s h1 (c_cpn_s h1 (c_cpn_s h1 (c_cpn_s h1 (c_cpn_s h1 (c_cpn_s h1 (c_cpn_s h1 c_cpn_0))))))⟩
  obtain ⟨g, ge, gp, gk⟩ := g
  have k4 : ∀ k, k < t ∨ t + 8 < k → x4 k = h k := fun k hk => by rw [f4 k (by omega) (by omega), k3 k (by omega)]
  refine ⟨g, ?_, ⟨fun a ha => ?_, ?_, ?_, fun j hj => ?_⟩, fun k hk => ?_⟩
  · unfold fn127
    rw [a1, Option.bind_some]
    dsimp only
    rw [b1, Option.bind_some]
    dsimp only
    rw [d1, Option.bind_some]
    dsimp only
    rw [f1, Option.bind_some]
    dsimp only
    rw [ge]
  · have k5 : ∀ o, (o = t + 1 ∨ o = t + 3 ∨ o = t + 5) → ∀ y, c_ax y o w a → y o = x3 o → y (o + 1) = x3 (o + 1) → c_ax g o w a := fun o ho y hy e1 e2 => c_ax_h hy (by rw [gk _ (by omega), f4 _ (by omega) (by omega), e1]) (by rw [gk _ (by omega), f4 _ (by omega) (by omega), e2])
    rcases m_c3 ha with rfl | rfl | rfl
    · exact k5 (t + 1) (by omega) x1 (a2 w 0 (hc.1 0 (by omega))) (by rw [d3 _ (by omega) (by omega), b3 _ (by omega) (by omega)]) (by rw [d3 _ (by omega) (by omega), b3 _ (by omega) (by omega)])
    · exact k5 (t + 3) (by omega) x2 (b2 w 1 (c_ax_h (hc.1 1 (by omega)) (by rw [a3 _ (by omega) (by omega)]) (by rw [a3 _ (by omega) (by omega)]))) (by rw [d3 _ (by omega) (by omega)]) (by rw [d3 _ (by omega) (by omega)])
    · exact k5 (t + 5) (by omega) x3 (d2 w 2 (c_ax_h (hc.1 2 (by omega)) (by rw [b3 _ (by omega) (by omega), a3 _ (by omega) (by omega)]) (by rw [b3 _ (by omega) (by omega), a3 _ (by omega) (by omega)]))) rfl rfl
  · obtain ⟨o1, o2, o3, o4, o5, o6, o7⟩ := hc.2.1
    have e1 : x4 t1 = h t1 := k4 t1 (by omega)
    refine ⟨?_, ?_, ?_, ?_, ?_, ?_, ?_⟩ <;> (rw [gp _ (by omega) (by omega), e1]; assumption)
  · rw [gk _ (by omega), f2]; exact e7
  · rw [gk _ (by omega), f3 j (by rw [e7]; exact hj), k3 _ (by omega)]; exact hc.2.2.2 j hj
  · rw [gk k (by omega), k4 k (by omega)]
