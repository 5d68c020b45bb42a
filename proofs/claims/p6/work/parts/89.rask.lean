/-! Part 89: the reference: the nearest order, printing, the input. -/
theorem r_nordl {S : m_St} {i : Int} {h : q_F} (hI : r_I h S) (hm : m_I S) : ∀ (d : Nat) (k : Int) (f : Nat) (b u : Int), 0 ≤ k → k + d = i → i ≤ 16 → d < f → (b = -1 ∨ (0 ≤ b ∧ b < S.w 4)) → ∃ v, fn297_69 f i b u k h = some (v, h) := by
  have r := (m_R0_ok hm.1.1).2.1
  intro d
  induction d with
  | zero =>
    intro k f b u hk hd h16 hf hb
    obtain ⟨f, rfl⟩ : ∃ f', f = f' + 1 := ⟨f - 1, by omega⟩
    exact ⟨b, by rw [fn297_69, if_pos (by omega)]⟩
  | succ d ih =>
    intro k f b u hk hd h16 hf hb
    obtain ⟨f, rfl⟩ : ∃ f', f = f' + 1 := ⟨f - 1, by omega⟩
    rw [fn297_69, if_neg (by omega), q_w32_id (z := 3 * b) (by omega) (by omega), q_w32_id (z := 74 + 3 * b) (by omega) (by omega), q_w32_id (z := 74 + 3 * b + 1) (by omega) (by omega), q_w32_id (z := 74 + 3 * b + 2) (by omega) (by omega), if_pos (by omega), if_pos (by omega), if_pos (by omega)]
    obtain ⟨v, e1, e2⟩ := r_near (x := h 140 (74 + 3 * b).toNat) (y := h 140 (74 + 3 * b + 1).toNat) (z := h 140 (74 + 3 * b + 2).toNat) (u := q_ior u (q_ishl 1 b)) hI hm
    rw [e1, Option.bind_some, q_w32_id (by omega) (by omega)]
    exact ih (k + 1) f v _ (by omega) (by omega) h16 (by omega) e2
theorem r_nord {i : Int} {h : q_F} {S : m_St} (hI : r_I h S) (hm : m_I S) : r_W (fn297 i h) h S := by
  have r := (m_R0_ok hm.1.1).2.1
  unfold fn297
  rw [m_let, r_rng, Option.bind_some, fn297_28, fn297_28]
  refine r_g7 hI fun I => ?_
  rw [I.1, q_w64_id (by omega) (by omega)]
  by_cases c : 0 ≤ i ∧ i ≤ S.w 4 - 1
  · rw [if_pos c, if_neg (by decide)]
    refine r_failQ I fun g I _ => ?_
    dsimp only
    rw [if_pos rfl]
    obtain ⟨v, e1, e2⟩ := r_near (x := g 140 47) (y := g 140 48) (z := g 140 49) (u := 0) I hm
    rw [e1, Option.bind_some]
    obtain ⟨x, e3⟩ := r_nordl (i := i) I hm i.toNat 0 q_fu v 0 (by omega) (by omega) (by omega) (by have := q_fu_ge; omega) e2
    exact ⟨x, g, e3, I, r_F_r⟩
  · rw [if_neg c, if_pos rfl]
    exact r_failQ I fun g I _ => r_W_i I
theorem r_print {h : q_F} {S : m_St} (hI : r_I h S) (hm : m_I S) : r_WO (fn307 h) h S := by
  have r := (m_R0_ok hm.1.1).2.1
  unfold fn307
  rw [m_let, m_let]
  have I : r_I (q_ud (q_ud h 139 7 0) 139 27 0) S := r_I_k hI (fun k hk => by funext j; rw [q_ud_n (by omega), q_ud_n (by omega)]) (by rw [q_ud_n (by omega), q_ud_n (by omega)]) (by rw [q_ud_n (by omega), q_ud_n (by omega)])
  obtain ⟨v, h', a1, a2, a3, a4⟩ := r_printm hm (S.w 4).toNat 0 q_fu _ 0 (by omega) (by have := q_fu_ge; omega) ⟨I, q_ud_s _ _ _ _⟩ (by omega) (by omega)
  exact ⟨v, h', a1, a2, r_FO_t ⟨fun k hk => by funext j; rw [q_ud_n (by omega), q_ud_n (by omega)], fun j hj => by rw [q_ud_n (by omega), q_ud_n (by omega)]⟩ a3, a4⟩
-- the input
/-- what the input leaves alone -/
def r_FI (h h' : q_F) : Prop := (∀ k, k ≠ 139 → k ≠ 150 → h' k = h k) ∧ ∀ j, j ≠ 7 → j ≠ 14 → h' 139 j = h 139 j
theorem r_FI_r {h : q_F} : r_FI h h := ⟨fun _ _ _ => rfl, fun _ _ _ => rfl⟩
theorem r_FI_t {h h1 h2 : q_F} (f : r_FI h h1) (g : r_FI h1 h2) : r_FI h h2 := ⟨fun k h1 h2 => (g.1 k h1 h2).trans (f.1 k h1 h2), fun j h1 h2 => (g.2 j h1 h2).trans (f.2 j h1 h2)⟩
theorem r_FI_I {h h' : q_F} {S : m_St} (f : r_FI h h') (hI : r_I h S) : r_I h' S := r_I_k hI (fun k hk => f.1 k (by omega) (by omega)) (f.2 5 (by omega) (by omega)) (f.2 6 (by omega) (by omega))
theorem r_wordl {v : Int} : ∀ (d : Nat) (f : Nat) (g : q_F) (n : Int), d ≤ 4 → d < f → g 139 14 = n → 0 ≤ n → n + d ≤ 600 → ∃ g', fn238_3 f v (8 * (d : Int) - 8) g = some (0, g') ∧ g' 139 14 = n + d ∧ r_FI g g' := by
  intro d
  induction d with
  | zero =>
    intro f g n _ hf e h0 h1
    obtain ⟨f, rfl⟩ : ∃ f', f = f' + 1 := ⟨f - 1, by omega⟩
    exact ⟨g, by rw [fn238_3, if_pos (by omega)], by rw [e]; omega, r_FI_r⟩
  | succ d ih =>
    intro f g n hd4 hf e h0 h1
    obtain ⟨f, rfl⟩ : ∃ f', f = f' + 1 := ⟨f - 1, by omega⟩
    rw [fn238_3, if_neg (by omega), e, if_pos (by omega), m_let, m_let, q_ud_n (show ¬ (139 = 150 ∧ 14 = n.toNat) by omega), e, q_w32_id (z := n + 1) (by omega) (by omega), q_w32_id (by omega) (by omega), show 8 * ((d + 1 : Nat) : Int) - 8 + -8 = 8 * (d : Int) - 8 by omega]
    obtain ⟨g', a1, a2, a3⟩ := ih f (q_ud (q_ud g 150 n.toNat (q_ian (q_ishr v (8 * ((d + 1 : Nat) : Int) - 8)) 255)) 139 14 (n + 1)) (n + 1) (by omega) (by omega) (q_ud_s _ _ _ _) (by omega) (by omega)
    refine ⟨g', a1, by rw [a2]; omega, r_FI_t ⟨fun k k1 k2 => by funext j; rw [q_ud_n (by omega), q_ud_n (by omega)], fun j h7 h14 => by rw [q_ud_n (by omega), q_ud_n (by omega)]⟩ a3⟩
theorem r_word {v : Int} {g : q_F} {n : Int} (e : g 139 14 = n) (h0 : 0 ≤ n) (h1 : n + 4 ≤ 600) : ∃ g', fn238 v g = some (0, g') ∧ g' 139 14 = n + 4 ∧ r_FI g g' := by
  have := r_wordl (v := v) 4 q_fu g n (by omega) (by have := q_fu_ge; omega) e h0 (by omega)
  exact this
theorem r_append {a b c d e : Int} {h : q_F} (h0 : 0 ≤ h 139 14 ∧ h 139 14 ≤ 600) : ∃ h', fn237 a b c d e h = some (if h 139 14 ≤ 580 then h 139 14 + 20 else -1, h') ∧ h' 139 14 = (if h 139 14 ≤ 580 then h 139 14 + 20 else h 139 14) ∧ r_FI h h' := by
  have F0 : r_FI h (q_ud h 139 7 0) := ⟨fun k k1 k2 => by funext j; rw [q_ud_n (by omega)], fun j h7 h14 => by rw [q_ud_n (by omega)]⟩
  unfold fn237
  rw [m_let, q_ud_n (show ¬ (139 = 139 ∧ 14 = 7) by omega), q_w32_id (by omega) (by omega)]
  have e0 : q_ud h 139 7 0 139 14 = h 139 14 := q_ud_n (by omega)
  by_cases c1 : h 139 14 ≤ 580
  · rw [if_pos (by omega), if_pos c1, if_pos c1]
    obtain ⟨g1, x1, x2, x3⟩ := r_word (v := a) e0 h0.1 (by omega)
    obtain ⟨g2, y1, y2, y3⟩ := r_word (v := b) x2 (by omega) (by omega)
    obtain ⟨g3, z1, z2, z3⟩ := r_word (v := c) y2 (by omega) (by omega)
    obtain ⟨g4, u1, u2, u3⟩ := r_word (v := d) z2 (by omega) (by omega)
    obtain ⟨g5, w1, w2, w3⟩ := r_word (v := e) u2 (by omega) (by omega)
    have en : g5 139 14 = h 139 14 + 20 := by rw [w2]; omega
    rw [x1, Option.bind_some, y1, Option.bind_some, z1, Option.bind_some, u1, Option.bind_some, w1, Option.bind_some]
    dsimp only
    rw [en]
    exact ⟨g5, rfl, en, r_FI_t F0 (r_FI_t x3 (r_FI_t y3 (r_FI_t z3 (r_FI_t u3 w3))))⟩
  · rw [if_neg (by omega), if_neg c1, if_neg c1]
    exact ⟨_, rfl, e0, F0⟩
theorem r_trunc {v : Int} {h : q_F} (h0 : 0 ≤ h 139 14 ∧ h 139 14 ≤ 600) : ∃ h', fn358 v h = some (if 0 ≤ v ∧ v ≤ h 139 14 then 1 else 0, h') ∧ h' 139 14 = (if 0 ≤ v ∧ v ≤ h 139 14 then v else h 139 14) ∧ r_FI h h' := by
  have F0 : r_FI h (q_ud h 139 7 0) := ⟨fun k k1 k2 => by funext j; rw [q_ud_n (by omega)], fun j h7 h14 => by rw [q_ud_n (by omega)]⟩
  have e0 : q_ud h 139 7 0 139 14 = h 139 14 := q_ud_n (by omega)
  unfold fn358
  rw [m_let, e0, r_rng, Option.bind_some]
  by_cases c : 0 ≤ v ∧ v ≤ h 139 14
  · rw [if_pos c, if_neg (by decide), m_let, if_pos c]
    exact ⟨_, rfl, q_ud_s _ _ _ _, r_FI_t F0 ⟨fun k k1 k2 => by funext j; rw [q_ud_n (by omega)], fun j h7 h14 => by rw [q_ud_n (by omega)]⟩⟩
  · rw [if_neg c, if_pos rfl, if_neg c]
    exact ⟨_, rfl, e0, F0⟩
-- the class's input
def c_FI (h h' : q_F) : Prop := ∀ k, k ≠ 1 → k ≠ 2 → h' k = h k
theorem c_FI_t {h h1 h2 : q_F} (f : c_FI h h1) (g : c_FI h1 h2) : c_FI h h2 := fun k a b => (g k a b).trans (f k a b)
theorem c_byte {v : Int} {g : q_F} {n : Int} (e : g 1 1 = n) (h0 : 0 ≤ n ∧ n < 600) : ∃ g', fn60 1 v g = some (0, g') ∧ g' 1 1 = n + 1 ∧ c_FI g g' := by
  rw [fn60, e, if_neg (by omega), if_neg (by omega), if_pos h0, m_let, m_let, q_ud_n (show ¬ (1 = 1 + 1 ∧ 1 = n.toNat) by omega), e, q_w32_id (by omega) (by omega)]
  exact ⟨_, rfl, q_ud_s _ _ _ _, fun k k1 k2 => by funext j; rw [q_ud_n (by omega), q_ud_n (by omega)]⟩
theorem c_word {v : Int} {g : q_F} {n : Int} (e : g 1 1 = n) (h0 : 0 ≤ n) (h1 : n + 4 ≤ 600) : ∃ g', fn62 1 v g = some (0, g') ∧ g' 1 1 = n + 4 ∧ c_FI g g' := by
  obtain ⟨g1, x1, x2, x3⟩ := c_byte (v := q_iushr v 24) e (by omega)
  obtain ⟨g2, y1, y2, y3⟩ := c_byte (v := q_iushr v 16) x2 (by omega)
  obtain ⟨g3, z1, z2, z3⟩ := c_byte (v := q_iushr v 8) y2 (by omega)
  obtain ⟨g4, u1, u2, u3⟩ := c_byte (v := v) z2 (by omega)
  refine ⟨g4, ?_, by rw [u2]; omega, c_FI_t x3 (c_FI_t y3 (c_FI_t z3 u3))⟩
  rw [fn62, x1, Option.bind_some, y1, Option.bind_some, z1, Option.bind_some, u1, Option.bind_some]
theorem c_append {a b c d e : Int} {h : q_F} (h0 : 0 ≤ h 1 1 ∧ h 1 1 ≤ 600) : ∃ h', fn156 a b c d e h = some (if h 1 1 ≤ 580 then h 1 1 + 20 else -1, h') ∧ h' 1 1 = (if h 1 1 ≤ 580 then h 1 1 + 20 else h 1 1) ∧ c_FI h h' := by
  unfold fn156
  by_cases c1 : h 1 1 ≤ 580
  · rw [if_pos c1, if_pos c1, if_pos c1]
    obtain ⟨g1, x1, x2, x3⟩ := c_word (v := a) (g := h) rfl h0.1 (by omega)
    obtain ⟨g2, y1, y2, y3⟩ := c_word (v := b) x2 (by omega) (by omega)
    obtain ⟨g3, z1, z2, z3⟩ := c_word (v := c) y2 (by omega) (by omega)
    obtain ⟨g4, u1, u2, u3⟩ := c_word (v := d) z2 (by omega) (by omega)
    obtain ⟨g5, w1, w2, w3⟩ := c_word (v := e) u2 (by omega) (by omega)
    have en : g5 1 1 = h 1 1 + 20 := by rw [w2]; omega
    rw [x1, Option.bind_some, y1, Option.bind_some, z1, Option.bind_some, u1, Option.bind_some, w1, Option.bind_some]
    dsimp only
    rw [en]
    exact ⟨g5, rfl, en, c_FI_t x3 (c_FI_t y3 (c_FI_t z3 (c_FI_t u3 w3)))⟩
  · rw [if_neg c1, if_neg c1, if_neg c1]
    exact ⟨h, rfl, rfl, fun _ _ _ => rfl⟩
theorem c_trunc {v : Int} {h : q_F} : ∃ h', fn226 v h = some (if 0 ≤ v ∧ v ≤ h 1 1 then 1 else 0, h') ∧ h' 1 1 = (if 0 ≤ v ∧ v ≤ h 1 1 then v else h 1 1) ∧ c_FI h h' := by
  unfold fn226
  by_cases c : 0 ≤ v ∧ v ≤ h 1 1
  · rw [if_neg (by omega), if_pos c.2, m_let, if_pos c, if_pos c]
    exact ⟨_, rfl, q_ud_s _ _ _ _, fun k k1 k2 => by funext j; rw [q_ud_n (by omega)]⟩
  · rw [if_neg c, if_neg c]
    refine ⟨h, ?_, rfl, fun _ _ _ => rfl⟩
    (repeat' split) <;> first | rfl | omega
