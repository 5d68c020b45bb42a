/-! Part 98zzj: printQueue. -/
/-- how many digits a coordinate has -/
def a_nd (v : Int) : Int := if v < 10 then 1 else if v < 100 then 2 else if v < 1000 then 3 else 4
theorem a_nd_r (v : Int) : 1 ≤ a_nd v ∧ a_nd v ≤ 4 := by unfold a_nd; (repeat' split) <;> omega
theorem a_60b {v n : Int} {h : q_F} (e : h 137 1 = n) (h0 : 0 ≤ n) (h1 : n < 600) : ∃ h', fn60 137 v h = some (0, h') ∧ h' 137 1 = n + 1 ∧ c_fo 137 h h' := by
  refine ⟨q_ud (q_ud h 138 n.toNat (q_i8 (q_i8 v))) 137 1 (n + 1), ?_, q_ud_s _ _ _ _, c_fo_u (c_fo_u c_fo_r (Or.inr rfl)) (Or.inl rfl)⟩
  rw [fn60, e, if_neg (by omega), if_neg (by omega), if_pos ⟨h0, h1⟩, m_let, m_let, q_ud_n (show ¬ (137 = 137 + 1 ∧ 1 = n.toNat) by omega), e, q_w32_id (by omega) (by omega)]
theorem a_61s {v u n : Int} {f : Nat} {h : q_F} (e : h 137 1 = n) (h0 : 0 ≤ n) (h1 : n < 600) (hu : 1 ≤ u) : ∃ h', fn61_4 137 (f + 1) v u h = fn61_4 137 f v (q_idv u 10) h' ∧ h' 137 1 = n + (if u ≤ v ∨ u = 1 then 1 else 0) ∧ c_fo 137 h h' := by
  obtain ⟨x, ex⟩ := c_T201 v u h
  obtain ⟨g, b1, b2, b3⟩ := a_60b (v := q_w32 (48 + q_irm x 10)) e h0 h1
  have k19 : fn61_19 137 (fn61_4 137 f) v u h = fn61_4 137 f v (q_idv u 10) g := by
    rw [fn61_19, ex, Option.bind_some, b1, Option.bind_some, fn61_34]
  rw [fn61_4, if_neg (by omega)]
  by_cases c : u ≤ v
  · rw [if_pos c, if_pos (Or.inl c), k19]; exact ⟨g, rfl, b2, b3⟩
  · rw [if_neg c]
    by_cases c1 : u = 1
    · rw [if_pos c1, if_pos (Or.inr c1), k19]; exact ⟨g, rfl, b2, b3⟩
    · rw [if_neg c1, if_neg (by omega), fn61_34]; exact ⟨h, rfl, by rw [e]; omega, c_fo_r⟩
theorem a_61 {v n : Int} {h : q_F} (e : h 137 1 = n) (h0 : 0 ≤ n) (h1 : n + 4 < 600) : ∃ h', fn61 137 v h = some (0, h') ∧ h' 137 1 = n + a_nd v ∧ c_fo 137 h h' := by
  obtain ⟨f, ef⟩ := m_fu 5 (by omega)
  have i1 : q_idv 1000 10 = 100 := by rw [m_idv (by omega) (by omega) (by omega) (by omega)]; rfl
  have i2 : q_idv 100 10 = 10 := by rw [m_idv (by omega) (by omega) (by omega) (by omega)]; rfl
  have i3 : q_idv 10 10 = 1 := by rw [m_idv (by omega) (by omega) (by omega) (by omega)]; rfl
  have i4 : q_idv 1 10 = 0 := by rw [m_idv (by omega) (by omega) (by omega) (by omega)]; rfl
  obtain ⟨g1, a1, a2, a3⟩ := a_61s (v := v) (u := 1000) (f := f + 4) e h0 (by omega) (by omega)
  have r1 : 0 ≤ (if (1000 : Int) ≤ v ∨ (1000 : Int) = 1 then (1 : Int) else 0) ∧ (if (1000 : Int) ≤ v ∨ (1000 : Int) = 1 then (1 : Int) else 0) ≤ 1 := by split <;> omega
  obtain ⟨g2, b1, b2, b3⟩ := a_61s (v := v) (u := 100) (f := f + 3) a2 (by omega) (by omega) (by omega)
  have r2 : 0 ≤ (if (100 : Int) ≤ v ∨ (100 : Int) = 1 then (1 : Int) else 0) ∧ (if (100 : Int) ≤ v ∨ (100 : Int) = 1 then (1 : Int) else 0) ≤ 1 := by split <;> omega
  obtain ⟨g3, d1, d2, d3⟩ := a_61s (v := v) (u := 10) (f := f + 2) b2 (by omega) (by omega) (by omega)
  have r3 : 0 ≤ (if (10 : Int) ≤ v ∨ (10 : Int) = 1 then (1 : Int) else 0) ∧ (if (10 : Int) ≤ v ∨ (10 : Int) = 1 then (1 : Int) else 0) ≤ 1 := by split <;> omega
  obtain ⟨g4, k1, k2, k3⟩ := a_61s (v := v) (u := 1) (f := f + 1) d2 (by omega) (by omega) (by omega)
  rw [i1] at a1
  rw [i2] at b1
  rw [i3] at d1
  rw [i4] at k1
  have z : fn61_4 137 (f + 1) v 0 g4 = some (0, g4) := by rw [fn61_4, if_pos (by omega)]
  refine ⟨g4, ?_, ?_, c_fo_t a3 (c_fo_t b3 (c_fo_t d3 k3))⟩
  · rw [fn61, ef]
    exact a1.trans (b1.trans (d1.trans (k1.trans z)))
  · rw [k2]
    unfold a_nd
    by_cases c1 : v < 10
    · rw [if_pos c1, if_neg (by omega), if_neg (by omega), if_neg (by omega), if_pos (Or.inr rfl)]; omega
    · rw [if_neg c1, if_pos (show (10 : Int) ≤ v ∨ (10 : Int) = 1 by omega), if_pos (Or.inr rfl)]
      by_cases c2 : v < 100
      · rw [if_pos c2, if_neg (by omega), if_neg (by omega)]; omega
      · rw [if_neg c2, if_pos (show (100 : Int) ≤ v ∨ (100 : Int) = 1 by omega)]
        by_cases c3 : v < 1000
        · rw [if_pos c3, if_neg (by omega)]; omega
        · rw [if_neg c3, if_pos (show (1000 : Int) ≤ v ∨ (1000 : Int) = 1 by omega)]; omega
/-- how many bytes the first moves' print has -/
noncomputable def a_pc (w : Nat → Int) : Nat → Int
  | 0 => 0
  | m + 1 => a_pc w m + (if m = 0 then 0 else 1) + 2 + a_nd (w (74 + 3 * m)) + a_nd (w (74 + 3 * m + 1)) + a_nd (w (74 + 3 * m + 2))
theorem a_pc_r (w : Nat → Int) : ∀ m : Nat, 0 ≤ a_pc w m ∧ a_pc w m ≤ 15 * m := by
  intro m
  induction m with
  | zero => rw [a_pc]; omega
  | succ m ih =>
    have := a_nd_r (w (74 + 3 * m))
    have := a_nd_r (w (74 + 3 * m + 1))
    have := a_nd_r (w (74 + 3 * m + 2))
    rw [a_pc]; split <;> omega
theorem a_cpr {S : m_St} (hm : m_I S) : ∀ (d m f : Nat) (h : q_F), m + d = (S.w 4).toNat → d < f → c_I h S → h 137 1 = a_pc S.w m → ∃ h', fn197_34 f m h = some (a_pc S.w (S.w 4).toNat, h') := by
  have r := (m_R0_ok hm.1.1).2.1
  intro d
  induction d with
  | zero =>
    intro m f h hd hf hI e
    obtain ⟨f, rfl⟩ : ∃ f', f = f' + 1 := ⟨f - 1, by omega⟩
    obtain rfl : m = (S.w 4).toNat := by omega
    exact ⟨h, by rw [fn197_34, hI.1.2.2.1, if_pos (by omega), e]⟩
  | succ d ih =>
    intro m f h hd hf hI e
    obtain ⟨f, rfl⟩ : ∃ f', f = f' + 1 := ⟨f - 1, by omega⟩
    have pr := a_pc_r S.w m
    have n0 := a_nd_r (S.w (74 + 3 * m))
    have n1 := a_nd_r (S.w (74 + 3 * m + 1))
    have n2 := a_nd_r (S.w (74 + 3 * m + 2))
    have hn := hm.2.1.1
    have sub : ∀ g, c_I g S → g 137 1 = a_pc S.w m + (if m = 0 then 0 else 1) → ∃ h', fn197_55 (fn197_34 f) m g = some (a_pc S.w (S.w 4).toNat, h') := fun g I eg => by
      have s : 0 ≤ (if m = 0 then (0 : Int) else 1) ∧ (if m = 0 then (0 : Int) else 1) ≤ 1 := by split <;> omega
      have e0 : fn148 13 (m : Int) 0 g = some (S.w (74 + 3 * m)) := a_148 (a := 0) I hm (by omega) (by omega)
      obtain ⟨g1, a1, a2, a3⟩ := a_61 (v := S.w (74 + 3 * m)) eg (by omega) (by omega)
      obtain ⟨g2, b1, b2, b3⟩ := a_60b (v := 44) a2 (by omega) (by omega)
      have I2 := c_I_out (c_I_out I hn a3) hn b3
      have e1 : fn148 13 (m : Int) 1 g2 = some (S.w (74 + 3 * m + 1)) := a_148 (a := 1) I2 hm (by omega) (by omega)
      obtain ⟨g3, d1, d2, d3⟩ := a_61 (v := S.w (74 + 3 * m + 1)) b2 (by omega) (by omega)
      obtain ⟨g4, k1, k2, k3⟩ := a_60b (v := 44) d2 (by omega) (by omega)
      have I4 := c_I_out (c_I_out I2 hn d3) hn k3
      have e2 : fn148 13 (m : Int) 2 g4 = some (S.w (74 + 3 * m + 2)) := a_148 (a := 2) I4 hm (by omega) (by omega)
      obtain ⟨g5, l1, l2, l3⟩ := a_61 (v := S.w (74 + 3 * m + 2)) k2 (by omega) (by omega)
      have I5 := c_I_out I4 hn l3
      rw [fn197_55, e0, Option.bind_some, a1, Option.bind_some]
      dsimp only
      rw [b1, Option.bind_some]
      dsimp only
      rw [e1, Option.bind_some, d1, Option.bind_some]
      dsimp only
      rw [k1, Option.bind_some]
      dsimp only
      rw [e2, Option.bind_some, l1, Option.bind_some, q_w32_id (z := (m : Int) + 1) (by omega) (by omega), ← m_s1]
      exact ih (m + 1) f g5 (by omega) (by omega) I5 (by rw [l2, a_pc]; omega)
    rw [fn197_34, hI.1.2.2.1, if_neg (by omega)]
    by_cases c : (m : Int) ≤ 0
    · rw [if_pos c]
      exact sub h hI (by rw [e, if_pos (show m = 0 by omega)]; omega)
    · obtain ⟨g, a1, a2, a3⟩ := a_60b (v := 32) e (by omega) (by omega)
      rw [if_neg c, a1, Option.bind_some]
      exact sub g (c_I_out hI hn a3) (by rw [a2, if_neg (show ¬ m = 0 by omega)])
theorem a_366 {v n : Int} {g : q_F} {S : m_St} (hI : r_I g S) (e : g 139 27 = n) (h0 : 0 ≤ n) (h1 : n < 300) : ∃ g', fn366 v g = some (0, g') ∧ g' 139 27 = n + 1 ∧ r_I g' S := by
  refine ⟨q_ud (q_ud g 152 n.toNat v) 139 27 (n + 1), ?_, q_ud_s _ _ _ _, r_I_k hI (fun k hk => by funext j; rw [q_ud_n (by omega), q_ud_n (by omega)]) (by rw [q_ud_n (by omega), q_ud_n (by omega)]) (by rw [q_ud_n (by omega), q_ud_n (by omega)])⟩
  rw [fn366, e, if_pos ⟨h0, h1⟩, m_let, m_let, q_ud_n (show ¬ (139 = 152 ∧ 27 = n.toNat) by omega), e, q_w32_id (by omega) (by omega)]
theorem a_36718 {v : Int} {S : m_St} : ∀ (d f : Nat) (u n : Int) (g : q_F), d ≤ 4 → d < f → (d = 0 → u = 0) → (d = 1 → u = 1) → (d = 2 → u = 10) → (d = 3 → u = 100) → (d = 4 → u = 1000) → r_I g S → g 139 27 = n → 0 ≤ n → n + 4 < 300 + 4 - d → ∃ g', fn367_18 f v u g = some (0, g') ∧ g' 139 27 = n + d ∧ r_I g' S := by
  intro d
  induction d with
  | zero =>
    intro f u n g _ hf u0 _ _ _ _ hI e h0 h1
    obtain ⟨f, rfl⟩ : ∃ f', f = f' + 1 := ⟨f - 1, by omega⟩
    have := u0 rfl
    exact ⟨g, by rw [fn367_18, if_pos (by omega)], by rw [e]; omega, hI⟩
  | succ d ih =>
    intro f u n g hd hf u0 u1 u2 u3 u4 hI e h0 h1
    obtain ⟨f, rfl⟩ : ∃ f', f = f' + 1 := ⟨f - 1, by omega⟩
    have hu : (d = 0 ∧ u = 1) ∨ (d = 1 ∧ u = 10) ∨ (d = 2 ∧ u = 100) ∨ (d = 3 ∧ u = 1000) := by
      have : d = 0 ∨ d = 1 ∨ d = 2 ∨ d = 3 := by omega
      rcases this with rfl | rfl | rfl | rfl
      · exact Or.inl ⟨rfl, u1 rfl⟩
      · exact Or.inr (Or.inl ⟨rfl, u2 rfl⟩)
      · exact Or.inr (Or.inr (Or.inl ⟨rfl, u3 rfl⟩))
      · exact Or.inr (Or.inr (Or.inr ⟨rfl, u4 rfl⟩))
    clear u0 u1 u2 u3 u4
    have q : q_idv u 10 = u / 10 := m_idv (by omega) (by omega) (by omega) (by omega)
    obtain ⟨g1, a1, a2, a3⟩ := a_366 (v := q_w32 (48 + q_irm (q_idv v u) 10)) hI e h0 (by omega)
    obtain ⟨g2, b1, b2, b3⟩ := ih f (u / 10) (n + 1) g1 (by omega) (by omega) (by omega) (by omega) (by omega) (by omega) (by omega) a3 a2 (by omega) (by omega)
    refine ⟨g2, ?_, by rw [b2]; omega, b3⟩
    rw [fn367_18, if_neg (by omega), if_pos (by omega), a1, Option.bind_some, q, b1]
theorem a_367 {v n : Int} {g : q_F} {S : m_St} (hv : 0 ≤ v ∧ v ≤ 2000) (hI : r_I g S) (e : g 139 27 = n) (h0 : 0 ≤ n) (h1 : n + 4 < 300) : ∃ g', fn367 v g = some (0, g') ∧ g' 139 27 = n + a_nd v ∧ r_I g' S := by
  obtain ⟨f, ef⟩ := m_fu 4 (by omega)
  have q1 : q_idv v 1 = v / 1 := m_idv (by omega) (by omega) (by omega) (by omega)
  have q2 : q_idv v 10 = v / 10 := m_idv (by omega) (by omega) (by omega) (by omega)
  have q3 : q_idv v 100 = v / 100 := m_idv (by omega) (by omega) (by omega) (by omega)
  have q4 : q_idv v 1000 = v / 1000 := m_idv (by omega) (by omega) (by omega) (by omega)
  have w1 : q_w32 (1 * 10) = 10 := q_w32_id (by omega) (by omega)
  have w2 : q_w32 (10 * 10) = 100 := q_w32_id (by omega) (by omega)
  have w3 : q_w32 (100 * 10) = 1000 := q_w32_id (by omega) (by omega)
  rw [fn367, ef]
  unfold a_nd
  rw [fn367_2, if_pos (by decide), q1, w1]
  by_cases c1 : v < 10
  · rw [if_pos c1, if_pos (by omega)]
    exact a_36718 (S := S) 1 q_fu 1 n g (by omega) (by have := q_fu_ge; omega) (by omega) (by omega) (by omega) (by omega) (by omega) hI e h0 (by omega)
  · rw [if_neg c1, if_neg (by omega), fn367_2, if_pos (by decide), q2, w2]
    by_cases c2 : v < 100
    · rw [if_pos c2, if_pos (by omega)]
      exact a_36718 (S := S) 2 q_fu 10 n g (by omega) (by have := q_fu_ge; omega) (by omega) (by omega) (by omega) (by omega) (by omega) hI e h0 (by omega)
    · rw [if_neg c2, if_neg (by omega), fn367_2, if_pos (by decide), q3, w3]
      by_cases c3 : v < 1000
      · rw [if_pos c3, if_pos (by omega)]
        exact a_36718 (S := S) 3 q_fu 100 n g (by omega) (by have := q_fu_ge; omega) (by omega) (by omega) (by omega) (by omega) (by omega) hI e h0 (by omega)
      · rw [if_neg c3, if_neg (by omega), fn367_2, if_pos (by decide), q4, if_pos (by omega)]
        exact a_36718 (S := S) 4 q_fu 1000 n g (by omega) (by have := q_fu_ge; omega) (by omega) (by omega) (by omega) (by omega) (by omega) hI e h0 (by omega)
theorem a_rpr {S : m_St} (hm : m_I S) (h4 : S.w 4 ≠ 0) : ∀ (d m f : Nat) (g : q_F), m + d = (S.w 4).toNat → d < f → r_I g S → g 139 27 = a_pc S.w m → ∃ g', fn307_12 f m g = some (a_pc S.w (S.w 4).toNat, g') := by
  have ok := m_R0_ok hm.1.1
  have r := ok.2.1
  intro d
  induction d with
  | zero =>
    intro m f g hd hf hI e
    obtain ⟨f, rfl⟩ : ∃ f', f = f' + 1 := ⟨f - 1, by omega⟩
    obtain rfl : m = (S.w 4).toNat := by omega
    have p0 : a_pc S.w (S.w 4).toNat ≠ 0 := by
      obtain ⟨k, ek⟩ : ∃ k, (S.w 4).toNat = k + 1 := ⟨(S.w 4).toNat - 1, by omega⟩
      have := a_pc_r S.w k
      have := a_nd_r (S.w (74 + 3 * k))
      have := a_nd_r (S.w (74 + 3 * k + 1))
      have := a_nd_r (S.w (74 + 3 * k + 2))
      rw [ek, a_pc]; split <;> omega
    exact ⟨g, by rw [fn307_12, hI.1, if_pos (by omega), e, if_neg p0]⟩
  | succ d ih =>
    intro m f g hd hf hI e
    obtain ⟨f, rfl⟩ : ∃ f', f = f' + 1 := ⟨f - 1, by omega⟩
    have pr := a_pc_r S.w m
    have n0 := a_nd_r (S.w (74 + 3 * m))
    have n1 := a_nd_r (S.w (74 + 3 * m + 1))
    have n2 := a_nd_r (S.w (74 + 3 * m + 2))
    have b0 := ok.2.2.2 (74 + 3 * m) (by omega) (by omega)
    have b1 := ok.2.2.2 (74 + 3 * m + 1) (by omega) (by omega)
    have b2 := ok.2.2.2 (74 + 3 * m + 2) (by omega) (by omega)
    have sub : ∀ g, r_I g S → g 139 27 = a_pc S.w m + (if m = 0 then 0 else 1) → ∃ g', fn307_34 (fn307_12 f) m g = some (a_pc S.w (S.w 4).toNat, g') := fun g I eg => by
      have s : 0 ≤ (if m = 0 then (0 : Int) else 1) ∧ (if m = 0 then (0 : Int) else 1) ≤ 1 := by split <;> omega
      obtain ⟨t, et⟩ := m_fu3
      obtain ⟨g1, x1, x2, x3⟩ := a_367 b0 I eg (by omega) (by omega)
      obtain ⟨g2, y1, y2, y3⟩ := a_366 (v := 44) x3 x2 (by omega) (by omega)
      obtain ⟨g3, z1, z2, z3⟩ := a_367 b1 y3 y2 (by omega) (by omega)
      obtain ⟨g4, k1, k2, k3⟩ := a_366 (v := 44) z3 z2 (by omega) (by omega)
      obtain ⟨g5, l1, l2, l3⟩ := a_367 b2 k3 k2 (by omega) (by omega)
      have f0 : fn303 (74 + 3 * (m : Int) + 0) g = some (S.w (74 + 3 * m)) := a_rw (j := 74 + 3 * m) I (by omega) (by omega) (by omega)
      have f1 : fn303 (74 + 3 * (m : Int) + 1) g2 = some (S.w (74 + 3 * m + 1)) := a_rw (j := 74 + 3 * m + 1) y3 (by omega) (by omega) (by omega)
      have f2 : fn303 (74 + 3 * (m : Int) + 2) g4 = some (S.w (74 + 3 * m + 2)) := a_rw (j := 74 + 3 * m + 2) k3 (by omega) (by omega) (by omega)
      have w0 : q_w32 (74 + q_w32 (3 * (m : Int))) = 74 + 3 * (m : Int) := by rw [q_w32_id (z := 3 * (m : Int)) (by omega) (by omega), q_w32_id (by omega) (by omega)]
      have s3 : ∀ g, fn307_36 (fn307_12 f) (t + 1) m 3 g = fn307_12 f ((m + 1 : Nat) : Int) g := fun g => by rw [fn307_36, if_pos (by omega), q_w32_id (by omega) (by omega), m_s1]
      have s2 : fn307_36 (fn307_12 f) (t + 1 + 1) m 2 g3 = fn307_36 (fn307_12 f) (t + 1) m 3 g5 := by
        rw [fn307_36, if_neg (by omega), if_neg (by omega), k1, Option.bind_some, fn307_51, w0, q_w32_id (z := 74 + 3 * (m : Int) + 2) (by omega) (by omega), f2, Option.bind_some, l1, Option.bind_some, show q_w32 (2 + 1) = 3 from q_w32_id (by omega) (by omega)]
      have s1 : fn307_36 (fn307_12 f) (t + 1 + 1 + 1) m 1 g1 = fn307_36 (fn307_12 f) (t + 1 + 1) m 2 g3 := by
        rw [fn307_36, if_neg (by omega), if_neg (by omega), y1, Option.bind_some, fn307_51, w0, q_w32_id (z := 74 + 3 * (m : Int) + 1) (by omega) (by omega), f1, Option.bind_some, z1, Option.bind_some, show q_w32 (1 + 1) = 2 from q_w32_id (by omega) (by omega)]
      have s0 : fn307_36 (fn307_12 f) (t + 1 + 1 + 1 + 1) m 0 g = fn307_36 (fn307_12 f) (t + 1 + 1 + 1) m 1 g1 := by
        rw [fn307_36, if_neg (by omega), if_pos (by omega), fn307_51, w0, q_w32_id (z := 74 + 3 * (m : Int) + 0) (by omega) (by omega), f0, Option.bind_some, x1, Option.bind_some, show q_w32 (0 + 1) = 1 from q_w32_id (by omega) (by omega)]
      rw [fn307_34, et, s0, s1, s2, s3]
      exact ih (m + 1) f g5 (by omega) (by omega) l3 (by rw [l2, a_pc]; omega)
    rw [fn307_12, hI.1, if_neg (by omega)]
    by_cases c : (m : Int) ≤ 0
    · rw [if_pos c]
      exact sub g hI (by rw [e, if_pos (show m = 0 by omega)]; omega)
    · obtain ⟨g1, a1, a2, a3⟩ := a_366 (v := 32) hI e (by omega) (by omega)
      rw [if_neg c, a1, Option.bind_some]
      exact sub g1 a3 (by rw [a2, if_neg (show ¬ m = 0 by omega)])
theorem a_p59 {h h1 h2 : q_F} {S S1 : m_St} {v1 v2 : Int} (J : j_T S S h) (J1 : j_T S1 S h1) (e1 : fn197 h = some (v1, h1)) (e2 : fn307 h1 = some (v2, h2)) : v1 = v2 := by
  have hm := J1.2.1.1
  have hn := hm.2.1.1
  have r := (m_R0_ok hm.1.1).2.1
  have I : r_I (q_ud (q_ud h1 139 7 0) 139 27 0) S := r_I_k J1.2.1.2 (fun k hk => by funext j; rw [q_ud_n (by omega), q_ud_n (by omega)]) (by rw [q_ud_n (by omega), q_ud_n (by omega)]) (by rw [q_ud_n (by omega), q_ud_n (by omega)])
  have C : c_I (q_ud h 137 1 0) S := c_I_out J.1.2 hn (c_fo_u c_fo_r (Or.inl rfl))
  have e4 : q_ud h 137 1 0 13 1 = S.w 4 := C.1.2.2.1
  rw [fn197, m_let, e4] at e1
  rw [fn307, m_let, m_let] at e2
  by_cases c : S.w 4 = 0
  · obtain ⟨g, a1, a2, a3⟩ := a_60b (v := 46) (n := 0) (q_ud_s h 137 1 0) (by omega) (by omega)
    obtain ⟨f, ef⟩ := m_fu 1 (by omega)
    have e5 : g 13 1 = S.w 4 := (c_I_out C hn a3).1.2.2.1
    obtain ⟨g2, b1, b2, b3⟩ := a_366 (v := 46) (n := 0) I (q_ud_s _ _ _ _) (by omega) (by omega)
    rw [if_pos c, a1, Option.bind_some, fn197_32, ef, fn197_34, e5, if_pos (by omega), a2] at e1
    rw [ef, fn307_12, I.1, if_pos (by omega), q_ud_s, if_pos rfl, b1, Option.bind_some, b2] at e2
    have d1 := congrArg Prod.fst (Option.some.inj e1)
    have d2 := congrArg Prod.fst (Option.some.inj e2)
    exact d1.symm.trans d2
  · obtain ⟨g, a1⟩ := a_cpr hm (S.w 4).toNat 0 q_fu (q_ud h 137 1 0) (by omega) (by have := q_fu_ge; omega) C (q_ud_s _ _ _ _)
    obtain ⟨g2, b1⟩ := a_rpr hm c (S.w 4).toNat 0 q_fu (q_ud (q_ud h1 139 7 0) 139 27 0) (by omega) (by have := q_fu_ge; omega) I (q_ud_s _ _ _ _)
    have a1' : fn197_34 q_fu 0 (q_ud h 137 1 0) = some (a_pc S.w (S.w 4).toNat, g) := a1
    have b1' : fn307_12 q_fu 0 (q_ud (q_ud h1 139 7 0) 139 27 0) = some (a_pc S.w (S.w 4).toNat, g2) := b1
    rw [if_neg c, fn197_32, a1'] at e1
    rw [b1'] at e2
    have d1 := congrArg Prod.fst (Option.some.inj e1)
    have d2 := congrArg Prod.fst (Option.some.inj e2)
    exact d1.symm.trans d2
