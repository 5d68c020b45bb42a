/-! Part 98h: the questions that answer doubles and floats end. -/
theorem c_line {m : Int} {h : q_F} {S : m_St} (hI : c_I h S) (hm : m_I S) : c_E (fn186 m h) h S (fun k => k = 1 ∨ k = 3) := by
  unfold fn186
  refine c_moveQ hI (fun m0 m1 => ?_) (c_E_i hI (Or.inr rfl))
  dsimp only
  rw [if_pos rfl]
  refine c_planQ hI hm fun g I P L => ?_
  obtain ⟨n, rfl⟩ : ∃ k : Nat, m = k := ⟨m.toNat, by omega⟩
  obtain ⟨x, e, -⟩ := c_len (m_R0_ok hm.1.1) P m1
  dsimp only
  rw [e, Option.bind_some]; exact c_E_i I (Or.inl rfl)
theorem c_qlenl {h : q_F} {S : m_St} (hI : c_I h S) (hm : m_I S) (P : c_Plan h S.w) : ∀ (d m f : Nat) (u : Int), m + d = (S.w 4).toNat → d < f → g_P u → c_W (fn199_10 f u m h) h S := by
  have r := (m_R0_ok hm.1.1).2.1
  have e9 := P.2.2.2.1
  intro d
  induction d with
  | zero =>
    intro m f u hd hf hu
    obtain ⟨f, rfl⟩ : ∃ f', f = f' + 1 := ⟨f - 1, by omega⟩
    rw [fn199_10, e9, if_pos (by omega)]; exact c_W_i hI
  | succ d ih =>
    intro m f u hd hf hu
    obtain ⟨f, rfl⟩ : ∃ f', f = f' + 1 := ⟨f - 1, by omega⟩
    obtain ⟨x, e, hx⟩ := c_len (m := m) (m_R0_ok hm.1.1) P (by omega)
    have A := g_da hu hx
    rw [fn199_10, e9, if_neg (by omega), e, Option.bind_some, if_pos A.1, q_w32_id (by omega) (by omega), ← m_s1]
    exact ih (m + 1) f _ (by omega) (by omega) A.2
theorem c_qlen {h : q_F} {S : m_St} (hI : c_I h S) (hm : m_I S) : c_W (fn199 h) h S := by
  have r := (m_R0_ok hm.1.1).2.1
  unfold fn199
  refine c_planW hI hm fun g I P L => ?_
  exact c_qlenl I hm P (S.w 4).toNat 0 q_fu 0 (by omega) (by have := q_fu_ge; omega) (by unfold g_P; omega)
theorem c_U9699 (a b c d : Int) (h : q_F) : ∃ v, fn96_99 a b c d h = some v ∧ q_r64 v := by
  unfold fn96_99
  obtain ⟨v, e⟩ := c_T201 1000000 a h
  rw [e, Option.bind_some]; exact ⟨_, rfl, q_wr64 _⟩
theorem c_U9660 {m c : Int} {h : q_F} : ∀ (d : Nat) (x y k : Int) (f : Nat), y ≤ 3000 → 0 ≤ x → y ≤ x + d → d < f → ∃ v, fn96_60 h f m c k x y = some v ∧ q_r64 v := by
  intro d
  induction d with
  | zero =>
    intro x y k f hy hx hd hf
    obtain ⟨f, rfl⟩ : ∃ f', f = f' + 1 := ⟨f - 1, by omega⟩
    rw [fn96_60, if_pos (by omega)]; exact c_U9699 _ _ _ _ _
  | succ d ih =>
    intro x y k f hy hx hd hf
    obtain ⟨f, rfl⟩ : ∃ f', f = f' + 1 := ⟨f - 1, by omega⟩
    rw [fn96_60]
    by_cases c1 : y ≤ x
    · rw [if_pos c1]; exact c_U9699 _ _ _ _ _
    · obtain ⟨v, e1⟩ := c_T93 m (q_w32 (y - 1)) h
      obtain ⟨u, e2⟩ := c_T95 m (q_w32 (y + -1)) h
      rw [if_neg c1, e1, Option.bind_some]
      split
      · exact c_U9699 _ _ _ _ _
      · rw [e2, Option.bind_some, q_w32_id (z := y + -1) (by omega) (by omega)]
        exact ih x (y + -1) _ f (by omega) hx (by omega) (by omega)
theorem c_U9621 {m c l : Int} {h : q_F} (hl : l ≤ 2000) : ∀ (d : Nat) (x k : Int) (f : Nat), 0 ≤ x → x ≤ 3000 → l ≤ x + d → d < f → ∃ v, fn96_21 h f m c l k x = some v ∧ q_r64 v := by
  intro d
  induction d with
  | zero =>
    intro x k f hx _ hd hf
    obtain ⟨f, rfl⟩ : ∃ f', f = f' + 1 := ⟨f - 1, by omega⟩
    rw [fn96_21, if_pos (by omega), fn96_57]; exact c_U9660 2000 x l k q_fu (by omega) hx (by omega) (by have := q_fu_ge; omega)
  | succ d ih =>
    intro x k f hx h3 hd hf
    obtain ⟨f, rfl⟩ : ∃ f', f = f' + 1 := ⟨f - 1, by omega⟩
    have fin : ∃ v, fn96_57 m c l k x h = some v ∧ q_r64 v := by rw [fn96_57]; exact c_U9660 2000 x l k q_fu (by omega) hx (by omega) (by have := q_fu_ge; omega)
    obtain ⟨v, e1⟩ := c_T93 m x h
    obtain ⟨u, e2⟩ := c_T95 m x h
    rw [fn96_21]
    by_cases c1 : l ≤ x
    · rw [if_pos c1]; exact fin
    · rw [if_neg c1, e1, Option.bind_some]
      split
      · exact fin
      · rw [e2, Option.bind_some, q_w32_id (z := x + 1) (by omega) (by omega)]
        exact ih (x + 1) _ f (by omega) (by omega) (by omega) (by omega)
theorem c_ratio {a b : Int} (ha : q_r64 a) (hb : q_r64 b) (h : q_F) : ∃ v, fn203 (q_l2d a) (q_l2d b) h = some v := by
  unfold fn203
  by_cases c : b = 0
  · subst c
    rw [g_z0.2.2, g_z0.2.1, if_pos (by omega)]; exact ⟨_, rfl⟩
  · rw [if_pos (g_ll ha hb c)]
    split <;> exact ⟨_, rfl⟩
theorem c_mspeed {m : Int} {h : q_F} {S : m_St} (hI : c_I h S) (hm : m_I S) : c_E (fn190 m h) h S (fun k => k = 1 ∨ k = 3) := by
  unfold fn190
  refine c_moveQ hI (fun m0 m1 => ?_) (c_E_i hI (Or.inr rfl))
  dsimp only
  rw [if_pos rfl]
  refine c_planQ hI hm fun g I P L => ?_
  obtain ⟨l, e, l0, l1⟩ := c_Ld_m hm P m0 m1
  obtain ⟨v, e1⟩ := c_ent_t 130 16 m g
  obtain ⟨t, et, rt⟩ := c_U9621 (m := m) (c := v) (h := g) l1 2000 0 0 q_fu (by omega) (by omega) (by omega) (by have := q_fu_ge; omega)
  obtain ⟨x, ex⟩ := c_ratio (q_wr64 (1000000 * l)) rt g
  dsimp only
  rw [e, Option.bind_some, fn96, e1, Option.bind_some, e, Option.bind_some, et, Option.bind_some, ex, Option.bind_some]
  exact c_E_i I (Or.inl rfl)
theorem c_mdur {h : q_F} (h9 : q_r64 (h 6 9)) (h10 : q_r64 (h 6 10)) : ∃ v, fn189 h = some v := by
  unfold fn189
  split
  · exact ⟨_, rfl⟩
  · obtain ⟨x, ex⟩ := c_ratio h9 h10 h
    rw [ex, Option.bind_some]; exact ⟨_, rfl⟩
theorem c_lost2 {a : Int} {h : q_F} {S : m_St} (hI : c_I h S) : c_E (fn188 a h) h S (fun k => k = 1 ∨ k = 3) := by
  unfold fn188
  refine c_axisQ (fun a0 a1 => ?_) (c_E_i hI (Or.inr rfl))
  obtain ⟨n, hn, rfl⟩ := m_ax_n ⟨a0, a1⟩
  have e2 : h (q_axn 6 (n : Int) + 1) 2 = q_w32 (S.w (35 + n)) := by rw [q_axn_e hn]; exact (hI.1.1 n hn).2 2 (by omega)
  have r2 : q_r32 (h (q_axn 6 (n : Int) + 1) 2) := by rw [e2]; exact q_wr _
  dsimp only
  rw [if_pos rfl]
  by_cases c : q_w32 (h (q_axn 6 (n : Int) + 1) 0 + h (q_axn 6 (n : Int) + 1) 1) = 0
  · rw [if_pos c]; exact c_E_i hI (Or.inl rfl)
  · rw [if_neg c, if_pos (g_ff r2 (q_wr _) c).1]; exact c_E_i hI (Or.inl rfl)
theorem m_made_r {p : Nat → Int} (ok : m_ok p) (nn : m_nn p) {m a : Nat} {k : Int} (hm : (m : Int) < p 4) (ha : a < 3) (h0 : 0 ≤ k) (h1 : k ≤ m_l p m) : q_r32 (m_made p m a k) := by
  have h16 := ok.2.1
  have l := m_l_r ok (m := m) (by omega)
  have l1 := m_l_1 ok (m := m) (by omega) (nn m hm)
  have d := m_d_r ok (m := m) (by omega) ha
  have da := m_abs_r d
  have g := m_mulr (x := 2 * k) (l := m_abs (m_d p m a)) (a := 4000) (b := 2000) (by omega) (by omega) (by omega) (by omega)
  unfold m_made
  rw [m_idv (by omega) (by omega) (by omega) (by omega)]
  have g0 : 0 ≤ (2 * k * m_abs (m_d p m a) + m_l p m) / (2 * m_l p m) := Int.ediv_nonneg (by omega) (by omega)
  have g1 : (2 * k * m_abs (m_d p m a) + m_l p m) / (2 * m_l p m) ≤ 2 * k * m_abs (m_d p m a) + m_l p m := Int.ediv_le_self _ (by omega)
  unfold q_r32; omega
theorem c_off {h : q_F} {p : Nat → Int} (ok : m_ok p) (nn : m_nn p) (hP : c_Plan h p) {m a : Nat} {k : Int} (hm : (m : Int) < p 4) (ha : a < 3) (h0 : 0 ≤ k) (h1 : k ≤ m_l p m) : ∃ v, fn86 m a k h = some v := by
  have h16 := ok.2.1
  have l := m_l_r ok (m := m) (by omega)
  have l1 := m_l_1 ok (m := m) (by omega) (nn m hm)
  have d := m_d_r ok (m := m) (by omega) ha
  have G := g_ff (i := q_w32 (k * qx_ab (m_d p m a))) (j := m_l p m) (q_wr _) (by unfold q_r32; omega) (by omega)
  rw [fn86, c_lead (hP.1.2 m (by omega)).1 (by omega), Option.bind_some, if_neg (by omega), c_dis ok hP hm ha, Option.bind_some, if_pos G.1, c_made ok nn hP hm ha h0 h1, Option.bind_some, if_pos (G.2 _ (m_made_r ok nn hm ha h0 h1))]
  split <;> exact ⟨_, rfl⟩
theorem c_devk {h : q_F} {p : Nat → Int} (ok : m_ok p) (nn : m_nn p) (hP : c_Plan h p) {m a : Nat} {K4 : Int → Int → Int → Option Int} (hm : (m : Int) < p 4) (ha : a < 3) (hK : ∀ u, ∃ v, K4 m u ((a + 1 : Nat) : Int) = some v) : ∀ (d k f : Nat) (u : Int), (k : Int) + d = m_l p m + 1 → d < f → ∃ v, fn75_12 K4 h f m u a k = some v := by
  have h16 := ok.2.1
  have l := m_l_r ok (m := m) (by omega)
  intro d
  induction d with
  | zero =>
    intro k f u hd hf
    obtain ⟨f, rfl⟩ : ∃ f', f = f' + 1 := ⟨f - 1, by omega⟩
    rw [fn75_12, c_lead (hP.1.2 m (by omega)).1 (by omega), Option.bind_some, if_pos (by omega), q_w32_id (by omega) (by omega), ← m_s1]
    exact hK u
  | succ d ih =>
    intro k f u hd hf
    obtain ⟨f, rfl⟩ : ∃ f', f = f' + 1 := ⟨f - 1, by omega⟩
    obtain ⟨x, ex⟩ := c_off ok nn hP (k := k) hm ha (by omega) (by omega)
    rw [fn75_12, c_lead (hP.1.2 m (by omega)).1 (by omega), Option.bind_some, if_neg (by omega), ex, Option.bind_some, fn75_45, fn75_45, q_w32_id (z := (k : Int) + 1) (by omega) (by omega), ← m_s1]
    split <;> exact ih (k + 1) f _ (by omega) (by omega)
theorem c_deva {h : q_F} {p : Nat → Int} (ok : m_ok p) (nn : m_nn p) (hP : c_Plan h p) {m : Nat} (hm : (m : Int) < p 4) : ∀ (d a f : Nat) (u : Int), a + d = 3 → d < f → ∃ v, fn75_4 h f m u a = some v := by
  have h16 := ok.2.1
  have l := m_l_r ok (m := m) (by omega)
  intro d
  induction d with
  | zero =>
    intro a f u ha hf
    obtain ⟨f, rfl⟩ : ∃ f', f = f' + 1 := ⟨f - 1, by omega⟩
    exact ⟨u, by rw [fn75_4, if_pos (by omega)]⟩
  | succ d ih =>
    intro a f u ha hf
    obtain ⟨f, rfl⟩ : ∃ f', f = f' + 1 := ⟨f - 1, by omega⟩
    rw [fn75_4, if_neg (by omega)]
    exact c_devk ok nn hP hm (by omega) (fun u => ih (a + 1) f u (by omega) (by omega)) (m_l p m + 1).toNat 0 q_fu u (by omega) (by have := q_fu_ge; omega)
theorem c_dev {m : Int} {h : q_F} {S : m_St} (hI : c_I h S) (hm : m_I S) : c_E (fn172 m h) h S (fun k => k = 1 ∨ k = 3) := by
  unfold fn172
  refine c_moveQ hI (fun m0 m1 => ?_) (c_E_i hI (Or.inr rfl))
  dsimp only
  rw [if_pos rfl]
  refine c_planQ hI hm fun g I P L => ?_
  obtain ⟨n, rfl⟩ : ∃ k : Nat, m = k := ⟨m.toNat, by omega⟩
  obtain ⟨x, e⟩ := c_deva (m_R0_ok hm.1.1) hm.1.2 P m1 3 0 q_fu 0 (by omega) (by have := q_fu_ge; omega)
  have e' : fn75 n g = some x := e
  dsimp only
  rw [e', Option.bind_some]; exact c_E_i I (Or.inl rfl)
