/-! Part 78: homing, jogging, unqueueing on both sides. -/
theorem m_skl_a3 {a : Nat} {c d t : Int} (ha : a < 3) (hd : d = 1 ∨ d = -1) : ∀ (n : Nat) (w : Nat → Int), m_a3 w → m_a3 (m_skl a c d t n w).2 := by
  intro n
  induction n with
  | zero => intro w h; exact h
  | succ n ih =>
    intro w h
    unfold m_skl; split
    · exact h
    · exact ih _ (m_a3_u (m_step_a3 ha h hd) (by omega))
theorem m_pv_41 {j : Nat} {v : Int} (hj : 41 ≤ j ∧ j ≤ 43) (h : v = 0 ∨ v = 1) : m_pv j v := by
  unfold m_pv
  refine ⟨?_, ?_, ?_, ?_, ?_, ?_, ?_, ?_, ?_, ?_⟩ <;> intro h9 <;> omega
theorem m_pv_47 {j : Nat} {v : Int} (hj : (47 ≤ j ∧ j ≤ 52) ∨ (74 ≤ j ∧ j < 122)) (h : 0 ≤ v ∧ v ≤ 2000) : m_pv j v := by
  unfold m_pv
  refine ⟨?_, ?_, ?_, ?_, ?_, ?_, ?_, ?_, ?_, ?_⟩ <;> intro h9 <;> omega
theorem m_pv_4 {v : Int} (h : 0 ≤ v ∧ v ≤ 16) : m_pv 4 v := by
  unfold m_pv
  refine ⟨?_, ?_, ?_, ?_, ?_, ?_, ?_, ?_, ?_, ?_⟩ <;> intro h9 <;> omega
theorem m_R0_seek {w : Nat → Int} {a : Nat} {c d t : Int} (h : m_R0 w) (ha : a < 3) (hd : d = 1 ∨ d = -1) : m_R0 (m_seek a c d t w).2 := m_R0_fr h (m_seek_fr ha c d t w) (m_skl_a3 ha hd _ _ h.2)
theorem m_R0_hf {w : Nat → Int} {a : Nat} {al : Int} (h : m_R0 w) (hal : 0 ≤ al ∧ al ≤ 3) (ha : a < 3) : m_R0 (m_hf a al w) := m_R0_w (m_R0_v h (m_pv_3 hal) (by omega)) (by omega)
theorem m_R0_ho {w : Nat → Int} {a : Nat} (h : m_R0 w) (ha : a < 3) : m_R0 (m_ho a w) := by
  have i := (m_a3_i h.2 ha).2.1
  exact m_R0_w (m_R0_v (m_R0_v (m_R0_v h (m_pv_41 (by omega) (Or.inr rfl)) (by omega)) (m_pv_47 (by omega) (by omega)) (by omega)) (m_pv_47 (by omega) (by omega)) (by omega)) (by omega)
theorem m_R0_home {w : Nat → Int} {a : Nat} (h : m_R0 w) (ha : a < 3) : m_R0 (m_home a w).2 := by
  have h0 : m_R0 (m_u w (41 + a) 0) := m_R0_v h (m_pv_41 (by omega) (Or.inl rfl)) (by omega)
  unfold m_home
  dsimp only
  split
  · exact m_R0_hf (m_R0_seek h0 ha (Or.inr rfl)) (by omega) ha
  · split
    · exact m_R0_hf (m_R0_seek (m_R0_seek h0 ha (Or.inr rfl)) ha (Or.inl rfl)) (by omega) ha
    · exact m_R0_ho (m_R0_seek (m_R0_seek h0 ha (Or.inr rfl)) ha (Or.inl rfl)) ha
theorem m_home_4 {w : Nat → Int} {a : Nat} (ha : a < 3) : (m_home a w).2 4 = w 4 := by
  have f : ∀ c d t w, (m_seek a c d t w).2 4 = w 4 := fun c d t w => m_seek_fr ha c d t w 4 (by unfold m_dy; omega)
  unfold m_home
  dsimp only
  split
  · unfold m_hf; dsimp only; rw [m_u_n (by omega), m_u_n (by omega), f, m_u_n (by omega)]
  · split
    · unfold m_hf; dsimp only; rw [m_u_n (by omega), m_u_n (by omega), f, f, m_u_n (by omega)]
    · unfold m_ho; dsimp only; rw [m_u_n (by omega), m_u_n (by omega), m_u_n (by omega), m_u_n (by omega), f, f, m_u_n (by omega)]
theorem m_nn_0 {w : Nat → Int} (h : w 4 = 0) : m_nn w := fun m hm => absurd hm (by omega)
theorem m_RI_home {w : Nat → Int} {a : Nat} (h : m_R0 w) (ha : a < 3) (h4 : w 4 = 0) : m_RI (m_home a w).2 := ⟨m_R0_home h ha, m_nn_0 ((m_home_4 ha).trans h4)⟩
theorem m_seek_5 {w : Nat → Int} {a : Nat} {c d t : Int} (ha : a < 3) (h : q_r64 (w 5)) : q_r64 ((m_seek a c d t w).2 5) := by
  show q_r64 ((m_skl a c d t _ w).2 5)
  rw [m_skl_5 ha _ w h]; exact q_wr64 _
theorem m_home_5 {w : Nat → Int} {a : Nat} (ha : a < 3) (h : q_r64 (w 5)) : q_r64 ((m_home a w).2 5) := by
  have h0 : q_r64 (m_u w (41 + a) 0 5) := by rw [m_u_n (by omega)]; exact h
  unfold m_home
  dsimp only
  split
  · unfold m_hf; dsimp only; rw [m_u_n (by omega), m_u_n (by omega)]; exact m_seek_5 ha h0
  · split
    · unfold m_hf; dsimp only; rw [m_u_n (by omega), m_u_n (by omega)]; exact m_seek_5 ha (m_seek_5 ha h0)
    · unfold m_ho; dsimp only; rw [m_u_n (by omega), m_u_n (by omega), m_u_n (by omega), m_u_n (by omega)]; exact m_seek_5 ha (m_seek_5 ha h0)
theorem m_home_z {w : Nat → Int} {a : Nat} (ok : m_ok w) (ha : a < 3) : (m_home a w).1 = -1 ∨ 0 ≤ (m_home a w).1 := by
  have sz : ∀ c d t u, m_ok u → (m_seek a c d t u).1 = -1 ∨ (0 ≤ (m_seek a c d t u).1 ∧ (m_seek a c d t u).1 ≤ 3000) := fun c d t u ok => by
    have o := ok.2.2.1 a ha
    have n := m_skl_n (a := a) c d t (u (8 + a) + u (11 + a) + 1).toNat u
    unfold m_seek
    dsimp only
    split
    · right; omega
    · exact Or.inl rfl
  have ok0 : m_ok (m_u w (41 + a) 0) := m_u_ok ok (by omega)
  unfold m_home
  dsimp only
  split
  · exact Or.inl rfl
  · rename_i c1
    split
    · exact Or.inl rfl
    · rename_i c2
      have z1 := (sz 1 (-1) (q_ldv 1000000 (w 0)) _ ok0).resolve_left c1
      have z2 := (sz 0 1 (q_w64 (4 * q_ldv 1000000 (w 0))) _ (m_fr_ok ok0 (m_seek_fr ha 1 (-1) (q_ldv 1000000 (w 0)) _))).resolve_left c2
      right
      rw [q_w32_id (by omega) (by omega)]; omega
-- home
def m_busy (S : m_St) : Prop := ¬ (S.w 3 = 0 ∧ S.w 4 = 0)
noncomputable def m_oHome (a : Int) (S : m_St) : m_St := if 0 ≤ a ∧ a ≤ 2 then (if S.w 3 = 0 ∧ S.w 4 = 0 then m_set (m_rem S) (m_home a.toNat S.w).2 else S) else S
theorem m_I_home {S : m_St} {a : Int} (h : m_I S) : m_I (m_oHome a S) := by
  unfold m_oHome; split
  · split
    · rename_i c1 c2
      exact m_I_set (m_I_rem h) (m_RI_home h.1.1 (by omega) c2.2)
    · exact h
  · exact h
theorem c_noAlarm {h : q_F} {S : m_St} (hI : c_I h S) : fn165 h = some (if S.w 3 = 0 then 0 else 4, 0, h) := by
  have e : h 6 7 = S.w 3 := hI.1.2.1.2.2.2.1
  unfold fn165; rw [e]; split <;> rfl
theorem c_qEmpty {h : q_F} {S : m_St} (hI : c_I h S) (hm : m_I S) : fn167 h = some (if S.w 4 = 0 then 0 else 4, 0, h) := by
  have e : h 13 1 = S.w 4 := hI.1.2.2.1
  have r := (m_R0_ok hm.1.1).2.1
  unfold fn167; rw [e]
  by_cases c : S.w 4 = 0
  · rw [if_pos (by omega), if_pos c]
  · rw [if_neg (by omega), if_neg c]
theorem q_T6 : q_isT 6 := by unfold q_isT; decide
theorem c_homeC {h : q_F} {S : m_St} {a : Int} (hI : c_I h S) (hm : m_I S) (h5 : q_r64 (S.w 5)) : c_E (fn180 a h) h (m_oHome a S) (fun k => k = 1 ∨ k = 3 ∨ k = 4) := by
  unfold m_oHome fn180
  rw [c_axis, Option.bind_some]
  by_cases ca : 0 ≤ a ∧ a ≤ 2
  · rw [if_pos ca, if_pos ca]
    dsimp only
    rw [if_pos rfl, c_noAlarm hI, Option.bind_some]
    by_cases c3 : S.w 3 = 0
    · rw [if_pos c3]
      dsimp only
      rw [if_pos rfl, c_qEmpty hI hm, Option.bind_some]
      by_cases c4 : S.w 4 = 0
      · rw [if_pos c4]
        dsimp only
        rw [if_pos rfl, if_pos ⟨c3, c4⟩]
        obtain ⟨n, hn, rfl⟩ := m_ax_n ca
        obtain ⟨h1, a1, a2, a3⟩ := c_remember hI hm
        obtain ⟨h2, b1, b2, b3, b4⟩ := c_home q_T6 hn a2.1 (m_R0_ok hm.1.1) hm.1.1.2 h5
        rw [a1, Option.bind_some, b1, Option.bind_some]
        exact ⟨1, _, h2, rfl, Or.inl rfl, c_I_set a2 b3 b2, c_F_t (c_F_rem a3) (c_F_ft b3)⟩
      · rw [if_neg c4, if_neg (show ¬ (S.w 3 = 0 ∧ S.w 4 = 0) from fun h9 => c4 h9.2)]
        exact ⟨4, 0, h, rfl, Or.inr (Or.inr rfl), hI, c_F_r⟩
    · rw [if_neg c3, if_neg (show ¬ (S.w 3 = 0 ∧ S.w 4 = 0) from fun h9 => c3 h9.1)]
      exact ⟨4, 0, h, rfl, Or.inr (Or.inr rfl), hI, c_F_r⟩
  · rw [if_neg ca, if_neg ca]
    exact ⟨3, 0, h, rfl, Or.inr (Or.inl rfl), hI, c_F_r⟩
theorem r_busy {h : q_F} {S : m_St} (hI : r_I h S) : fn270 h = some (if S.w 3 = 0 ∧ S.w 4 = 0 then 0 else 1) := by
  unfold fn270 fn270_22
  rw [hI.1]
  by_cases c3 : S.w 3 = 0
  · rw [if_pos c3]
    by_cases c4 : S.w 4 = 0
    · rw [if_pos c4, if_pos ⟨c3, c4⟩]
    · rw [if_neg c4, if_neg (show ¬ (S.w 3 = 0 ∧ S.w 4 = 0) from fun h9 => c4 h9.2)]
  · rw [if_neg c3, if_neg (show ¬ (S.w 3 = 0 ∧ S.w 4 = 0) from fun h9 => c3 h9.1)]
theorem r_homeC {h : q_F} {S : m_St} {a : Int} (hI : r_I h S) (hm : m_I S) : r_W (fn263 a h) h (m_oHome a S) := by
  obtain ⟨h0, t1, t2⟩ := r_noAxis a h
  unfold m_oHome fn263
  rw [t1, Option.bind_some]
  by_cases ca : 0 ≤ a ∧ a ≤ 2
  · rw [if_pos ca, if_pos ca]
    dsimp only
    rw [if_pos rfl, r_busy (r_I_T hI t2), Option.bind_some]
    by_cases c : S.w 3 = 0 ∧ S.w 4 = 0
    · rw [if_pos c, if_pos c]
      obtain ⟨h9, s1, s2⟩ := r_fails 0 2 h0
      have hT := r_T_t t2 s2
      obtain ⟨n, hn, rfl⟩ := m_ax_n ca
      obtain ⟨h1, a1, a2, a3, a4⟩ := r_remember (r_I_T hI hT) hm.2.1.1
      have F := r_F_t (r_T_F hT) (r_F_rem a3 a4)
      have ew : h1 140 = S.w := a2.1
      rw [s1, Option.bind_some, if_pos rfl, a1, Option.bind_some]
      dsimp only
      rw [fn266_m hn (by rw [ew]; exact m_R0_ok hm.1.1), Option.bind_some, ew]
      exact ⟨_, _, rfl, r_I_set a2, r_F_t F (r_F_sr (by omega))⟩
    · rw [if_neg c, if_neg c]
      obtain ⟨h9, s1, s2⟩ := r_fails 1 2 h0
      have hT := r_T_t t2 s2
      rw [s1, Option.bind_some, if_neg (show ¬ (1 : Int) = 0 by decide)]
      exact ⟨_, _, rfl, r_I_T hI hT, r_T_F hT⟩
  · rw [if_neg ca, if_neg ca]
    exact ⟨_, _, rfl, r_I_T hI t2, r_T_F t2⟩
-- homeAll
noncomputable def m_ha : Nat → (Nat → Int) → Nat → Int
  | 0, w => w
  | a + 1, w => if (m_home a w).1 = -1 then (m_home a w).2 else m_ha a (m_home a w).2
noncomputable def m_oHomeAll (S : m_St) : m_St := if S.w 3 = 0 ∧ S.w 4 = 0 then m_set (m_rem S) (m_ha 3 S.w) else S
theorem m_RI_ha : ∀ (n : Nat) (w : Nat → Int), n ≤ 3 → m_RI w → w 4 = 0 → m_RI (m_ha n w) := by
  intro n
  induction n with
  | zero => intro w _ h _; exact h
  | succ n ih =>
    intro w hn h h4
    have g := m_RI_home h.1 (show n < 3 by omega) h4
    unfold m_ha; split
    · exact g
    · exact ih _ (by omega) g ((m_home_4 (by omega)).trans h4)
theorem m_I_homeAll {S : m_St} (h : m_I S) : m_I (m_oHomeAll S) := by
  unfold m_oHomeAll; split
  · rename_i c; exact m_I_set (m_I_rem h) (m_RI_ha 3 _ (by omega) h.1 c.2)
  · exact h
theorem c_ha : ∀ (n f : Nat) (s : Int) (h : q_F) (w : Nat → Int), n ≤ 3 → n < f → c_tb h 6 w → m_RI w → w 4 = 0 → q_r64 (w 5) → ∃ v h', fn181_23 f s ((n : Int) - 1) h = some (1, v, h') ∧ c_tb h' 6 (m_ha n w) ∧ c_ft 6 h h' := by
  intro n
  induction n with
  | zero =>
    intro f s h w hn hf hc _ _ _
    obtain ⟨f, rfl⟩ : ∃ f', f = f' + 1 := ⟨f - 1, by omega⟩
    exact ⟨s, h, by rw [fn181_23, if_pos (by omega)], hc, c_ft_r⟩
  | succ n ih =>
    intro f s h w hn hf hc hR h4 h5
    obtain ⟨f, rfl⟩ : ∃ f', f = f' + 1 := ⟨f - 1, by omega⟩
    have hn3 : n < 3 := by omega
    obtain ⟨h2, b1, b2, b3, b4⟩ := c_home q_T6 hn3 hc (m_R0_ok hR.1) hR.1.2 h5
    rw [fn181_23, if_neg (by omega), show ((n + 1 : Nat) : Int) - 1 = (n : Int) by omega, b1, Option.bind_some]
    dsimp only
    unfold m_ha
    have z := m_home_z (m_R0_ok hR.1) hn3
    by_cases c : (m_home n w).1 = -1
    · rw [if_neg (show ¬ 0 ≤ (m_home n w).1 by omega), if_pos c]
      exact ⟨-1, h2, rfl, b2, b3⟩
    · rw [if_pos (show 0 ≤ (m_home n w).1 by omega), if_neg c, q_w32_id (z := (n : Int) + -1) (by omega) (by omega)]
      obtain ⟨v, h', d1, d2, d3⟩ := ih f (q_w32 (s + (m_home n w).1)) h2 _ (by omega) (by omega) b2 (m_RI_home hR.1 hn3 h4) ((m_home_4 hn3).trans h4) (m_home_5 hn3 h5)
      exact ⟨v, h', d1, d2, c_ft_t b3 d3⟩
theorem c_homeAllC {h : q_F} {S : m_St} (hI : c_I h S) (hm : m_I S) (h5 : q_r64 (S.w 5)) : c_E (fn181 h) h (m_oHomeAll S) (fun k => k = 1 ∨ k = 4) := by
  unfold m_oHomeAll fn181
  rw [c_noAlarm hI, Option.bind_some]
  by_cases c3 : S.w 3 = 0
  · rw [if_pos c3]
    dsimp only
    rw [if_pos rfl, c_qEmpty hI hm, Option.bind_some]
    by_cases c4 : S.w 4 = 0
    · rw [if_pos c4]
      dsimp only
      rw [if_pos rfl, if_pos ⟨c3, c4⟩]
      obtain ⟨h1, a1, a2, a3⟩ := c_remember hI hm
      obtain ⟨v, h2, b1, b2, b3⟩ := c_ha 3 q_fu 0 h1 S.w (by omega) (by have := q_fu_ge; omega) a2.1 hm.1 c4 h5
      rw [a1, Option.bind_some]
      exact ⟨1, v, h2, b1, Or.inl rfl, c_I_set a2 b3 b2, c_F_t (c_F_rem a3) (c_F_ft b3)⟩
    · rw [if_neg c4, if_neg (show ¬ (S.w 3 = 0 ∧ S.w 4 = 0) from fun h9 => c4 h9.2)]
      exact ⟨4, 0, h, rfl, Or.inr rfl, hI, c_F_r⟩
  · rw [if_neg c3, if_neg (show ¬ (S.w 3 = 0 ∧ S.w 4 = 0) from fun h9 => c3 h9.1)]
    exact ⟨4, 0, h, rfl, Or.inr rfl, hI, c_F_r⟩
theorem r_ha : ∀ (n f : Nat) (s : Int) (h : q_F), n ≤ 3 → n < f → m_RI (h 140) → h 140 4 = 0 → ∃ v, fn264_27 f s ((n : Int) - 1) h = some (v, m_sr h 140 (m_ha n (h 140))) := by
  intro n
  induction n with
  | zero =>
    intro f s h hn hf _ _
    obtain ⟨f, rfl⟩ : ∃ f', f = f' + 1 := ⟨f - 1, by omega⟩
    refine ⟨s, ?_⟩
    rw [fn264_27, if_pos (by omega)]
    unfold m_ha; rw [m_sr_id]
  | succ n ih =>
    intro f s h hn hf hR h4
    obtain ⟨f, rfl⟩ : ∃ f', f = f' + 1 := ⟨f - 1, by omega⟩
    have hn3 : n < 3 := by omega
    rw [fn264_27, if_neg (by omega), show ((n + 1 : Nat) : Int) - 1 = (n : Int) by omega, fn266_m hn3 (m_R0_ok hR.1), Option.bind_some]
    dsimp only
    unfold m_ha
    by_cases c : (m_home n (h 140)).1 = -1
    · rw [if_pos c, if_pos c]; exact ⟨_, rfl⟩
    · rw [if_neg c, if_neg c, q_w32_id (z := (n : Int) + -1) (by omega) (by omega)]
      obtain ⟨v, d1⟩ := ih f (q_w32 (s + (m_home n (h 140)).1)) (m_sr h 140 (m_home n (h 140)).2) (by omega) (by omega) (by rw [m_sr_s]; exact m_RI_home hR.1 hn3 h4) (by rw [m_sr_s]; exact (m_home_4 hn3).trans h4)
      rw [m_sr_s, m_sr_sr] at d1
      exact ⟨v, d1⟩
theorem r_homeAllC {h : q_F} {S : m_St} (hI : r_I h S) (hm : m_I S) : r_W (fn264 h) h (m_oHomeAll S) := by
  have hT : r_T h (q_ud h 139 7 0) := r_T_u r_T_r
  unfold m_oHomeAll fn264
  rw [m_let, r_busy (r_I_T hI hT), Option.bind_some]
  by_cases c : S.w 3 = 0 ∧ S.w 4 = 0
  · rw [if_pos c, if_pos c]
    obtain ⟨h9, s1, s2⟩ := r_fails 0 1 (q_ud h 139 7 0)
    have hT := r_T_t hT s2
    obtain ⟨h1, a1, a2, a3, a4⟩ := r_remember (r_I_T hI hT) hm.2.1.1
    have F := r_F_t (r_T_F hT) (r_F_rem a3 a4)
    have ew : h1 140 = S.w := a2.1
    obtain ⟨v, d1⟩ := r_ha 3 q_fu 0 h1 (by omega) (by have := q_fu_ge; omega) (by rw [ew]; exact hm.1) (by rw [ew]; exact c.2)
    rw [ew] at d1
    rw [s1, Option.bind_some, if_pos rfl, a1, Option.bind_some]
    exact ⟨v, _, d1, r_I_set a2, r_F_t F (r_F_sr (by omega))⟩
  · rw [if_neg c, if_neg c]
    obtain ⟨h9, s1, s2⟩ := r_fails 1 1 (q_ud h 139 7 0)
    have hT := r_T_t hT s2
    rw [s1, Option.bind_some, if_neg (show ¬ (1 : Int) = 0 by decide)]
    exact ⟨_, _, rfl, r_I_T hI hT, r_T_F hT⟩
-- unqueue
def m_oUnq (S : m_St) : m_St := if S.w 4 = 0 then S else m_set (m_rem S) (m_u S.w 4 (S.w 4 - 1))
theorem m_mv_u4 {w : Nat → Int} {v : Int} (m : Nat) : m_mv (m_u w 4 v) m = m_mv w m := by
  have b : ∀ k a, m_beg (m_u w 4 v) k a = m_beg w k a := fun k a => by unfold m_beg; split <;> exact m_u_n (by omega)
  unfold m_mv m_d
  rw [b, b, b, b, b, b]
theorem m_RI_unq {w : Nat → Int} (h : m_RI w) (h4 : w 4 ≠ 0) : m_RI (m_u w 4 (w 4 - 1)) := by
  have r := (m_R0_ok h.1).2.1
  refine ⟨m_R0_v h.1 (m_pv_4 (by omega)) (by omega), fun m hm => ?_⟩
  rw [m_u_s] at hm
  rw [m_mv_u4]; exact h.2 m (by omega)
theorem m_I_unq {S : m_St} (h : m_I S) : m_I (m_oUnq S) := by
  unfold m_oUnq; split
  · exact h
  · rename_i c; exact m_I_set (m_I_rem h) (m_RI_unq h.1 c)
theorem c_unqueue {h : q_F} {S : m_St} (hI : c_I h S) (hm : m_I S) : c_E (fn229 h) h (m_oUnq S) (fun k => k = 1 ∨ k = 5) := by
  have e : h 13 1 = S.w 4 := hI.1.2.2.1
  have r := (m_R0_ok hm.1.1).2.1
  unfold m_oUnq fn229
  rw [e]
  by_cases c : S.w 4 = 0
  · rw [if_pos c, if_pos c]
    exact ⟨5, 0, h, rfl, Or.inr rfl, hI, c_F_r⟩
  · rw [if_neg c, if_neg c]
    obtain ⟨h1, a1, a2, a3⟩ := c_remember hI hm
    have e1 : h1 13 1 = S.w 4 := a2.1.2.2.1
    obtain ⟨n, en⟩ := m_fu3
    have mx : qx_mx (S.w 4 - 1) 0 = S.w 4 - 1 := by unfold qx_mx; split <;> omega
    rw [a1, Option.bind_some]
    dsimp only
    rw [e1, q_w32_id (z := S.w 4 - 1) (by omega) (by omega), fn152, q_w32_id (by omega) (by omega), en, fn152_4, e1, if_pos (by omega), m_let, q_w32_id (by omega) (by omega), mx, Option.bind_some]
    have f : c_ft 6 h1 (q_ud h1 13 1 (S.w 4 - 1)) := c_ft_u c_ft_r (by omega) (by omega)
    have tb : c_tb (q_ud h1 13 1 (S.w 4 - 1)) 6 (m_u S.w 4 (S.w 4 - 1)) := c_tb_g7 a2.1 (fun k k1 k2 => by funext j; rw [q_ud_n (by omega)]) (fun j hj hj2 => m_u_n hj2) (by rw [m_u_s]; exact q_ud_s _ _ _ _) (fun j hj => by
      rw [m_u_s] at hj
      rw [q_ud_n (by omega), m_u_n (by omega)]; exact a2.1.2.2.2 j (by show j < 3 * (S.w 4).toNat; omega))
    exact ⟨1, _, _, rfl, Or.inl rfl, c_I_set a2 f tb, c_F_t (c_F_rem a3) (c_F_ft f)⟩
theorem r_unqueue {h : q_F} {S : m_St} (hI : r_I h S) (hm : m_I S) : r_W (fn361 h) h (m_oUnq S) := by
  have hT : r_T h (q_ud h 139 7 0) := r_T_u r_T_r
  have r := (m_R0_ok hm.1.1).2.1
  have e : q_ud h 139 7 0 140 4 = S.w 4 := by rw [q_ud_n (by omega), hI.1]
  unfold m_oUnq fn361
  rw [m_let, e, fn361_22, fn361_22]
  by_cases c : S.w 4 = 0
  · rw [if_pos c, if_pos c]
    obtain ⟨h9, s1, s2⟩ := r_fails 1 1 (q_ud h 139 7 0)
    have hT := r_T_t hT s2
    rw [s1, Option.bind_some, if_neg (show ¬ (1 : Int) = 0 by decide)]
    exact ⟨_, _, rfl, r_I_T hI hT, r_T_F hT⟩
  · rw [if_neg c, if_neg c]
    obtain ⟨h9, s1, s2⟩ := r_fails 0 1 (q_ud h 139 7 0)
    have hT := r_T_t hT s2
    obtain ⟨h1, a1, a2, a3, a4⟩ := r_remember (r_I_T hI hT) hm.2.1.1
    have F := r_F_t (r_T_F hT) (r_F_rem a3 a4)
    have ew : h1 140 = S.w := a2.1
    rw [s1, Option.bind_some, if_pos rfl, a1, Option.bind_some]
    dsimp only
    rw [m_let, ew, q_w64_id (by omega) (by omega), m_ud_sr, ew, r_of (v := S.w 4 - 1) (by omega) (by omega) (by rw [m_sr_s]; exact m_u_s _ _ _) (by omega), Option.bind_some]
    exact ⟨_, _, rfl, r_I_set a2, r_F_t F (r_F_sr (by omega))⟩
