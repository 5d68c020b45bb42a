/-! Part 80: running, undoing, saving on both sides. -/
theorem m_sq_p {Q : (Nat → Int) → Prop} {f g : (Nat → Int) → Int × (Nat → Int)} (hf : ∀ w, Q w → Q (f w).2) (hg : ∀ w, Q w → Q (g w).2) (w : Nat → Int) (h : Q w) : Q (m_sq f g w).2 := by
  unfold m_sq; split
  · exact hf w h
  · exact hg _ (hf w h)
theorem m_ax_a3 {p : Nat → Int} {m a : Nat} {k : Int} (ok : m_ok p) (nn : m_nn p) (hm : (m : Int) < p 4) (h0 : 0 ≤ k) (h1 : k < m_l p m) (ha : a < 3) (w : Nat → Int) (h : m_a3 w) : m_a3 (m_ax p m k a w).2 := by
  have le := m_made_le ok nn hm ha h0 h1
  unfold m_ax
  by_cases hx : m_made p m a (k + 1) = m_made p m a k
  · rw [if_pos hx]; exact h
  · have hd : m_sg (m_d p m a) ≠ 0 := fun h9 => hx (le.2 h9)
    have g := m_step_a3 ha h (m_sg_r hd)
    rw [if_neg hx]
    dsimp only
    (repeat' split) <;> exact g
theorem m_ms_a3 {p : Nat → Int} {m : Nat} {k : Int} (ok : m_ok p) (nn : m_nn p) (hm : (m : Int) < p 4) (h0 : 0 ≤ k) (h1 : k < m_l p m) (w : Nat → Int) (h : m_a3 w) : m_a3 (m_ms p m k w).2 := by
  unfold m_ms
  exact m_sq_p (m_ax_a3 ok nn hm h0 h1 (by omega)) (fun w h => m_sq_p (m_ax_a3 ok nn hm h0 h1 (by omega)) (m_ax_a3 ok nn hm h0 h1 (by omega)) w h) _ (m_a3_u (m_a3_u (m_a3_u h (by omega)) (by omega)) (by omega))
theorem m_sl_a3 {p : Nat → Int} {m : Nat} (ok : m_ok p) (nn : m_nn p) (hm : (m : Int) < p 4) : ∀ (n : Nat) (k : Int) (w : Nat → Int), 0 ≤ k → k + n = m_l p m → m_a3 w → m_a3 (m_sl p m n k w).2 := by
  intro n
  induction n with
  | zero => intro k w _ _ h; exact h
  | succ n ih =>
    intro k w hk hn h
    unfold m_sl; split
    · exact m_ms_a3 ok nn hm hk (by omega) w h
    · exact ih _ _ (by omega) (by omega) (m_ms_a3 ok nn hm hk (by omega) w h)
theorem m_upl_a3 {a : Nat} {d : Int} (ha : a < 3) (hd : d = 1 ∨ d = -1) : ∀ (n : Nat) (w : Nat → Int), m_a3 w → m_a3 (m_upl a d n w).2 := by
  intro n
  induction n with
  | zero => intro w h; exact h
  | succ n ih =>
    intro w h
    unfold m_upl
    dsimp only
    have g := m_step_a3 (d := d) ha (m_a3_u (v := q_w64 (m_u w 5 (q_w64 (w 5 + q_ldv 1000000 (w 0))) (62 + a) + 1)) (j := 62 + a) (m_a3_u (v := q_w64 (w 5 + q_ldv 1000000 (w 0))) (j := 5) h (by omega)) (by omega)) hd
    split
    · exact ih _ g
    · split
      · exact g
      · exact ih _ g
theorem m_up_a3 {p : Nat → Int} {m a : Nat} (ha : a < 3) (w : Nat → Int) (h : m_a3 w) : m_a3 (m_up p m a w).2 := by
  unfold m_up
  by_cases c1 : m_sg (m_d p m a) = 0
  · rw [if_pos c1]; exact h
  · rw [if_neg c1]
    split
    · exact h
    · split
      · exact h
      · exact m_upl_a3 ha (m_sg_r c1) _ _ h
theorem m_rv_a3 {p : Nat → Int} {m a : Nat} (ha : a < 3) (w : Nat → Int) (h : m_a3 w) : m_a3 (m_rv p m a w) := by
  unfold m_rv; (repeat' split) <;> first | exact h | exact m_a3_u h (by omega)
theorem m_mm_a3 {p : Nat → Int} {m : Nat} (ok : m_ok p) (nn : m_nn p) (hm : (m : Int) < p 4) (w : Nat → Int) (h : m_a3 w) : m_a3 (m_mm p m w).2 := by
  have h16 := ok.2.1
  have l := m_l_r ok (m := m) (by omega)
  unfold m_mm
  exact m_sq_p (m_up_a3 (by omega)) (fun w h => m_sq_p (m_up_a3 (by omega)) (fun w h => m_sq_p (m_up_a3 (by omega)) (fun w h => m_sl_a3 ok nn hm _ 0 w (by omega) (by omega) h) w h) w h) _ (m_rv_a3 (by omega) _ (m_rv_a3 (by omega) _ (m_rv_a3 (by omega) _ h)))
theorem m_R0_co {w : Nat → Int} {m : Nat} (h : m_R0 w) (hm : m < 16) : m_R0 (m_co m w) := by
  have t : ∀ j, 74 ≤ j → j < 122 → 0 ≤ w j ∧ w j ≤ 2000 := (m_R0_ok h).2.2.2
  exact m_R0_v (m_R0_v (m_R0_v h (m_pv_47 (by omega) (t _ (by omega) (by omega))) (by omega)) (m_pv_47 (by omega) (t _ (by omega) (by omega))) (by omega)) (m_pv_47 (by omega) (t _ (by omega) (by omega))) (by omega)
theorem m_R0_fin {w : Nat → Int} {n : Nat} (h : m_R0 w) (hn : (n : Int) ≤ w 4) : m_R0 (m_fin n w) := by
  have ok := m_R0_ok h
  refine ⟨fun j hj => ?_, m_a3_fin h.2⟩
  unfold m_fin
  by_cases e : j = 4
  · subst e; rw [m_u_s]; exact m_pv_4 (by have := ok.2.1; omega)
  · rw [m_u_n e]; unfold m_cp
    split
    · exact m_pv_47 (by omega) (ok.2.2.2 _ (by omega) (by have := ok.2.1; omega))
    · exact h.1 j hj
theorem m_R0_mk {p : Nat → Int} (okp : m_ok p) (nnp : m_nn p) {n : Nat} (hn : (n : Int) ≤ p 4) : ∀ (d m : Nat) (w : Nat → Int), m + d = n → m_R0 w → w 4 = p 4 → m_R0 (m_mk p n d m w).2 := by
  have h16 := okp.2.1
  intro d
  induction d with
  | zero => intro m w hm h h4; unfold m_mk; exact m_R0_fin h (by omega)
  | succ d ih =>
    intro m w hm h h4
    unfold m_mk
    have hf := m_mm_fr (p := p) (m := m) w
    have g := m_R0_fr h hf (m_mm_a3 okp nnp (by omega) w h.2)
    split
    · exact m_R0_stops (m_R0_v g (m_pv_3 (by omega)) (by omega))
    · refine ih (m + 1) _ (by omega) (m_R0_co g (by omega)) ?_
      unfold m_co
      rw [m_u_n (by omega), m_u_n (by omega), m_u_n (by omega), hf 4 (by unfold m_dy; omega)]; exact h4
theorem m_RI_run {w : Nat → Int} (h : m_RI w) {n : Nat} (hn : (n : Int) ≤ w 4) : m_RI (m_run n w).2 :=
  ⟨m_R0_mk (m_R0_ok h.1) h.2 hn n 0 w (by omega) h.1 rfl, (m_run_ok (m_R0_ok h.1) h.2 hn).2⟩
theorem c_planned {h : q_F} {S : m_St} (hI : c_I h S) (hm : m_I S) : ∃ h', fn195 h = some (0, h') ∧ c_Plan h' S.w ∧ c_fp h h' ∧ c_I h' S := by
  have e : h 6 4 = S.w 0 := hI.1.2.1.1
  obtain ⟨h', g1, g2, g3⟩ := c_make (t := 6) (g := 13) (by omega) (by omega) (m_R0_ok hm.1.1) hm.1.2 (show c_src h 6 13 S.w from c_src_tb hI.1)
  exact ⟨h', by rw [fn195, e, g1, Option.bind_some], g2, g3, c_I_k hI hm.2.1.1 (fun k hk => g3 k (by omega)) (by rw [g3 0 (by omega)])⟩
noncomputable def m_oRun (n : Int) (S : m_St) : m_St := if 1 ≤ n ∧ n ≤ 16 then (if n ≤ S.w 4 then m_set (m_rem S) (m_run n.toNat S.w).2 else S) else S
theorem m_I_run {S : m_St} {n : Int} (h : m_I S) : m_I (m_oRun n S) := by
  unfold m_oRun; split
  · split
    · exact m_I_set (m_I_rem h) (m_RI_run h.1 (by omega))
    · exact h
  · exact h
theorem c_run2 {h : q_F} {S : m_St} {n : Nat} (hI : c_I h S) (hm : m_I S) (hn : (n : Int) ≤ S.w 4) : ∃ h1 h2 h3 v, fn67 6 h = some (0, h1) ∧ fn195 h1 = some (0, h2) ∧ h2 13 1 = S.w 4 ∧ fn138 6 n h2 = some (v, h3) ∧ c_I h3 (m_set (m_rem S) (m_run n S.w).2) ∧ c_F h h3 := by
  obtain ⟨h1, a1, a2, a3⟩ := c_remember hI hm
  obtain ⟨h2, b1, b2, b3, b4⟩ := c_planned a2 (m_I_rem hm)
  obtain ⟨h3, d1, d2, d3, d4⟩ := c_run (t := 6) (n := n) (w := S.w) (by omega) (m_R0_ok hm.1.1) hm.1.2 hm.1.1.2 ((hm.1.1.1 2 (by omega)).2.1 (by omega)) hn b4.1 b2
  exact ⟨h1, h2, h3, _, a1, b1, b4.1.2.2.1, d1, c_I_set b4 d3 d2, c_F_t (c_F_rem a3) (c_F_t (c_F_fp b3) (c_F_ft d3))⟩
theorem c_runC {h : q_F} {S : m_St} {n : Int} (hI : c_I h S) (hm : m_I S) : c_E (fn207 n h) h (m_oRun n S) (fun k => k = 1 ∨ k = 2 ∨ k = 5) := by
  have e : h 13 1 = S.w 4 := hI.1.2.2.1
  unfold m_oRun fn207 fn207_11
  by_cases c : 1 ≤ n ∧ n ≤ 16
  · rw [if_neg (show ¬ n < 1 by omega), if_pos c.2, if_pos c]
    by_cases c2 : n ≤ S.w 4
    · rw [if_pos (by omega), if_pos c2]
      obtain ⟨k, rfl⟩ : ∃ k : Nat, n = k := ⟨n.toNat, by omega⟩
      obtain ⟨h1, h2, h3, v, a, b, -, d, i, f⟩ := c_run2 hI hm c2
      rw [a, Option.bind_some, b, Option.bind_some, d, Option.bind_some]
      exact ⟨1, _, h3, rfl, Or.inl rfl, i, f⟩
    · rw [if_neg (by omega), if_neg c2]
      exact ⟨5, 0, h, rfl, Or.inr (Or.inr rfl), hI, c_F_r⟩
  · rw [if_neg c]
    refine ⟨2, 0, h, ?_, Or.inr (Or.inl rfl), hI, c_F_r⟩
    (repeat' split) <;> first | rfl | omega
theorem r_run2 {h : q_F} {S : m_St} {n : Nat} (hI : r_I h S) (hm : m_I S) (hn : (n : Int) ≤ S.w 4) : ∃ h1 h2 v, fn320 h = some (0, h1) ∧ h1 140 = S.w ∧ fn287 n h1 = some (v, h2) ∧ r_I h2 (m_set (m_rem S) (m_run n S.w).2) ∧ r_F h h2 := by
  obtain ⟨h1, a1, a2, a3, a4⟩ := r_remember hI hm.2.1.1
  have F := r_F_rem a3 a4
  have ew : h1 140 = S.w := a2.1
  obtain ⟨h2, b1, b2, b3⟩ := fn287_m ew (m_R0_ok hm.1.1) hm.1.2 hn
  refine ⟨h1, h2, _, a1, ew, b1, ⟨b2, ⟨?_, ?_⟩, ?_, ?_⟩, r_F_t F (r_F_fq b3)⟩
  · rw [b3 139 (by omega) (by omega)]; exact a2.2.1.1
  · rw [b3 144 (by omega) (by omega)]; exact a2.2.1.2
  · rw [b3 139 (by omega) (by omega)]; exact a2.2.2.1
  · rw [b3 143 (by omega) (by omega)]; exact a2.2.2.2
theorem r_runC {h : q_F} {S : m_St} {n : Int} (hI : r_I h S) (hm : m_I S) : r_W (fn324 n h) h (m_oRun n S) := by
  have hT : r_T h (q_ud h 139 7 0) := r_T_u r_T_r
  unfold m_oRun fn324
  rw [m_let, r_rng, Option.bind_some]
  by_cases c : 1 ≤ n ∧ n ≤ 16
  · rw [if_pos c, if_neg (by decide), if_pos c, fn324_23]
    obtain ⟨h0, t1, t2⟩ := r_fails 0 1 (q_ud h 139 7 0)
    have hT2 := r_T_t hT t2
    have e4 : h0 140 4 = S.w 4 := by rw [(r_I_T hI hT2).1]
    rw [t1, Option.bind_some, if_pos rfl]
    dsimp only
    by_cases c2 : n ≤ S.w 4
    · rw [if_pos (show n ≤ h0 140 4 by omega), if_pos c2, fn324_48]
      obtain ⟨h9, s1, s2⟩ := r_fails 0 2 h0
      have hT3 := r_T_t hT2 s2
      obtain ⟨k, rfl⟩ : ∃ k : Nat, n = k := ⟨n.toNat, by omega⟩
      obtain ⟨h1, h2, v, a, -, b, i, f⟩ := r_run2 (r_I_T hI hT3) hm c2
      rw [s1, Option.bind_some, if_pos rfl, a, Option.bind_some, b, Option.bind_some]
      exact ⟨_, h2, rfl, i, r_F_t (r_T_F hT3) f⟩
    · rw [if_neg (show ¬ n ≤ h0 140 4 by omega), if_neg c2, fn324_48]
      obtain ⟨h9, s1, s2⟩ := r_fails 1 2 h0
      have hT3 := r_T_t hT2 s2
      rw [s1, Option.bind_some, if_neg (show ¬ (1 : Int) = 0 by decide)]
      exact ⟨_, _, rfl, r_I_T hI hT3, r_T_F hT3⟩
  · rw [if_neg c, if_pos rfl, if_neg c, fn324_23]
    obtain ⟨h0, t1, t2⟩ := r_fails 1 1 (q_ud h 139 7 0)
    have hT2 := r_T_t hT t2
    rw [t1, Option.bind_some, if_neg (show ¬ (1 : Int) = 0 by decide)]
    exact ⟨_, _, rfl, r_I_T hI hT2, r_T_F hT2⟩
noncomputable def m_oRunAll (S : m_St) : m_St := m_set (m_rem S) (m_run (S.w 4).toNat S.w).2
theorem m_I_runAll {S : m_St} (h : m_I S) : m_I (m_oRunAll S) := m_I_set (m_I_rem h) (m_RI_run h.1 (by have := (m_R0_ok h.1.1).2.1; omega))
theorem c_runAll {h : q_F} {S : m_St} (hI : c_I h S) (hm : m_I S) : c_W (fn208 h) h (m_oRunAll S) := by
  have r := (m_R0_ok hm.1.1).2.1
  obtain ⟨h1, h2, h3, v, a, b, e, d, i, f⟩ := c_run2 (n := (S.w 4).toNat) hI hm (by omega)
  refine ⟨v, h3, ?_, i, f⟩
  rw [fn208, a, Option.bind_some, b, Option.bind_some]
  dsimp only
  rw [e, show S.w 4 = ((S.w 4).toNat : Int) by omega, d, Option.bind_some]
theorem r_runAll {h : q_F} {S : m_St} (hI : r_I h S) (hm : m_I S) : r_W (fn325 h) h (m_oRunAll S) := by
  have hT : r_T h (q_ud h 139 7 0) := r_T_u r_T_r
  have r := (m_R0_ok hm.1.1).2.1
  obtain ⟨h1, h2, v, a, ew, b, i, f⟩ := r_run2 (n := (S.w 4).toNat) (r_I_T hI hT) hm (by omega)
  refine ⟨v, h2, ?_, i, r_F_t (r_T_F hT) f⟩
  rw [fn325, m_let, a, Option.bind_some]
  dsimp only
  rw [r_of (v := S.w 4) (by omega) (by omega) (by rw [ew]; rfl) (by omega), Option.bind_some, show S.w 4 = ((S.w 4).toNat : Int) by omega, b, Option.bind_some]
-- undo
def m_lay2 (u w : Nat → Int) : Nat → Int := fun j => if j < 122 then u j else w j
theorem m_lay2_e {u w : Nat → Int} {j : Nat} (hj : j < 122) : m_lay2 u w j = u j := by unfold m_lay2; rw [if_pos hj]
def m_oUndo (S : m_St) : m_St := if S.n = 0 then S else m_mkS (m_lay2 (S.P (S.n - 1)) S.w) (S.n - 1) S.P S.sv S.ws
theorem m_I_undo {S : m_St} (h : m_I S) : m_I (m_oUndo S) := by
  unfold m_oUndo; split
  · exact h
  · exact ⟨m_RI_c (h.2.1.2 (S.n - 1) (by omega)) (fun j hj => m_lay2_e hj), ⟨by show S.n - 1 ≤ 10; have := h.2.1.1; omega, fun k hk => h.2.1.2 k (by have hk' : k < S.n - 1 := hk; omega)⟩, h.2.2.1, h.2.2.2⟩
theorem c_undo {h : q_F} {S : m_St} (hI : c_I h S) (hm : m_I S) : c_W (fn228 h) h (m_oUndo S) := by
  obtain ⟨h1, ⟨h2, h3, h4, h5⟩, h6, h7⟩ := hI
  have n10 := hm.2.1.1
  unfold m_oUndo fn228
  rw [h2]
  by_cases c : S.n = 0
  · rw [if_pos (by omega), if_pos c]
    exact ⟨-1, h, rfl, ⟨h1, ⟨h2, h3, h4, h5⟩, h6, h7⟩, c_F_r⟩
  · rw [if_neg (by omega), if_neg c]
    obtain ⟨x, hx⟩ : ∃ x : Nat, h 33 2 = (x : Int) := ⟨(h 33 2).toNat, by omega⟩
    rw [hx] at h3 h4 h5
    rw [Int.toNat_natCast] at h5
    have src := h5 (S.n - 1) (by omega)
    rw [show (x + 10 - S.n + (S.n - 1)) % 10 = (x + 9) % 10 by omega] at src
    have ok := hm.2.1.2 (S.n - 1) (by omega)
    obtain ⟨g, g1, g2, g3⟩ := c_copy (t := 6) (t1 := 35 + 9 * ((x + 9) % 10)) (by omega) src (m_R0_ok ok.1).2.1
    have ei : q_irm (q_w32 (q_w32 (h 33 2 + 10) - 1)) 10 = (((x + 9) % 10 : Nat) : Int) := by
      rw [hx, q_w32_id (z := (x : Int) + 10) (by omega) (by omega), q_w32_id (by omega) (by omega), m_irm (by omega) (by omega) (by omega) (by omega)]; omega
    have es : q_slot (((x + 9) % 10 : Nat) : Int) = 35 + 9 * ((x + 9) % 10) := rfl
    have k33 : g 33 = h 33 := g3 33 (by omega)
    rw [fn69, ei, if_pos (by omega), if_neg (by omega), es, g1, Option.bind_some, m_let, m_let, q_ud_n (show ¬ (33 = 33 ∧ 1 = 2) by omega)]
    dsimp only
    rw [k33, h2, q_w32_id (by omega) (by omega), Option.bind_some]
    dsimp only
    have R : c_I (q_ud (q_ud g 33 2 (((x + 9) % 10 : Nat) : Int)) 33 1 ((S.n : Int) - 1)) (m_mkS (m_lay2 (S.P (S.n - 1)) S.w) (S.n - 1) S.P S.sv S.ws) := by
      refine ⟨?_, ⟨?_, ?_, ?_, fun k hk => ?_⟩, ?_, fun hs => ?_⟩
      · exact c_tb_k (c_tb_c g2 (m_R0_ok ok.1).2.1.2 (fun j hj => m_lay2_e hj)) fun k k1 k2 => by funext j; rw [q_ud_n (by omega), q_ud_n (by omega)]
      · rw [q_ud_s]; show (S.n : Int) - 1 = ((S.n - 1 : Nat) : Int); omega
      · rw [q_ud_n (by omega), q_ud_s]; omega
      · rw [q_ud_n (by omega), q_ud_s]; omega
      · have hk' : k < S.n - 1 := hk
        rw [q_ud_n (show ¬ (33 = 33 ∧ 2 = 1) by omega), q_ud_s, Int.toNat_natCast]
        show c_tb _ (35 + 9 * (((x + 9) % 10 + 10 - (S.n - 1) + k) % 10)) (S.P k)
        have := h5 k (by omega)
        rw [show (x + 10 - S.n + k) % 10 = ((x + 9) % 10 + 10 - (S.n - 1) + k) % 10 by omega] at this
        exact c_tb_k this fun k k1 k2 => by funext j; rw [q_ud_n (by omega), q_ud_n (by omega), g3 k (by omega)]
      · rw [q_ud_n (by omega), q_ud_n (by omega), g3 0 (by omega)]; exact h6
      · exact c_tb_k (h7 hs) fun k k1 k2 => by funext j; rw [q_ud_n (by omega), q_ud_n (by omega), g3 k (by omega)]
    exact ⟨_, _, rfl, R, fun k hk => by funext j; rw [q_ud_n (by omega), q_ud_n (by omega), g3 k (by omega)]⟩
theorem r_undo {h : q_F} {S : m_St} (hI : r_I h S) (hm : m_I S) : r_W (fn360 h) h (m_oUndo S) := by
  have hT : r_T h (q_ud h 139 7 0) := r_T_u r_T_r
  have hI0 := r_I_T hI hT
  obtain ⟨h1, ⟨h2, h3⟩, h4, h5⟩ := hI0
  have n10 := hm.2.1.1
  unfold m_oUndo fn360
  rw [m_let, h2]
  by_cases c : S.n = 0
  · rw [if_pos (by omega), if_pos c]
    exact ⟨-1, _, rfl, r_I_T hI hT, r_T_F hT⟩
  · rw [if_neg (by omega), if_neg c, m_let]
    generalize hg : q_ud h 139 7 0 = g at h1 h2 h3 h4 h5 hT ⊢
    rw [q_ud_s, q_w32_id (z := (S.n : Int) - 1) (by omega) (by omega), q_w32_id (by omega) (by omega), fn249_i (by omega) (by omega) (by omega) (by omega) (by omega) (by omega) (by omega) (by omega), Option.bind_some]
    rw [show (122 * ((S.n : Int) - 1)).toNat = 122 * (S.n - 1) by omega, show (0 : Int).toNat = 0 from rfl, show (122 : Int).toNat = 122 from rfl]
    have er : m_cp (q_ud g 139 5 ((S.n : Int) - 1) 144) (q_ud g 139 5 ((S.n : Int) - 1) 140) (122 * (S.n - 1)) 0 122 = m_lay2 (S.P (S.n - 1)) S.w := by
      funext j
      unfold m_cp m_lay2
      by_cases e : j < 122
      · rw [if_pos (by omega), if_pos e, q_ud_n (by omega), ← h3 (S.n - 1) (by omega) j e]; congr 1
      · rw [if_neg (by omega), if_neg e, q_ud_n (by omega), h1]
    rw [er]
    dsimp only
    refine ⟨_, _, rfl, ⟨m_sr_s _ _ _, ⟨?_, fun k hk j hj => ?_⟩, ?_, fun hs j hj => ?_⟩, r_F_t (r_T_F hT) (r_F_t (r_F_ud (by omega)) (r_F_sr (by omega)))⟩
    · rw [m_sr_n (by omega), q_ud_s]; show (S.n : Int) - 1 = ((S.n - 1 : Nat) : Int); omega
    · rw [m_sr_n (by omega), q_ud_n (by omega)]; exact h3 k (by have hk' : k < S.n - 1 := hk; omega) j hj
    · rw [m_sr_n (by omega), q_ud_n (by omega)]; exact h4
    · rw [m_sr_n (by omega), q_ud_n (by omega)]; exact h5 hs j hj
-- saveState, restoreState
def m_oSave (S : m_St) : m_St := m_mkS S.w S.n S.P 1 S.w
theorem m_I_save {S : m_St} (h : m_I S) : m_I (m_oSave S) := ⟨h.1, h.2.1, Or.inr rfl, fun _ => h.1⟩
theorem c_save {h : q_F} {S : m_St} (hI : c_I h S) (hm : m_I S) : c_W (fn209 h) h (m_oSave S) := by
  obtain ⟨h1, ⟨h2, h3, h4, h5⟩, h6, h7⟩ := hI
  obtain ⟨g, g1, g2, g3⟩ := c_copy (t := 15) (t1 := 6) (by omega) h1 (m_R0_ok hm.1.1).2.1
  refine ⟨_, q_ud g 0 9 1, by rw [fn209, g1, Option.bind_some, m_let], ⟨?_, ⟨?_, ?_, ?_, fun k hk => ?_⟩, q_ud_s _ _ _ _, fun _ => ?_⟩, fun k hk => by funext j; rw [q_ud_n (by omega), g3 k (by omega)]⟩
  · exact c_tb_k h1 fun k k1 k2 => by funext j; rw [q_ud_n (by omega), g3 k (by omega)]
  · rw [q_ud_n (by omega), g3 33 (by omega)]; exact h2
  · rw [q_ud_n (by omega), g3 33 (by omega)]; exact h3
  · rw [q_ud_n (by omega), g3 33 (by omega)]; exact h4
  · rw [q_ud_n (by omega), g3 33 (by omega)]
    exact c_tb_k (h5 k hk) fun k k1 k2 => by funext j; rw [q_ud_n (by omega), g3 k (by omega)]
  · exact c_tb_k g2 fun k k1 k2 => by funext j; rw [q_ud_n (by omega)]
theorem r_save {h : q_F} {S : m_St} (hI : r_I h S) (hm : m_I S) : r_W (fn326 h) h (m_oSave S) := by
  have hT : r_T h (q_ud h 139 7 0) := r_T_u r_T_r
  have r := (m_R0_ok hm.1.1).2.1
  obtain ⟨h1, ⟨h2, h3⟩, h4, h5⟩ := r_I_T hI hT
  unfold fn326
  rw [m_let]
  generalize hg : q_ud h 139 7 0 = g at h1 h2 h3 h4 h5 hT ⊢
  rw [fn249_i (by omega) (by omega) (by omega) (by omega) (by omega) (by omega) (by omega) (by omega), Option.bind_some, m_let]
  dsimp only
  rw [show (0 : Int).toNat = 0 from rfl, show (122 : Int).toNat = 122 from rfl, r_of (v := S.w 4) (by omega) (by omega) (by rw [q_ud_n (by omega), m_sr_n (by omega), h1]; rfl) (by omega), Option.bind_some]
  refine ⟨_, _, rfl, ⟨?_, ⟨?_, ?_⟩, q_ud_s _ _ _ _, fun hs j hj => ?_⟩, r_F_t (r_T_F hT) (r_F_t (r_F_sr (by omega)) (r_F_ud (by omega)))⟩
  · funext j; rw [q_ud_n (by omega), m_sr_n (by omega), h1]; rfl
  · rw [q_ud_n (by omega), m_sr_n (by omega)]; exact h2
  · intro k hk j hj
    rw [q_ud_n (by omega), m_sr_n (by omega)]; exact h3 k hk j hj
  · rw [q_ud_n (by omega), m_sr_s]; unfold m_cp; rw [if_pos (by omega), h1]; show S.w _ = S.w j; congr 1; omega
def m_oRest (S : m_St) : m_St := if S.sv = 0 then S else m_mkS (m_lay2 S.ws S.w) 0 S.P S.sv S.ws
theorem m_I_rest {S : m_St} (h : m_I S) : m_I (m_oRest S) := by
  unfold m_oRest; split
  · exact h
  · rename_i c
    exact ⟨m_RI_c (h.2.2.2 c) (fun j hj => m_lay2_e hj), ⟨Nat.zero_le _, fun k hk => absurd hk (Nat.not_lt_zero k)⟩, h.2.2.1, h.2.2.2⟩
theorem c_rest {h : q_F} {S : m_St} (hI : c_I h S) (hm : m_I S) : c_E (fn206 h) h (m_oRest S) (fun k => k = 1 ∨ k = 4) := by
  obtain ⟨h1, ⟨h2, h3, h4, h5⟩, h6, h7⟩ := hI
  unfold m_oRest fn206
  rw [h6]
  by_cases c : S.sv = 0
  · rw [if_pos c, if_pos c]
    exact ⟨4, 0, h, rfl, Or.inr rfl, ⟨h1, ⟨h2, h3, h4, h5⟩, h6, h7⟩, c_F_r⟩
  · rw [if_neg c, if_neg c]
    have ok := hm.2.2.2 c
    obtain ⟨g, g1, g2, g3⟩ := c_copy (t := 6) (t1 := 15) (by omega) (h7 c) (m_R0_ok ok.1).2.1
    rw [g1, Option.bind_some, fn65, m_let, Option.bind_some]
    refine ⟨1, _, q_ud g 33 1 0, rfl, Or.inl rfl, ⟨?_, ⟨q_ud_s _ _ _ _, ?_, ?_, fun k hk => absurd hk (Nat.not_lt_zero k)⟩, ?_, fun _ => ?_⟩, fun k hk => by funext j; rw [q_ud_n (by omega), g3 k (by omega)]⟩
    · exact c_tb_k (c_tb_c g2 (m_R0_ok ok.1).2.1.2 (fun j hj => m_lay2_e hj)) fun k k1 k2 => by funext j; rw [q_ud_n (by omega)]
    · rw [q_ud_n (by omega), g3 33 (by omega)]; exact h3
    · rw [q_ud_n (by omega), g3 33 (by omega)]; exact h4
    · rw [q_ud_n (by omega), g3 0 (by omega)]; exact h6
    · exact c_tb_k (h7 c) fun k k1 k2 => by funext j; rw [q_ud_n (by omega), g3 k (by omega)]
theorem r_rest {h : q_F} {S : m_St} (hI : r_I h S) (hm : m_I S) : r_W (fn322 h) h (m_oRest S) := by
  have hT : r_T h (q_ud h 139 7 0) := r_T_u r_T_r
  have e6 : q_ud h 139 7 0 139 6 = S.sv := (r_I_T hI hT).2.2.1
  unfold m_oRest fn322
  rw [m_let, e6]
  by_cases c : S.sv = 0
  · rw [if_pos c, if_pos c, fn322_18]
    obtain ⟨h0, t1, t2⟩ := r_fails 1 1 (q_ud h 139 7 0)
    have hT2 := r_T_t hT t2
    rw [t1, Option.bind_some, if_neg (show ¬ (1 : Int) = 0 by decide)]
    exact ⟨_, _, rfl, r_I_T hI hT2, r_T_F hT2⟩
  · rw [if_neg c, if_neg c, fn322_18]
    obtain ⟨g, t1, t2⟩ := r_fails 0 1 (q_ud h 139 7 0)
    have hT2 := r_T_t hT t2
    obtain ⟨h1, ⟨h2, h3⟩, h4, h5⟩ := r_I_T hI hT2
    have ok := hm.2.2.2 c
    have r := (m_R0_ok ok.1).2.1
    have er : m_cp (g 143) (g 140) 0 0 122 = m_lay2 S.ws S.w := by
      funext j
      unfold m_cp m_lay2
      by_cases e : j < 122
      · rw [if_pos (by omega), if_pos e, ← h5 c j e]; congr 1; omega
      · rw [if_neg (by omega), if_neg e, h1]
    rw [t1, Option.bind_some, if_pos rfl]
    dsimp only
    rw [fn249_i (by omega) (by omega) (by omega) (by omega) (by omega) (by omega) (by omega) (by omega), Option.bind_some, m_let]
    dsimp only
    rw [show (0 : Int).toNat = 0 from rfl, show (122 : Int).toNat = 122 from rfl, er, r_of (v := S.ws 4) (by omega) (by omega) (by rw [q_ud_n (by omega), m_sr_s]; exact m_lay2_e (by omega)) (by omega), Option.bind_some]
    refine ⟨_, _, rfl, ⟨?_, ⟨q_ud_s _ _ _ _, fun k hk => absurd hk (Nat.not_lt_zero k)⟩, ?_, fun hs j hj => ?_⟩, r_F_t (r_T_F hT2) (r_F_t (r_F_sr (h := g) (k := 140) (by omega)) (r_F_ud (by omega)))⟩
    · funext j; rw [q_ud_n (by omega), m_sr_s]; rfl
    · rw [q_ud_n (by omega), m_sr_n (by omega)]; exact h4
    · rw [q_ud_n (by omega), m_sr_n (by omega)]; exact h5 hs j hj
