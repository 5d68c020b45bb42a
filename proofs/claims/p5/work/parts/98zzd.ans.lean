/-! Part 98zzd: what is gone through in thought, on both sides; trueBehind, wouldErr, wouldLose. -/
theorem a_beg2 {p : Nat → Int} {v : Int} : m_beg (m_u p 2 v) = m_beg p := by
  funext m a; unfold m_beg; split <;> exact m_u_n (by omega)
theorem a_d2 {p : Nat → Int} {v : Int} : m_d (m_u p 2 v) = m_d p := by
  funext m a; unfold m_d; rw [a_beg2]
theorem a_l2 {p : Nat → Int} {v : Int} : m_l (m_u p 2 v) = m_l p := by
  funext m; unfold m_l; rw [a_d2]
theorem a_cf2 {p : Nat → Int} {v : Int} {k : Nat} (hk : 3 ≤ k) : m_cf (m_u p 2 v) k = m_cf p k := by
  funext m a c; unfold m_cf; rw [a_d2, a_l2, m_u_n (show k + a ≠ 2 by omega)]
theorem a_c2 {p : Nat → Int} {v : Int} {k : Nat} (hk : 3 ≤ k) : m_c (m_u p 2 v) k = m_c p k := by
  funext m; unfold m_c; rw [a_cf2 hk]
theorem a_str2 {p : Nat → Int} {v : Int} : m_str (m_u p 2 v) = m_str p := by
  funext m; unfold m_str; rw [a_d2, a_l2, m_u_n (show 4 ≠ 2 by decide)]
theorem a_b02 {p : Nat → Int} {v : Int} : m_b0 (m_u p 2 v) = m_b0 p := by
  funext m; unfold m_b0; rw [a_c2 (by omega), a_str2, m_u_n (show 0 ≠ 2 by decide), m_u_n (show 4 ≠ 2 by decide)]
theorem a_b1r2 {p : Nat → Int} {v : Int} {n : Nat} : ∀ d, m_b1r (m_u p 2 v) n d = m_b1r p n d := by
  intro d
  induction d with
  | zero => rw [m_b1r, m_b1r, a_b02]
  | succ d ih => rw [m_b1r, m_b1r, ih, a_b02, a_c2 (by omega), a_l2]
theorem a_b12 {p : Nat → Int} {v : Int} : m_b1 (m_u p 2 v) = m_b1 p := by
  funext m; unfold m_b1; rw [m_u_n (show 4 ≠ 2 by decide), a_b1r2]
theorem a_b2 {p : Nat → Int} {v : Int} : ∀ m, m_b (m_u p 2 v) m = m_b p m := by
  intro m
  induction m with
  | zero => rw [m_b, m_b, a_b12]
  | succ m ih => rw [m_b, m_b, ih, a_b12, a_c2 (by omega), a_l2]
theorem a_sp2 {p : Nat → Int} {v : Int} : m_sp (m_u p 2 v) = m_sp p := by
  funext m k; unfold m_sp; rw [a_c2 (k := 14) (by omega), a_c2 (k := 17) (by omega), a_b2, a_b2, a_l2]
theorem a_t2 {p : Nat → Int} {v : Int} : m_t (m_u p 2 v) = m_t p := by
  funext m k; unfold m_t; rw [a_sp2]
theorem a_made2 {p : Nat → Int} {v : Int} : m_made (m_u p 2 v) = m_made p := by
  funext m a k; unfold m_made; rw [a_d2, a_l2]
theorem a_ax2 {p : Nat → Int} {v : Int} : m_ax (m_u p 2 v) = m_ax p := by
  funext m k a w; unfold m_ax; rw [a_made2, a_d2]
theorem a_tk2 {p : Nat → Int} {v : Int} : m_tk (m_u p 2 v) = m_tk p := by
  funext m k w; unfold m_tk; rw [a_t2]
theorem a_ms2 {p : Nat → Int} {v : Int} : m_ms (m_u p 2 v) = m_ms p := by
  funext m k w; unfold m_ms; rw [a_ax2, a_tk2]
theorem a_rv2 {p : Nat → Int} {v : Int} : m_rv (m_u p 2 v) = m_rv p := by
  funext m a w; unfold m_rv; rw [a_d2]
theorem a_up2 {p : Nat → Int} {v : Int} : m_up (m_u p 2 v) = m_up p := by
  funext m a w; unfold m_up; rw [a_d2]
theorem a_sl2 {p : Nat → Int} {v : Int} : m_sl (m_u p 2 v) = m_sl p := by
  funext m n
  induction n with
  | zero => funext k w; rw [m_sl, m_sl]
  | succ n ih => funext k w; rw [m_sl, m_sl, ih, a_ms2]
theorem a_mm2 {p : Nat → Int} {v : Int} : m_mm (m_u p 2 v) = m_mm p := by
  funext m w; unfold m_mm; rw [a_up2, a_rv2, a_l2, a_sl2]
theorem a_mk2 {p : Nat → Int} {v : Int} {n : Nat} : m_mk (m_u p 2 v) n = m_mk p n := by
  funext d
  induction d with
  | zero => funext m w; rw [m_mk, m_mk]
  | succ d ih => funext m w; rw [m_mk, m_mk, ih, a_mm2]
theorem a_at0 {p : Nat → Int} : a_at p (m_u p 2 0) 0 :=
  ⟨m_u_s _ _ _, m_u_n (by omega), m_u_n (by omega), fun a ha => m_u_n (by omega), fun a ha => by rw [m_dir]; exact m_u_n (by omega)⟩
/-- the first moves made in thought: the reference -/
theorem a_think {g : q_F} {S : m_St} {n : Nat} (hA : r_A g S S.w) (hm : m_I S) (hn : (n : Int) ≤ S.w 4) : ∃ g' w', m_mk S.w n n 0 (m_u S.w 2 0) = ((n : Int), w') ∧ fn351 n g = some (a_TT S.w 0 n, g') ∧ r_A g' S w' ∧ g' 139 7 = g 139 7 := by
  have ok := m_R0_ok hm.1.1
  have nn := hm.1.2
  have ok1 : m_ok (m_u S.w 2 0) := m_u_ok ok (by omega)
  have nn1 : m_nn (m_u S.w 2 0) := m_nn_u nn (by omega)
  obtain ⟨w', x1, x2, x3⟩ := a_mk0 ok nn hn n 0 (m_u S.w 2 0) (by omega) a_at0
  obtain ⟨A1, F1⟩ := r_A_sr (u' := m_u S.w 2 0) hA (fun j hj => m_u_n (by omega))
  obtain ⟨h', b1, b2, b3⟩ := fn287_m A1.1 ok1 nn1 (n := n) (by rw [m_u_n (by omega)]; exact hn)
  have e : m_run n (m_u S.w 2 0) = ((n : Int), w') := by unfold m_run; rw [a_mk2]; exact x1
  rw [e] at b1 b2
  obtain ⟨A2, F2⟩ := r_A_fq (u' := w') A1 b3 b2 (fun j hj => by have := m_run_hi (w := m_u S.w 2 0) (n := n) ok1.2.1 hj; rw [e] at this; exact this)
  have T := a_TT_r ok nn n 0 (by omega)
  have r := ok.2.1
  refine ⟨h', w', x1, ?_, A2, ?_⟩
  · have v : q_w64 (w' 5 - S.w 5) = a_TT S.w 0 n := by
      refine a_cg_v ?_ (by omega) (by omega)
      obtain ⟨c, hc⟩ := x3
      rw [m_u_n (by omega)] at hc
      exact ⟨c, by omega⟩
    unfold fn351
    rw [m_let, m_ud_sr, hA.1, b1, Option.bind_some]
    dsimp only
    rw [if_pos rfl, b2, m_sr_s, m_u_n (show 5 ≠ 2 by decide), v]
  · rw [b3 139 (by omega) (by omega), m_sr_n (by omega)]
theorem a_A_b {h : q_F} {S : m_St} (hI : r_I h S) : ∃ g, fn241 h = some (0, g) ∧ r_A g S S.w ∧ g 139 7 = h 139 7 := by
  obtain ⟨g, a1, a2, a3⟩ := r_A_b hI
  have e : g = m_sr h 142 (m_cp (h 140) (h 142) 0 0 122) := congrArg Prod.snd (a_i a1 r_begins)
  exact ⟨g, a1, a2, by rw [e, m_sr_n (by omega)]⟩
theorem a_A_e {g : q_F} {S : m_St} {u : Nat → Int} (hA : r_A g S u) : ∃ g', fn253 g = some (0, g') ∧ r_I g' S ∧ g' 139 7 = g 139 7 := by
  obtain ⟨g', a1, a2, a3⟩ := r_A_e hA
  have e : g' = m_sr g 140 S.w := congrArg Prod.snd (a_i a1 (r_ends (w := S.w) hA.2.1 (fun j hj => by rw [hA.1]; exact hA.2.2.1 j hj)))
  exact ⟨g', a1, a2, by rw [e, m_sr_n (by omega)]⟩
/-- the first moves made in thought: the class -/
theorem a_fore {h : q_F} {S : m_St} (hI : c_I h S) (hm : m_I S) : ∃ h' w', m_mk S.w (S.w 4).toNat (S.w 4).toNat 0 (m_u S.w 2 0) = (((S.w 4).toNat : Int), w') ∧ fn179 h = some (0, h') ∧ c_tb h' 24 w' ∧ m_a3 w' ∧ c_I h' S := by
  have ok := m_R0_ok hm.1.1
  have r := ok.2.1
  obtain ⟨w', y1, y2, y3⟩ := a_mk0 ok hm.1.2 (n := (S.w 4).toNat) (by omega) (S.w 4).toNat 0 (m_u S.w 2 0) (by omega) a_at0
  obtain ⟨h1, a1, a2, a3⟩ := c_copy (t := 24) (t1 := 6) (by omega) hI.1 r
  have f2 : c_ft 24 h (q_ud h1 24 6 0) := c_ft_u a3 (by omega) (by omega)
  have tb : c_tb (q_ud h1 24 6 0) 24 (m_u S.w 2 0) := c_tb_u (j := 6) (by omega) a2
  have I2 := c_I_24 hI hm.2.1.1 f2
  obtain ⟨h3, b1, b2, b3, b4⟩ := c_planned I2 hm
  have tb3 : c_tb h3 24 (m_u S.w 2 0) := c_tb_k tb fun k k1 k2 => b3 k (by omega)
  have e4 : h3 13 1 = S.w 4 := b4.1.2.2.1
  obtain ⟨h4, d1, d2, d3, d4⟩ := c_mk (t := 24) (n := (S.w 4).toNat) (p := S.w) (by omega) ok hm.1.2 (by omega) (S.w 4).toNat 0 q_fu h3 (m_u S.w 2 0) (by omega) (by have := q_fu_ge; omega) ⟨tb3, b2, m_a3_u hm.1.1.2 (by omega), ⟨m_ok_row (m_u_ok ok (by omega)), m_u_n (by omega)⟩, Or.inl (m_u_s _ _ _)⟩ ⟨by rw [m_u_n (by omega)]; exact ok.1, fun a ha => by rw [m_u_n (by omega)]; unfold m_beg; rw [if_pos rfl], fun j hj => m_u_n (by omega)⟩
  rw [y1] at d1 d2 d4
  refine ⟨h4, w', y1, ?_, d2, d4, c_I_24 b4 hm.2.1.1 d3⟩
  rw [fn179, a1, Option.bind_some, m_let, b1, Option.bind_some]
  dsimp only
  rw [e4, show S.w 4 = ((S.w 4).toNat : Int) by omega]
  have d5 : fn138 24 ((S.w 4).toNat : Int) h3 = some (((S.w 4).toNat : Int), h4) := d1
  rw [d5, Option.bind_some]
/-- the whole queue in thought, on both sides -/
theorem a_thought {h h1 : q_F} {S : m_St} (hI : c_I h S) (hR : r_I h1 S) (hm : m_I S) : ∃ h' g1 g2 w' T, fn179 h = some (0, h') ∧ c_tb h' 24 w' ∧ m_a3 w' ∧ fn241 h1 = some (0, g1) ∧ fn303 4 g1 = some (S.w 4) ∧ fn351 (S.w 4) g1 = some (T, g2) ∧ 0 ≤ T ∧ r_A g2 S w' ∧ g2 139 7 = h1 139 7 := by
  have ok := m_R0_ok hm.1.1
  have r := ok.2.1
  obtain ⟨h', w', a1, a2, a3, a4, -⟩ := a_fore hI hm
  obtain ⟨g1, b1, b2, b3⟩ := a_A_b hR
  obtain ⟨g2, w2, d1, d2, d3, d4⟩ := a_think (n := (S.w 4).toNat) b2 hm (by omega)
  have ew : w2 = w' := congrArg Prod.snd (d1.symm.trans a1)
  rw [ew] at d3
  have T := a_TT_r ok hm.1.2 (S.w 4).toNat 0 (by omega)
  refine ⟨h', g1, g2, w', a_TT S.w 0 (S.w 4).toNat, a2, a3, a4, b1, r_of4 b2.1 r, ?_, T.1, d3, d4.trans b3⟩
  rw [show ((S.w 4).toNat : Int) = S.w 4 by omega] at d2
  exact d2
theorem a_rA {g : q_F} {S : m_St} {u : Nat → Int} {j : Nat} {z : Int} (hA : r_A g S u) (hj : j < 122) (hz : z = (j : Int)) (hb : -2147483648 ≤ u j ∧ u j < 2147483648) : fn303 z g = some (u j) := by
  subst hz
  exact r_of (by omega) (by omega) (by rw [Int.toNat_natCast, hA.1]) hb
theorem a_p42 {a : Int} {h h1 h2 : q_F} {S S1 : m_St} {v1 v2 : Int} (J : j_T S S h) (J1 : j_T S1 S h1) (e1 : fn35 a h = some (v1, h1)) (e2 : fn357 a h1 = some (v2, h2)) : a_Q h2 v1 v2 := by
  have hm := J1.2.1.1
  have f := (a_F (r_trueB J1.2.1.2 hm) e2).1 153 (by omega)
  have g0 := a_g0 J1.2.1.2
  unfold fn357 at e2
  unfold fn35 fn225 at e1
  rw [a_298, Option.bind_some] at e2
  rw [c_axis, Option.bind_some] at e1
  dsimp only at e1 e2
  by_cases c : 0 ≤ a ∧ a ≤ 2
  · obtain ⟨n, hn, rfl⟩ := m_ax_n c
    obtain ⟨h', g1, g2, w', T, x1, x2, x3, y1, y2, y3, T0, y4, y5⟩ := a_thought J.1.2 g0 hm
    have b := (m_a3_i x3 hn).2.1
    have x6 : h' (q_axn 24 (n : Int)) 6 = w' (26 + n) := by rw [q_axn_e hn]; exact (x2.1 n hn).1 6 (by omega)
    obtain ⟨g3, z1, z2, z3⟩ := a_A_e y4
    rw [if_pos c, if_pos rfl, x1, Option.bind_some, Option.bind_some] at e1
    dsimp only at e1
    rw [if_pos rfl, m_let, x6] at e1
    rw [if_pos c, if_pos c, if_pos rfl, y1, Option.bind_some] at e2
    dsimp only at e2
    rw [y2, Option.bind_some, y3, Option.bind_some] at e2
    dsimp only at e2
    rw [if_pos T0, q_w32_id (z := 26 + (n : Int)) (by omega) (by omega), a_rA (j := 26 + n) y4 (by omega) (by omega) (by omega), Option.bind_some, fn357_42, z1, Option.bind_some] at e2
    exact a_ok e1 e2 (z3.trans (y5.trans (q_ud_s _ _ _ _))) f
  · rw [if_neg c, if_neg (show ¬ (3 : Nat) = 0 by decide), if_pos rfl, Option.bind_some] at e1
    dsimp only at e1
    rw [if_neg (show ¬ (3 : Nat) = 1 by decide), if_pos rfl] at e1
    rw [if_neg c, if_neg c, if_neg (show ¬ (1 : Int) = 0 by decide)] at e2
    exact a_er e1 e2 (q_ud_s _ _ _ _) (by decide)
theorem a_tb26 {h : q_F} {t a : Nat} {w : Nat → Int} (hc : c_tb h t w) (ha : a < 3) : h (q_axn t (a : Int)) 6 = w (26 + a) ∧ h (q_axn t (a : Int)) 12 = w (47 + a) ∧ h (q_axn t (a : Int)) 13 = w (50 + a) := by
  rw [q_axn_e ha]
  exact ⟨(hc.1 a ha).1 6 (by omega), (hc.1 a ha).1 12 (by omega), (hc.1 a ha).1 13 (by omega)⟩
