/-! Part 92: what the class goes through in thought; printing. -/
theorem c_F_24 {h h' : q_F} (f : c_ft 24 h h') : c_F h h' := fun k hk => f k (by omega)
theorem c_I_24 {h h' : q_F} {S : m_St} (hI : c_I h S) (hn : S.n ≤ 10) (f : c_ft 24 h h') : c_I h' S := c_I_k hI hn (fun k hk => f k (by omega)) (by rw [f 0 (by omega)])
theorem c_fore {h : q_F} {S : m_St} (hI : c_I h S) (hm : m_I S) : ∃ h', fn179 h = some (0, h') ∧ c_I h' S ∧ c_F h h' := by
  have ok := m_R0_ok hm.1.1
  have r := ok.2.1
  obtain ⟨h1, a1, a2, a3⟩ := c_copy (t := 24) (t1 := 6) (by omega) hI.1 r
  have f2 : c_ft 24 h (q_ud h1 24 6 0) := c_ft_u a3 (by omega) (by omega)
  have tb : c_tb (q_ud h1 24 6 0) 24 (m_u S.w 2 0) := c_tb_u (j := 6) (by omega) a2
  have I2 := c_I_24 hI hm.2.1.1 f2
  obtain ⟨h3, b1, b2, b3, b4⟩ := c_planned I2 hm
  have tb3 : c_tb h3 24 (m_u S.w 2 0) := c_tb_k tb fun k k1 k2 => b3 k (by omega)
  have e4 : h3 13 1 = S.w 4 := b4.1.2.2.1
  obtain ⟨h4, d1, d2, d3, d4⟩ := c_mk (t := 24) (n := (S.w 4).toNat) (p := S.w) (by omega) ok hm.1.2 (by omega) (S.w 4).toNat 0 q_fu h3 (m_u S.w 2 0) (by omega) (by have := q_fu_ge; omega) ⟨tb3, b2, m_a3_u hm.1.1.2 (by omega), ⟨m_ok_row (m_u_ok ok (by omega)), m_u_n (by omega)⟩, Or.inl (m_u_s _ _ _)⟩ ⟨by rw [m_u_n (by omega)]; exact ok.1, fun a ha => by rw [m_u_n (by omega)]; unfold m_beg; rw [if_pos rfl], fun j hj => m_u_n (by omega)⟩
  refine ⟨h4, ?_, c_I_24 b4 hm.2.1.1 d3, c_F_t (c_F_24 f2) (c_F_t (c_F_fp b3) (c_F_24 d3))⟩
  rw [fn179, a1, Option.bind_some, m_let, b1, Option.bind_some]
  dsimp only
  rw [e4, show S.w 4 = ((S.w 4).toNat : Int) by omega]
  have d5 : fn138 24 ((S.w 4).toNat : Int) h3 = some ((m_mk S.w (S.w 4).toNat (S.w 4).toNat 0 (m_u S.w 2 0)).1, h4) := d1
  rw [d5, Option.bind_some]
theorem c_trueB {a : Int} {h : q_F} {S : m_St} (hI : c_I h S) (hm : m_I S) : c_E (fn225 a h) h S (fun k => k = 1 ∨ k = 3) := by
  unfold fn225
  refine c_axisQ (fun a0 a1 => ?_) (c_E_i hI (Or.inr rfl))
  obtain ⟨h', x1, x2, x3⟩ := c_fore hI hm
  dsimp only
  rw [if_pos rfl, x1, Option.bind_some]
  exact c_E_t x3 (c_E_i x2 (Or.inl rfl))
theorem c_wErr {a : Int} {h : q_F} {S : m_St} (hI : c_I h S) (hm : m_I S) : c_E (fn231 a h) h S (fun k => k = 1 ∨ k = 3 ∨ k = 4) := by
  unfold fn231
  refine c_axisQ (fun a0 a1 => ?_) (c_E_i hI (Or.inr (Or.inl rfl)))
  dsimp only
  rw [if_pos rfl]
  refine c_homedQ ?_ (c_E_i hI (Or.inr (Or.inr rfl)))
  obtain ⟨h', x1, x2, x3⟩ := c_fore hI hm
  dsimp only
  rw [if_pos rfl, x1, Option.bind_some, fn47, Option.bind_some]
  exact c_E_t x3 (c_E_i x2 (Or.inl rfl))
theorem c_wLose {h : q_F} {S : m_St} (hI : c_I h S) (hm : m_I S) : c_W (fn233 h) h S := by
  obtain ⟨h', x1, x2, x3⟩ := c_fore hI hm
  unfold fn233
  rw [fn136, Option.bind_some, x1, Option.bind_some, fn136, Option.bind_some]
  exact ⟨_, h', rfl, x2, x3⟩
theorem q_T24 : q_isT 24 := by unfold q_isT; decide
theorem c_wHome {a : Int} {h : q_F} {S : m_St} (hI : c_I h S) (hm : m_I S) (h5 : q_r64 (S.w 5)) : c_E (fn232 a h) h S (fun k => k = 1 ∨ k = 3) := by
  have ok := m_R0_ok hm.1.1
  unfold fn232
  refine c_axisQ (fun a0 a1 => ?_) (c_E_i hI (Or.inr rfl))
  obtain ⟨n, hn, rfl⟩ := m_ax_n ⟨a0, a1⟩
  obtain ⟨h1, x1, x2, x3⟩ := c_copy (t := 24) (t1 := 6) (by omega) hI.1 ok.2.1
  obtain ⟨h2, b1, b2, b3, b4⟩ := c_home q_T24 hn x2 ok hm.1.1.2 h5
  dsimp only
  rw [if_pos rfl, x1, Option.bind_some, b1, Option.bind_some]
  exact c_E_t (c_F_24 (c_ft_t x3 b3)) (c_E_i (c_I_24 hI hm.2.1.1 (c_ft_t x3 b3)) (Or.inl rfl))
/-- a path laid beside a row -/
theorem c_src_p {h : q_F} {S : m_St} {p : Nat → Int} (hI : c_I h S) (hp : c_pt h 135 p) (e : ∀ j, 1 ≤ j → j < 74 → j ≠ 4 → p j = S.w j) : c_src h 6 135 p := by
  obtain ⟨s1, s2, -, -⟩ := c_src_tb hI.1
  refine ⟨fun a ha => ?_, ?_, hp.1, hp.2⟩
  · obtain ⟨x1, x2, x3, x4, x5⟩ := s1 a ha
    refine ⟨?_, ?_, ?_, ?_, ?_⟩
    · rw [x1, e _ (by omega) (by omega) (by omega)]
    · rw [x2, e _ (by omega) (by omega) (by omega)]
    · rw [x3, e _ (by omega) (by omega) (by omega)]
    · rw [x4, e _ (by omega) (by omega) (by omega)]
    · rw [x5, e _ (by omega) (by omega) (by omega)]
  · rw [s2, e 1 (by omega) (by omega) (by omega)]
theorem c_I_fp {h h' : q_F} {S : m_St} (hI : c_I h S) (hn : S.n ≤ 10) (f : c_fp h h') : c_I h' S := c_I_k hI hn (fun k hk => f k (by omega)) (by rw [f 0 (by omega)])
/-- a path's plan and its time -/
theorem c_ptime {h : q_F} {S : m_St} {p : Nat → Int} (hI : c_I h S) (hm : m_I S) (hp : c_pt h 135 p) (e : ∀ j, j < 74 → j ≠ 4 → p j = S.w j) (R : m_R0 p) (nn : m_nn p) : ∃ h' v, fn84 6 135 (h 6 4) h = some (0, h') ∧ fn102 h' = some v ∧ c_I h' S ∧ c_F h h' ∧ ∀ k, k < 125 ∨ 134 < k → h' k = h k := by
  have e0 : h 6 4 = p 0 := by rw [e 0 (by omega) (by omega)]; exact hI.1.2.1.1
  obtain ⟨h', g1, g2, g3⟩ := c_make (t := 6) (g := 135) (by omega) (by omega) (m_R0_ok R) nn (c_src_p hI hp fun j h1 h2 h3 => e j h2 h3)
  obtain ⟨v, ev⟩ := c_T102 (c_Ld_P (m_R0_ok R) g2)
  exact ⟨h', v, by rw [e0]; exact g1, ev, c_I_fp hI hm.2.1.1 g3, c_F_fp g3, g3⟩
theorem c_clearP {h : q_F} {w : Nat → Int} (h4 : w 4 = 0) : c_pt (q_ud h 135 1 0) 135 w := ⟨by rw [q_ud_s]; exact h4.symm, fun j hj => by rw [h4] at hj; exact absurd hj (by omega)⟩
theorem c_stTime {x y z : Int} {h : q_F} {S : m_St} (hI : c_I h S) (hm : m_I S) : c_E (fn219 x y z h) h S (fun k => k = 1 ∨ k = 2 ∨ k = 4) := by
  unfold fn219
  rw [c_point x y z hI, Option.bind_some]
  by_cases cp : m_point x y z S.w
  · rw [if_pos cp]; dsimp only; rw [if_pos rfl, fn161, c_homed hI hm, Option.bind_some]
    by_cases c3 : 3 ≤ S.w 41 + S.w 42 + S.w 43
    · rw [if_pos c3, Option.bind_some]; dsimp only; rw [if_pos rfl, fn143, m_let, Option.bind_some]
      dsimp only
      have p := m_pt_r hm cp
      have R1 : m_R0 (m_u S.w 4 0) := m_R0_v hm.1.1 (m_pv_4 (by omega)) (by omega)
      have e4 : m_u S.w 4 0 4 = 0 := m_u_s _ _ _
      have R2 : m_R0 (m_put 0 x y z (m_u S.w 4 0)) := m_R0_put R1 (by omega) (by omega) p.1 p.2.1 p.2.2
      have f1 : c_fo 135 h (q_ud h 135 1 0) := c_fo_u c_fo_r (Or.inl rfl)
      obtain ⟨h2, b1, b2, b3⟩ := c_pput (i := 0) (x := x) (y := y) (z := z) (c_clearP (h := h) e4) (by omega) (by omega)
      have f := c_fo_t f1 b3
      have I2 := c_I_path hI hm.2.1.1 f
      have ep : ∀ j, j < 74 → j ≠ 4 → m_put 0 x y z (m_u S.w 4 0) j = S.w j := fun j h1 h2 => by rw [m_put_lo h1 h2, m_u_n h2]
      have r2 := (m_R0_ok R2).2.1
      have b0 : fn150 135 0 x y z (q_ud h 135 1 0) = some (0, h2) := b1
      rw [b0, Option.bind_some]
      dsimp only
      obtain ⟨q, q1, q2⟩ := c_nw (t := 6) b2 r2 (fun a ha => by rw [ep _ (by omega) (by omega)]; exact (I2.1.1 a ha).1 12 (by omega))
      rw [q1, Option.bind_some]
      rcases q2 with ⟨rfl, nn⟩ | ⟨rfl, nn⟩
      · obtain ⟨h3, v, d1, d2, d3, d4, -⟩ := c_ptime I2 hm b2 ep R2 nn
        rw [if_pos rfl, d1, Option.bind_some, d2, Option.bind_some]
        exact c_E_t (c_F_t (c_F_path f) d4) (c_E_i d3 (Or.inl rfl))
      · rw [if_neg (by decide)]
        exact c_E_t (c_F_path f) (c_E_i I2 (Or.inl rfl))
    · rw [if_neg c3, Option.bind_some]; dsimp only; rw [if_neg (by decide), if_pos rfl]
      exact c_E_i hI (Or.inr (Or.inr rfl))
  · rw [if_neg cp]; dsimp only; rw [if_neg (by decide), if_pos rfl]
    exact c_E_i hI (Or.inr (Or.inl rfl))
/-- the path as it grows -/
def c_Pa (h : q_F) (S : m_St) (n : Nat) : Prop := ∃ p, c_pt h 135 p ∧ (∀ j, j < 74 → j ≠ 4 → p j = S.w j) ∧ m_R0 p ∧ m_nn p ∧ p 4 ≤ n
theorem c_end {h : q_F} {S : m_St} {p : Nat → Int} {a : Nat} (ha : a < 3) (hI : c_I h S) (hp : c_pt h 135 p) (e : ∀ j, j < 74 → j ≠ 4 → p j = S.w j) (r : 0 ≤ p 4 ∧ p 4 ≤ 16) : fn129 6 135 a h = some (m_beg p (p 4).toNat a) := by
  unfold fn129
  rw [hp.1]
  by_cases c : p 4 ≤ 0
  · rw [if_pos c, q_axn_e ha, (hI.1.1 a ha).1 12 (by omega), show (p 4).toNat = 0 by omega]
    unfold m_beg
    rw [if_pos rfl, e _ (by omega) (by omega)]; rfl
  · rw [if_neg c, q_w32_id (by omega) (by omega), show p 4 - 1 = (((p 4).toNat - 1 : Nat) : Int) by omega, c_pget hp r.2 (by omega) ha, Option.bind_some, show (p 4).toNat - 1 + 1 = (p 4).toNat by omega]
theorem c_addl {h : q_F} {S : m_St} {p : Nat → Int} {m : Nat} (hI : c_I h S) (hm : m_I S) (h4 : (m : Int) < S.w 4) (hp : c_pt h 135 p) (e : ∀ j, j < 74 → j ≠ 4 → p j = S.w j) (r : 0 ≤ p 4 ∧ p 4 ≤ 16) (a f : Nat) (x : Int) (ha : a < 3) (hx : x = 0 ∨ x = 1) :
    fn123_5 6 135 (f + 1) m x a h = fn123_5 6 135 f m (if x = 0 then 0 else if m_beg p (p 4).toNat a = m_beg S.w (m + 1) a then 1 else 0) ((a + 1 : Nat) : Int) h := by
  have r2 := (m_R0_ok hm.1.1).2.1
  have hp2 : c_pt h 13 S.w := ⟨hI.1.2.2.1, hI.1.2.2.2⟩
  rw [fn123_5, if_neg (by omega), fn123_39, fn123_40, fn123_40, q_w32_id (z := (a : Int) + 1) (by omega) (by omega), ← m_s1]
  rcases hx with rfl | rfl
  · rw [if_pos rfl, if_pos rfl]
  · rw [if_neg (by decide), if_neg (by decide), c_end ha hI hp e r, Option.bind_some, show 6 + 7 = 13 from rfl, c_pget hp2 r2.2 h4 ha, Option.bind_some]
    split <;> rfl
theorem c_add {h : q_F} {S : m_St} {m n : Nat} (hI : c_I h S) (hm : m_I S) (h4 : (m : Int) < S.w 4) (hP : c_Pa h S n) (hn : n < 16) : ∃ h', fn123 6 135 m h = some (0, h') ∧ c_I h' S ∧ c_F h h' ∧ c_Pa h' S (n + 1) := by
  obtain ⟨p, hp, e, R, nn, pn⟩ := hP
  have ok := m_R0_ok hm.1.1
  have r2 := ok.2.1
  have r := (m_R0_ok R).2.1
  obtain ⟨k, ek⟩ := m_fu3
  have g0 := c_addl hI hm h4 hp e r 0 (k + 1 + 1 + 1) 1 (by omega) (Or.inr rfl)
  rw [if_neg (by decide)] at g0
  have z0 : (if m_beg p (p 4).toNat 0 = m_beg S.w (m + 1) 0 then (1 : Int) else 0) = 0 ∨ (if m_beg p (p 4).toNat 0 = m_beg S.w (m + 1) 0 then (1 : Int) else 0) = 1 := by split <;> simp
  rw [c_addl hI hm h4 hp e r (0 + 1) (k + 1 + 1) _ (by omega) z0] at g0
  have z1 : ∀ x : Int, (if x = 0 then (0 : Int) else if m_beg p (p 4).toNat (0 + 1) = m_beg S.w (m + 1) (0 + 1) then 1 else 0) = 0 ∨ (if x = 0 then (0 : Int) else if m_beg p (p 4).toNat (0 + 1) = m_beg S.w (m + 1) (0 + 1) then 1 else 0) = 1 := fun x => by (repeat' split) <;> simp
  rw [c_addl hI hm h4 hp e r (0 + 1 + 1) (k + 1) _ (by omega) (z1 _), m_nest] at g0
  have g1 : fn123 6 135 m h = fn123_5 6 135 (k + 1) m (if m_beg p (p 4).toNat 0 = m_beg S.w (m + 1) 0 ∧ m_beg p (p 4).toNat (0 + 1) = m_beg S.w (m + 1) (0 + 1) ∧ m_beg p (p 4).toNat (0 + 1 + 1) = m_beg S.w (m + 1) (0 + 1 + 1) then 1 else 0) ((0 + 1 + 1 + 1 : Nat) : Int) h := by
    rw [fn123, ek]; exact g0
  rw [g1, fn123_5, if_pos (by omega)]
  have hp2 : c_pt h 13 S.w := ⟨hI.1.2.2.1, hI.1.2.2.2⟩
  by_cases same : m_beg p (p 4).toNat 0 = m_beg S.w (m + 1) 0 ∧ m_beg p (p 4).toNat (0 + 1) = m_beg S.w (m + 1) (0 + 1) ∧ m_beg p (p 4).toNat (0 + 1 + 1) = m_beg S.w (m + 1) (0 + 1 + 1)
  · rw [if_pos same, if_neg (by decide)]
    exact ⟨h, rfl, hI, c_F_r, p, hp, e, R, nn, by omega⟩
  · have t0 := m_beg_r ok (m := m + 1) (a := 0) (by omega) (by omega)
    have t1 := m_beg_r ok (m := m + 1) (a := 1) (by omega) (by omega)
    have t2 := m_beg_r ok (m := m + 1) (a := 2) (by omega) (by omega)
    have c0 : fn148 13 m 0 h = some (m_beg S.w (m + 1) 0) := c_pget (a := 0) hp2 r2.2 h4 (by omega)
    have c1 : fn148 13 m 1 h = some (m_beg S.w (m + 1) 1) := c_pget (a := 1) hp2 r2.2 h4 (by omega)
    have c2 : fn148 13 m 2 h = some (m_beg S.w (m + 1) 2) := c_pget (a := 2) hp2 r2.2 h4 (by omega)
    rw [if_neg same, if_pos rfl, show 6 + 7 = 13 from rfl, c0, Option.bind_some, c1, Option.bind_some, c2, Option.bind_some]
    obtain ⟨h', b1, b2, b3⟩ := c_pput (i := (p 4).toNat) (x := m_beg S.w (m + 1) 0) (y := m_beg S.w (m + 1) 1) (z := m_beg S.w (m + 1) 2) hp (by omega) (by omega)
    rw [show (((p 4).toNat : Nat) : Int) = p 4 by omega] at b1
    have e4 : m_put (p 4).toNat (m_beg S.w (m + 1) 0) (m_beg S.w (m + 1) 1) (m_beg S.w (m + 1) 2) p 4 = p 4 + 1 := by unfold m_put; rw [m_u_s]
    rw [hp.1, b1, Option.bind_some]
    refine ⟨h', rfl, c_I_path hI hm.2.1.1 b3, c_F_path b3, _, b2, fun j h1 h2 => by rw [m_put_lo h1 h2, e j h1 h2], m_R0_put R (by omega) (by omega) t0 t1 t2, fun i hi => ?_, by rw [e4]; omega⟩
    rw [e4] at hi
    have lo : ∀ q a, q ≤ (p 4).toNat → a < 3 → m_beg (m_put (p 4).toNat (m_beg S.w (m + 1) 0) (m_beg S.w (m + 1) 1) (m_beg S.w (m + 1) 2) p) q a = m_beg p q a := fun q a hq ha => by
      unfold m_beg
      split
      · exact m_put_lo (by omega) (by omega)
      · unfold m_put; rw [m_u_n (by omega), m_u_n (by omega), m_u_n (by omega), m_u_n (by omega)]; unfold m_cp; rw [if_neg (by omega)]
    by_cases ei : i < (p 4).toNat
    · have := nn i (by omega)
      unfold m_mv m_d at this ⊢
      rw [lo _ _ (by omega) (by omega), lo _ _ (by omega) (by omega), lo _ _ (by omega) (by omega), lo _ _ (by omega) (by omega), lo _ _ (by omega) (by omega), lo _ _ (by omega) (by omega)]
      exact this
    · obtain rfl : i = (p 4).toNat := by omega
      have hi0 : m_beg (m_put (p 4).toNat (m_beg S.w (m + 1) 0) (m_beg S.w (m + 1) 1) (m_beg S.w (m + 1) 2) p) ((p 4).toNat + 1) 0 = m_beg S.w (m + 1) 0 := by
        rw [show m_beg (m_put (p 4).toNat (m_beg S.w (m + 1) 0) (m_beg S.w (m + 1) 1) (m_beg S.w (m + 1) 2) p) ((p 4).toNat + 1) 0 = m_put (p 4).toNat (m_beg S.w (m + 1) 0) (m_beg S.w (m + 1) 1) (m_beg S.w (m + 1) 2) p (74 + 3 * (p 4).toNat) by unfold m_beg; rw [if_neg (by omega)]; rfl]
        unfold m_put; rw [m_u_n (by omega), m_u_n (by omega), m_u_n (by omega), m_u_s]
      have hi1 : m_beg (m_put (p 4).toNat (m_beg S.w (m + 1) 0) (m_beg S.w (m + 1) 1) (m_beg S.w (m + 1) 2) p) ((p 4).toNat + 1) 1 = m_beg S.w (m + 1) 1 := by
        rw [show m_beg (m_put (p 4).toNat (m_beg S.w (m + 1) 0) (m_beg S.w (m + 1) 1) (m_beg S.w (m + 1) 2) p) ((p 4).toNat + 1) 1 = m_put (p 4).toNat (m_beg S.w (m + 1) 0) (m_beg S.w (m + 1) 1) (m_beg S.w (m + 1) 2) p (74 + 3 * (p 4).toNat + 1) by unfold m_beg; rw [if_neg (by omega)]; rfl]
        unfold m_put; rw [m_u_n (by omega), m_u_n (by omega), m_u_s]
      have hi2 : m_beg (m_put (p 4).toNat (m_beg S.w (m + 1) 0) (m_beg S.w (m + 1) 1) (m_beg S.w (m + 1) 2) p) ((p 4).toNat + 1) 2 = m_beg S.w (m + 1) 2 := by
        rw [show m_beg (m_put (p 4).toNat (m_beg S.w (m + 1) 0) (m_beg S.w (m + 1) 1) (m_beg S.w (m + 1) 2) p) ((p 4).toNat + 1) 2 = m_put (p 4).toNat (m_beg S.w (m + 1) 0) (m_beg S.w (m + 1) 1) (m_beg S.w (m + 1) 2) p (74 + 3 * (p 4).toNat + 2) by unfold m_beg; rw [if_neg (by omega)]; rfl]
        unfold m_put; rw [m_u_n (by omega), m_u_s]
      rw [m_mv_beg, hi0, hi1, hi2, lo _ _ (by omega) (by omega), lo _ _ (by omega) (by omega), lo _ _ (by omega) (by omega)]
      exact same
theorem c_arrl {S : m_St} {x : Int} (hm : m_I S) : ∀ (d m f n : Nat) (h : q_F), m + d = (S.w 4).toNat → d < f → c_I h S → c_Pa h S n → n + d ≤ 16 + (if 0 ≤ x ∧ (m : Int) ≤ x ∧ x < S.w 4 then 1 else 0) → ∃ h' n', fn124_12 6 135 f x m h = some (0, h') ∧ c_I h' S ∧ c_F h h' ∧ c_Pa h' S n' := by
  have r := (m_R0_ok hm.1.1).2.1
  intro d
  induction d with
  | zero =>
    intro m f n h hd hf hI hP hn
    obtain ⟨f, rfl⟩ : ∃ f', f = f' + 1 := ⟨f - 1, by omega⟩
    exact ⟨h, n, by rw [fn124_12, show 6 + 7 = 13 from rfl, hI.1.2.2.1, if_pos (by omega)], hI, c_F_r, hP⟩
  | succ d ih =>
    intro m f n h hd hf hI hP hn
    obtain ⟨f, rfl⟩ : ∃ f', f = f' + 1 := ⟨f - 1, by omega⟩
    rw [fn124_12, show 6 + 7 = 13 from rfl, hI.1.2.2.1, if_neg (by omega), fn124_34, q_w32_id (z := (m : Int) + 1) (by omega) (by omega), ← m_s1]
    by_cases c : (m : Int) = x
    · rw [if_pos c]
      exact ih (m + 1) f n h (by omega) (by omega) hI hP (by split at hn <;> split <;> omega)
    · rw [if_neg c]
      obtain ⟨h1, a1, a2, a3, a4⟩ := c_add (m := m) hI hm (by omega) hP (by split at hn <;> omega)
      obtain ⟨h2, n2, b1, b2, b3, b4⟩ := ih (m + 1) f (n + 1) h1 (by omega) (by omega) a2 a4 (by split at hn <;> split <;> omega)
      exact ⟨h2, n2, by rw [a1, Option.bind_some, fn124_34, q_w32_id (z := (m : Int) + 1) (by omega) (by omega), ← m_s1, b1], b2, c_F_t a3 b3, b4⟩
theorem c_arr {h : q_F} {S : m_St} {x : Nat} (hI : c_I h S) (hm : m_I S) (hx : (x : Int) < S.w 4) : ∃ h' n', fn124 6 135 x h = some (0, h') ∧ c_I h' S ∧ c_F h h' ∧ c_Pa h' S n' := by
  have r := (m_R0_ok hm.1.1).2.1
  have e4 : m_u S.w 4 0 4 = 0 := m_u_s _ _ _
  have f1 : c_fo 135 h (q_ud h 135 1 0) := c_fo_u c_fo_r (Or.inl rfl)
  have P0 : c_Pa (q_ud h 135 1 0) S 0 := ⟨m_u S.w 4 0, c_clearP e4, fun j h1 h2 => m_u_n h2, m_R0_v hm.1.1 (m_pv_4 (by omega)) (by omega), m_nn_0 e4, by rw [e4]; omega⟩
  obtain ⟨h1, a1, a2, a3, a4⟩ := c_add (m := x) (c_I_path hI hm.2.1.1 f1) hm hx P0 (by omega)
  obtain ⟨h2, n2, b1, b2, b3, b4⟩ := c_arrl (x := x) hm (S.w 4).toNat 0 q_fu 1 h1 (by omega) (by have := q_fu_ge; omega) a2 a4 (by rw [if_pos (by omega)]; omega)
  refine ⟨h2, n2, ?_, b2, c_F_t (c_F_path f1) (c_F_t a3 b3), b4⟩
  rw [fn124, fn143, m_let, Option.bind_some]
  dsimp only
  rw [a1, Option.bind_some]
  exact b1
theorem c_bestFl {S : m_St} (hm : m_I S) : ∀ (d m f : Nat) (b l : Int) (h : q_F), m + d = (S.w 4).toNat → d < f → c_I h S → c_W (fn158_7 f b l m h) h S := by
  have r := (m_R0_ok hm.1.1).2.1
  intro d
  induction d with
  | zero =>
    intro m f b l h hd hf hI
    obtain ⟨f, rfl⟩ : ∃ f', f = f' + 1 := ⟨f - 1, by omega⟩
    rw [fn158_7, hI.1.2.2.1, if_pos (by omega)]; exact c_W_i hI
  | succ d ih =>
    intro m f b l h hd hf hI
    obtain ⟨f, rfl⟩ : ∃ f', f = f' + 1 := ⟨f - 1, by omega⟩
    obtain ⟨h1, n1, a1, a2, a3, p, hp, e, R, nn, -⟩ := c_arr (x := m) hI hm (by omega)
    obtain ⟨h3, v, d1, d2, d3, d4, -⟩ := c_ptime a2 hm hp e R nn
    rw [fn158_7, hI.1.2.2.1, if_neg (by omega), a1, Option.bind_some]
    dsimp only
    rw [d1, Option.bind_some]
    dsimp only
    rw [d2, Option.bind_some, fn158_77, fn158_83, fn158_83, q_w32_id (z := (m : Int) + 1) (by omega) (by omega), ← m_s1]
    (repeat' split) <;> exact c_W_t (c_F_t a3 d4) (ih (m + 1) f _ _ h3 (by omega) (by omega) d3)
theorem c_bestF {h : q_F} {S : m_St} (hI : c_I h S) (hm : m_I S) : c_W (fn158 h) h S := by
  have r := (m_R0_ok hm.1.1).2.1
  exact c_bestFl hm (S.w 4).toNat 0 q_fu (-1) 0 h (by omega) (by have := q_fu_ge; omega) hI
theorem c_bestSl {S : m_St} (hm : m_I S) : ∀ (d k f : Nat) (b l : Int) (h : q_F), k + d = 21 → 1 ≤ k → d < f → c_I h S → c_E (fn159_31 f b l (50 * (k : Int)) h) h S (fun k => k = 1 ∨ k = 5) := by
  have r := (m_R0_ok hm.1.1).2.1
  intro d
  induction d with
  | zero =>
    intro k f b l h hd h1 hf hI
    obtain ⟨f, rfl⟩ : ∃ f', f = f' + 1 := ⟨f - 1, by omega⟩
    rw [fn159_31, if_pos (by omega)]; exact c_E_i hI (Or.inl rfl)
  | succ d ih =>
    intro k f b l h hd h1 hf hI
    obtain ⟨f, rfl⟩ : ∃ f', f = f' + 1 := ⟨f - 1, by omega⟩
    have R1 : m_R0 (m_u S.w 0 (50 * (k : Int))) := m_R0_v hm.1.1 (m_pv_0 (by omega)) (by omega)
    have nn1 : m_nn (m_u S.w 0 (50 * (k : Int))) := m_nn_u hm.1.2 (by omega)
    obtain ⟨s1, s2, s3, s4⟩ := c_src_tb hI.1
    have src : c_src h 6 13 (m_u S.w 0 (50 * (k : Int))) := by
      refine ⟨fun a ha => ?_, ?_, ?_, fun j hj => ?_⟩
      · rw [m_u_n (by omega), m_u_n (by omega), m_u_n (by omega), m_u_n (by omega), m_u_n (by omega)]; exact s1 a ha
      · rw [m_u_n (by omega)]; exact s2
      · rw [m_u_n (by omega)]; exact s3
      · rw [m_u_n (by omega)] at hj
        rw [m_u_n (by omega)]; exact s4 j hj
    obtain ⟨h', g1, g2, g3⟩ := c_make (t := 6) (g := 13) (by omega) (by omega) (m_R0_ok R1) nn1 src
    obtain ⟨v, ev⟩ := c_T102 (c_Ld_P (m_R0_ok R1) g2)
    rw [m_u_s] at g1
    rw [fn159_31, if_neg (by omega), g1, Option.bind_some]
    dsimp only
    rw [ev, Option.bind_some, fn159_79, fn159_85, fn159_85, q_w32_id (z := 50 * (k : Int) + 50) (by omega) (by omega), show 50 * (k : Int) + 50 = 50 * ((k + 1 : Nat) : Int) by omega]
    (repeat' split) <;> exact c_E_t (c_F_fp g3) (ih (k + 1) f _ _ h' (by omega) (by omega) (by omega) (c_I_fp hI hm.2.1.1 g3))
theorem c_bestS {h : q_F} {S : m_St} (hI : c_I h S) (hm : m_I S) : c_E (fn159 h) h S (fun k => k = 1 ∨ k = 5) := by
  unfold fn159
  split
  · exact c_E_i hI (Or.inr rfl)
  · exact c_bestSl hm 20 1 q_fu 0 0 h (by omega) (by omega) (by have := q_fu_ge; omega) hI
