/-! Part 55: the reference's moves. -/
/-- places that a step of a move may change -/
def m_dy (j : Nat) : Prop := (5 ≤ j ∧ j ≤ 7) ∨ (26 ≤ j ∧ j ≤ 37) ∨ (44 ≤ j ∧ j ≤ 46) ∨ (53 ≤ j ∧ j ≤ 64) ∨ (71 ≤ j ∧ j ≤ 73)
def m_fr (w w' : Nat → Int) : Prop := ∀ j, ¬ m_dy j → w' j = w j
theorem m_fr_r {w : Nat → Int} : m_fr w w := fun _ _ => rfl
theorem m_fr_t {w w1 w2 : Nat → Int} (h1 : m_fr w w1) (h2 : m_fr w1 w2) : m_fr w w2 := fun j hj => (h2 j hj).trans (h1 j hj)
theorem m_fr_u {w w1 : Nat → Int} {j : Nat} {v : Int} (h1 : m_fr w w1) (hj : m_dy j) : m_fr w (m_u w1 j v) := fun k hk => by
  rw [m_u_n (by intro e; exact hk (e ▸ hj))]; exact h1 k hk
theorem m_sw_fr {a : Nat} (ha : a < 3) (w : Nat → Int) : m_fr w (m_sw a w) := by
  unfold m_sw; split
  · exact m_fr_r
  · exact m_fr_u m_fr_r (by unfold m_dy; omega)
theorem m_sx_fr {a : Nat} (ha : a < 3) (w : Nat → Int) : m_fr w (m_sx a w) := by
  unfold m_sx
  refine m_fr_t ?_ (m_sw_fr ha _)
  split
  · exact m_fr_r
  · exact m_fr_u m_fr_r (by unfold m_dy; omega)
theorem m_sm_fr {a : Nat} (ha : a < 3) (d e s : Int) (w : Nat → Int) : m_fr w (m_sm a d e s w).2 := by
  unfold m_sm
  split
  · split
    · exact m_fr_u m_fr_r (by unfold m_dy; omega)
    · exact m_fr_t (m_fr_u m_fr_r (by unfold m_dy; omega)) (m_sx_fr ha _)
  · exact m_fr_u m_fr_r (by unfold m_dy; omega)
theorem m_step_fr {a : Nat} (ha : a < 3) (d : Int) (w : Nat → Int) : m_fr w (m_step a d w).2 := by
  unfold m_step m_s0
  split
  · exact m_fr_t (m_fr_u (m_fr_u (m_fr_u m_fr_r (by unfold m_dy; omega)) (by unfold m_dy; omega)) (by unfold m_dy; omega)) (m_sm_fr ha _ _ _ _)
  · exact m_fr_t (m_fr_u (m_fr_u (m_fr_u m_fr_r (by unfold m_dy; omega)) (by unfold m_dy; omega)) (by unfold m_dy; omega)) (m_sm_fr ha _ _ _ _)
theorem m_sm_z {a : Nat} (d e s : Int) (w : Nat → Int) : (m_sm a d e s w).1 = 0 ∨ (m_sm a d e s w).1 = 1 := by
  unfold m_sm; (repeat' split) <;> simp
theorem m_step_z (a : Nat) (d : Int) (w : Nat → Int) : (m_step a d w).1 = 0 ∨ (m_step a d w).1 = 1 := by
  unfold m_step; split <;> exact m_sm_z _ _ _ _
-- the plan's speeds, times, steps
noncomputable def m_sp (p : Nat → Int) (m : Nat) (k : Int) : Int := qx_mn (m_c p 14 m) (qx_mn (m_b p m + m_c p 17 m * k) (m_b p (m + 1) + m_c p 17 m * (m_l p m - 1 - k)))
noncomputable def m_t (p : Nat → Int) (m : Nat) (k : Int) : Int := q_ldv 1000000 (m_sp p m k)
noncomputable def m_made (p : Nat → Int) (m a : Nat) (k : Int) : Int := q_idv (2 * k * m_abs (m_d p m a) + m_l p m) (2 * m_l p m)
def m_sg (v : Int) : Int := if v ≤ 0 then (if 0 ≤ v then 0 else -1) else 1
theorem fn333_m (v : Int) (h : q_F) : fn333 v h = some (m_sg v) := by
  unfold fn333 m_sg; (repeat' split) <;> rfl
theorem m_gk_r {p : Nat → Int} (ok : m_ok p) (nn : m_nn p) {m : Nat} {k : Int} (hm : (m : Int) < p 4) (h0 : 0 ≤ k) (h1 : k ≤ m_l p m) : 0 ≤ m_c p 17 m * k ∧ m_c p 17 m * k ≤ 1000000 := by
  have h16 := ok.2.1
  have g := m_gain_r ok (m := m) (by omega) (nn m hm)
  have l := m_l_r ok (m := m) (by omega)
  have := m_mulr (x := m_c p 17 m) (l := k) (a := 500) (b := 2000) (by omega) (by omega) (by omega) (by omega)
  omega
theorem m_sp_r {p : Nat → Int} (ok : m_ok p) (nn : m_nn p) {m : Nat} {k : Int} (hm : (m : Int) < p 4) (h0 : 0 ≤ k) (h1 : k < m_l p m) : 1 ≤ m_sp p m k ∧ m_sp p m k ≤ 5000 := by
  have h16 := ok.2.1
  have c := m_cru_r ok (m := m) (by omega) (nn m hm)
  have b1 := m_b_r ok nn (by omega) m (by omega)
  have b2 := m_b_r ok nn (by omega) (m + 1) (by omega)
  have g1 := m_gk_r ok nn hm h0 (by omega)
  have g2 := m_gk_r ok nn (k := m_l p m - 1 - k) hm (by omega) (by omega)
  unfold m_sp qx_mn
  (repeat' split) <;> omega
theorem fn338_m {p : Nat → Int} {h : q_F} (ok : m_ok p) (nn : m_nn p) (hP : m_Plan h p) {m : Nat} {k : Int} (hm : (m : Int) < p 4) (h0 : 0 ≤ k) (h1 : k < m_l p m) : fn338 m k h = some (m_sp p m k) := by
  have h16 := ok.2.1
  obtain ⟨-, p2, p3, p4⟩ := hP.1 m (by omega)
  have q1 := hP.2 m (by omega) (by omega)
  have q2 := hP.2 (m + 1) (by omega) (by omega)
  have b1 := m_b_r ok nn (by omega) m (by omega)
  have b2 := m_b_r ok nn (by omega) (m + 1) (by omega)
  have g1 := m_gk_r ok nn hm h0 (by omega)
  have g2 := m_gk_r ok nn (k := m_l p m - 1 - k) hm (by omega) (by omega)
  have l := m_l_r ok (m := m) (by omega)
  rw [fn338, if_pos (by omega), if_pos (by omega), if_pos (by omega), q_w32_id (z := (m : Int) + 1) (by omega) (by omega), if_pos (by omega), if_pos (by omega), if_pos (by omega), m_tn1, Int.toNat_natCast, p2, p3, p4, q1, q2]
  rw [q_w32_id (z := m_c p 17 m * k) (by omega) (by omega), q_w32_id (z := m_l p m - 1) (by omega) (by omega), q_w32_id (z := m_l p m - 1 - k) (by omega) (by omega), q_w32_id (z := m_c p 17 m * (m_l p m - 1 - k)) (by omega) (by omega), q_w32_id (by omega) (by omega), q_w32_id (by omega) (by omega)]
  rfl
theorem fn275_m {p : Nat → Int} {h : q_F} (ok : m_ok p) (nn : m_nn p) (hP : m_Plan h p) {m : Nat} {k : Int} (hm : (m : Int) < p 4) (h0 : 0 ≤ k) (h1 : k < m_l p m) : fn275 m k h = some (m_t p m k) := by
  have s := m_sp_r ok nn hm h0 h1
  rw [fn275, fn338_m ok nn hP hm h0 h1, Option.bind_some, if_pos (by omega)]
  rfl
theorem fn286_m {p : Nat → Int} {h : q_F} (ok : m_ok p) (nn : m_nn p) (hP : m_PA h p (p 4).toNat) {m a : Nat} {k : Int} (hm : (m : Int) < p 4) (ha : a < 3) (h0 : 0 ≤ k) (h1 : k ≤ m_l p m) : fn286 m a k h = some (m_made p m a k) := by
  have h16 := ok.2.1
  obtain ⟨p1, p2, -, -⟩ := hP m (by omega)
  have l := m_l_r ok (m := m) (by omega)
  have l1 := m_l_1 ok (m := m) (by omega) (nn m hm)
  have d := m_d_r ok (m := m) (by omega) ha
  have da := m_abs_r d
  have g := m_mulr (x := 2 * k) (l := m_abs (m_d p m a)) (a := 4000) (b := 2000) (by omega) (by omega) (by omega) (by omega)
  rw [fn286, q_w32_id (z := 3 * (m : Int)) (by omega) (by omega), q_w32_id (z := 3 * (m : Int) + a) (by omega) (by omega), if_pos (by omega), show (3 * (m : Int) + a).toNat = 3 * m + a by omega, p1 a ha, fn236_i (by omega) (by omega), Option.bind_some, if_pos (by omega), if_pos (by omega), Int.toNat_natCast, p2, q_w32_id (z := 2 * m_l p m) (by omega) (by omega), if_pos (by omega)]
  rw [q_w32_id (z := 2 * k) (by omega) (by omega), q_w32_id (z := 2 * k * m_abs (m_d p m a)) (by omega) (by omega), q_w32_id (by omega) (by omega)]
  rfl
-- compensation
noncomputable def m_upl (a : Nat) (d : Int) : Nat → (Nat → Int) → Int × (Nat → Int)
  | 0, w => (1, w)
  | n + 1, w =>
    let w1 := m_u w 5 (q_w64 (w 5 + q_ldv 1000000 (w 0)))
    let s := m_step a d (m_u w1 (62 + a) (q_w64 (w1 (62 + a) + 1)))
    if s.1 = 0 then m_upl a d n s.2 else if s.2 2 = 1 then (0, s.2) else m_upl a d n s.2
noncomputable def m_up (p : Nat → Int) (m a : Nat) (w : Nat → Int) : Int × (Nat → Int) :=
  if m_sg (m_d p m a) = 0 then (1, w) else if m_sg (m_d p m a) = w (44 + a) then (1, w) else if w 1 = 0 then (1, w) else m_upl a (m_sg (m_d p m a)) (w (11 + a)).toNat w
theorem m_upl_fr {a : Nat} (ha : a < 3) (d : Int) : ∀ (n : Nat) (w : Nat → Int), m_fr w (m_upl a d n w).2 := by
  intro n
  induction n with
  | zero => intro w; exact m_fr_r
  | succ n ih =>
    intro w
    unfold m_upl
    have g := m_fr_t (m_fr_u (v := q_w64 ((m_u w 5 (q_w64 (w 5 + q_ldv 1000000 (w 0)))) (62 + a) + 1)) (j := 62 + a) (m_fr_u (w := w) (v := q_w64 (w 5 + q_ldv 1000000 (w 0))) (j := 5) m_fr_r (by unfold m_dy; omega)) (by unfold m_dy; omega)) (m_step_fr ha d _)
    simp only
    split
    · exact m_fr_t g (ih _)
    · split
      · exact g
      · exact m_fr_t g (ih _)
theorem m_up_fr {p : Nat → Int} {m a : Nat} (ha : a < 3) (w : Nat → Int) : m_fr w (m_up p m a w).2 := by
  unfold m_up; (repeat' split) <;> first | exact m_fr_r | exact m_upl_fr ha _ _ _
theorem fn290_58_m {a : Nat} {d : Int} (ha : a < 3) : ∀ (n f : Nat) (h : q_F), n < f → n ≤ 20 → h 140 0 ≠ 0 → fn290_58 f a d n h = some ((m_upl a d n (h 140)).1, m_sr h 140 (m_upl a d n (h 140)).2) := by
  intro n
  induction n with
  | zero =>
    intro f h hf hn h0
    obtain ⟨f, rfl⟩ : ∃ f', f = f' + 1 := ⟨f - 1, by omega⟩
    rw [fn290_58, if_pos (by omega)]
    unfold m_upl; rw [m_sr_id]
  | succ n ih =>
    intro f h hf hn h0
    obtain ⟨f, rfl⟩ : ∃ f', f = f' + 1 := ⟨f - 1, by omega⟩
    rw [fn290_58, if_neg (by omega), fn335_m h0, Option.bind_some, m_ud_sr, m_let, q_w32_id (z := 62 + (a : Int)) (by omega) (by omega), if_pos (by omega), if_pos (by omega), show (62 + (a : Int)).toNat = 62 + a by omega, m_ud_sr, m_let, m_sr_s, m_sr_sr, fn340_m ha, Option.bind_some, m_sr_s, m_sr_sr]
    unfold m_upl
    simp only
    have e0 : (m_step a d (m_u (m_u (h 140) 5 (q_w64 (h 140 5 + q_ldv 1000000 (h 140 0)))) (62 + a) (q_w64 (m_u (h 140) 5 (q_w64 (h 140 5 + q_ldv 1000000 (h 140 0))) (62 + a) + 1)))).2 0 = h 140 0 := by
      rw [m_step_fr ha d _ 0 (by unfold m_dy; omega), m_u_n (by omega), m_u_n (by omega)]
    have ei := ih f (m_sr h 140 (m_step a d (m_u (m_u (h 140) 5 (q_w64 (h 140 5 + q_ldv 1000000 (h 140 0)))) (62 + a) (q_w64 (m_u (h 140) 5 (q_w64 (h 140 5 + q_ldv 1000000 (h 140 0))) (62 + a) + 1)))).2) (by omega) (by omega) (by rw [m_sr_s, e0]; exact h0)
    rw [m_sr_s, m_sr_sr] at ei
    have en : q_w32 (((n + 1 : Nat) : Int) + -1) = (n : Int) := by rw [q_w32_id (by omega) (by omega)]; omega
    split
    · rw [fn290_111, en, ei]
    · rw [m_sr_s]
      split
      · rfl
      · rw [fn290_111, en, ei]
theorem fn290_m {p : Nat → Int} {h : q_F} (ok : m_ok p) (hP : m_PA h p (p 4).toNat) {m a : Nat} (hm : (m : Int) < p 4) (ha : a < 3) (h0 : h 140 0 ≠ 0) (hb : 0 ≤ h 140 (11 + a) ∧ h 140 (11 + a) ≤ 20) : fn290 m a h = some ((m_up p m a (h 140)).1, m_sr h 140 (m_up p m a (h 140)).2) := by
  have h16 := ok.2.1
  obtain ⟨p1, -⟩ := hP m (by omega)
  rw [fn290, q_w32_id (z := 3 * (m : Int)) (by omega) (by omega), q_w32_id (z := 3 * (m : Int) + a) (by omega) (by omega), if_pos (by omega), show (3 * (m : Int) + a).toNat = 3 * m + a by omega, p1 a ha, fn333_m, Option.bind_some]
  unfold m_up
  split
  · rw [m_sr_id]
  · rw [q_w32_id (z := 44 + (a : Int)) (by omega) (by omega), if_pos (by omega), show (44 + (a : Int)).toNat = 44 + a by omega]
    split
    · rw [m_sr_id]
    · split
      · rw [m_sr_id]
      · rw [q_w32_id (z := 11 + (a : Int)) (by omega) (by omega), fn303_i (by omega) (by omega), Option.bind_some, show (11 + (a : Int)).toNat = 11 + a by omega, q_w32_id (by omega) (by omega)]
        have e := fn290_58_m (d := m_sg (m_d p m a)) ha (h 140 (11 + a)).toNat q_fu h (by have := q_fu_ge; omega) (by omega) h0
        rw [show (((h 140 (11 + a)).toNat : Nat) : Int) = h 140 (11 + a) by omega] at e
        exact e
