/-! Part 73: the class's moves, whole; the queue's run. -/
/-- what a run knows of the row ahead of the move m -/
def m_iq (p : Nat → Int) (m : Nat) (w : Nat → Int) : Prop := (1 ≤ w 0 ∧ w 0 ≤ 1000) ∧ (∀ a, a < 3 → w (47 + a) = m_beg p m a) ∧ ∀ j, 74 ≤ j → w j = p j
theorem m_iq_fr {p w w' : Nat → Int} {m : Nat} (h : m_iq p m w) (f : m_fr w w') : m_iq p m w' := by
  obtain ⟨h1, h2, h3⟩ := h
  refine ⟨by rw [f 0 (by unfold m_dy; omega)]; exact h1, fun a ha => by rw [f _ (by unfold m_dy; omega)]; exact h2 a ha, fun j hj => by rw [f j (by unfold m_dy; omega)]; exact h3 j hj⟩
theorem c_S_co {h : q_F} {t a : Nat} {p w : Nat → Int} {v : Int} (ht : t + 8 < 125) (ha : a < 3) (hs : c_S h t p w) : c_S (q_ud h (q_axn t a) 12 v) t p (m_u w (47 + a) v) ∧ c_ft t h (q_ud h (q_axn t a) 12 v) := by
  obtain ⟨h1, h2, h3, h4⟩ := hs
  have f : c_ft t h (q_ud h (q_axn t a) 12 v) := by rw [q_axn_e ha]; exact c_ft_u c_ft_r (by omega) (by omega)
  have i : m_iw p (m_u w (47 + a) v) := by
    obtain ⟨⟨⟨i1, i2⟩, i3⟩, i4⟩ := h4
    refine ⟨⟨⟨by rw [m_u_n (by omega)]; exact i1, fun b hb => ?_⟩, by rw [m_u_n (by omega)]; exact i3⟩, by rw [m_u_n (by omega)]; exact i4⟩
    rw [m_u_n (by omega)]; exact i2 b hb
  refine ⟨⟨?_, c_ft_plan f ht h2, m_a3_u h3 (by omega), i⟩, f⟩
  rw [q_axn_e ha]; exact c_tb_f (j := 12) ha (by omega) h1
theorem c_co1 {h : q_F} {t a m f : Nat} {p w : Nat → Int} (ht : t + 8 < 125) (ok : m_ok p) (ha : a < 3) (hm : (m : Int) < p 4) (hs : c_S h t p w) (hv : w (47 + a) = m_beg p m a) (he : ∀ j, 74 ≤ j → w j = p j) : ∃ h', fn137_104 t (f + 1) m a h = fn137_104 t f m ((a + 1 : Nat) : Int) h' ∧ c_S h' t p (m_u w (47 + a) (w (74 + 3 * m + a))) ∧ c_ft t h h' := by
  have h16 := ok.2.1
  have b1 := m_beg_r ok (m := m + 1) (a := a) (by omega) ha
  have e : w (74 + 3 * m + a) = m_beg p (m + 1) a := by rw [he _ (by omega)]; unfold m_beg; rw [if_neg (by omega)]; rfl
  have e12 : h (q_axn t a) 12 = w (47 + a) := c_S_f (j := 12) ha (by omega) hs
  rw [fn137_104, if_neg (by omega), c_dis ok hs.2.1 hm ha, Option.bind_some, m_let, e12, hv]
  have ed : m_beg p m a + m_d p m a = m_beg p (m + 1) a := by unfold m_d; omega
  rw [ed, q_w32_id (by omega) (by omega), q_w32_id (by omega) (by omega), ← m_s1, e]
  obtain ⟨g1, g2⟩ := c_S_co (v := m_beg p (m + 1) a) ht ha hs
  exact ⟨_, rfl, g1, g2⟩
theorem c_co {h : q_F} {t m : Nat} {p w : Nat → Int} (ht : t + 8 < 125) (ok : m_ok p) (hm : (m : Int) < p 4) (hs : c_S h t p w) (hq : m_iq p m w) : ∃ h', fn137_104 t q_fu m 0 h = some (1, h') ∧ c_S h' t p (m_co m w) ∧ c_ft t h h' ∧ m_iq p (m + 1) (m_co m w) := by
  obtain ⟨n, e⟩ := m_fu3
  obtain ⟨q1, q2, q3⟩ := hq
  obtain ⟨g1, a1, a2, a3⟩ := c_co1 (f := n + 1 + 1 + 1) (a := 0) ht ok (by omega) hm hs (q2 0 (by omega)) q3
  obtain ⟨g2, b1, b2, b3⟩ := c_co1 (f := n + 1 + 1) (a := 0 + 1) ht ok (by omega) hm a2 (by rw [m_u_n (by omega)]; exact q2 1 (by omega)) (fun j hj => by rw [m_u_n (by omega)]; exact q3 j hj)
  obtain ⟨g3, d1, d2, d3⟩ := c_co1 (f := n + 1) (a := 0 + 1 + 1) ht ok (by omega) hm b2 (by rw [m_u_n (by omega), m_u_n (by omega)]; exact q2 2 (by omega)) (fun j hj => by rw [m_u_n (by omega), m_u_n (by omega)]; exact q3 j hj)
  rw [m_u_n (show 74 + 3 * m + (0 + 1) ≠ 47 + 0 by omega), m_u_n (show 74 + 3 * m + (0 + 1 + 1) ≠ 47 + (0 + 1) by omega), m_u_n (show 74 + 3 * m + (0 + 1 + 1) ≠ 47 + 0 by omega)] at d2
  have ec : m_co m w = m_u (m_u (m_u w (47 + 0) (w (74 + 3 * m + 0))) (47 + (0 + 1)) (w (74 + 3 * m + (0 + 1)))) (47 + (0 + 1 + 1)) (w (74 + 3 * m + (0 + 1 + 1))) := rfl
  refine ⟨g3, ?_, by rw [ec]; exact d2, c_ft_t a3 (c_ft_t b3 d3), ?_⟩
  · rw [e]
    refine a1.trans (b1.trans (d1.trans ?_))
    rw [fn137_104, if_pos (by omega)]
  · have bb : ∀ a, a < 3 → m_beg p (m + 1) a = w (74 + 3 * m + a) := fun a ha => by rw [q3 _ (by omega)]; unfold m_beg; rw [if_neg (by omega)]; rfl
    unfold m_co
    refine ⟨by rw [m_u_n (by omega), m_u_n (by omega), m_u_n (by omega)]; exact q1, fun a ha => ?_, fun j hj => by rw [m_u_n (by omega), m_u_n (by omega), m_u_n (by omega)]; exact q3 j hj⟩
    rw [bb a ha]
    rcases m_c3 ha with rfl | rfl | rfl <;> simp [m_u]
theorem m_mm_ups (p : Nat → Int) (m : Nat) (w : Nat → Int) : m_mm p m w = m_sq (m_ups p m) (m_sl p m (m_l p m).toNat 0) (m_rv p m 2 (m_rv p m 1 (m_rv p m 0 w))) := by
  unfold m_mm m_ups
  rw [m_sq_as, m_sq_as]
theorem m_ups_z (p : Nat → Int) (m : Nat) (w : Nat → Int) (h1 : w 1 = 0) : m_ups p m w = (1, w) := by
  have e : ∀ a, m_up p m a w = (1, w) := fun a => by unfold m_up; rw [if_pos h1, ite_self, ite_self]
  have s0 : m_sq (m_up p m 0) (m_up p m 1) w = (1, w) := by rw [m_sq_n (by rw [e 0]; exact (show (1 : Int) ≠ 0 from by decide)), e 0]; exact e 1
  unfold m_ups
  rw [m_sq_n (by rw [s0]; exact (show (1 : Int) ≠ 0 from by decide)), s0]
  exact e 2
theorem m_sq_fst {f g : (Nat → Int) → Int × (Nat → Int)} (hf : ∀ w, (f w).1 = 0 ∨ (f w).1 = 1) (hg : ∀ w, (g w).1 = 0 ∨ (g w).1 = 1) (w : Nat → Int) : (m_sq f g w).1 = 0 ∨ (m_sq f g w).1 = 1 := by
  unfold m_sq; split
  · exact hf w
  · exact hg _
theorem m_ups_01 (p : Nat → Int) (m : Nat) (w : Nat → Int) : (m_ups p m w).1 = 0 ∨ (m_ups p m w).1 = 1 := m_sq_fst (m_sq_fst (m_up_z p m 0) (m_up_z p m 1)) (m_up_z p m 2) w
theorem m_ups_fr (p : Nat → Int) (m : Nat) (w : Nat → Int) : m_fr w (m_ups p m w).2 := m_sq_fr (m_sq_fr (m_up_fr (by omega)) (m_up_fr (by omega))) (m_up_fr (by omega)) w
theorem m_mm_z (p : Nat → Int) (m : Nat) (w : Nat → Int) : (m_mm p m w).1 = 0 ∨ (m_mm p m w).1 = 1 := by
  rw [m_mm_ups]
  exact m_sq_fst (m_ups_01 p m) (m_sl_z p m _ _) _
theorem c_24 {h : q_F} {t m : Nat} {p w : Nat → Int} (ht : t + 8 < 125) (ok : m_ok p) (nn : m_nn p) (hm : (m : Int) < p 4) (hs : c_S h t p w) (hq : m_iq p m w) :
    ∃ h', fn137_24 t m h = some ((m_sl p m (m_l p m).toNat 0 w).1, h') ∧ ((m_sl p m (m_l p m).toNat 0 w).1 = 0 → c_S h' t p (m_sl p m (m_l p m).toNat 0 w).2) ∧ ((m_sl p m (m_l p m).toNat 0 w).1 = 1 → c_S h' t p (m_co m (m_sl p m (m_l p m).toNat 0 w).2) ∧ m_iq p (m + 1) (m_co m (m_sl p m (m_l p m).toNat 0 w).2)) ∧ c_ft t h h' := by
  have h16 := ok.2.1
  have l := m_l_r ok (m := m) (by omega)
  obtain ⟨h1, a1, a2, a3⟩ := c_sl ht ok nn hm (m_l p m).toNat 0 q_fu h w (by omega) (by omega) (by have := q_fu_ge; omega) hs
  have fr := m_sl_fr (p := p) (m := m) (m_l p m).toNat 0 w
  rw [fn137_24, c_lead (hs.2.1.1.2 m (by omega)).1 (by omega), Option.bind_some, a1]
  rcases m_sl_z p m (m_l p m).toNat 0 w with z | z
  · exact ⟨h1, by rw [if_pos z, z], fun _ => a2, fun e => by omega, a3⟩
  · obtain ⟨h2, b1, b2, b3, b4⟩ := c_co ht ok hm a2 (m_iq_fr hq fr)
    exact ⟨h2, by rw [if_neg (by omega), b1, z], fun e => by omega, fun _ => ⟨b2, b4⟩, c_ft_t a3 b3⟩
theorem c_mm {h : q_F} {t m : Nat} {p w : Nat → Int} (ht : t + 8 < 125) (ok : m_ok p) (nn : m_nn p) (hm : (m : Int) < p 4) (hs : c_S h t p w) (hq : m_iq p m w) :
    ∃ h', fn137 t m h = some ((m_mm p m w).1, h') ∧ ((m_mm p m w).1 = 0 → c_S h' t p (m_mm p m w).2) ∧ ((m_mm p m w).1 = 1 → c_S h' t p (m_co m (m_mm p m w).2) ∧ m_iq p (m + 1) (m_co m (m_mm p m w).2)) ∧ c_ft t h h' := by
  obtain ⟨h1, a1, a2, a3⟩ := c_rv ht ok hm hs
  have fr1 : m_fr w (m_rv p m 2 (m_rv p m 1 (m_rv p m 0 w))) := m_fr_t (m_rv_fr (by omega) w) (m_fr_t (m_rv_fr (by omega) _) (m_rv_fr (by omega) _))
  rw [m_mm_ups, fn137, a1, Option.bind_some]
  dsimp only
  have hq1 := m_iq_fr hq fr1
  generalize m_rv p m 2 (m_rv p m 1 (m_rv p m 0 w)) = w1 at a2 hq1 ⊢
  have e5 := (c_S_o a2).2.1
  by_cases c : w1 1 = 0
  · rw [if_pos (e5.trans c), m_sq_n (by rw [m_ups_z _ _ _ c]; exact (show (1 : Int) ≠ 0 from by decide)), m_ups_z _ _ _ c]
    obtain ⟨h2, b1, b2, b3, b4⟩ := c_24 ht ok nn hm a2 hq1
    exact ⟨h2, b1, b2, b3, c_ft_t a3 b4⟩
  · obtain ⟨h2, b1, b2, b3⟩ := c_ups ht ok hm a2 c hq1.1 (fun a ha => (m_a3_i a2.2.2.1 ha).1.2.2)
    rw [if_neg (by omega), b1, Option.bind_some]
    dsimp only
    have hq2 := m_iq_fr hq1 (m_ups_fr p m w1)
    rcases m_ups_01 p m w1 with z | z
    · rw [if_pos z, m_sq_z z]
      exact ⟨h2, rfl, fun _ => b2, fun e => by simp at e, c_ft_t a3 b3⟩
    · rw [if_neg (by omega), m_sq_n (by omega)]
      obtain ⟨h3, d1, d2, d3, d4⟩ := c_24 ht ok nn hm b2 hq2
      exact ⟨h3, d1, d2, d3, c_ft_t a3 (c_ft_t b3 d4)⟩
/-- three places of a row of targets moved -/
theorem c_cp3s {h : q_F} {o s d i f : Nat} (hs : s < 16) (hd : d < 16) (hi : i < 3) : fn145_2 o (f + 1) s d i h = fn145_2 o f s d ((i + 1 : Nat) : Int) (m_sr h (o + 1) (m_u (h (o + 1)) (3 * d + i) (h (o + 1) (3 * s + i)))) := by
  rw [fn145_2, if_neg (by omega), fn148, q_w32_id (z := (s : Int) * 3) (by omega) (by omega), q_w32_id (z := (s : Int) * 3 + i) (by omega) (by omega), c_ent (by omega) (by omega), Option.bind_some, Option.bind_some, fn154, q_w32_id (z := (d : Int) * 3) (by omega) (by omega), q_w32_id (z := (d : Int) * 3 + i) (by omega) (by omega), c_put (by omega) (by omega), Option.bind_some, Option.bind_some, q_w32_id (z := (i : Int) + 1) (by omega) (by omega), show ((s : Int) * 3 + i).toNat = 3 * s + i by omega, show ((d : Int) * 3 + i).toNat = 3 * d + i by omega, m_ud_sr, ← m_s1]
/-- a point moved -/
def m_pt (s d : Nat) (v : Nat → Int) : Nat → Int := m_u (m_u (m_u v (3 * d + 0) (v (3 * s + 0))) (3 * d + 1) (v (3 * s + 1))) (3 * d + 2) (v (3 * s + 2))
theorem c_cp3 {h : q_F} {o s d : Nat} (hs : s < 16) (hd : d < 16) : fn145 o s d h = some (0, m_sr h (o + 1) (m_pt s d (h (o + 1)))) := by
  obtain ⟨n, e⟩ := m_fu3
  have g0 := c_cp3s (h := h) (o := o) (f := n + 1 + 1 + 1) hs hd (show 0 < 3 by omega)
  rw [c_cp3s (f := n + 1 + 1) hs hd (show 0 + 1 < 3 by omega), c_cp3s (f := n + 1) hs hd (show 0 + 1 + 1 < 3 by omega)] at g0
  simp only [m_sr_s, m_sr_sr] at g0
  rw [m_u_n (show 3 * s + (0 + 1) ≠ 3 * d + 0 by omega), m_u_n (show 3 * s + (0 + 1 + 1) ≠ 3 * d + (0 + 1) by omega), m_u_n (show 3 * s + (0 + 1 + 1) ≠ 3 * d + 0 by omega)] at g0
  rw [fn145, e]
  refine g0.trans ?_
  rw [fn145_2, if_pos (by omega)]
  rfl
theorem m_pt_cp {v : Nat → Int} {k at' into s d : Nat} (hd : 3 * d = into + k) (hs : 3 * s = at' + k) (hle : into ≤ at') : m_pt s d (m_cp v v at' into k) = m_cp v v at' into (k + 3) := by
  have e : ∀ i, m_cp v v at' into k (3 * s + i) = v (at' + (k + i)) := fun i => by
    unfold m_cp; rw [if_neg (by omega)]; congr 1; omega
  unfold m_pt
  rw [e 0, e 1, e 2, show 3 * d + 0 = into + k by omega, show k + 0 = k from rfl, m_cp_s, show 3 * d + 1 = into + (k + 1) by omega, m_cp_s, show 3 * d + 2 = into + (k + 1 + 1) by omega, show k + 2 = k + 1 + 1 from rfl, m_cp_s]
theorem c_rmf {o m : Nat} {v : Nat → Int} {s : Nat} (hs : s ≤ 16) (hm : m ≤ s) : ∀ (d u f : Nat) (h : q_F), u + d = s → m ≤ u → d < f → h o 1 = s → h (o + 1) = m_cp v v (3 * m) 0 (3 * (u - m)) → fn153_2 o f m u h = some (0, q_ud (m_sr h (o + 1) (m_cp v v (3 * m) 0 (3 * (s - m)))) o 1 ((s - m : Nat) : Int)) := by
  intro d
  induction d with
  | zero =>
    intro u f h hu hmu hf h1 hv
    obtain ⟨f, rfl⟩ : ∃ f', f = f' + 1 := ⟨f - 1, by omega⟩
    obtain rfl : u = s := by omega
    rw [fn153_2, h1, if_pos (by omega), m_let, q_w32_id (by omega) (by omega), ← hv, m_sr_id]
    congr 3
    unfold qx_mx; split <;> omega
  | succ d ih =>
    intro u f h hu hmu hf h1 hv
    obtain ⟨f, rfl⟩ : ∃ f', f = f' + 1 := ⟨f - 1, by omega⟩
    rw [fn153_2, h1, if_neg (by omega), q_w32_id (z := (u : Int) - m) (by omega) (by omega), show (u : Int) - m = ((u - m : Nat) : Int) by omega, c_cp3 (by omega) (by omega), Option.bind_some, hv, m_pt_cp (by omega) (by omega) (by omega), q_w32_id (by omega) (by omega), ← m_s1]
    dsimp only
    rw [ih (u + 1) f _ (by omega) (by omega) (by omega) (by rw [m_sr_n (by omega)]; exact h1) (by rw [m_sr_s]; congr 1; omega), m_sr_sr]
