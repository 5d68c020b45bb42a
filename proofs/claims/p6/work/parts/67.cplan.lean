/-! Part 67: the class's plan: leads, cruises, gains. -/
def m_mxv (c : Int) : Int := if c = -1 then 2147483647 else c
noncomputable def m_st (p : Nat → Int) (m a : Nat) : Int := if m_d p m a = 0 then 0 else if m_tn p m a = 0 then 0 else p (11 + a)
noncomputable def m_cmp (p : Nat → Int) (m : Nat) : Int := if p 1 = 0 then 0 else m_st p m 0 + m_st p m 1 + m_st p m 2
theorem c_dist {h : q_F} {p : Nat → Int} {m a : Nat} (hd : h 127 (3 * m + a) = m_d p m a) (hm : m < 16) (ha : a < 3) : fn73 m a h = some (m_d p m a) := by
  rw [fn73, q_w32_id (z := (m : Int) * 3) (by omega) (by omega), q_w32_id (z := (m : Int) * 3 + a) (by omega) (by omega), c_ent (by omega) (by omega), Option.bind_some, show ((m : Int) * 3 + a).toNat = 3 * m + a by omega, hd]
theorem c_turns {h : q_F} {p : Nat → Int} {m a : Nat} (hd : h 128 (3 * m + a) = m_tn p m a) (hm : m < 16) (ha : a < 3) : fn100 m a h = some (m_tn p m a) := by
  rw [fn100, q_w32_id (z := (m : Int) * 3) (by omega) (by omega), q_w32_id (z := (m : Int) * 3 + a) (by omega) (by omega), c_ent (by omega) (by omega), Option.bind_some, show ((m : Int) * 3 + a).toNat = 3 * m + a by omega, hd]
  unfold m_tn
  split
  · rw [if_neg (by decide)]
  · rw [if_pos rfl]
theorem c_cf_v {p : Nat → Int} {kk m a : Nat} {c : Int} (h : m_abs (m_d p m a) ≠ 0) (hq : 0 ≤ q_idv (p (kk + a) * m_l p m) (m_abs (m_d p m a)) ∧ q_idv (p (kk + a) * m_l p m) (m_abs (m_d p m a)) ≤ 2147483647) : qx_mn (m_mxv c) (q_idv (p (kk + a) * m_l p m) (m_abs (m_d p m a))) = m_mxv (m_cf p kk m a c) := by
  unfold m_cf m_mxv
  rw [if_neg h]
  by_cases e : c = -1
  · rw [if_pos e, if_pos e, if_neg (by omega)]
    unfold qx_mn; split <;> omega
  · rw [if_neg e, if_neg e]
    unfold qx_mn
    split
    · first | rfl | rw [if_neg e]
    · rw [if_neg (by omega)]
theorem m_q_r {p : Nat → Int} {kk m a : Nat} (ok : m_ok p) (hm : m < 16) (ha : a < 3) (h1 : 1 ≤ p (kk + a)) (h2 : p (kk + a) ≤ 5000) (h : m_abs (m_d p m a) ≠ 0) : 0 ≤ q_idv (p (kk + a) * m_l p m) (m_abs (m_d p m a)) ∧ q_idv (p (kk + a) * m_l p m) (m_abs (m_d p m a)) ≤ 2147483647 := by
  have hl := m_l_r ok hm
  have h0 := m_abs_0 (m_d p m a)
  have hr := m_abs_r (m_d_r ok hm ha)
  have hp := m_mulr (x := p (kk + a)) (l := m_l p m) (a := 5000) (b := 2000) (by omega) h2 hl.1 hl.2.1
  rw [m_idv hp.1 (by omega) (by omega) (by omega)]
  have g0 : 0 ≤ p (kk + a) * m_l p m / m_abs (m_d p m a) := Int.ediv_nonneg hp.1 (by omega)
  have g1 : p (kk + a) * m_l p m / m_abs (m_d p m a) ≤ p (kk + a) * m_l p m := Int.ediv_le_self _ hp.1
  omega
theorem c_rate46s {o m a n t g : Nat} {p : Nat → Int} {c c' s : Int} {h : q_F} (ho : o = t) (hs : c_src h t g p) (ok : m_ok p) (hm : m < 16) (ha : a < 3) (hd : h 127 (3 * m + a) = m_d p m a) (ht : h 128 (3 * m + a) = m_tn p m a) (hs0 : 0 ≤ s ∧ s ≤ 1000) :
    fn89_46 o (n + 1) m (m_l p m) (m_mxv c) (m_mxv c') s a h = fn89_46 o n m (m_l p m) (m_mxv (m_cf p 14 m a c)) (m_mxv (m_cf p 17 m a c')) (s + m_st p m a) ((a + 1 : Nat) : Int) h := by
  subst ho
  have hr := m_d_r ok hm ha
  have h0 := m_abs_0 (m_d p m a)
  have hok := ok.2.2.1 a ha
  have hl := m_l_r ok hm
  obtain ⟨-, -, s2, s3, s1⟩ := hs.1 a ha
  rw [fn89_46, if_neg (by omega), c_dist hd hm ha, Option.bind_some, c_abs (by omega) (by omega)]
  by_cases hz : m_abs (m_d p m a) = 0
  · have hz' := m_abs_z.mp hz
    rw [if_pos (by omega), fn89_139, q_w32_id (by omega) (by omega), m_s1]
    have e1 : ∀ kk c, m_cf p kk m a c = c := fun kk c => by unfold m_cf; rw [if_pos hz]
    rw [e1, e1]
    unfold m_st; rw [if_pos hz', Int.add_zero]
  · have hz' : m_d p m a ≠ 0 := fun h9 => hz (m_abs_z.mpr h9)
    have hp1 := m_mulr (x := p (14 + a)) (a := 5000) (b := 2000) (by omega) (by omega) hl.1 hl.2.1
    have hp2 := m_mulr (x := p (17 + a)) (a := 500) (b := 2000) (by omega) (by omega) hl.1 hl.2.1
    rw [if_neg (by omega), q_axn_e ha, s2, s3, q_w32_id (z := p (14 + a) * m_l p m) (by omega) (by omega), q_w32_id (z := p (17 + a) * m_l p m) (by omega) (by omega), c_quo hz, Option.bind_some, c_quo hz, Option.bind_some, c_turns ht hm ha, Option.bind_some, c_cf_v hz (m_q_r ok hm ha (by omega) (by omega) hz), c_cf_v hz (m_q_r ok hm ha (by omega) (by omega) hz)]
    unfold m_st
    rw [if_neg hz']
    split
    · rw [fn89_136, fn89_139, q_w32_id (z := (a : Int) + 1) (by omega) (by omega), m_s1, q_w32_id (by omega) (by omega)]
    · rw [s1, fn89_136, fn89_139, q_w32_id (z := (a : Int) + 1) (by omega) (by omega), m_s1, q_w32_id (by omega) (by omega)]
theorem m_st_r {p : Nat → Int} (ok : m_ok p) {m a : Nat} (ha : a < 3) : 0 ≤ m_st p m a ∧ m_st p m a ≤ 20 := by
  have := ok.2.2.1 a ha
  unfold m_st; (repeat' split) <;> omega
/-- behind the rating of the first n moves -/
def c_ra (h : q_F) (p : Nat → Int) (n : Nat) : Prop := ∀ m, m < n → h 129 m = m_l p m ∧ h 130 m = m_c p 14 m ∧ h 131 m = m_c p 17 m ∧ h 133 m = m_cmp p m
theorem c_rate {t g m : Nat} {p : Nat → Int} {h : q_F} (hs : c_src h t g p) (ht : t + 6 < 125) (ok : m_ok p) (hm : m < 16) (hv : m_mv p m) (hd : ∀ a, a < 3 → h 127 (3 * m + a) = m_d p m a ∧ h 128 (3 * m + a) = m_tn p m a) :
    fn89 t m h = some (0, q_ud (q_ud (q_ud (q_ud h 129 m (m_l p m)) 130 m (m_c p 14 m)) 131 m (m_c p 17 m)) 133 m (m_cmp p m)) := by
  obtain ⟨n, e⟩ := m_fu3
  have r0 := m_d_r ok hm (show 0 < 3 by omega)
  have r1 := m_d_r ok hm (show 1 < 3 by omega)
  have r2 := m_d_r ok hm (show 2 < 3 by omega)
  have s0 := m_st_r (m := m) ok (show 0 < 3 by omega)
  have s1 := m_st_r (m := m) ok (show 1 < 3 by omega)
  have s2 := m_st_r (m := m) ok (show 2 < 3 by omega)
  have s1' : 0 ≤ m_st p m (0 + 1) ∧ m_st p m (0 + 1) ≤ 20 := s1
  have a5 : ∀ f l (a : Nat), a < 3 → fn89_5 t (f + 1) m l a h = fn89_5 t f m (qx_mx l (m_abs (m_d p m a))) ((a + 1 : Nat) : Int) h := fun f l a ha => by
    have r := m_d_r ok hm ha
    rw [fn89_5, if_neg (by omega), c_dist (hd a ha).1 hm ha, Option.bind_some, c_abs (by omega) (by omega), q_w32_id (by omega) (by omega), m_s1]
  have b5 : fn89_5 t q_fu m 0 ((0 : Nat) : Int) h = fn89_46 t q_fu m (m_l p m) (m_mxv (-1)) (m_mxv (-1)) 0 ((0 : Nat) : Int) h := by
    rw [e, a5 _ _ 0 (by omega), a5 _ _ 1 (by omega), a5 _ _ 2 (by omega), fn89_5, if_pos (by decide), ← e]
    rfl
  rw [fn89]
  refine b5.trans ?_
  rw [e, c_rate46s rfl hs ok hm (show 0 < 3 by omega) (hd 0 (by omega)).1 (hd 0 (by omega)).2 (by omega), c_rate46s rfl hs ok hm (show 0 + 1 < 3 by omega) (hd 1 (by omega)).1 (hd 1 (by omega)).2 (by omega), c_rate46s rfl hs ok hm (show 0 + 1 + 1 < 3 by omega) (hd 2 (by omega)).1 (hd 2 (by omega)).2 (by omega)]
  have ec : m_mxv (m_cf p 14 m (0 + 1 + 1) (m_cf p 14 m (0 + 1) (m_cf p 14 m 0 (-1)))) = m_c p 14 m := by
    have := m_cru_r ok hm hv
    show m_mxv (m_c p 14 m) = _
    unfold m_mxv; rw [if_neg (by omega)]
  have eg : m_mxv (m_cf p 17 m (0 + 1 + 1) (m_cf p 17 m (0 + 1) (m_cf p 17 m 0 (-1)))) = m_c p 17 m := by
    have := m_gain_r ok hm hv
    show m_mxv (m_c p 17 m) = _
    unfold m_mxv; rw [if_neg (by omega)]
  rw [ec, eg, fn89_46, if_pos (by omega), c_put (by omega) (by omega), Option.bind_some]
  dsimp only
  rw [c_put (by omega) (by omega), Option.bind_some]
  dsimp only
  rw [c_put (by omega) (by omega), Option.bind_some]
  dsimp only
  rw [Int.toNat_natCast]
  have e5 : q_ud (q_ud (q_ud h 129 m (m_l p m)) 130 m (m_c p 14 m)) 131 m (m_c p 17 m) t 5 = p 1 := by
    rw [q_ud_n (by omega), q_ud_n (by omega), q_ud_n (by omega)]; exact hs.2.1
  unfold m_cmp
  by_cases h1 : p 1 = 0
  · rw [if_pos (e5.trans h1), if_pos h1, fn89_192, c_put (by omega) (by omega), Option.bind_some, Int.toNat_natCast]
  · rw [if_neg (fun h9 => h1 (e5.symm.trans h9)), if_neg h1, fn89_192, c_put (by omega) (by omega), Option.bind_some, Int.toNat_natCast, Int.zero_add]
theorem c_rate_s {h : q_F} {p : Nat → Int} {m : Nat} (hr : c_ra h p m) : c_ra (q_ud (q_ud (q_ud (q_ud h 129 m (m_l p m)) 130 m (m_c p 14 m)) 131 m (m_c p 17 m)) 133 m (m_cmp p m)) p (m + 1) := by
  intro j hj
  by_cases e : j = m
  · subst e
    refine ⟨?_, ?_, ?_, ?_⟩
    · rw [q_ud_n (by omega), q_ud_n (by omega), q_ud_n (by omega), q_ud_s]
    · rw [q_ud_n (by omega), q_ud_n (by omega), q_ud_s]
    · rw [q_ud_n (by omega), q_ud_s]
    · rw [q_ud_s]
  · obtain ⟨h1, h2, h3, h4⟩ := hr j (by omega)
    refine ⟨?_, ?_, ?_, ?_⟩ <;> (rw [q_ud_n (by omega), q_ud_n (by omega), q_ud_n (by omega), q_ud_n (by omega)]; assumption)
