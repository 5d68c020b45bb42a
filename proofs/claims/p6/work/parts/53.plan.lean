/-! Part 53: the reference's plan of the queue: which moves go on straight, the passes over the speeds. -/
/-- the arrays hold the distances, leads, cruises and gains of the first n moves -/
def m_PA (h : q_F) (w : Nat → Int) (n : Nat) : Prop := ∀ m, m < n → (∀ a, a < 3 → h 145 (3 * m + a) = m_d w m a) ∧ h 146 m = m_l w m ∧ h 147 m = m_c w 14 m ∧ h 148 m = m_c w 17 m
theorem m_PA_lay {h : q_F} {w : Nat → Int} {n : Nat} (hP : m_PA h w n) : m_PA (m_lay h w n) w (n + 1) := by
  intro m hm
  by_cases e : m = n
  · subst e
    refine ⟨fun a ha => ?_, by simp [m_lay, m_u], by simp [m_lay, m_u], by simp [m_lay, m_u]⟩
    rcases m_c3 ha with rfl | rfl | rfl <;> simp [m_lay, m_u]
  · obtain ⟨h1, h2, h3, h4⟩ := hP m (by omega)
    refine ⟨fun a ha => ?_, ?_, ?_, ?_⟩
    · rw [← h1 a ha]
      simp only [m_lay, if_true]
      rw [m_u_n (by omega), m_u_n (by omega), m_u_n (by omega)]
    · rw [← h2]; simp [m_lay, m_u, e]
    · rw [← h3]; simp [m_lay, m_u, e]
    · rw [← h4]; simp [m_lay, m_u, e]
theorem m_lay_o {h : q_F} {w : Nat → Int} {n k : Nat} (hk : k < 145 ∨ 148 < k) : m_lay h w n k = h k := by
  unfold m_lay
  rw [if_neg (by omega), if_neg (by omega), if_neg (by omega), if_neg (by omega)]
def m_stra (w : Nat → Int) (m a : Nat) : Prop := m_d w m a * m_l w (m + 1) = m_d w (m + 1) a * m_l w m
noncomputable def m_str (w : Nat → Int) (m : Nat) : Int := if (m : Int) + 1 < w 4 then (if m_d w m 0 * m_l w (m + 1) = m_d w (m + 1) 0 * m_l w m then (if m_d w m 1 * m_l w (m + 1) = m_d w (m + 1) 1 * m_l w m then (if m_d w m 2 * m_l w (m + 1) = m_d w (m + 1) 2 * m_l w m then 1 else 0) else 0) else 0) else 0
theorem m_mul2 {x l a b : Int} (h1 : -a ≤ x) (h2 : x ≤ a) (h3 : 0 ≤ l) (h4 : l ≤ b) (h5 : 0 ≤ a) : -(a * b) ≤ x * l ∧ x * l ≤ a * b := by
  have g0 : a * l ≤ a * b := Int.mul_le_mul_of_nonneg_left h4 h5
  have g1 : x * l ≤ a * l := Int.mul_le_mul_of_nonneg_right h2 h3
  have g2 : (-a) * l ≤ x * l := Int.mul_le_mul_of_nonneg_right h1 h3
  rw [Int.neg_mul] at g2
  exact ⟨by omega, by omega⟩
theorem fn272_18s {w : Nat → Int} {h : q_F} {m n a : Nat} (ok : m_ok w) (hm : m + 1 < 16) (ha : a < 3) (hP : m_PA h w (m + 2)) : fn272_18 h (n + 1) m a = if m_d w m a * m_l w (m + 1) = m_d w (m + 1) a * m_l w m then fn272_18 h n m ((a + 1 : Nat) : Int) else some 0 := by
  obtain ⟨h1, h2, -⟩ := hP m (by omega)
  obtain ⟨g1, g2, -⟩ := hP (m + 1) (by omega)
  have d1 := m_d_r ok (m := m) (by omega) ha
  have d2 := m_d_r ok (m := m + 1) (by omega) ha
  have l1 := m_l_r ok (m := m) (by omega)
  have l2 := m_l_r ok (m := m + 1) (by omega)
  have p1 := m_mul2 (a := 2000) (b := 2000) d1.1 d1.2 l2.1 l2.2.1 (by omega)
  have p2 := m_mul2 (a := 2000) (b := 2000) d2.1 d2.2 l1.1 l1.2.1 (by omega)
  rw [fn272_18, if_neg (by omega), q_w32_id (z := 3 * (m : Int)) (by omega) (by omega), q_w32_id (z := 3 * (m : Int) + a) (by omega) (by omega), q_w32_id (z := (m : Int) + 1) (by omega) (by omega), q_w32_id (z := 3 * ((m : Int) + 1)) (by omega) (by omega), q_w32_id (z := 3 * ((m : Int) + 1) + a) (by omega) (by omega), if_pos (by omega), if_pos (by omega), if_pos (by omega), if_pos (by omega)]
  rw [show (3 * (m : Int) + a).toNat = 3 * m + a by omega, show (3 * ((m : Int) + 1) + a).toNat = 3 * (m + 1) + a by omega, m_tn1, Int.toNat_natCast, h1 a ha, g1 a ha, h2, g2, q_w32_id (by omega) (by omega), q_w32_id (by omega) (by omega), q_w32_id (z := (a : Int) + 1) (by omega) (by omega), m_s1]
theorem fn272_m {w : Nat → Int} {h : q_F} {m : Nat} (hw : h 140 = w) (ok : m_ok w) (hm : (m : Int) < w 4) (hP : m_PA h w (w 4).toNat) : fn272 m h = some (m_str w m) := by
  have h4 := ok.2.1
  obtain ⟨n, e⟩ := m_fu3
  rw [fn272, q_w32_id (by omega) (by omega), hw]
  unfold m_str
  split
  · rename_i hlt
    have hP2 : m_PA h w (m + 2) := fun j hj => hP j (by omega)
    have e3 : fn272_18 h (n + 1) m ((0 + 1 + 1 + 1 : Nat) : Int) = some 1 := by rw [fn272_18, if_pos (by omega)]
    have e0 := fn272_18s (n := n + 1 + 1 + 1) ok (by omega) (show 0 < 3 by omega) hP2
    rw [fn272_18s (n := n + 1 + 1) ok (by omega) (show 0 + 1 < 3 by omega) hP2, fn272_18s (n := n + 1) ok (by omega) (show 0 + 1 + 1 < 3 by omega) hP2, e3] at e0
    rw [e]
    refine e0.trans ?_
    clear e0 e3 hP hP2
    (repeat' split) <;> simp_all
  · rfl
/-- the speeds between the moves, before the passes -/
noncomputable def m_b0 (w : Nat → Int) (m : Nat) : Int := if m = 0 then qx_mn (w 0) (m_c w 14 0) else if (m : Int) = w 4 then qx_mn (w 0) (m_c w 14 (m - 1)) else if m_str w (m - 1) = 0 then qx_mn (w 0) (qx_mn (m_c w 14 (m - 1)) (m_c w 14 m)) else qx_mn (m_c w 14 (m - 1)) (m_c w 14 m)
noncomputable def m_b1r (w : Nat → Int) (n : Nat) : Nat → Int
  | 0 => m_b0 w n
  | d + 1 => qx_mn (m_b0 w (n - 1 - d)) (m_b1r w n d + m_c w 17 (n - 1 - d) * m_l w (n - 1 - d))
noncomputable def m_b1 (w : Nat → Int) (m : Nat) : Int := m_b1r w (w 4).toNat ((w 4).toNat - m)
noncomputable def m_b (w : Nat → Int) : Nat → Int
  | 0 => m_b1 w 0
  | m + 1 => qx_mn (m_b1 w (m + 1)) (m_b w m + m_c w 17 m * m_l w m)
/-- no move leads nowhere -/
def m_nn (w : Nat → Int) : Prop := ∀ m : Nat, (m : Int) < w 4 → m_mv w m
theorem m_b0_r {w : Nat → Int} (ok : m_ok w) (nn : m_nn w) {m : Nat} (hm : (m : Int) ≤ w 4) (h4 : 0 < w 4) : 1 ≤ m_b0 w m ∧ m_b0 w m ≤ 5000 := by
  have h0 := ok.1; have h16 := ok.2.1
  unfold m_b0
  split
  · have := m_cru_r ok (m := 0) (by omega) (nn 0 (by omega)); unfold qx_mn; split <;> omega
  · have c1 := m_cru_r ok (m := m - 1) (by omega) (nn (m - 1) (by omega))
    split
    · unfold qx_mn; split <;> omega
    · have c2 := m_cru_r ok (m := m) (by omega) (nn m (by omega))
      unfold qx_mn
      (repeat' split) <;> omega
theorem m_reach_r {w : Nat → Int} (ok : m_ok w) (nn : m_nn w) {m : Nat} (hm : (m : Int) < w 4) : 0 ≤ m_c w 17 m * m_l w m ∧ m_c w 17 m * m_l w m ≤ 1000000 := by
  have h16 := ok.2.1
  have g := m_gain_r ok (m := m) (by omega) (nn m hm)
  have l := m_l_r ok (m := m) (by omega)
  have := m_mulr (x := m_c w 17 m) (l := m_l w m) (a := 500) (b := 2000) (by omega) (by omega) (by omega) (by omega)
  omega
theorem m_b1r_r {w : Nat → Int} (ok : m_ok w) (nn : m_nn w) (h4 : 0 < w 4) : ∀ d, d ≤ (w 4).toNat → 1 ≤ m_b1r w (w 4).toNat d ∧ m_b1r w (w 4).toNat d ≤ m_b0 w ((w 4).toNat - d) := by
  intro d
  induction d with
  | zero => intro _; unfold m_b1r; have := m_b0_r ok nn (m := (w 4).toNat) (by omega) h4; rw [Nat.sub_zero]; omega
  | succ d ih =>
    intro hd
    have i1 := ih (by omega)
    have b := m_b0_r ok nn (m := (w 4).toNat - 1 - d) (by omega) h4
    have r := m_reach_r ok nn (m := (w 4).toNat - 1 - d) (by omega)
    unfold m_b1r
    rw [show (w 4).toNat - (d + 1) = (w 4).toNat - 1 - d by omega]
    unfold qx_mn; split <;> omega
theorem m_b1_r {w : Nat → Int} (ok : m_ok w) (nn : m_nn w) {m : Nat} (hm : (m : Int) ≤ w 4) (h4 : 0 < w 4) : 1 ≤ m_b1 w m ∧ m_b1 w m ≤ 5000 := by
  have h := m_b1r_r ok nn h4 ((w 4).toNat - m) (by omega)
  rw [show (w 4).toNat - ((w 4).toNat - m) = m by omega] at h
  have b := m_b0_r ok nn hm h4
  unfold m_b1; omega
theorem m_b_r {w : Nat → Int} (ok : m_ok w) (nn : m_nn w) (h4 : 0 < w 4) : ∀ m : Nat, (m : Int) ≤ w 4 → 1 ≤ m_b w m ∧ m_b w m ≤ 5000 := by
  intro m
  induction m with
  | zero => intro _; unfold m_b; exact m_b1_r ok nn (by omega) h4
  | succ m ih =>
    intro hm
    have i1 := ih (by omega)
    have b := m_b1_r ok nn (m := m + 1) (by omega) h4
    have r := m_reach_r ok nn (m := m) (by omega)
    unfold m_b qx_mn; split <;> omega
