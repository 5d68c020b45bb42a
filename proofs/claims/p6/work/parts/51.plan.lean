/-! Part 51: the reference's plan of the queue. -/
theorem m_let {α β : Type} (a : α) (f : α → β) : q_let a f = f a := rfl
theorem m_u_id (w : Nat → Int) (j : Nat) : m_u w j (w j) = w := by funext j'; unfold m_u; split; rename_i e; rw [e]; rfl
theorem m_tn1 (m : Nat) : ((m : Int) + 1).toNat = m + 1 := by omega
theorem m_s1 (i : Nat) : ((i + 1 : Nat) : Int) = (i : Int) + 1 := by omega
/-- what the places of a table's row hold -/
def m_ok (w : Nat → Int) : Prop := (1 ≤ w 0 ∧ w 0 ≤ 1000) ∧ (0 ≤ w 4 ∧ w 4 ≤ 16) ∧
  (∀ a, a < 3 → 1 ≤ w (8 + a) ∧ w (8 + a) ≤ 2000 ∧ 0 ≤ w (11 + a) ∧ w (11 + a) ≤ 20 ∧ 1 ≤ w (14 + a) ∧ w (14 + a) ≤ 5000 ∧ 1 ≤ w (17 + a) ∧ w (17 + a) ≤ 500 ∧ 0 ≤ w (47 + a) ∧ w (47 + a) ≤ 2000) ∧
  (∀ j, 74 ≤ j → j < 122 → 0 ≤ w j ∧ w j ≤ 2000)
def m_beg (w : Nat → Int) (m a : Nat) : Int := if m = 0 then w (47 + a) else w (74 + 3 * (m - 1) + a)
theorem m_beg_r {w : Nat → Int} (ok : m_ok w) {m a : Nat} (hm : m ≤ 16) (ha : a < 3) : 0 ≤ m_beg w m a ∧ m_beg w m a ≤ 2000 := by
  unfold m_beg
  split
  · have := ok.2.2.1 a ha; omega
  · exact ok.2.2.2 _ (by omega) (by omega)
theorem fn303_i {z : Int} {h : q_F} (h0 : 0 ≤ z) (h1 : z < 122) : fn303 z h = some (q_w32 (h 140 z.toNat)) := by
  unfold fn303; rw [if_pos ⟨h0, h1⟩]
theorem fn240_i {z a : Int} {h : q_F} {w : Nat → Int} (hw : h 140 = w) (ok : m_ok w) (h0 : 0 ≤ z) (h1 : z ≤ 16) (a0 : 0 ≤ a) (a1 : a < 3) : fn240 z a h = some (m_beg w z.toNat a.toNat) := by
  subst hw
  have hr := m_beg_r ok (m := z.toNat) (a := a.toNat) (by omega) (by omega)
  unfold fn240
  unfold m_beg at hr ⊢
  by_cases e : z = 0
  · subst e
    rw [if_pos rfl, q_w32_id (by omega) (by omega), fn303_i (by omega) (by omega), Option.bind_some]
    rw [show (47 + a : Int).toNat = 47 + a.toNat by omega]
    rw [if_pos (by omega)] at hr ⊢
    rw [q_w32_id (by omega) (by omega)]
  · rw [if_neg e, q_w32_id (z := z - 1) (by omega) (by omega), q_w32_id (z := 3 * (z - 1)) (by omega) (by omega), q_w32_id (z := 74 + 3 * (z - 1)) (by omega) (by omega), q_w32_id (by omega) (by omega), fn303_i (by omega) (by omega), Option.bind_some]
    rw [show (74 + 3 * (z - 1) + a : Int).toNat = 74 + 3 * (z.toNat - 1) + a.toNat by omega]
    rw [if_neg (by omega)] at hr ⊢
    rw [q_w32_id (by omega) (by omega)]
def m_abs (z : Int) : Int := if 0 ≤ z then z else -z
theorem fn236_i {z : Int} {h : q_F} (h0 : -2147483648 < z) (h1 : z < 2147483648) : fn236 z h = some (m_abs z) := by
  unfold fn236 m_abs q_ing
  split
  · rfl
  · rw [q_neg h0 h1]
def m_d (w : Nat → Int) (m a : Nat) : Int := m_beg w (m + 1) a - m_beg w m a
theorem m_d_r {w : Nat → Int} (ok : m_ok w) {m a : Nat} (hm : m < 16) (ha : a < 3) : -2000 ≤ m_d w m a ∧ m_d w m a ≤ 2000 := by
  have h1 := m_beg_r ok (m := m) (a := a) (by omega) ha
  have h2 := m_beg_r ok (m := m + 1) (a := a) (by omega) ha
  unfold m_d; omega
noncomputable def m_l (w : Nat → Int) (m : Nat) : Int := qx_mx (qx_mx (qx_mx 0 (m_abs (m_d w m 0))) (m_abs (m_d w m 1))) (m_abs (m_d w m 2))
noncomputable def m_cf (w : Nat → Int) (k m a : Nat) (c : Int) : Int :=
  if m_abs (m_d w m a) = 0 then c else if c = -1 then q_idv (w (k + a) * m_l w m) (m_abs (m_d w m a)) else qx_mn c (q_idv (w (k + a) * m_l w m) (m_abs (m_d w m a)))
noncomputable def m_c (w : Nat → Int) (k m : Nat) : Int := m_cf w k m 2 (m_cf w k m 1 (m_cf w k m 0 (-1)))
noncomputable def m_lay (h : q_F) (w : Nat → Int) (m : Nat) : q_F := fun k => if k = 145 then m_u (m_u (m_u (h 145) (3 * m) (m_d w m 0)) (3 * m + 1) (m_d w m 1)) (3 * m + 2) (m_d w m 2) else if k = 146 then m_u (h 146) m (m_l w m) else if k = 147 then m_u (h 147) m (m_c w 14 m) else if k = 148 then m_u (h 148) m (m_c w 17 m) else h k
theorem m_sr_ne (h : q_F) (k k' : Nat) (w : Nat → Int) (e : (Nat.beq k' k) = false) : m_sr h k w k' = h k' := m_sr_n (by intro h9; subst h9; rw [Nat.beq_refl] at e; cases e)
theorem m_sr_cm {h : q_F} {k k' : Nat} {w w' : Nat → Int} (e : Nat.blt k' k = true) : m_sr (m_sr h k w) k' w' = m_sr (m_sr h k' w') k w := by
  have e' : k' < k := by rw [Nat.blt] at e; exact Nat.le_of_ble_eq_true e
  funext j; unfold m_sr
  by_cases h1 : j = k'
  · rw [if_pos h1, if_neg (by omega), if_pos h1]
  · rw [if_neg h1]; by_cases h2 : j = k
    · rw [if_pos h2, if_pos h2]
    · rw [if_neg h2, if_neg h2, if_neg h1]
theorem fn277_9s {m : Nat} {h : q_F} {w : Nat → Int} (hw : h 140 = w) (ok : m_ok w) (hm : m < 16) {a n : Nat} (ha : a < 3) : fn277_9 (n + 1) m a h = fn277_9 n m ((a + 1 : Nat) : Int) (m_sr (m_sr h 145 (m_u (h 145) (3 * m + a) (m_d w m a))) 146 (m_u (h 146) m (qx_mx (h 146 m) (m_abs (m_d w m a))))) := by
  subst hw
  have hd := m_d_r ok hm ha
  have e1 : (3 * (m : Int) + a).toNat = 3 * m + a := by omega
  rw [fn277_9]
  rw [if_neg (by omega), q_w32_id (z := (m : Int) + 1) (by omega) (by omega), fn240_i rfl ok (by omega) (by omega) (by omega) (by omega), Option.bind_some, fn240_i rfl ok (by omega) (by omega) (by omega) (by omega), Option.bind_some]
  rw [q_w32_id (z := 3 * (m : Int)) (by omega) (by omega), q_w32_id (z := 3 * (m : Int) + a) (by omega) (by omega), q_w32_id (z := (a : Int) + 1) (by omega) (by omega), m_tn1, Int.toNat_natCast, Int.toNat_natCast]
  rw [show q_w32 (m_beg (h 140) (m + 1) a - m_beg (h 140) m a) = m_d (h 140) m a from q_w32_id (by unfold m_d at hd; omega) (by unfold m_d at hd; omega)]
  rw [if_pos (by omega), e1, m_ud_sr]
  rw [m_let, if_pos (by omega), if_pos (by omega), m_sr_s, m_u_s, fn236_i (by omega) (by omega), Option.bind_some, if_pos (by omega), m_ud_sr, m_sr_ne _ _ _ _ rfl, m_let, m_s1]
theorem m_abs_0 (z : Int) : 0 ≤ m_abs z := by unfold m_abs; split <;> omega
theorem m_abs_r {z k : Int} (h : -k ≤ z ∧ z ≤ k) : 0 ≤ m_abs z ∧ m_abs z ≤ k := by unfold m_abs; split <;> omega
theorem m_l_r {w : Nat → Int} (ok : m_ok w) {m : Nat} (hm : m < 16) : 0 ≤ m_l w m ∧ m_l w m ≤ 2000 ∧ m_abs (m_d w m 0) ≤ m_l w m ∧ m_abs (m_d w m 1) ≤ m_l w m ∧ m_abs (m_d w m 2) ≤ m_l w m := by
  have h0 := m_abs_r (m_d_r ok hm (show 0 < 3 by omega))
  have h1 := m_abs_r (m_d_r ok hm (show 1 < 3 by omega))
  have h2 := m_abs_r (m_d_r ok hm (show 2 < 3 by omega))
  unfold m_l qx_mx
  (repeat' split) <;> omega
theorem m_mulr {x l a b : Int} (h1 : 0 ≤ x) (h2 : x ≤ a) (h3 : 0 ≤ l) (h4 : l ≤ b) : 0 ≤ x * l ∧ x * l ≤ a * b :=
  ⟨Int.mul_nonneg h1 h3, Int.mul_le_mul h2 h4 h3 (by omega)⟩
theorem fn277_89s {m : Nat} {h : q_F} {w : Nat → Int} (hw : h 140 = w) (ok : m_ok w) (hm : m < 16) {a n : Nat} (ha : a < 3) (hd : h 145 (3 * m + a) = m_d w m a) (hl : h 146 m = m_l w m) : fn277_89 (n + 1) m a h = fn277_89 n m ((a + 1 : Nat) : Int) (m_sr (m_sr h 147 (m_u (h 147) m (m_cf w 14 m a (h 147 m)))) 148 (m_u (h 148) m (m_cf w 17 m a (h 148 m)))) := by
  subst hw
  have hr := m_d_r ok hm ha
  have hlr := m_l_r ok hm
  have hok := ok.2.2.1 a ha
  have e1 : (3 * (m : Int) + a).toNat = 3 * m + a := by omega
  have ha0 := m_abs_0 (m_d (h 140) m a)
  rw [fn277_89, if_neg (by omega), q_w32_id (z := 3 * (m : Int)) (by omega) (by omega), q_w32_id (z := 3 * (m : Int) + a) (by omega) (by omega), if_pos (by omega), e1, hd, fn236_i (by omega) (by omega), Option.bind_some]
  unfold m_cf
  by_cases hz : m_abs (m_d (h 140) m a) = 0
  · rw [if_pos hz, if_pos hz, if_pos hz, m_u_id, m_sr_id, m_u_id, m_sr_id, fn277_217, q_w32_id (z := (a : Int) + 1) (by omega) (by omega), m_s1]
  · have hp1 := m_mulr (x := h 140 (14 + a)) (a := 5000) (b := 2000) (by omega) (by omega) hlr.1 hlr.2.1
    have hp2 := m_mulr (x := h 140 (17 + a)) (a := 500) (b := 2000) (by omega) (by omega) hlr.1 hlr.2.1
    rw [if_neg hz, if_neg hz, if_neg hz, q_w32_id (z := 14 + (a : Int)) (by omega) (by omega), fn303_i (by omega) (by omega), Option.bind_some, q_w32_id (z := 17 + (a : Int)) (by omega) (by omega), fn303_i (by omega) (by omega), Option.bind_some]
    rw [show (14 + (a : Int)).toNat = 14 + a by omega, show (17 + (a : Int)).toNat = 17 + a by omega, Int.toNat_natCast, hl]
    rw [q_w32_id (z := h 140 (14 + a)) (by omega) (by omega), q_w32_id (z := h 140 (17 + a)) (by omega) (by omega), q_w32_id (z := h 140 (14 + a) * m_l (h 140) m) (by omega) (by omega), q_w32_id (z := h 140 (17 + a) * m_l (h 140) m) (by omega) (by omega)]
    rw [if_pos (by omega), if_pos hz, if_pos (by omega), if_pos hz, if_pos (by omega)]
    by_cases h7 : h 147 m = -1
    · rw [if_pos h7, if_pos h7, fn277_184, if_pos (by omega), m_ud_sr, m_let, if_pos (by omega), Int.toNat_natCast, m_sr_ne _ _ _ _ rfl]
      by_cases h8 : h 148 m = -1
      · rw [if_pos h8, if_pos h8, fn277_216, if_pos (by omega), m_ud_sr, m_let, Int.toNat_natCast, fn277_217, q_w32_id (z := (a : Int) + 1) (by omega) (by omega), m_s1, m_sr_ne _ _ _ _ rfl]
      · rw [if_neg h8, if_neg h8, if_pos (by omega), fn277_216, if_pos (by omega), m_ud_sr, m_let, Int.toNat_natCast, fn277_217, q_w32_id (z := (a : Int) + 1) (by omega) (by omega), m_s1, m_sr_ne _ _ _ _ rfl]
    · rw [if_neg h7, if_neg h7, if_pos (by omega), fn277_184, if_pos (by omega), m_ud_sr, m_let, if_pos (by omega), Int.toNat_natCast, m_sr_ne _ _ _ _ rfl]
      by_cases h8 : h 148 m = -1
      · rw [if_pos h8, if_pos h8, fn277_216, if_pos (by omega), m_ud_sr, m_let, Int.toNat_natCast, fn277_217, q_w32_id (z := (a : Int) + 1) (by omega) (by omega), m_s1, m_sr_ne _ _ _ _ rfl]
      · rw [if_neg h8, if_neg h8, if_pos (by omega), fn277_216, if_pos (by omega), m_ud_sr, m_let, Int.toNat_natCast, fn277_217, q_w32_id (z := (a : Int) + 1) (by omega) (by omega), m_s1, m_sr_ne _ _ _ _ rfl]
theorem m_fu3 : ∃ n, q_fu = n + 1 + 1 + 1 + 1 := ⟨q_fu - 4, by have := q_fu_ge; omega⟩
theorem m_u_u (w : Nat → Int) (j : Nat) (v v' : Int) : m_u (m_u w j v) j v' = m_u w j v' := by funext j'; unfold m_u; split <;> rfl
theorem fn277_m {m : Nat} {h : q_F} {w : Nat → Int} (hw : h 140 = w) (ok : m_ok w) (hm : m < 16) : fn277 m h = some (0, m_lay h w m) := by
  obtain ⟨n, e⟩ := m_fu3
  have i0 : ((0 : Nat) : Int) = 0 := rfl
  rw [fn277, if_pos (by omega), m_ud_sr, m_let, Int.toNat_natCast, e, ← i0, fn277_9s (w := w) (by simp [m_sr, hw]) ok hm (by omega), fn277_9s (w := w) (by simp [m_sr, hw]) ok hm (by omega), fn277_9s (w := w) (by simp [m_sr, hw]) ok hm (by omega)]
  rw [fn277_9, if_pos (by omega), if_pos (by omega), m_ud_sr, m_let, if_pos (by omega), m_ud_sr, m_let, e, Int.toNat_natCast, ← i0, fn277_89s (w := w) (by simp [m_sr, hw]) ok hm (by omega) (by simp [m_sr, m_u]) (by simp [m_sr, m_u, m_l]), fn277_89s (w := w) (by simp [m_sr, hw]) ok hm (by omega) (by simp [m_sr, m_u]) (by simp [m_sr, m_u, m_l]), fn277_89s (w := w) (by simp [m_sr, hw]) ok hm (by omega) (by simp [m_sr, m_u]) (by simp [m_sr, m_u, m_l]), fn277_89, if_pos (by omega)]
  congr 2
  funext k
  unfold m_lay
  by_cases e5 : k = 145
  · subst e5; simp [m_sr]
  · by_cases e6 : k = 146
    · subst e6; simp [m_sr, m_u_u, m_u_s, m_l]
    · by_cases e7 : k = 147
      · subst e7; simp [m_sr, m_u_u, m_u_s, m_c]
      · by_cases e8 : k = 148
        · subst e8; simp [m_sr, m_u_u, m_u_s, m_c]
        · simp [m_sr, e5, e6, e7, e8]
