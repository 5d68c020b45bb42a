section -- [50.model]
/-! Part 50: the table's row as a function, its moves; the reference's methods are these. -/
/-- a row of the heap replaced -/
def m_sr (h : q_F) (k : Nat) (w : Nat → Int) : q_F := fun k' => if k' = k then w else h k'
def m_u (w : Nat → Int) (j : Nat) (v : Int) : Nat → Int := fun j' => if j' = j then v else w j'
theorem m_ud_sr (h : q_F) (k j : Nat) (v : Int) : q_ud h k j v = m_sr h k (m_u (h k) j v) := by
  funext k' j'
  unfold q_ud m_sr m_u
  by_cases e : k' = k
  · subst e
    simp
  · simp [e]
theorem m_sr_s (h : q_F) (k : Nat) (w : Nat → Int) : m_sr h k w k = w := by unfold m_sr; rw [if_pos rfl]
theorem m_sr_n {h : q_F} {k k' : Nat} {w : Nat → Int} (e : k' ≠ k) : m_sr h k w k' = h k' := by unfold m_sr; rw [if_neg e]
theorem m_sr_sr (h : q_F) (k : Nat) (w w' : Nat → Int) : m_sr (m_sr h k w) k w' = m_sr h k w' := by
  funext k'; unfold m_sr; split <;> rfl
theorem m_sr_id (h : q_F) (k : Nat) : m_sr h k (h k) = h := by
  funext k'; unfold m_sr; split
  · rename_i e; rw [e]
  · rfl
theorem m_u_s (w : Nat → Int) (j : Nat) (v : Int) : m_u w j v j = v := by unfold m_u; rw [if_pos rfl]
theorem m_u_n {w : Nat → Int} {j j' : Nat} {v : Int} (e : j' ≠ j) : m_u w j v j' = w j' := by unfold m_u; rw [if_neg e]
/-- a step of the motor a: whether it is lost, the row behind it -/
noncomputable def m_sw (a : Nat) (w : Nat → Int) : Nat → Int :=
  if w (26 + a) ≤ q_w64 (w (20 + a) + w (23 + a)) then w else m_u w (53 + a) 0
noncomputable def m_sx (a : Nat) (w : Nat → Int) : Nat → Int :=
  m_sw a (if w (20 + a) < w (26 + a) then w else m_u w (53 + a) 1)
noncomputable def m_sm (a : Nat) (d e s : Int) (w : Nat → Int) : Int × (Nat → Int) :=
  if w (29 + a) = e then (if w (26 + a) = s then (1, m_u w (35 + a) (q_w64 (w (35 + a) + 1))) else (0, m_sx a (m_u w (26 + a) (q_w64 (w (26 + a) + d)))))
  else (0, m_u w (29 + a) (q_w64 (w (29 + a) + d)))
noncomputable def m_s0 (a c : Nat) (d : Int) (w : Nat → Int) : Nat → Int :=
  let w1 := m_u w (32 + a) (q_w64 (w (32 + a) + d))
  let w2 := m_u w1 (44 + a) d
  m_u w2 (c + a) (q_w64 (w2 (c + a) + 1))
noncomputable def m_step (a : Nat) (d : Int) (w : Nat → Int) : Int × (Nat → Int) :=
  if d ≤ 0 then m_sm a d 0 0 (m_s0 a 59 d w) else m_sm a d (w (11 + a)) (w (8 + a)) (m_s0 a 56 d w)
theorem m_c3 {a : Nat} (h : a < 3) : a = 0 ∨ a = 1 ∨ a = 2 := by omega
theorem fn340_m {a : Nat} {d : Int} {h : q_F} (ha : a < 3) : fn340 a d h = some ((m_step a d (h 140)).1, m_sr h 140 (m_step a d (h 140)).2) := by
  rcases m_c3 ha with rfl | rfl | rfl
  all_goals
    by_cases hd : d ≤ 0
    · simp [fn340, fn340_40, fn340_64, fn340_82, fn340_190, q_let, hd, q_w32_id, m_ud_sr, m_sr_s, m_sr_sr, m_u, m_step, m_sm, m_s0, m_sx, m_sw]
      (repeat' split) <;> (try simp_all [m_u]) <;> omega
    · simp [fn340, fn340_40, fn340_64, fn340_82, fn340_190, q_let, hd, q_w32_id, m_ud_sr, m_sr_s, m_sr_sr, m_u, m_step, m_sm, m_s0, m_sx, m_sw]
      (repeat' split) <;> (try simp_all [m_u]) <;> omega
theorem m_fu (k : Nat) (h : k ≤ 10000) : ∃ n, q_fu = n + k := ⟨q_fu - k, by have := q_fu_ge; omega⟩
/-- whether the switch of the axis a reads closed -/
def m_reads (a : Nat) (w : Nat → Int) : Int := if w (38 + a) = 2 ∨ (w (38 + a) = 0 ∧ w (53 + a) = 1) then 1 else 0
theorem fn318_m {a : Nat} {h : q_F} (ha : a < 3) : fn318 a h = some (m_reads a (h 140)) := by
  rcases m_c3 ha with rfl | rfl | rfl
  all_goals
    simp [fn318, fn318_44, q_w32_id, m_reads]
    (repeat' split) <;> simp_all
def m_stops (w : Nat → Int) : Nat → Int := m_u (m_u (m_u (m_u w 4 0) 41 0) 42 0) 43 0
theorem fn342_m (h : q_F) : fn342 h = some (0, m_sr h 140 (m_stops (h 140))) := by
  obtain ⟨n, e⟩ := m_fu 4 (by omega)
  simp [fn342, q_let, e, fn342_9, q_w32_id, m_ud_sr, m_sr_s, m_sr_sr, m_stops]
theorem fn335_m {h : q_F} (h0 : h 140 0 ≠ 0) : fn335 h = some (q_ldv 1000000 (h 140 0)) := by
  simp [fn335, h0]
theorem fn303_m {j : Nat} {h : q_F} (hj : j < 122) : fn303 j h = some (q_w32 (h 140 j)) := by
  simp [fn303, hj]; omega
end -- [50.model]
section -- [51.plan]
/-! Part 51: the reference's plan of the queue. -/
theorem m_let {α β : Type} (a : α) (f : α → β) : q_let a f = f a := rfl
theorem m_u_id (w : Nat → Int) (j : Nat) : m_u w j (w j) = w := by funext j'; unfold m_u; split; rename_i e; rw [e]; rfl
theorem m_tn1 (m : Nat) : ((m : Int) + 1).toNat = m + 1 := by omega
theorem m_s1 (i : Nat) : ((i + 1 : Nat) : Int) = (i : Int) + 1 := by omega
/-- what the places of a table's row hold -/
def m_ok (w : Nat → Int) : Prop := (1 ≤ w 0 ∧ w 0 ≤ 1000) ∧ (0 ≤ w 4 ∧ w 4 ≤ 16) ∧
  (∀ a, a < 3 → 1 ≤ w (8 + a) ∧ w (8 + a) ≤ 2000 ∧ 0 ≤ w (11 + a) ∧ w (11 + a) ≤ 20 ∧ 1 ≤ w (14 + a) ∧ w (14 + a) ≤ 5000 ∧ 1 ≤ w (17 + a) ∧ w (17 + a) ≤ 500 ∧ 0 ≤ w (47 + a) ∧ w (47 + a) ≤ 2000) ∧
  (∀ j, 74 ≤ j → j < 122 → 0 ≤ w j ∧ w j ≤ 2000)
def m_beg (w : Nat → Int) (m a : Nat) : Int := if m = 0 then w (47 + a) else w (74 + 3 * (m - 1) + a)
theorem m_beg_r {w : Nat → Int} (ok : m_ok w) {m a : Nat} (hm : m ≤ 16) (ha : a < 3) : 0 ≤ m_beg w m a ∧ m_beg w m a ≤ 2000 := by
  unfold m_beg
  split
  · have := ok.2.2.1 a ha; omega
  · exact ok.2.2.2 _ (by omega) (by omega)
theorem fn303_i {z : Int} {h : q_F} (h0 : 0 ≤ z) (h1 : z < 122) : fn303 z h = some (q_w32 (h 140 z.toNat)) := by
  unfold fn303; rw [if_pos ⟨h0, h1⟩]
theorem fn240_i {z a : Int} {h : q_F} {w : Nat → Int} (hw : h 140 = w) (ok : m_ok w) (h0 : 0 ≤ z) (h1 : z ≤ 16) (a0 : 0 ≤ a) (a1 : a < 3) : fn240 z a h = some (m_beg w z.toNat a.toNat) := by
  subst hw
  have hr := m_beg_r ok (m := z.toNat) (a := a.toNat) (by omega) (by omega)
  unfold fn240
  unfold m_beg at hr ⊢
  by_cases e : z = 0
  · subst e
    rw [if_pos rfl, q_w32_id (by omega) (by omega), fn303_i (by omega) (by omega), Option.bind_some]
    rw [show (47 + a : Int).toNat = 47 + a.toNat by omega]
    rw [if_pos (by omega)] at hr ⊢
    rw [q_w32_id (by omega) (by omega)]
  · rw [if_neg e, q_w32_id (z := z - 1) (by omega) (by omega), q_w32_id (z := 3 * (z - 1)) (by omega) (by omega), q_w32_id (z := 74 + 3 * (z - 1)) (by omega) (by omega), q_w32_id (by omega) (by omega), fn303_i (by omega) (by omega), Option.bind_some]
    rw [show (74 + 3 * (z - 1) + a : Int).toNat = 74 + 3 * (z.toNat - 1) + a.toNat by omega]
    rw [if_neg (by omega)] at hr ⊢
    rw [q_w32_id (by omega) (by omega)]
def m_abs (z : Int) : Int := if 0 ≤ z then z else -z
theorem fn236_i {z : Int} {h : q_F} (h0 : -2147483648 < z) (h1 : z < 2147483648) : fn236 z h = some (m_abs z) := by
  unfold fn236 m_abs q_ing
  split
  · rfl
  · rw [q_neg h0 h1]
def m_d (w : Nat → Int) (m a : Nat) : Int := m_beg w (m + 1) a - m_beg w m a
theorem m_d_r {w : Nat → Int} (ok : m_ok w) {m a : Nat} (hm : m < 16) (ha : a < 3) : -2000 ≤ m_d w m a ∧ m_d w m a ≤ 2000 := by
  have h1 := m_beg_r ok (m := m) (a := a) (by omega) ha
  have h2 := m_beg_r ok (m := m + 1) (a := a) (by omega) ha
  unfold m_d; omega
noncomputable def m_l (w : Nat → Int) (m : Nat) : Int := qx_mx (qx_mx (qx_mx 0 (m_abs (m_d w m 0))) (m_abs (m_d w m 1))) (m_abs (m_d w m 2))
noncomputable def m_cf (w : Nat → Int) (k m a : Nat) (c : Int) : Int :=
  if m_abs (m_d w m a) = 0 then c else if c = -1 then q_idv (w (k + a) * m_l w m) (m_abs (m_d w m a)) else qx_mn c (q_idv (w (k + a) * m_l w m) (m_abs (m_d w m a)))
noncomputable def m_c (w : Nat → Int) (k m : Nat) : Int := m_cf w k m 2 (m_cf w k m 1 (m_cf w k m 0 (-1)))
noncomputable def m_lay (h : q_F) (w : Nat → Int) (m : Nat) : q_F := fun k => if k = 145 then m_u (m_u (m_u (h 145) (3 * m) (m_d w m 0)) (3 * m + 1) (m_d w m 1)) (3 * m + 2) (m_d w m 2) else if k = 146 then m_u (h 146) m (m_l w m) else if k = 147 then m_u (h 147) m (m_c w 14 m) else if k = 148 then m_u (h 148) m (m_c w 17 m) else h k
theorem m_sr_ne (h : q_F) (k k' : Nat) (w : Nat → Int) (e : (Nat.beq k' k) = false) : m_sr h k w k' = h k' := m_sr_n (by intro h9; subst h9; rw [Nat.beq_refl] at e; cases e)
theorem m_sr_cm {h : q_F} {k k' : Nat} {w w' : Nat → Int} (e : Nat.blt k' k = true) : m_sr (m_sr h k w) k' w' = m_sr (m_sr h k' w') k w := by
  have e' : k' < k := by rw [Nat.blt] at e; exact Nat.le_of_ble_eq_true e
  funext j; unfold m_sr
  by_cases h1 : j = k'
  · rw [if_pos h1, if_neg (by omega), if_pos h1]
  · rw [if_neg h1]; by_cases h2 : j = k
    · rw [if_pos h2, if_pos h2]
    · rw [if_neg h2, if_neg h2, if_neg h1]
theorem fn277_9s {m : Nat} {h : q_F} {w : Nat → Int} (hw : h 140 = w) (ok : m_ok w) (hm : m < 16) {a n : Nat} (ha : a < 3) : fn277_9 (n + 1) m a h = fn277_9 n m ((a + 1 : Nat) : Int) (m_sr (m_sr h 145 (m_u (h 145) (3 * m + a) (m_d w m a))) 146 (m_u (h 146) m (qx_mx (h 146 m) (m_abs (m_d w m a))))) := by
  subst hw
  have hd := m_d_r ok hm ha
  have e1 : (3 * (m : Int) + a).toNat = 3 * m + a := by omega
  rw [fn277_9]
  rw [if_neg (by omega), q_w32_id (z := (m : Int) + 1) (by omega) (by omega), fn240_i rfl ok (by omega) (by omega) (by omega) (by omega), Option.bind_some, fn240_i rfl ok (by omega) (by omega) (by omega) (by omega), Option.bind_some]
  rw [q_w32_id (z := 3 * (m : Int)) (by omega) (by omega), q_w32_id (z := 3 * (m : Int) + a) (by omega) (by omega), q_w32_id (z := (a : Int) + 1) (by omega) (by omega), m_tn1, Int.toNat_natCast, Int.toNat_natCast]
  rw [show q_w32 (m_beg (h 140) (m + 1) a - m_beg (h 140) m a) = m_d (h 140) m a from q_w32_id (by unfold m_d at hd; omega) (by unfold m_d at hd; omega)]
  rw [if_pos (by omega), e1, m_ud_sr]
  rw [m_let, if_pos (by omega), if_pos (by omega), m_sr_s, m_u_s, fn236_i (by omega) (by omega), Option.bind_some, if_pos (by omega), m_ud_sr, m_sr_ne _ _ _ _ rfl, m_let, m_s1]
theorem m_abs_0 (z : Int) : 0 ≤ m_abs z := by unfold m_abs; split <;> omega
theorem m_abs_r {z k : Int} (h : -k ≤ z ∧ z ≤ k) : 0 ≤ m_abs z ∧ m_abs z ≤ k := by unfold m_abs; split <;> omega
theorem m_l_r {w : Nat → Int} (ok : m_ok w) {m : Nat} (hm : m < 16) : 0 ≤ m_l w m ∧ m_l w m ≤ 2000 ∧ m_abs (m_d w m 0) ≤ m_l w m ∧ m_abs (m_d w m 1) ≤ m_l w m ∧ m_abs (m_d w m 2) ≤ m_l w m := by
  have h0 := m_abs_r (m_d_r ok hm (show 0 < 3 by omega))
  have h1 := m_abs_r (m_d_r ok hm (show 1 < 3 by omega))
  have h2 := m_abs_r (m_d_r ok hm (show 2 < 3 by omega))
  unfold m_l qx_mx
  (repeat' split) <;> omega
theorem m_mulr {x l a b : Int} (h1 : 0 ≤ x) (h2 : x ≤ a) (h3 : 0 ≤ l) (h4 : l ≤ b) : 0 ≤ x * l ∧ x * l ≤ a * b :=
  ⟨Int.mul_nonneg h1 h3, Int.mul_le_mul h2 h4 h3 (by omega)⟩
theorem fn277_89s {m : Nat} {h : q_F} {w : Nat → Int} (hw : h 140 = w) (ok : m_ok w) (hm : m < 16) {a n : Nat} (ha : a < 3) (hd : h 145 (3 * m + a) = m_d w m a) (hl : h 146 m = m_l w m) : fn277_89 (n + 1) m a h = fn277_89 n m ((a + 1 : Nat) : Int) (m_sr (m_sr h 147 (m_u (h 147) m (m_cf w 14 m a (h 147 m)))) 148 (m_u (h 148) m (m_cf w 17 m a (h 148 m)))) := by
  subst hw
  have hr := m_d_r ok hm ha
  have hlr := m_l_r ok hm
  have hok := ok.2.2.1 a ha
  have e1 : (3 * (m : Int) + a).toNat = 3 * m + a := by omega
  have ha0 := m_abs_0 (m_d (h 140) m a)
  rw [fn277_89, if_neg (by omega), q_w32_id (z := 3 * (m : Int)) (by omega) (by omega), q_w32_id (z := 3 * (m : Int) + a) (by omega) (by omega), if_pos (by omega), e1, hd, fn236_i (by omega) (by omega), Option.bind_some]
  unfold m_cf
  by_cases hz : m_abs (m_d (h 140) m a) = 0
  · rw [if_pos hz, if_pos hz, if_pos hz, m_u_id, m_sr_id, m_u_id, m_sr_id, fn277_217, q_w32_id (z := (a : Int) + 1) (by omega) (by omega), m_s1]
  · have hp1 := m_mulr (x := h 140 (14 + a)) (a := 5000) (b := 2000) (by omega) (by omega) hlr.1 hlr.2.1
    have hp2 := m_mulr (x := h 140 (17 + a)) (a := 500) (b := 2000) (by omega) (by omega) hlr.1 hlr.2.1
    rw [if_neg hz, if_neg hz, if_neg hz, q_w32_id (z := 14 + (a : Int)) (by omega) (by omega), fn303_i (by omega) (by omega), Option.bind_some, q_w32_id (z := 17 + (a : Int)) (by omega) (by omega), fn303_i (by omega) (by omega), Option.bind_some]
    rw [show (14 + (a : Int)).toNat = 14 + a by omega, show (17 + (a : Int)).toNat = 17 + a by omega, Int.toNat_natCast, hl]
    rw [q_w32_id (z := h 140 (14 + a)) (by omega) (by omega), q_w32_id (z := h 140 (17 + a)) (by omega) (by omega), q_w32_id (z := h 140 (14 + a) * m_l (h 140) m) (by omega) (by omega), q_w32_id (z := h 140 (17 + a) * m_l (h 140) m) (by omega) (by omega)]
    rw [if_pos (by omega), if_pos hz, if_pos (by omega), if_pos hz, if_pos (by omega)]
    by_cases h7 : h 147 m = -1
    · rw [if_pos h7, if_pos h7, fn277_184, if_pos (by omega), m_ud_sr, m_let, if_pos (by omega), Int.toNat_natCast, m_sr_ne _ _ _ _ rfl]
      by_cases h8 : h 148 m = -1
      · rw [if_pos h8, if_pos h8, fn277_216, if_pos (by omega), m_ud_sr, m_let, Int.toNat_natCast, fn277_217, q_w32_id (z := (a : Int) + 1) (by omega) (by omega), m_s1, m_sr_ne _ _ _ _ rfl]
      · rw [if_neg h8, if_neg h8, if_pos (by omega), fn277_216, if_pos (by omega), m_ud_sr, m_let, Int.toNat_natCast, fn277_217, q_w32_id (z := (a : Int) + 1) (by omega) (by omega), m_s1, m_sr_ne _ _ _ _ rfl]
    · rw [if_neg h7, if_neg h7, if_pos (by omega), fn277_184, if_pos (by omega), m_ud_sr, m_let, if_pos (by omega), Int.toNat_natCast, m_sr_ne _ _ _ _ rfl]
      by_cases h8 : h 148 m = -1
      · rw [if_pos h8, if_pos h8, fn277_216, if_pos (by omega), m_ud_sr, m_let, Int.toNat_natCast, fn277_217, q_w32_id (z := (a : Int) + 1) (by omega) (by omega), m_s1, m_sr_ne _ _ _ _ rfl]
      · rw [if_neg h8, if_neg h8, if_pos (by omega), fn277_216, if_pos (by omega), m_ud_sr, m_let, Int.toNat_natCast, fn277_217, q_w32_id (z := (a : Int) + 1) (by omega) (by omega), m_s1, m_sr_ne _ _ _ _ rfl]
theorem m_fu3 : ∃ n, q_fu = n + 1 + 1 + 1 + 1 := ⟨q_fu - 4, by have := q_fu_ge; omega⟩
theorem m_u_u (w : Nat → Int) (j : Nat) (v v' : Int) : m_u (m_u w j v) j v' = m_u w j v' := by funext j'; unfold m_u; split <;> rfl
theorem fn277_m {m : Nat} {h : q_F} {w : Nat → Int} (hw : h 140 = w) (ok : m_ok w) (hm : m < 16) : fn277 m h = some (0, m_lay h w m) := by
  obtain ⟨n, e⟩ := m_fu3
  have i0 : ((0 : Nat) : Int) = 0 := rfl
  rw [fn277, if_pos (by omega), m_ud_sr, m_let, Int.toNat_natCast, e, ← i0, fn277_9s (w := w) (by simp [m_sr, hw]) ok hm (by omega), fn277_9s (w := w) (by simp [m_sr, hw]) ok hm (by omega), fn277_9s (w := w) (by simp [m_sr, hw]) ok hm (by omega)]
  rw [fn277_9, if_pos (by omega), if_pos (by omega), m_ud_sr, m_let, if_pos (by omega), m_ud_sr, m_let, e, Int.toNat_natCast, ← i0, fn277_89s (w := w) (by simp [m_sr, hw]) ok hm (by omega) (by simp [m_sr, m_u]) (by simp [m_sr, m_u, m_l]), fn277_89s (w := w) (by simp [m_sr, hw]) ok hm (by omega) (by simp [m_sr, m_u]) (by simp [m_sr, m_u, m_l]), fn277_89s (w := w) (by simp [m_sr, hw]) ok hm (by omega) (by simp [m_sr, m_u]) (by simp [m_sr, m_u, m_l]), fn277_89, if_pos (by omega)]
  congr 2
  funext k
  unfold m_lay
  by_cases e5 : k = 145
  · subst e5; simp [m_sr]
  · by_cases e6 : k = 146
    · subst e6; simp [m_sr, m_u_u, m_u_s, m_l]
    · by_cases e7 : k = 147
      · subst e7; simp [m_sr, m_u_u, m_u_s, m_c]
      · by_cases e8 : k = 148
        · subst e8; simp [m_sr, m_u_u, m_u_s, m_c]
        · simp [m_sr, e5, e6, e7, e8]
end -- [51.plan]
section -- [52.plan]
/-! Part 52: the reference's plan of the queue, gone on with: the speeds between the moves. -/
theorem m_idv {a b : Int} (h0 : 0 ≤ a) (h1 : a < 2147483648) (h2 : 0 < b) (h3 : b < 2147483648) : q_idv a b = a / b := by
  unfold q_idv
  rw [Int32.toInt_div, q_w32_m, q_w32_m, q_w32_id (by omega) (by omega), q_w32_id (by omega) (by omega), Int.tdiv_eq_ediv_of_nonneg h0]
  have g0 : 0 ≤ a / b := Int.ediv_nonneg h0 (by omega)
  have g1 : a / b ≤ a := Int.ediv_le_self b h0
  exact Int.bmod_eq_of_le (by omega) (by omega)
theorem m_ldv {a b : Int} (h0 : 0 ≤ a) (h1 : a < 9223372036854775808) (h2 : 0 < b) (h3 : b < 9223372036854775808) : q_ldv a b = a / b := by
  unfold q_ldv
  rw [Int64.toInt_div, q_w64_m, q_w64_m, q_w64_id (by omega) (by omega), q_w64_id (by omega) (by omega), Int.tdiv_eq_ediv_of_nonneg h0]
  have g0 : 0 ≤ a / b := Int.ediv_nonneg h0 (by omega)
  have g1 : a / b ≤ a := Int.ediv_le_self b h0
  exact Int.bmod_eq_of_le (by omega) (by omega)
/-- some axis moves -/
def m_mv (w : Nat → Int) (m : Nat) : Prop := m_d w m 0 ≠ 0 ∨ m_d w m 1 ≠ 0 ∨ m_d w m 2 ≠ 0
theorem m_abs_z {z : Int} : m_abs z = 0 ↔ z = 0 := by unfold m_abs; split <;> omega
theorem m_l_1 {w : Nat → Int} (ok : m_ok w) {m : Nat} (hm : m < 16) (hv : m_mv w m) : 1 ≤ m_l w m := by
  have h := m_l_r ok hm
  have a0 := m_abs_0 (m_d w m 0); have a1 := m_abs_0 (m_d w m 1); have a2 := m_abs_0 (m_d w m 2)
  rcases hv with e | e | e
  · have := mt m_abs_z.mp e; omega
  · have := mt m_abs_z.mp e; omega
  · have := mt m_abs_z.mp e; omega
/-- the lead is the way of some axis -/
theorem m_l_ax {w : Nat → Int} (ok : m_ok w) {m : Nat} (hm : m < 16) : m_l w m = m_abs (m_d w m 0) ∨ m_l w m = m_abs (m_d w m 1) ∨ m_l w m = m_abs (m_d w m 2) := by
  have a0 := m_abs_0 (m_d w m 0); have a1 := m_abs_0 (m_d w m 1); have a2 := m_abs_0 (m_d w m 2)
  unfold m_l qx_mx
  (repeat' split) <;> omega
/-- one axis' share of the cruise or gain -/
theorem m_cs {t l d k : Int} (ht : 1 ≤ t) (htk : t ≤ k) (hk : k ≤ 5000) (hl : l ≤ 2000) (hd : 1 ≤ d) (hdl : d ≤ l) : 1 ≤ q_idv (t * l) d ∧ (d = l → q_idv (t * l) d ≤ k) := by
  have hp := m_mulr (x := t) (l := l) (a := 5000) (b := 2000) (by omega) (by omega) (by omega) (by omega)
  have hle : d ≤ t * l := by
    have := Int.mul_le_mul_of_nonneg_right ht (show 0 ≤ l by omega)
    omega
  rw [m_idv hp.1 (by omega) (by omega) (by omega)]
  refine ⟨(Int.le_ediv_iff_mul_le (by omega)).mpr (by omega), fun e => ?_⟩
  subst e
  rw [Int.mul_ediv_cancel _ (by omega)]
  exact htk
theorem m_cf_s {w : Nat → Int} {kk m a : Nat} {c k : Int} {X : Prop} (ok : m_ok w) (hm : m < 16) (ha : a < 3) (h1 : 1 ≤ w (kk + a)) (h2 : w (kk + a) ≤ k) (hk : k ≤ 5000) (hc : c = -1 ∨ 1 ≤ c) (hX : X → 1 ≤ c ∧ c ≤ k) :
    (m_cf w kk m a c = -1 ∨ 1 ≤ m_cf w kk m a c) ∧ ((X ∨ (m_l w m = m_abs (m_d w m a) ∧ 1 ≤ m_l w m)) → 1 ≤ m_cf w kk m a c ∧ m_cf w kk m a c ≤ k) := by
  have hl := m_l_r ok hm
  have hle : m_abs (m_d w m a) ≤ m_l w m := by
    rcases m_c3 ha with rfl | rfl | rfl
    · exact hl.2.2.1
    · exact hl.2.2.2.1
    · exact hl.2.2.2.2
  have h0 := m_abs_0 (m_d w m a)
  unfold m_cf
  split
  · rename_i e
    exact ⟨hc, fun h => by rcases h with h | ⟨h, h'⟩; exact hX h; omega⟩
  · rename_i e
    obtain ⟨g1, g2⟩ := m_cs (l := m_l w m) (d := m_abs (m_d w m a)) h1 h2 hk hl.2.1 (by omega) hle
    split
    · rename_i e2
      refine ⟨Or.inr g1, fun h => ?_⟩
      rcases h with h | ⟨h, h'⟩
      · have := hX h; omega
      · exact ⟨g1, g2 h.symm⟩
    · rename_i e2
      unfold qx_mn
      refine ⟨Or.inr (by split <;> omega), fun h => ?_⟩
      rcases h with h | ⟨h, h'⟩
      · have := hX h; split <;> omega
      · have := g2 h.symm; split <;> omega
theorem m_c_r {w : Nat → Int} {kk m : Nat} {k : Int} (ok : m_ok w) (hm : m < 16) (hv : m_mv w m) (h1 : ∀ a, a < 3 → 1 ≤ w (kk + a) ∧ w (kk + a) ≤ k) (hk : k ≤ 5000) : 1 ≤ m_c w kk m ∧ m_c w kk m ≤ k := by
  have hl1 := m_l_1 ok hm hv
  have s0 := m_cf_s (X := False) (c := -1) ok hm (show 0 < 3 by omega) (h1 0 (by omega)).1 (h1 0 (by omega)).2 hk (Or.inl rfl) (fun h => h.elim)
  have s1 := m_cf_s (X := False ∨ (m_l w m = m_abs (m_d w m 0) ∧ 1 ≤ m_l w m)) ok hm (show 1 < 3 by omega) (h1 1 (by omega)).1 (h1 1 (by omega)).2 hk s0.1 s0.2
  have s2 := m_cf_s (X := (False ∨ (m_l w m = m_abs (m_d w m 0) ∧ 1 ≤ m_l w m)) ∨ (m_l w m = m_abs (m_d w m 1) ∧ 1 ≤ m_l w m)) ok hm (show 2 < 3 by omega) (h1 2 (by omega)).1 (h1 2 (by omega)).2 hk s1.1 s1.2
  refine s2.2 ?_
  rcases m_l_ax ok hm with e | e | e
  · exact Or.inl (Or.inl (Or.inr ⟨e, hl1⟩))
  · exact Or.inl (Or.inr ⟨e, hl1⟩)
  · exact Or.inr ⟨e, hl1⟩
theorem m_cru_r {w : Nat → Int} {m : Nat} (ok : m_ok w) (hm : m < 16) (hv : m_mv w m) : 1 ≤ m_c w 14 m ∧ m_c w 14 m ≤ 5000 := m_c_r ok hm hv (fun a ha => by have := ok.2.2.1 a ha; omega) (by omega)
theorem m_gain_r {w : Nat → Int} {m : Nat} (ok : m_ok w) (hm : m < 16) (hv : m_mv w m) : 1 ≤ m_c w 17 m ∧ m_c w 17 m ≤ 500 := m_c_r ok hm hv (fun a ha => by have := ok.2.2.1 a ha; omega) (by omega)
end -- [52.plan]
section -- [53.plan]
/-! Part 53: the reference's plan of the queue: which moves go on straight, the passes over the speeds. -/
/-- the arrays hold the distances, leads, cruises and gains of the first n moves -/
def m_PA (h : q_F) (w : Nat → Int) (n : Nat) : Prop := ∀ m, m < n → (∀ a, a < 3 → h 145 (3 * m + a) = m_d w m a) ∧ h 146 m = m_l w m ∧ h 147 m = m_c w 14 m ∧ h 148 m = m_c w 17 m
theorem m_PA_lay {h : q_F} {w : Nat → Int} {n : Nat} (hP : m_PA h w n) : m_PA (m_lay h w n) w (n + 1) := by
  intro m hm
  by_cases e : m = n
  · subst e
    refine ⟨fun a ha => ?_, by simp [m_lay, m_u], by simp [m_lay, m_u], by simp [m_lay, m_u]⟩
    rcases m_c3 ha with rfl | rfl | rfl <;> simp [m_lay, m_u]
  · obtain ⟨h1, h2, h3, h4⟩ := hP m (by omega)
    refine ⟨fun a ha => ?_, ?_, ?_, ?_⟩
    · rw [← h1 a ha]
      simp only [m_lay, if_true]
      rw [m_u_n (by omega), m_u_n (by omega), m_u_n (by omega)]
    · rw [← h2]; simp [m_lay, m_u, e]
    · rw [← h3]; simp [m_lay, m_u, e]
    · rw [← h4]; simp [m_lay, m_u, e]
theorem m_lay_o {h : q_F} {w : Nat → Int} {n k : Nat} (hk : k < 145 ∨ 148 < k) : m_lay h w n k = h k := by
  unfold m_lay
  rw [if_neg (by omega), if_neg (by omega), if_neg (by omega), if_neg (by omega)]
def m_stra (w : Nat → Int) (m a : Nat) : Prop := m_d w m a * m_l w (m + 1) = m_d w (m + 1) a * m_l w m
noncomputable def m_str (w : Nat → Int) (m : Nat) : Int := if (m : Int) + 1 < w 4 then (if m_d w m 0 * m_l w (m + 1) = m_d w (m + 1) 0 * m_l w m then (if m_d w m 1 * m_l w (m + 1) = m_d w (m + 1) 1 * m_l w m then (if m_d w m 2 * m_l w (m + 1) = m_d w (m + 1) 2 * m_l w m then 1 else 0) else 0) else 0) else 0
theorem m_mul2 {x l a b : Int} (h1 : -a ≤ x) (h2 : x ≤ a) (h3 : 0 ≤ l) (h4 : l ≤ b) (h5 : 0 ≤ a) : -(a * b) ≤ x * l ∧ x * l ≤ a * b := by
  have g0 : a * l ≤ a * b := Int.mul_le_mul_of_nonneg_left h4 h5
  have g1 : x * l ≤ a * l := Int.mul_le_mul_of_nonneg_right h2 h3
  have g2 : (-a) * l ≤ x * l := Int.mul_le_mul_of_nonneg_right h1 h3
  rw [Int.neg_mul] at g2
  exact ⟨by omega, by omega⟩
theorem fn272_18s {w : Nat → Int} {h : q_F} {m n a : Nat} (ok : m_ok w) (hm : m + 1 < 16) (ha : a < 3) (hP : m_PA h w (m + 2)) : fn272_18 h (n + 1) m a = if m_d w m a * m_l w (m + 1) = m_d w (m + 1) a * m_l w m then fn272_18 h n m ((a + 1 : Nat) : Int) else some 0 := by
  obtain ⟨h1, h2, -⟩ := hP m (by omega)
  obtain ⟨g1, g2, -⟩ := hP (m + 1) (by omega)
  have d1 := m_d_r ok (m := m) (by omega) ha
  have d2 := m_d_r ok (m := m + 1) (by omega) ha
  have l1 := m_l_r ok (m := m) (by omega)
  have l2 := m_l_r ok (m := m + 1) (by omega)
  have p1 := m_mul2 (a := 2000) (b := 2000) d1.1 d1.2 l2.1 l2.2.1 (by omega)
  have p2 := m_mul2 (a := 2000) (b := 2000) d2.1 d2.2 l1.1 l1.2.1 (by omega)
  rw [fn272_18, if_neg (by omega), q_w32_id (z := 3 * (m : Int)) (by omega) (by omega), q_w32_id (z := 3 * (m : Int) + a) (by omega) (by omega), q_w32_id (z := (m : Int) + 1) (by omega) (by omega), q_w32_id (z := 3 * ((m : Int) + 1)) (by omega) (by omega), q_w32_id (z := 3 * ((m : Int) + 1) + a) (by omega) (by omega), if_pos (by omega), if_pos (by omega), if_pos (by omega), if_pos (by omega)]
  rw [show (3 * (m : Int) + a).toNat = 3 * m + a by omega, show (3 * ((m : Int) + 1) + a).toNat = 3 * (m + 1) + a by omega, m_tn1, Int.toNat_natCast, h1 a ha, g1 a ha, h2, g2, q_w32_id (by omega) (by omega), q_w32_id (by omega) (by omega), q_w32_id (z := (a : Int) + 1) (by omega) (by omega), m_s1]
theorem fn272_m {w : Nat → Int} {h : q_F} {m : Nat} (hw : h 140 = w) (ok : m_ok w) (hm : (m : Int) < w 4) (hP : m_PA h w (w 4).toNat) : fn272 m h = some (m_str w m) := by
  have h4 := ok.2.1
  obtain ⟨n, e⟩ := m_fu3
  rw [fn272, q_w32_id (by omega) (by omega), hw]
  unfold m_str
  split
  · rename_i hlt
    have hP2 : m_PA h w (m + 2) := fun j hj => hP j (by omega)
    have e3 : fn272_18 h (n + 1) m ((0 + 1 + 1 + 1 : Nat) : Int) = some 1 := by rw [fn272_18, if_pos (by omega)]
    have e0 := fn272_18s (n := n + 1 + 1 + 1) ok (by omega) (show 0 < 3 by omega) hP2
    rw [fn272_18s (n := n + 1 + 1) ok (by omega) (show 0 + 1 < 3 by omega) hP2, fn272_18s (n := n + 1) ok (by omega) (show 0 + 1 + 1 < 3 by omega) hP2, e3] at e0
    rw [e]
    refine e0.trans ?_
    clear e0 e3 hP hP2
    (repeat' split) <;> simp_all
  · rfl
/-- the speeds between the moves, before the passes -/
noncomputable def m_b0 (w : Nat → Int) (m : Nat) : Int := if m = 0 then qx_mn (w 0) (m_c w 14 0) else if (m : Int) = w 4 then qx_mn (w 0) (m_c w 14 (m - 1)) else if m_str w (m - 1) = 0 then qx_mn (w 0) (qx_mn (m_c w 14 (m - 1)) (m_c w 14 m)) else qx_mn (m_c w 14 (m - 1)) (m_c w 14 m)
noncomputable def m_b1r (w : Nat → Int) (n : Nat) : Nat → Int
  | 0 => m_b0 w n
  | d + 1 => qx_mn (m_b0 w (n - 1 - d)) (m_b1r w n d + m_c w 17 (n - 1 - d) * m_l w (n - 1 - d))
noncomputable def m_b1 (w : Nat → Int) (m : Nat) : Int := m_b1r w (w 4).toNat ((w 4).toNat - m)
noncomputable def m_b (w : Nat → Int) : Nat → Int
  | 0 => m_b1 w 0
  | m + 1 => qx_mn (m_b1 w (m + 1)) (m_b w m + m_c w 17 m * m_l w m)
/-- no move leads nowhere -/
def m_nn (w : Nat → Int) : Prop := ∀ m : Nat, (m : Int) < w 4 → m_mv w m
theorem m_b0_r {w : Nat → Int} (ok : m_ok w) (nn : m_nn w) {m : Nat} (hm : (m : Int) ≤ w 4) (h4 : 0 < w 4) : 1 ≤ m_b0 w m ∧ m_b0 w m ≤ 5000 := by
  have h0 := ok.1; have h16 := ok.2.1
  unfold m_b0
  split
  · have := m_cru_r ok (m := 0) (by omega) (nn 0 (by omega)); unfold qx_mn; split <;> omega
  · have c1 := m_cru_r ok (m := m - 1) (by omega) (nn (m - 1) (by omega))
    split
    · unfold qx_mn; split <;> omega
    · have c2 := m_cru_r ok (m := m) (by omega) (nn m (by omega))
      unfold qx_mn
      (repeat' split) <;> omega
theorem m_reach_r {w : Nat → Int} (ok : m_ok w) (nn : m_nn w) {m : Nat} (hm : (m : Int) < w 4) : 0 ≤ m_c w 17 m * m_l w m ∧ m_c w 17 m * m_l w m ≤ 1000000 := by
  have h16 := ok.2.1
  have g := m_gain_r ok (m := m) (by omega) (nn m hm)
  have l := m_l_r ok (m := m) (by omega)
  have := m_mulr (x := m_c w 17 m) (l := m_l w m) (a := 500) (b := 2000) (by omega) (by omega) (by omega) (by omega)
  omega
theorem m_b1r_r {w : Nat → Int} (ok : m_ok w) (nn : m_nn w) (h4 : 0 < w 4) : ∀ d, d ≤ (w 4).toNat → 1 ≤ m_b1r w (w 4).toNat d ∧ m_b1r w (w 4).toNat d ≤ m_b0 w ((w 4).toNat - d) := by
  intro d
  induction d with
  | zero => intro _; unfold m_b1r; have := m_b0_r ok nn (m := (w 4).toNat) (by omega) h4; rw [Nat.sub_zero]; omega
  | succ d ih =>
    intro hd
    have i1 := ih (by omega)
    have b := m_b0_r ok nn (m := (w 4).toNat - 1 - d) (by omega) h4
    have r := m_reach_r ok nn (m := (w 4).toNat - 1 - d) (by omega)
    unfold m_b1r
    rw [show (w 4).toNat - (d + 1) = (w 4).toNat - 1 - d by omega]
    unfold qx_mn; split <;> omega
theorem m_b1_r {w : Nat → Int} (ok : m_ok w) (nn : m_nn w) {m : Nat} (hm : (m : Int) ≤ w 4) (h4 : 0 < w 4) : 1 ≤ m_b1 w m ∧ m_b1 w m ≤ 5000 := by
  have h := m_b1r_r ok nn h4 ((w 4).toNat - m) (by omega)
  rw [show (w 4).toNat - ((w 4).toNat - m) = m by omega] at h
  have b := m_b0_r ok nn hm h4
  unfold m_b1; omega
theorem m_b_r {w : Nat → Int} (ok : m_ok w) (nn : m_nn w) (h4 : 0 < w 4) : ∀ m : Nat, (m : Int) ≤ w 4 → 1 ≤ m_b w m ∧ m_b w m ≤ 5000 := by
  intro m
  induction m with
  | zero => intro _; unfold m_b; exact m_b1_r ok nn (by omega) h4
  | succ m ih =>
    intro hm
    have i1 := ih (by omega)
    have b := m_b1_r ok nn (m := m + 1) (by omega) h4
    have r := m_reach_r ok nn (m := m) (by omega)
    unfold m_b qx_mn; split <;> omega
end -- [53.plan]
section -- [54.plan]
/-! Part 54: the reference's plan of the queue, whole. -/
theorem m_b1_s {w : Nat → Int} {j : Nat} (h4 : 0 ≤ w 4) (hj : (j : Int) < w 4) : m_b1 w j = qx_mn (m_b0 w j) (m_b1 w (j + 1) + m_c w 17 j * m_l w j) := by
  unfold m_b1
  rw [show (w 4).toNat - j = ((w 4).toNat - (j + 1)) + 1 by omega]
  show qx_mn (m_b0 w ((w 4).toNat - 1 - ((w 4).toNat - (j + 1)))) (m_b1r w (w 4).toNat ((w 4).toNat - (j + 1)) + m_c w 17 ((w 4).toNat - 1 - ((w 4).toNat - (j + 1))) * m_l w ((w 4).toNat - 1 - ((w 4).toNat - (j + 1)))) = _
  rw [show (w 4).toNat - 1 - ((w 4).toNat - (j + 1)) = j by omega]
theorem m_b1_n {w : Nat → Int} : m_b1 w (w 4).toNat = m_b0 w (w 4).toNat := by
  unfold m_b1; rw [Nat.sub_self]; rfl
theorem m_PA_sr {h : q_F} {w v : Nat → Int} {n k : Nat} (hP : m_PA h w n) (hk : k < 145 ∨ 148 < k) : m_PA (m_sr h k v) w n := by
  intro m hm
  obtain ⟨h1, h2, h3, h4⟩ := hP m hm
  refine ⟨fun a ha => ?_, ?_, ?_, ?_⟩
  · rw [m_sr_n (by omega)]; exact h1 a ha
  · rw [m_sr_n (by omega)]; exact h2
  · rw [m_sr_n (by omega)]; exact h3
  · rw [m_sr_n (by omega)]; exact h4
theorem fn278_190_m {w : Nat → Int} (ok : m_ok w) (nn : m_nn w) (h0 : 0 < w 4) : ∀ (d m f : Nat) (h : q_F), m + d = (w 4).toNat → d < f → m_PA h w (w 4).toNat → (∀ j, j ≤ m → h 149 j = m_b w j) → (∀ j, m < j → j ≤ (w 4).toNat → h 149 j = m_b1 w j) → ∃ v, fn278_190 f (w 4) m h = some (0, m_sr h 149 v) ∧ ∀ j, j ≤ (w 4).toNat → v j = m_b w j := by
  have h16 := ok.2.1
  intro d
  induction d with
  | zero =>
    intro m f h hm hf hP h1 h2
    obtain ⟨f, rfl⟩ : ∃ f', f = f' + 1 := ⟨f - 1, by omega⟩
    refine ⟨h 149, ?_, fun j hj => h1 j (by omega)⟩
    rw [fn278_190, if_pos (by omega), m_sr_id]
  | succ d ih =>
    intro m f h hm hf hP h1 h2
    obtain ⟨f, rfl⟩ : ∃ f', f = f' + 1 := ⟨f - 1, by omega⟩
    obtain ⟨-, p2, -, p4⟩ := hP m (by omega)
    have r := m_reach_r ok nn (m := m) (by omega)
    have b := m_b_r ok nn h0 m (by omega)
    have e1 : qx_mn (h 149 (m + 1)) (q_w32 (h 149 m + q_w32 (h 148 m * h 146 m))) = m_b w (m + 1) := by
      rw [h2 (m + 1) (by omega) (by omega), h1 m (by omega), p2, p4, q_w32_id (z := m_c w 17 m * m_l w m) (by omega) (by omega), q_w32_id (by omega) (by omega)]; rfl
    obtain ⟨v, g1, g2⟩ := ih (m + 1) f (m_sr h 149 (m_u (h 149) (m + 1) (m_b w (m + 1)))) (by omega) (by omega) (m_PA_sr hP (by omega)) (by
      intro j hj; rw [m_sr_s]
      by_cases e : j = m + 1
      · subst e; rw [m_u_s]
      · rw [m_u_n e]; exact h1 j (by omega)) (by
      intro j hj hj2; rw [m_sr_s, m_u_n (by omega)]; exact h2 j (by omega) hj2)
    refine ⟨v, ?_, g2⟩
    rw [fn278_190, if_neg (by omega), q_w32_id (z := (m : Int) + 1) (by omega) (by omega), if_pos (by omega), if_pos (by omega), if_pos (by omega), if_pos (by omega), m_tn1, Int.toNat_natCast, e1, m_ud_sr, m_let]
    rw [← m_s1, g1, m_sr_sr, if_pos (by omega)]
theorem fn278_141_m {w : Nat → Int} (ok : m_ok w) (nn : m_nn w) (h0 : 0 < w 4) : ∀ (m f : Nat) (h : q_F), m ≤ (w 4).toNat → m < f → m_PA h w (w 4).toNat → (∀ j, j < m → h 149 j = m_b0 w j) → (∀ j, m ≤ j → j ≤ (w 4).toNat → h 149 j = m_b1 w j) → ∃ v, fn278_141 f (w 4) ((m : Int) - 1) h = some (0, m_sr h 149 v) ∧ ∀ j, j ≤ (w 4).toNat → v j = m_b w j := by
  have h16 := ok.2.1
  intro m
  induction m with
  | zero =>
    intro f h hm hf hP h1 h2
    obtain ⟨f, rfl⟩ : ∃ f', f = f' + 1 := ⟨f - 1, by omega⟩
    rw [fn278_141, if_pos (by omega)]
    exact fn278_190_m ok nn h0 (w 4).toNat 0 q_fu h (by omega) (by have := q_fu_ge; omega) hP (by
      intro j hj
      have e : j = 0 := by omega
      subst e
      exact h2 0 (by omega) (by omega)) (fun j hj hj2 => h2 j (by omega) hj2)
  | succ m ih =>
    intro f h hm hf hP h1 h2
    obtain ⟨f, rfl⟩ : ∃ f', f = f' + 1 := ⟨f - 1, by omega⟩
    obtain ⟨-, p2, -, p4⟩ := hP m (by omega)
    have r := m_reach_r ok nn (m := m) (by omega)
    have b := m_b1_r ok nn (m := m + 1) (by omega) h0
    have e1 : qx_mn (h 149 m) (q_w32 (h 149 (m + 1) + q_w32 (h 148 m * h 146 m))) = m_b1 w m := by
      rw [h2 (m + 1) (by omega) (by omega), h1 m (by omega), p2, p4, q_w32_id (z := m_c w 17 m * m_l w m) (by omega) (by omega), q_w32_id (by omega) (by omega), m_b1_s (w := w) (j := m) (by omega) (by omega)]
    obtain ⟨v, g1, g2⟩ := ih f (m_sr h 149 (m_u (h 149) m (m_b1 w m))) (by omega) (by omega) (m_PA_sr hP (by omega)) (by
      intro j hj; rw [m_sr_s, m_u_n (by omega)]; exact h1 j (by omega)) (by
      intro j hj hj2; rw [m_sr_s]
      by_cases e : j = m
      · subst e; rw [m_u_s]
      · rw [m_u_n e]; exact h2 j (by omega) hj2)
    refine ⟨v, ?_, g2⟩
    rw [show ((m + 1 : Nat) : Int) - 1 = (m : Int) by omega]
    rw [fn278_141, if_neg (by omega), if_pos (by omega), q_w32_id (z := (m : Int) + 1) (by omega) (by omega), if_pos (by omega), if_pos (by omega), if_pos (by omega), m_tn1, Int.toNat_natCast, e1, m_ud_sr, m_let]
    rw [q_w32_id (by omega) (by omega), show (m : Int) + -1 = (m : Int) - 1 by omega, g1, m_sr_sr, if_pos (by omega)]
theorem fn278_73_m {w : Nat → Int} (ok : m_ok w) (nn : m_nn w) (h0 : 0 < w 4) : ∀ (d m f : Nat) (h : q_F), m + d = (w 4).toNat → 1 ≤ m → d < f → h 140 = w → m_PA h w (w 4).toNat → (∀ j, j < m → h 149 j = m_b0 w j) → h 149 (w 4).toNat = m_b0 w (w 4).toNat → ∃ v, fn278_73 f (w 4) m h = some (0, m_sr h 149 v) ∧ ∀ j, j ≤ (w 4).toNat → v j = m_b w j := by
  have h16 := ok.2.1
  have hw0 := ok.1
  intro d
  induction d with
  | zero =>
    intro m f h hm h1m hf hw hP h1 h2
    obtain ⟨f, rfl⟩ : ∃ f', f = f' + 1 := ⟨f - 1, by omega⟩
    rw [fn278_73, if_pos (by omega), q_w32_id (by omega) (by omega), show w 4 - 1 = (((w 4).toNat : Nat) : Int) - 1 by omega]
    exact fn278_141_m ok nn h0 (w 4).toNat q_fu h (by omega) (by have := q_fu_ge; omega) hP (fun j hj => h1 j (by omega)) (fun j hj hj2 => by
      have e : j = (w 4).toNat := by omega
      subst e
      rw [h2, m_b1_n])
  | succ d ih =>
    intro m f h hm h1m hf hw hP h1 h2
    obtain ⟨f, rfl⟩ : ∃ f', f = f' + 1 := ⟨f - 1, by omega⟩
    obtain ⟨-, -, p3, -⟩ := hP m (by omega)
    obtain ⟨-, -, q3, -⟩ := hP (m - 1) (by omega)
    have em : ((m : Int) - 1) = ((m - 1 : Nat) : Int) := by omega
    rw [fn278_73, if_neg (by omega), q_w32_id (z := (m : Int) - 1) (by omega) (by omega), if_pos (by omega), if_pos (by omega), if_pos (by omega), em, Int.toNat_natCast, Int.toNat_natCast, p3, q3, m_ud_sr, m_let, fn272_m (w := w) (by simp [m_sr, hw]) ok (by omega) (m_PA_sr hP (by omega)), Option.bind_some]
    by_cases hs : m_str w (m - 1) = 0
    · rw [if_pos hs, fn303_i (by omega) (by omega), Option.bind_some, m_sr_ne h 149 140 _ rfl, hw, Int.toNat_zero, q_w32_id (z := w 0) (by omega) (by omega), if_pos (by omega), if_pos (by omega), m_sr_s, m_u_s, m_ud_sr, m_let, fn278_131, m_sr_s, m_sr_sr, m_u_u]
      rw [q_w32_id (z := (m : Int) + 1) (by omega) (by omega), ← m_s1]
      obtain ⟨v, g1, g2⟩ := ih (m + 1) f (m_sr h 149 (m_u (h 149) m (qx_mn (w 0) (qx_mn (m_c w 14 (m - 1)) (m_c w 14 m))))) (by omega) (by omega) (by omega) (by simp [m_sr, hw]) (m_PA_sr hP (by omega)) (by
        intro j hj; rw [m_sr_s]
        by_cases e : j = m
        · subst e
          rw [m_u_s]
          unfold m_b0
          rw [if_neg (by omega), if_neg (by omega), if_pos hs]
        · rw [m_u_n e]; exact h1 j (by omega)) (by rw [m_sr_s, m_u_n (by omega)]; exact h2)
      exact ⟨v, by rw [g1, m_sr_sr], g2⟩
    · rw [if_neg hs, fn278_131]
      rw [q_w32_id (z := (m : Int) + 1) (by omega) (by omega), ← m_s1]
      obtain ⟨v, g1, g2⟩ := ih (m + 1) f (m_sr h 149 (m_u (h 149) m (qx_mn (m_c w 14 (m - 1)) (m_c w 14 m)))) (by omega) (by omega) (by omega) (by simp [m_sr, hw]) (m_PA_sr hP (by omega)) (by
        intro j hj; rw [m_sr_s]
        by_cases e : j = m
        · subst e
          rw [m_u_s]
          unfold m_b0
          rw [if_neg (by omega), if_neg (by omega), if_neg hs]
        · rw [m_u_n e]; exact h1 j (by omega)) (by rw [m_sr_s, m_u_n (by omega)]; exact h2)
      exact ⟨v, by rw [g1, m_sr_sr], g2⟩
def m_Plan (h : q_F) (w : Nat → Int) : Prop := m_PA h w (w 4).toNat ∧ ∀ m, m ≤ (w 4).toNat → 0 < w 4 → h 149 m = m_b w m
theorem m_PA_0 {h : q_F} {w : Nat → Int} : m_PA h w 0 := fun m hm => absurd hm (by omega)
/-- only the cells of the plan have changed -/
def m_fp (h h' : q_F) : Prop := ∀ k, k < 145 ∨ 149 < k → h' k = h k
theorem fn278_8_m {w : Nat → Int} (ok : m_ok w) (nn : m_nn w) : ∀ (d m f : Nat) (h : q_F), m + d = (w 4).toNat → d < f → h 140 = w → m_PA h w m → ∃ h', fn278_8 f (w 4) m h = some (0, h') ∧ m_Plan h' w ∧ m_fp h h' := by
  have h16 := ok.2.1
  have hw0 := ok.1
  intro d
  induction d with
  | zero =>
    intro m f h hm hf hw hP
    obtain ⟨f, rfl⟩ : ∃ f', f = f' + 1 := ⟨f - 1, by omega⟩
    have em : m = (w 4).toNat := by omega
    rw [fn278_8, if_pos (by omega)]
    by_cases hz : w 4 = 0
    · rw [if_pos hz]
      exact ⟨h, rfl, ⟨by rw [← em]; exact hP, fun j hj h9 => by omega⟩, fun k hk => rfl⟩
    · have p0 := (hP 0 (by omega)).2.2.1
      have p1 := (hP (m - 1) (by omega)).2.2.1
      rw [if_neg hz, fn303_i (by omega) (by omega), Option.bind_some, hw, Int.toNat_zero, q_w32_id (z := w 0) (by omega) (by omega), m_ud_sr, m_let, fn303_i (by omega) (by omega), Option.bind_some, m_sr_ne h 149 140 _ rfl, hw, Int.toNat_zero, q_w32_id (z := w 0) (by omega) (by omega), q_w32_id (z := w 4 - 1) (by omega) (by omega), if_pos (by omega), if_pos (by omega), m_ud_sr, m_let, m_sr_s, m_sr_sr, m_sr_ne h 149 147 _ rfl, p0]
      rw [show (w 4 - 1).toNat = m - 1 by omega, p1, ← em]
      obtain ⟨v, g1, g2⟩ := fn278_73_m ok nn (by omega) (m - 1) 1 q_fu (m_sr h 149 (m_u (m_u (h 149) 0 (qx_mn (w 0) (m_c w 14 0))) m (qx_mn (w 0) (m_c w 14 (m - 1))))) (by omega) (by omega) (by have := q_fu_ge; omega) (by simp [m_sr, hw]) (m_PA_sr (by rw [← em]; exact hP) (by omega)) (by
        intro j hj
        have e : j = 0 := by omega
        subst e
        rw [m_sr_s, m_u_n (by omega), m_u_s]
        unfold m_b0
        rw [if_pos rfl]) (by
        rw [← em, m_sr_s, m_u_s]
        unfold m_b0
        rw [if_neg (by omega), if_pos (by omega)])
      refine ⟨_, g1, ⟨m_PA_sr (m_PA_sr (by rw [← em]; exact hP) (by omega)) (by omega), fun j hj _ => by rw [m_sr_s]; exact g2 j hj⟩, fun k hk => ?_⟩
      rw [m_sr_n (by omega), m_sr_n (by omega)]
  | succ d ih =>
    intro m f h hm hf hw hP
    obtain ⟨f, rfl⟩ : ∃ f', f = f' + 1 := ⟨f - 1, by omega⟩
    rw [fn278_8, if_neg (by omega), fn277_m hw ok (by omega), Option.bind_some, q_w32_id (by omega) (by omega), ← m_s1]
    obtain ⟨h', g1, g2, g3⟩ := ih (m + 1) f (m_lay h w m) (by omega) (by omega) (by rw [m_lay_o (by omega)]; exact hw) (m_PA_lay hP)
    exact ⟨h', g1, g2, fun k hk => (g3 k hk).trans (m_lay_o (by omega))⟩
theorem fn278_m {w : Nat → Int} {h : q_F} (hw : h 140 = w) (ok : m_ok w) (nn : m_nn w) : ∃ h', fn278 h = some (0, h') ∧ m_Plan h' w ∧ m_fp h h' := by
  have h16 := ok.2.1
  obtain ⟨h', g1, g2, g3⟩ := fn278_8_m ok nn (w 4).toNat 0 q_fu h (by omega) (by have := q_fu_ge; omega) hw m_PA_0
  refine ⟨h', ?_, g2, g3⟩
  rw [fn278, fn303_i (by omega) (by omega), Option.bind_some, hw, show (4 : Int).toNat = 4 from rfl, q_w32_id (by omega) (by omega)]
  exact g1
end -- [54.plan]
section -- [55.moves]
/-! Part 55: the reference's moves. -/
/-- places that a step of a move may change -/
def m_dy (j : Nat) : Prop := (5 ≤ j ∧ j ≤ 7) ∨ (26 ≤ j ∧ j ≤ 37) ∨ (44 ≤ j ∧ j ≤ 46) ∨ (53 ≤ j ∧ j ≤ 64) ∨ (71 ≤ j ∧ j ≤ 73)
def m_fr (w w' : Nat → Int) : Prop := ∀ j, ¬ m_dy j → w' j = w j
theorem m_fr_r {w : Nat → Int} : m_fr w w := fun _ _ => rfl
theorem m_fr_t {w w1 w2 : Nat → Int} (h1 : m_fr w w1) (h2 : m_fr w1 w2) : m_fr w w2 := fun j hj => (h2 j hj).trans (h1 j hj)
theorem m_fr_u {w w1 : Nat → Int} {j : Nat} {v : Int} (h1 : m_fr w w1) (hj : m_dy j) : m_fr w (m_u w1 j v) := fun k hk => by
  rw [m_u_n (by intro e; exact hk (e ▸ hj))]; exact h1 k hk
theorem m_sw_fr {a : Nat} (ha : a < 3) (w : Nat → Int) : m_fr w (m_sw a w) := by
  unfold m_sw; split
  · exact m_fr_r
  · exact m_fr_u m_fr_r (by unfold m_dy; omega)
theorem m_sx_fr {a : Nat} (ha : a < 3) (w : Nat → Int) : m_fr w (m_sx a w) := by
  unfold m_sx
  refine m_fr_t ?_ (m_sw_fr ha _)
  split
  · exact m_fr_r
  · exact m_fr_u m_fr_r (by unfold m_dy; omega)
theorem m_sm_fr {a : Nat} (ha : a < 3) (d e s : Int) (w : Nat → Int) : m_fr w (m_sm a d e s w).2 := by
  unfold m_sm
  split
  · split
    · exact m_fr_u m_fr_r (by unfold m_dy; omega)
    · exact m_fr_t (m_fr_u m_fr_r (by unfold m_dy; omega)) (m_sx_fr ha _)
  · exact m_fr_u m_fr_r (by unfold m_dy; omega)
theorem m_step_fr {a : Nat} (ha : a < 3) (d : Int) (w : Nat → Int) : m_fr w (m_step a d w).2 := by
  unfold m_step m_s0
  split
  · exact m_fr_t (m_fr_u (m_fr_u (m_fr_u m_fr_r (by unfold m_dy; omega)) (by unfold m_dy; omega)) (by unfold m_dy; omega)) (m_sm_fr ha _ _ _ _)
  · exact m_fr_t (m_fr_u (m_fr_u (m_fr_u m_fr_r (by unfold m_dy; omega)) (by unfold m_dy; omega)) (by unfold m_dy; omega)) (m_sm_fr ha _ _ _ _)
theorem m_sm_z {a : Nat} (d e s : Int) (w : Nat → Int) : (m_sm a d e s w).1 = 0 ∨ (m_sm a d e s w).1 = 1 := by
  unfold m_sm; (repeat' split) <;> simp
theorem m_step_z (a : Nat) (d : Int) (w : Nat → Int) : (m_step a d w).1 = 0 ∨ (m_step a d w).1 = 1 := by
  unfold m_step; split <;> exact m_sm_z _ _ _ _
-- the plan's speeds, times, steps
noncomputable def m_sp (p : Nat → Int) (m : Nat) (k : Int) : Int := qx_mn (m_c p 14 m) (qx_mn (m_b p m + m_c p 17 m * k) (m_b p (m + 1) + m_c p 17 m * (m_l p m - 1 - k)))
noncomputable def m_t (p : Nat → Int) (m : Nat) (k : Int) : Int := q_ldv 1000000 (m_sp p m k)
noncomputable def m_made (p : Nat → Int) (m a : Nat) (k : Int) : Int := q_idv (2 * k * m_abs (m_d p m a) + m_l p m) (2 * m_l p m)
def m_sg (v : Int) : Int := if v ≤ 0 then (if 0 ≤ v then 0 else -1) else 1
theorem fn333_m (v : Int) (h : q_F) : fn333 v h = some (m_sg v) := by
  unfold fn333 m_sg; (repeat' split) <;> rfl
theorem m_gk_r {p : Nat → Int} (ok : m_ok p) (nn : m_nn p) {m : Nat} {k : Int} (hm : (m : Int) < p 4) (h0 : 0 ≤ k) (h1 : k ≤ m_l p m) : 0 ≤ m_c p 17 m * k ∧ m_c p 17 m * k ≤ 1000000 := by
  have h16 := ok.2.1
  have g := m_gain_r ok (m := m) (by omega) (nn m hm)
  have l := m_l_r ok (m := m) (by omega)
  have := m_mulr (x := m_c p 17 m) (l := k) (a := 500) (b := 2000) (by omega) (by omega) (by omega) (by omega)
  omega
theorem m_sp_r {p : Nat → Int} (ok : m_ok p) (nn : m_nn p) {m : Nat} {k : Int} (hm : (m : Int) < p 4) (h0 : 0 ≤ k) (h1 : k < m_l p m) : 1 ≤ m_sp p m k ∧ m_sp p m k ≤ 5000 := by
  have h16 := ok.2.1
  have c := m_cru_r ok (m := m) (by omega) (nn m hm)
  have b1 := m_b_r ok nn (by omega) m (by omega)
  have b2 := m_b_r ok nn (by omega) (m + 1) (by omega)
  have g1 := m_gk_r ok nn hm h0 (by omega)
  have g2 := m_gk_r ok nn (k := m_l p m - 1 - k) hm (by omega) (by omega)
  unfold m_sp qx_mn
  (repeat' split) <;> omega
theorem fn338_m {p : Nat → Int} {h : q_F} (ok : m_ok p) (nn : m_nn p) (hP : m_Plan h p) {m : Nat} {k : Int} (hm : (m : Int) < p 4) (h0 : 0 ≤ k) (h1 : k < m_l p m) : fn338 m k h = some (m_sp p m k) := by
  have h16 := ok.2.1
  obtain ⟨-, p2, p3, p4⟩ := hP.1 m (by omega)
  have q1 := hP.2 m (by omega) (by omega)
  have q2 := hP.2 (m + 1) (by omega) (by omega)
  have b1 := m_b_r ok nn (by omega) m (by omega)
  have b2 := m_b_r ok nn (by omega) (m + 1) (by omega)
  have g1 := m_gk_r ok nn hm h0 (by omega)
  have g2 := m_gk_r ok nn (k := m_l p m - 1 - k) hm (by omega) (by omega)
  have l := m_l_r ok (m := m) (by omega)
  rw [fn338, if_pos (by omega), if_pos (by omega), if_pos (by omega), q_w32_id (z := (m : Int) + 1) (by omega) (by omega), if_pos (by omega), if_pos (by omega), if_pos (by omega), m_tn1, Int.toNat_natCast, p2, p3, p4, q1, q2]
  rw [q_w32_id (z := m_c p 17 m * k) (by omega) (by omega), q_w32_id (z := m_l p m - 1) (by omega) (by omega), q_w32_id (z := m_l p m - 1 - k) (by omega) (by omega), q_w32_id (z := m_c p 17 m * (m_l p m - 1 - k)) (by omega) (by omega), q_w32_id (by omega) (by omega), q_w32_id (by omega) (by omega)]
  rfl
theorem fn275_m {p : Nat → Int} {h : q_F} (ok : m_ok p) (nn : m_nn p) (hP : m_Plan h p) {m : Nat} {k : Int} (hm : (m : Int) < p 4) (h0 : 0 ≤ k) (h1 : k < m_l p m) : fn275 m k h = some (m_t p m k) := by
  have s := m_sp_r ok nn hm h0 h1
  rw [fn275, fn338_m ok nn hP hm h0 h1, Option.bind_some, if_pos (by omega)]
  rfl
theorem fn286_m {p : Nat → Int} {h : q_F} (ok : m_ok p) (nn : m_nn p) (hP : m_PA h p (p 4).toNat) {m a : Nat} {k : Int} (hm : (m : Int) < p 4) (ha : a < 3) (h0 : 0 ≤ k) (h1 : k ≤ m_l p m) : fn286 m a k h = some (m_made p m a k) := by
  have h16 := ok.2.1
  obtain ⟨p1, p2, -, -⟩ := hP m (by omega)
  have l := m_l_r ok (m := m) (by omega)
  have l1 := m_l_1 ok (m := m) (by omega) (nn m hm)
  have d := m_d_r ok (m := m) (by omega) ha
  have da := m_abs_r d
  have g := m_mulr (x := 2 * k) (l := m_abs (m_d p m a)) (a := 4000) (b := 2000) (by omega) (by omega) (by omega) (by omega)
  rw [fn286, q_w32_id (z := 3 * (m : Int)) (by omega) (by omega), q_w32_id (z := 3 * (m : Int) + a) (by omega) (by omega), if_pos (by omega), show (3 * (m : Int) + a).toNat = 3 * m + a by omega, p1 a ha, fn236_i (by omega) (by omega), Option.bind_some, if_pos (by omega), if_pos (by omega), Int.toNat_natCast, p2, q_w32_id (z := 2 * m_l p m) (by omega) (by omega), if_pos (by omega)]
  rw [q_w32_id (z := 2 * k) (by omega) (by omega), q_w32_id (z := 2 * k * m_abs (m_d p m a)) (by omega) (by omega), q_w32_id (by omega) (by omega)]
  rfl
-- compensation
noncomputable def m_upl (a : Nat) (d : Int) : Nat → (Nat → Int) → Int × (Nat → Int)
  | 0, w => (1, w)
  | n + 1, w =>
    let w1 := m_u w 5 (q_w64 (w 5 + q_ldv 1000000 (w 0)))
    let s := m_step a d (m_u w1 (62 + a) (q_w64 (w1 (62 + a) + 1)))
    if s.1 = 0 then m_upl a d n s.2 else if s.2 2 = 1 then (0, s.2) else m_upl a d n s.2
noncomputable def m_up (p : Nat → Int) (m a : Nat) (w : Nat → Int) : Int × (Nat → Int) :=
  if m_sg (m_d p m a) = 0 then (1, w) else if m_sg (m_d p m a) = w (44 + a) then (1, w) else if w 1 = 0 then (1, w) else m_upl a (m_sg (m_d p m a)) (w (11 + a)).toNat w
theorem m_upl_fr {a : Nat} (ha : a < 3) (d : Int) : ∀ (n : Nat) (w : Nat → Int), m_fr w (m_upl a d n w).2 := by
  intro n
  induction n with
  | zero => intro w; exact m_fr_r
  | succ n ih =>
    intro w
    unfold m_upl
    have g := m_fr_t (m_fr_u (v := q_w64 ((m_u w 5 (q_w64 (w 5 + q_ldv 1000000 (w 0)))) (62 + a) + 1)) (j := 62 + a) (m_fr_u (w := w) (v := q_w64 (w 5 + q_ldv 1000000 (w 0))) (j := 5) m_fr_r (by unfold m_dy; omega)) (by unfold m_dy; omega)) (m_step_fr ha d _)
    simp only
    split
    · exact m_fr_t g (ih _)
    · split
      · exact g
      · exact m_fr_t g (ih _)
theorem m_up_fr {p : Nat → Int} {m a : Nat} (ha : a < 3) (w : Nat → Int) : m_fr w (m_up p m a w).2 := by
  unfold m_up; (repeat' split) <;> first | exact m_fr_r | exact m_upl_fr ha _ _ _
theorem fn290_58_m {a : Nat} {d : Int} (ha : a < 3) : ∀ (n f : Nat) (h : q_F), n < f → n ≤ 20 → h 140 0 ≠ 0 → fn290_58 f a d n h = some ((m_upl a d n (h 140)).1, m_sr h 140 (m_upl a d n (h 140)).2) := by
  intro n
  induction n with
  | zero =>
    intro f h hf hn h0
    obtain ⟨f, rfl⟩ : ∃ f', f = f' + 1 := ⟨f - 1, by omega⟩
    rw [fn290_58, if_pos (by omega)]
    unfold m_upl; rw [m_sr_id]
  | succ n ih =>
    intro f h hf hn h0
    obtain ⟨f, rfl⟩ : ∃ f', f = f' + 1 := ⟨f - 1, by omega⟩
    rw [fn290_58, if_neg (by omega), fn335_m h0, Option.bind_some, m_ud_sr, m_let, q_w32_id (z := 62 + (a : Int)) (by omega) (by omega), if_pos (by omega), if_pos (by omega), show (62 + (a : Int)).toNat = 62 + a by omega, m_ud_sr, m_let, m_sr_s, m_sr_sr, fn340_m ha, Option.bind_some, m_sr_s, m_sr_sr]
    unfold m_upl
    simp only
    have e0 : (m_step a d (m_u (m_u (h 140) 5 (q_w64 (h 140 5 + q_ldv 1000000 (h 140 0)))) (62 + a) (q_w64 (m_u (h 140) 5 (q_w64 (h 140 5 + q_ldv 1000000 (h 140 0))) (62 + a) + 1)))).2 0 = h 140 0 := by
      rw [m_step_fr ha d _ 0 (by unfold m_dy; omega), m_u_n (by omega), m_u_n (by omega)]
    have ei := ih f (m_sr h 140 (m_step a d (m_u (m_u (h 140) 5 (q_w64 (h 140 5 + q_ldv 1000000 (h 140 0)))) (62 + a) (q_w64 (m_u (h 140) 5 (q_w64 (h 140 5 + q_ldv 1000000 (h 140 0))) (62 + a) + 1)))).2) (by omega) (by omega) (by rw [m_sr_s, e0]; exact h0)
    rw [m_sr_s, m_sr_sr] at ei
    have en : q_w32 (((n + 1 : Nat) : Int) + -1) = (n : Int) := by rw [q_w32_id (by omega) (by omega)]; omega
    split
    · rw [fn290_111, en, ei]
    · rw [m_sr_s]
      split
      · rfl
      · rw [fn290_111, en, ei]
theorem fn290_m {p : Nat → Int} {h : q_F} (ok : m_ok p) (hP : m_PA h p (p 4).toNat) {m a : Nat} (hm : (m : Int) < p 4) (ha : a < 3) (h0 : h 140 0 ≠ 0) (hb : 0 ≤ h 140 (11 + a) ∧ h 140 (11 + a) ≤ 20) : fn290 m a h = some ((m_up p m a (h 140)).1, m_sr h 140 (m_up p m a (h 140)).2) := by
  have h16 := ok.2.1
  obtain ⟨p1, -⟩ := hP m (by omega)
  rw [fn290, q_w32_id (z := 3 * (m : Int)) (by omega) (by omega), q_w32_id (z := 3 * (m : Int) + a) (by omega) (by omega), if_pos (by omega), show (3 * (m : Int) + a).toNat = 3 * m + a by omega, p1 a ha, fn333_m, Option.bind_some]
  unfold m_up
  split
  · rw [m_sr_id]
  · rw [q_w32_id (z := 44 + (a : Int)) (by omega) (by omega), if_pos (by omega), show (44 + (a : Int)).toNat = 44 + a by omega]
    split
    · rw [m_sr_id]
    · split
      · rw [m_sr_id]
      · rw [q_w32_id (z := 11 + (a : Int)) (by omega) (by omega), fn303_i (by omega) (by omega), Option.bind_some, show (11 + (a : Int)).toNat = 11 + a by omega, q_w32_id (by omega) (by omega)]
        have e := fn290_58_m (d := m_sg (m_d p m a)) ha (h 140 (11 + a)).toNat q_fu h (by have := q_fu_ge; omega) (by omega) h0
        rw [show (((h 140 (11 + a)).toNat : Nat) : Int) = h 140 (11 + a) by omega] at e
        exact e
end -- [55.moves]
section -- [56.moves]
/-! Part 56: the reference's moves, gone on with. -/
noncomputable def m_ax (p : Nat → Int) (m : Nat) (k : Int) (a : Nat) (w : Nat → Int) : Int × (Nat → Int) :=
  if m_made p m a (k + 1) = m_made p m a k then (1, w) else
    let s := m_step a (m_sg (m_d p m a)) w
    if s.1 = 0 then (1, s.2) else if s.2 2 = 1 then (0, s.2) else (1, s.2)
/-- one thing behind the other, as long as it goes on -/
def m_sq (f g : (Nat → Int) → Int × (Nat → Int)) (w : Nat → Int) : Int × (Nat → Int) := if (f w).1 = 0 then f w else g (f w).2
noncomputable def m_tk (p : Nat → Int) (m : Nat) (k : Int) (w : Nat → Int) : Nat → Int :=
  let w1 := m_u w 5 (q_w64 (w 5 + m_t p m k))
  let w2 := m_u w1 6 (q_w64 (w1 6 + m_t p m k))
  m_u w2 7 (q_w64 (w2 7 + 1))
noncomputable def m_ms (p : Nat → Int) (m : Nat) (k : Int) (w : Nat → Int) : Int × (Nat → Int) :=
  m_sq (m_ax p m k 0) (m_sq (m_ax p m k 1) (m_ax p m k 2)) (m_tk p m k w)
theorem m_ax_fr {p : Nat → Int} {m : Nat} {k : Int} {a : Nat} (ha : a < 3) (w : Nat → Int) : m_fr w (m_ax p m k a w).2 := by
  unfold m_ax; simp only; (repeat' split) <;> first | exact m_fr_r | exact m_step_fr ha _ _
theorem m_sq_fr {f g : (Nat → Int) → Int × (Nat → Int)} (hf : ∀ w, m_fr w (f w).2) (hg : ∀ w, m_fr w (g w).2) (w : Nat → Int) : m_fr w (m_sq f g w).2 := by
  unfold m_sq; split
  · exact hf w
  · exact m_fr_t (hf w) (hg _)
theorem m_tk_fr {p : Nat → Int} {m : Nat} {k : Int} (w : Nat → Int) : m_fr w (m_tk p m k w) := by
  unfold m_tk
  exact m_fr_u (m_fr_u (m_fr_u m_fr_r (by unfold m_dy; omega)) (by unfold m_dy; omega)) (by unfold m_dy; omega)
theorem m_ms_fr {p : Nat → Int} {m : Nat} {k : Int} (w : Nat → Int) : m_fr w (m_ms p m k w).2 := by
  unfold m_ms
  exact m_fr_t (m_tk_fr w) (m_sq_fr (m_ax_fr (by omega)) (m_sq_fr (m_ax_fr (by omega)) (m_ax_fr (by omega))) _)
/-- the plan stands, whatever the row is -/
theorem m_Plan_sr {h : q_F} {w p : Nat → Int} (hP : m_Plan h p) : m_Plan (m_sr h 140 w) p := ⟨m_PA_sr hP.1 (by omega), fun m hm h0 => by rw [m_sr_n (by omega)]; exact hP.2 m hm h0⟩
theorem fn289_44s {p : Nat → Int} {h : q_F} (ok : m_ok p) (nn : m_nn p) (hP : m_Plan h p) {m a n : Nat} {k : Int} (hm : (m : Int) < p 4) (ha : a < 3) (h0 : 0 ≤ k) (h1 : k < m_l p m) :
    fn289_44 (n + 1) m k a h = if (m_ax p m k a (h 140)).1 = 0 then some (0, m_sr h 140 (m_ax p m k a (h 140)).2) else fn289_44 n m k ((a + 1 : Nat) : Int) (m_sr h 140 (m_ax p m k a (h 140)).2) := by
  have h16 := ok.2.1
  have l := m_l_r ok (m := m) (by omega)
  obtain ⟨p1, -⟩ := hP.1 m (by omega)
  rw [fn289_44, if_neg (by omega), q_w32_id (z := k + 1) (by omega) (by omega), fn286_m ok nn hP.1 hm ha (by omega) (by omega), Option.bind_some, fn286_m ok nn hP.1 hm ha (by omega) (by omega), Option.bind_some]
  unfold m_ax
  simp only
  by_cases hx : m_made p m a (k + 1) = m_made p m a k
  · rw [if_pos hx, if_pos hx]
    rw [if_neg (show ¬ (1 : Int) = 0 from by decide), m_sr_id, fn289_105, q_w32_id (by omega) (by omega), m_s1]
  · rw [if_neg hx, if_neg hx, q_w32_id (z := 3 * (m : Int)) (by omega) (by omega), q_w32_id (z := 3 * (m : Int) + a) (by omega) (by omega), if_pos (by omega), show (3 * (m : Int) + a).toNat = 3 * m + a by omega, p1 a ha, fn333_m, Option.bind_some, fn340_m ha, Option.bind_some]
    simp only [m_sr_s]
    by_cases hs : (m_step a (m_sg (m_d p m a)) (h 140)).1 = 0
    · rw [if_pos hs, if_pos hs]
      rw [if_neg (show ¬ (1 : Int) = 0 from by decide), fn289_105, q_w32_id (by omega) (by omega), m_s1]
    · rw [if_neg hs, if_neg hs]
      by_cases h2 : (m_step a (m_sg (m_d p m a)) (h 140)).2 2 = 1
      · rw [if_pos h2, if_pos h2]
        rw [if_pos rfl]
      · rw [if_neg h2, if_neg h2]
        rw [if_neg (show ¬ (1 : Int) = 0 from by decide), fn289_105, q_w32_id (by omega) (by omega), m_s1]
theorem m_ax_z (p : Nat → Int) (m : Nat) (k : Int) (a : Nat) (w : Nat → Int) : (m_ax p m k a w).1 = 0 ∨ (m_ax p m k a w).1 = 1 := by
  unfold m_ax; simp only; (repeat' split) <;> first | exact Or.inl rfl | exact Or.inr rfl
theorem fn289_m {p : Nat → Int} {h : q_F} (ok : m_ok p) (nn : m_nn p) (hP : m_Plan h p) {m : Nat} {k : Int} (hm : (m : Int) < p 4) (h0 : 0 ≤ k) (h1 : k < m_l p m) :
    fn289 m k h = some ((m_ms p m k (h 140)).1, m_sr h 140 (m_ms p m k (h 140)).2) := by
  obtain ⟨n, e⟩ := m_fu3
  have e5 : ∀ w, fn289_44 (n + 1) m k ((0 + 1 + 1 + 1 : Nat) : Int) (m_sr h 140 w) = some (1, m_sr h 140 w) := fun w => by rw [fn289_44, if_pos (by omega)]
  rw [fn289, fn275_m ok nn hP hm h0 h1, Option.bind_some, m_ud_sr, m_let, fn275_m ok nn (m_Plan_sr hP) hm h0 h1, Option.bind_some, m_ud_sr, m_let, m_ud_sr, m_let, m_sr_s, m_sr_sr, m_sr_s, m_sr_sr, e]
  have g0 : ∀ w, fn289_44 (n + 1 + 1 + 1 + 1) m k ((0 : Nat) : Int) (m_sr h 140 w) = some ((m_sq (m_ax p m k 0) (m_sq (m_ax p m k 1) (m_ax p m k 2)) w).1, m_sr h 140 (m_sq (m_ax p m k 0) (m_sq (m_ax p m k 1) (m_ax p m k 2)) w).2) := by
    intro w
    rw [fn289_44s ok nn (m_Plan_sr hP) hm (show 0 < 3 by omega) h0 h1, m_sr_s, m_sr_sr]
    unfold m_sq
    by_cases c0 : (m_ax p m k 0 w).1 = 0
    · rw [if_pos c0, if_pos c0, c0]
    · rw [if_neg c0, if_neg c0, fn289_44s ok nn (m_Plan_sr hP) hm (show 0 + 1 < 3 by omega) h0 h1, m_sr_s, m_sr_sr]
      by_cases c1 : (m_ax p m k 1 (m_ax p m k 0 w).2).1 = 0
      · rw [if_pos c1, if_pos c1, c1]
      · rw [if_neg c1, if_neg c1, fn289_44s ok nn (m_Plan_sr hP) hm (show 0 + 1 + 1 < 3 by omega) h0 h1, m_sr_s, m_sr_sr]
        by_cases c2 : (m_ax p m k 2 (m_ax p m k 1 (m_ax p m k 0 w).2).2).1 = 0
        · rw [if_pos c2, c2]
        · rw [if_neg c2, e5]
          have : (m_ax p m k 2 (m_ax p m k 1 (m_ax p m k 0 w).2).2).1 = 1 := (m_ax_z ..).resolve_left c2
          rw [this]
  exact g0 _
-- a move
noncomputable def m_rv (p : Nat → Int) (m a : Nat) (w : Nat → Int) : Nat → Int :=
  if m_sg (m_d p m a) = 0 then w else if m_sg (m_d p m a) = w (44 + a) then w else m_u w (71 + a) (q_w64 (w (71 + a) + 1))
noncomputable def m_sl (p : Nat → Int) (m : Nat) : Nat → Int → (Nat → Int) → Int × (Nat → Int)
  | 0, _, w => (1, w)
  | n + 1, k, w => if (m_ms p m k w).1 = 0 then (0, (m_ms p m k w).2) else m_sl p m n (k + 1) (m_ms p m k w).2
noncomputable def m_mm (p : Nat → Int) (m : Nat) (w : Nat → Int) : Int × (Nat → Int) :=
  m_sq (m_up p m 0) (m_sq (m_up p m 1) (m_sq (m_up p m 2) (m_sl p m (m_l p m).toNat 0))) (m_rv p m 2 (m_rv p m 1 (m_rv p m 0 w)))
theorem m_rv_fr {p : Nat → Int} {m a : Nat} (ha : a < 3) (w : Nat → Int) : m_fr w (m_rv p m a w) := by
  unfold m_rv; (repeat' split) <;> first | exact m_fr_r | exact m_fr_u m_fr_r (by unfold m_dy; omega)
theorem m_sl_fr {p : Nat → Int} {m : Nat} : ∀ (n : Nat) (k : Int) (w : Nat → Int), m_fr w (m_sl p m n k w).2 := by
  intro n
  induction n with
  | zero => intro k w; exact m_fr_r
  | succ n ih =>
    intro k w
    unfold m_sl; split
    · exact m_ms_fr w
    · exact m_fr_t (m_ms_fr w) (ih _ _)
theorem m_mm_fr {p : Nat → Int} {m : Nat} (w : Nat → Int) : m_fr w (m_mm p m w).2 := by
  unfold m_mm
  exact m_fr_t (m_fr_t (m_rv_fr (by omega) w) (m_fr_t (m_rv_fr (by omega) _) (m_rv_fr (by omega) _))) (m_sq_fr (m_up_fr (by omega)) (m_sq_fr (m_up_fr (by omega)) (m_sq_fr (m_up_fr (by omega)) (m_sl_fr _ _))) _)
theorem fn288_85_m {p : Nat → Int} (ok : m_ok p) (nn : m_nn p) {m : Nat} (hm : (m : Int) < p 4) : ∀ (n f : Nat) (k : Int) (h : q_F), 0 ≤ k → k + n = m_l p m → n < f → m_Plan h p → fn288_85 f m k h = some ((m_sl p m n k (h 140)).1, m_sr h 140 (m_sl p m n k (h 140)).2) := by
  have h16 := ok.2.1
  have l := m_l_r ok (m := m) (by omega)
  intro n
  induction n with
  | zero =>
    intro f k h hk hn hf hP
    obtain ⟨f, rfl⟩ : ∃ f', f = f' + 1 := ⟨f - 1, by omega⟩
    obtain ⟨-, p2, -⟩ := hP.1 m (by omega)
    rw [fn288_85, if_pos (by omega), Int.toNat_natCast, p2, if_pos (by omega)]
    unfold m_sl; rw [m_sr_id]
  | succ n ih =>
    intro f k h hk hn hf hP
    obtain ⟨f, rfl⟩ : ∃ f', f = f' + 1 := ⟨f - 1, by omega⟩
    obtain ⟨-, p2, -⟩ := hP.1 m (by omega)
    rw [fn288_85, if_pos (by omega), Int.toNat_natCast, p2, if_neg (by omega), fn289_m ok nn hP hm (by omega) (by omega), Option.bind_some]
    unfold m_sl
    simp only
    split
    · rfl
    · rw [q_w32_id (by omega) (by omega), ih f (k + 1) _ (by omega) (by omega) (by omega) (m_Plan_sr hP), m_sr_s, m_sr_sr]
theorem fn288_61s {p : Nat → Int} {h : q_F} (ok : m_ok p) (hP : m_Plan h p) {m a n : Nat} (hm : (m : Int) < p 4) (ha : a < 3) (h0 : h 140 0 ≠ 0) (hb : 0 ≤ h 140 (11 + a) ∧ h 140 (11 + a) ≤ 20) :
    fn288_61 (n + 1) m a h = if (m_up p m a (h 140)).1 = 0 then some (0, m_sr h 140 (m_up p m a (h 140)).2) else fn288_61 n m ((a + 1 : Nat) : Int) (m_sr h 140 (m_up p m a (h 140)).2) := by
  rw [fn288_61, if_neg (by omega), fn290_m ok hP.1 hm ha h0 hb, Option.bind_some, q_w32_id (z := (a : Int) + 1) (by omega) (by omega), m_s1]
theorem fn288_2s {p : Nat → Int} {h : q_F} (ok : m_ok p) (hP : m_Plan h p) {m a n : Nat} (hm : (m : Int) < p 4) (ha : a < 3) : fn288_2 (n + 1) m a h = fn288_2 n m ((a + 1 : Nat) : Int) (m_sr h 140 (m_rv p m a (h 140))) := by
  have h16 := ok.2.1
  obtain ⟨p1, -⟩ := hP.1 m (by omega)
  rw [fn288_2, if_neg (by omega), q_w32_id (z := 3 * (m : Int)) (by omega) (by omega), q_w32_id (z := 3 * (m : Int) + a) (by omega) (by omega), if_pos (by omega), show (3 * (m : Int) + a).toNat = 3 * m + a by omega, p1 a ha, fn333_m, Option.bind_some]
  unfold m_rv
  split
  · rw [m_sr_id, fn288_53, q_w32_id (by omega) (by omega), m_s1]
  · rw [q_w32_id (z := 44 + (a : Int)) (by omega) (by omega), if_pos (by omega), show (44 + (a : Int)).toNat = 44 + a by omega]
    split
    · rw [m_sr_id, fn288_53, q_w32_id (by omega) (by omega), m_s1]
    · rw [q_w32_id (z := 71 + (a : Int)) (by omega) (by omega), if_pos (by omega), if_pos (by omega), show (71 + (a : Int)).toNat = 71 + a by omega, m_ud_sr, m_let, fn288_53, q_w32_id (by omega) (by omega), m_s1]
/-- what the moves ask of the row -/
def m_row (w : Nat → Int) : Prop := w 0 ≠ 0 ∧ ∀ a, a < 3 → 0 ≤ w (11 + a) ∧ w (11 + a) ≤ 20
theorem m_row_fr {w w' : Nat → Int} (hr : m_row w) (hf : m_fr w w') : m_row w' := by
  refine ⟨by rw [hf 0 (by unfold m_dy; omega)]; exact hr.1, fun a ha => ?_⟩
  rw [hf (11 + a) (by unfold m_dy; omega)]; exact hr.2 a ha
theorem m_sq_z {f g : (Nat → Int) → Int × (Nat → Int)} {w : Nat → Int} (h : (f w).1 = 0) : m_sq f g w = (0, (f w).2) := by
  unfold m_sq; rw [if_pos h, ← h]
theorem m_sq_n {f g : (Nat → Int) → Int × (Nat → Int)} {w : Nat → Int} (h : (f w).1 ≠ 0) : m_sq f g w = g (f w).2 := by
  unfold m_sq; rw [if_neg h]
theorem fn288_m {p : Nat → Int} {h : q_F} (ok : m_ok p) (nn : m_nn p) (hP : m_Plan h p) {m : Nat} (hm : (m : Int) < p 4) (hr : m_row (h 140)) : fn288 m h = some ((m_mm p m (h 140)).1, m_sr h 140 (m_mm p m (h 140)).2) := by
  have h16 := ok.2.1
  have l := m_l_r ok (m := m) (by omega)
  obtain ⟨n, e⟩ := m_fu3
  have e3 : ∀ w, fn288_2 (n + 1) m ((0 + 1 + 1 + 1 : Nat) : Int) (m_sr h 140 w) = fn288_61 q_fu m ((0 : Nat) : Int) (m_sr h 140 w) := fun w => by rw [fn288_2, if_pos (by omega)]; rfl
  have e4 : ∀ w, fn288_61 (n + 1) m ((0 + 1 + 1 + 1 : Nat) : Int) (m_sr h 140 w) = fn288_85 q_fu m ((0 : Nat) : Int) (m_sr h 140 w) := fun w => by rw [fn288_61, if_pos (by omega)]; rfl
  have e0 : fn288 m h = fn288_61 q_fu m ((0 : Nat) : Int) (m_sr h 140 (m_rv p m 2 (m_rv p m 1 (m_rv p m 0 (h 140))))) := by
    rw [fn288, e]
    have g := fn288_2s (n := n + 1 + 1 + 1) ok hP hm (show 0 < 3 by omega)
    rw [fn288_2s (n := n + 1 + 1) ok (m_Plan_sr hP) hm (show 0 + 1 < 3 by omega), fn288_2s (n := n + 1) ok (m_Plan_sr (m_Plan_sr hP)) hm (show 0 + 1 + 1 < 3 by omega)] at g
    simp only [m_sr_s, m_sr_sr] at g
    rw [e3, e] at g
    exact g
  rw [e0]
  unfold m_mm
  have hr1 : m_row (m_rv p m 2 (m_rv p m 1 (m_rv p m 0 (h 140)))) := m_row_fr hr (m_fr_t (m_rv_fr (by omega) _) (m_fr_t (m_rv_fr (by omega) _) (m_rv_fr (by omega) _)))
  generalize m_rv p m 2 (m_rv p m 1 (m_rv p m 0 (h 140))) = w1 at hr1 ⊢
  rw [e, fn288_61s ok (m_Plan_sr hP) hm (show 0 < 3 by omega) (by rw [m_sr_s]; exact hr1.1) (by rw [m_sr_s]; exact hr1.2 0 (by omega)), m_sr_s, m_sr_sr]
  by_cases c0 : (m_up p m 0 w1).1 = 0
  · rw [if_pos c0, m_sq_z c0]
  · have hr2 := m_row_fr hr1 (m_up_fr (p := p) (m := m) (show 0 < 3 by omega) w1)
    rw [if_neg c0, m_sq_n c0]
    generalize (m_up p m 0 w1).2 = w2 at hr2 ⊢
    rw [fn288_61s ok (m_Plan_sr hP) hm (show 0 + 1 < 3 by omega) (by rw [m_sr_s]; exact hr2.1) (by rw [m_sr_s]; exact hr2.2 1 (by omega)), m_sr_s, m_sr_sr]
    by_cases c1 : (m_up p m 1 w2).1 = 0
    · rw [if_pos c1, m_sq_z c1]
    · have hr3 := m_row_fr hr2 (m_up_fr (p := p) (m := m) (show 1 < 3 by omega) w2)
      rw [if_neg c1, m_sq_n c1]
      show fn288_61 (n + 1 + 1) m ((0 + 1 + 1 : Nat) : Int) (m_sr h 140 (m_up p m 1 w2).2) = _
      generalize (m_up p m 1 w2).2 = w3 at hr3 ⊢
      rw [fn288_61s ok (m_Plan_sr hP) hm (show 0 + 1 + 1 < 3 by omega) (by rw [m_sr_s]; exact hr3.1) (by rw [m_sr_s]; exact hr3.2 2 (by omega)), m_sr_s, m_sr_sr]
      by_cases c2 : (m_up p m 2 w3).1 = 0
      · rw [if_pos c2, m_sq_z c2]
      · rw [if_neg c2, m_sq_n c2]
        show fn288_61 (n + 1) m ((0 + 1 + 1 + 1 : Nat) : Int) (m_sr h 140 (m_up p m 2 w3).2) = _
        rw [e4]
        have g := fn288_85_m ok nn hm (m_l p m).toNat q_fu 0 (m_sr h 140 (m_up p m 2 w3).2) (by omega) (by omega) (by have := q_fu_ge; omega) (m_Plan_sr hP)
        rw [m_sr_s, m_sr_sr] at g
        exact g
end -- [56.moves]
section -- [57.run]
/-! Part 57: the reference: copies, the queue's run, homing. -/
def m_cp (src dst : Nat → Int) (at' into many : Nat) : Nat → Int := fun j => if into ≤ j ∧ j < into + many then src (at' + (j - into)) else dst j
theorem m_cp_0 (src dst : Nat → Int) (at' into : Nat) : m_cp src dst at' into 0 = dst := by funext j; unfold m_cp; rw [if_neg (by omega)]
theorem m_cp_s (src dst : Nat → Int) (at' into k : Nat) : m_u (m_cp src dst at' into k) (into + k) (src (at' + k)) = m_cp src dst at' into (k + 1) := by
  funext j
  unfold m_u m_cp
  by_cases e : j = into + k
  · rw [if_pos e, if_pos (by omega)]; congr 1; omega
  · rw [if_neg e]
    by_cases e2 : into ≤ j ∧ j < into + k
    · rw [if_pos e2, if_pos (by omega)]
    · rw [if_neg e2, if_neg (by omega)]
theorem fn249_3_m {o0 N0 o2 N2 a b n : Nat} {h0 : q_F} (h1 : a + n ≤ N0) (h2 : b + n ≤ N2) (hN0 : N0 ≤ 2048) (hN2 : N2 ≤ 2048) (hov : o0 ≠ o2 ∨ b ≤ a ∨ a + n ≤ b) : ∀ (d k f : Nat), k + d = n → d < f → fn249_3 o0 N0 o2 N2 f a b n k (m_sr h0 o2 (m_cp (h0 o0) (h0 o2) a b k)) = some (0, m_sr h0 o2 (m_cp (h0 o0) (h0 o2) a b n)) := by
  intro d
  induction d with
  | zero =>
    intro k f hk hf
    obtain ⟨f, rfl⟩ : ∃ f', f = f' + 1 := ⟨f - 1, by omega⟩
    have e : k = n := by omega
    subst e
    rw [fn249_3, if_pos (by omega)]
  | succ d ih =>
    intro k f hk hf
    obtain ⟨f, rfl⟩ : ∃ f', f = f' + 1 := ⟨f - 1, by omega⟩
    have er : m_sr h0 o2 (m_cp (h0 o0) (h0 o2) a b k) o0 (a + k) = h0 o0 (a + k) := by
      by_cases e : o0 = o2
      · subst e
        rw [m_sr_s]; unfold m_cp; rw [if_neg (by omega)]
      · rw [m_sr_n e]
    rw [fn249_3, if_neg (by omega), q_w32_id (z := (a : Int) + k) (by omega) (by omega), q_w32_id (z := (b : Int) + k) (by omega) (by omega), if_pos (by omega), if_pos (by omega), show ((a : Int) + k).toNat = a + k by omega, show ((b : Int) + k).toNat = b + k by omega, er, m_ud_sr, m_let, m_sr_s, m_sr_sr, m_cp_s, q_w32_id (by omega) (by omega), ← m_s1]
    exact ih (k + 1) f (by omega) (by omega)
theorem fn249_m {o0 N0 o2 N2 a b n : Nat} {h : q_F} (h1 : a + n ≤ N0) (h2 : b + n ≤ N2) (hN0 : N0 ≤ 2048) (hN2 : N2 ≤ 2048) (hov : o0 ≠ o2 ∨ b ≤ a ∨ a + n ≤ b) : fn249 o0 N0 o2 N2 a b n h = some (0, m_sr h o2 (m_cp (h o0) (h o2) a b n)) := by
  have g := fn249_3_m (h0 := h) h1 h2 hN0 hN2 hov n 0 q_fu (by omega) (by have := q_fu_ge; omega)
  rw [m_cp_0, m_sr_id] at g
  exact g
theorem fn249_i {o0 N0 o2 N2 : Nat} {x y z : Int} {h : q_F} (hx : 0 ≤ x) (hy : 0 ≤ y) (hz : 0 ≤ z) (h1 : x + z ≤ N0) (h2 : y + z ≤ N2) (hN0 : N0 ≤ 2048) (hN2 : N2 ≤ 2048) (hov : o0 ≠ o2 ∨ y ≤ x ∨ x + z ≤ y) : fn249 o0 N0 o2 N2 x y z h = some (0, m_sr h o2 (m_cp (h o0) (h o2) x.toNat y.toNat z.toNat)) := by
  have g := fn249_m (o0 := o0) (N0 := N0) (o2 := o2) (N2 := N2) (a := x.toNat) (b := y.toNat) (n := z.toNat) (h := h) (by omega) (by omega) hN0 hN2 (by omega)
  rw [show ((x.toNat : Nat) : Int) = x by omega, show ((y.toNat : Nat) : Int) = y by omega, show ((z.toNat : Nat) : Int) = z by omega] at g
  exact g
def m_co (m : Nat) (w : Nat → Int) : Nat → Int := m_u (m_u (m_u w 47 (w (74 + 3 * m))) 48 (w (74 + 3 * m + 1))) 49 (w (74 + 3 * m + 2))
def m_fin (n : Nat) (w : Nat → Int) : Nat → Int := m_u (m_cp w w (74 + 3 * n) 74 (3 * (w 4 - n).toNat)) 4 (w 4 - n)
noncomputable def m_mk (p : Nat → Int) (n : Nat) : Nat → Nat → (Nat → Int) → Int × (Nat → Int)
  | 0, _, w => ((n : Int), m_fin n w)
  | d + 1, m, w => if (m_mm p m w).1 = 0 then ((m : Int), m_stops (m_u (m_mm p m w).2 3 3)) else m_mk p n d (m + 1) (m_co m (m_mm p m w).2)
/-- the first n moves, as planned for the row -/
noncomputable def m_run (n : Nat) (w : Nat → Int) : Int × (Nat → Int) := m_mk w n n 0 w
def m_iv (p w : Nat → Int) : Prop := m_row w ∧ w 4 = p 4
theorem m_co_iv {p w : Nat → Int} {m : Nat} (h : m_iv p w) : m_iv p (m_co m w) := by
  obtain ⟨⟨h0, h1⟩, h2⟩ := h
  unfold m_co
  refine ⟨⟨?_, fun a ha => ?_⟩, ?_⟩
  · rw [m_u_n (by omega), m_u_n (by omega), m_u_n (by omega)]; exact h0
  · rw [m_u_n (by omega), m_u_n (by omega), m_u_n (by omega)]; exact h1 a ha
  · rw [m_u_n (by omega), m_u_n (by omega), m_u_n (by omega)]; exact h2
theorem m_fr_iv {p w w' : Nat → Int} (h : m_iv p w) (hf : m_fr w w') : m_iv p w' := ⟨m_row_fr h.1 hf, by rw [hf 4 (by unfold m_dy; omega)]; exact h.2⟩
theorem fn287_36s {K : Int → Int → q_F → Option (Int × q_F)} {f m a : Nat} {n : Int} {h : q_F} (hm : m < 16) (ha : a < 3) : fn287_36 K (f + 1) n m a h = fn287_36 K f n m ((a + 1 : Nat) : Int) (m_sr h 140 (m_u (h 140) (47 + a) (h 140 (74 + 3 * m + a)))) := by
  rw [fn287_36, if_neg (by omega), q_w32_id (z := 3 * (m : Int)) (by omega) (by omega), q_w32_id (z := 74 + 3 * (m : Int)) (by omega) (by omega), q_w32_id (z := 74 + 3 * (m : Int) + a) (by omega) (by omega), if_pos (by omega), q_w32_id (z := 47 + (a : Int)) (by omega) (by omega), if_pos (by omega), show (74 + 3 * (m : Int) + a).toNat = 74 + 3 * m + a by omega, show (47 + (a : Int)).toNat = 47 + a by omega, m_ud_sr, m_let, q_w32_id (by omega) (by omega), m_s1]
theorem fn287_36_m {K : Int → Int → q_F → Option (Int × q_F)} {m : Nat} {n : Int} {h : q_F} (hm : m < 16) : fn287_36 K q_fu n m 0 h = K n ((m + 1 : Nat) : Int) (m_sr h 140 (m_co m (h 140))) := by
  obtain ⟨f, e⟩ := m_fu3
  have g := fn287_36s (K := K) (f := f + 1 + 1 + 1) (n := n) (h := h) hm (show 0 < 3 by omega)
  rw [fn287_36s (f := f + 1 + 1) hm (show 0 + 1 < 3 by omega), fn287_36s (f := f + 1) hm (show 0 + 1 + 1 < 3 by omega)] at g
  simp only [m_sr_s, m_sr_sr] at g
  have e3 : ∀ h, fn287_36 K (f + 1) n m ((0 + 1 + 1 + 1 : Nat) : Int) h = K n ((m + 1 : Nat) : Int) h := fun h => by rw [fn287_36, if_pos (by omega), q_w32_id (by omega) (by omega), ← m_s1]
  rw [e3] at g
  rw [e]
  refine g.trans ?_
  congr 2
  unfold m_co
  rw [m_u_n (show 74 + 3 * m + (0 + 1) ≠ 47 + 0 by omega), m_u_n (show 74 + 3 * m + (0 + 1 + 1) ≠ 47 + (0 + 1) by omega), m_u_n (show 74 + 3 * m + (0 + 1 + 1) ≠ 47 + 0 by omega)]
  rfl
theorem fn287_6_m {p : Nat → Int} (ok : m_ok p) (nn : m_nn p) {n : Nat} (hn : (n : Int) ≤ p 4) : ∀ (d m f : Nat) (h : q_F), m + d = n → d < f → m_Plan h p → m_iv p (h 140) → fn287_6 f n m h = some ((m_mk p n d m (h 140)).1, m_sr h 140 (m_mk p n d m (h 140)).2) := by
  have h16 := ok.2.1
  intro d
  induction d with
  | zero =>
    intro m f h hm hf hP hi
    obtain ⟨f, rfl⟩ : ∃ f', f = f' + 1 := ⟨f - 1, by omega⟩
    have h4 := hi.2
    rw [fn287_6, if_pos (by omega), fn303_i (by omega) (by omega), Option.bind_some, show (4 : Int).toNat = 4 from rfl, q_w32_id (z := h 140 4) (by omega) (by omega), q_w32_id (z := h 140 4 - n) (by omega) (by omega), q_w32_id (z := 3 * (n : Int)) (by omega) (by omega), q_w32_id (z := 74 + 3 * (n : Int)) (by omega) (by omega), q_w32_id (z := 3 * (h 140 4 - n)) (by omega) (by omega), fn249_i (by omega) (by omega) (by omega) (by omega) (by omega) (by omega) (by omega) (by omega), Option.bind_some, m_ud_sr, m_let]
    dsimp only
    rw [m_sr_s, m_sr_sr]
    unfold m_mk m_fin
    rw [show (74 + 3 * (n : Int)).toNat = 74 + 3 * n by omega, show (74 : Int).toNat = 74 from rfl, show (3 * (h 140 4 - n)).toNat = 3 * (h 140 4 - n).toNat by omega]
  | succ d ih =>
    intro m f h hm hf hP hi
    obtain ⟨f, rfl⟩ : ∃ f', f = f' + 1 := ⟨f - 1, by omega⟩
    rw [fn287_6, if_neg (by omega), fn288_m ok nn hP (by omega) hi.1, Option.bind_some]
    unfold m_mk
    simp only
    split
    · rw [m_ud_sr, m_let, fn342_m, Option.bind_some]
      dsimp only
      rw [m_sr_s, m_sr_sr, m_sr_s, m_sr_sr]
    · rw [fn287_36_m (by omega), m_sr_s, m_sr_sr, ih (m + 1) f _ (by omega) (by omega) (m_Plan_sr hP) (by rw [m_sr_s]; exact m_co_iv (m_fr_iv hi (m_mm_fr _))), m_sr_s, m_sr_sr]
/-- only the row and the cells of the plan have changed -/
def m_fq (h h' : q_F) : Prop := ∀ k, k ≠ 140 → (k < 145 ∨ 149 < k) → h' k = h k
theorem m_ok_row {w : Nat → Int} (ok : m_ok w) : m_row w := ⟨by have := ok.1; omega, fun a ha => by have := ok.2.2.1 a ha; omega⟩
theorem fn287_m {w : Nat → Int} {h : q_F} (hw : h 140 = w) (ok : m_ok w) (nn : m_nn w) {n : Nat} (hn : (n : Int) ≤ w 4) : ∃ h', fn287 n h = some ((m_run n w).1, h') ∧ h' 140 = (m_run n w).2 ∧ m_fq h h' := by
  obtain ⟨h1, g1, g2, g3⟩ := fn278_m hw ok nn
  have e : h1 140 = w := by rw [g3 140 (by omega)]; exact hw
  have g := fn287_6_m ok nn hn n 0 q_fu h1 (by omega) (by have := q_fu_ge; have := ok.2.1; omega) g2 (by rw [e]; exact ⟨m_ok_row ok, rfl⟩)
  rw [e] at g
  refine ⟨m_sr h1 140 (m_run n w).2, ?_, m_sr_s .., fun k hk hk2 => ?_⟩
  · rw [fn287, g1, Option.bind_some]; exact g
  · rw [m_sr_n hk]; exact g3 k hk2
-- the row behind a run keeps what it must
theorem m_fr_ok {w w' : Nat → Int} (ok : m_ok w) (hf : m_fr w w') : m_ok w' := by
  obtain ⟨h0, h1, h2, h3⟩ := ok
  refine ⟨?_, ?_, fun a ha => ?_, fun j hj hj2 => ?_⟩
  · rw [hf 0 (by unfold m_dy; omega)]; exact h0
  · rw [hf 4 (by unfold m_dy; omega)]; exact h1
  · rw [hf (8 + a) (by unfold m_dy; omega), hf (11 + a) (by unfold m_dy; omega), hf (14 + a) (by unfold m_dy; omega), hf (17 + a) (by unfold m_dy; omega), hf (47 + a) (by unfold m_dy; omega)]; exact h2 a ha
  · rw [hf j (by unfold m_dy; omega)]; exact h3 j hj hj2
theorem m_stops_ok {w : Nat → Int} (ok : m_ok w) : m_ok (m_stops w) := by
  obtain ⟨h0, h1, h2, h3⟩ := ok
  unfold m_stops
  refine ⟨by simpa [m_u] using h0, by simp [m_u], fun a ha => ?_, fun j hj hj2 => ?_⟩
  · have := h2 a ha
    rcases m_c3 ha with rfl | rfl | rfl <;> simpa [m_u] using this
  · rw [m_u_n (by omega), m_u_n (by omega), m_u_n (by omega), m_u_n (by omega)]; exact h3 j hj hj2
theorem m_stops_nn (w : Nat → Int) : m_nn (m_stops w) := by
  intro m hm
  have : m_stops w 4 = 0 := by simp [m_stops, m_u]
  omega
theorem m_co_ok {w : Nat → Int} {m : Nat} (ok : m_ok w) (hm : m < 16) : m_ok (m_co m w) := by
  obtain ⟨h0, h1, h2, h3⟩ := ok
  have t0 := h3 (74 + 3 * m) (by omega) (by omega)
  have t1 := h3 (74 + 3 * m + 1) (by omega) (by omega)
  have t2 := h3 (74 + 3 * m + 2) (by omega) (by omega)
  unfold m_co
  refine ⟨by simpa [m_u] using h0, by simpa [m_u] using h1, fun a ha => ?_, fun j hj hj2 => ?_⟩
  · have := h2 a ha
    rcases m_c3 ha with rfl | rfl | rfl <;> simp [m_u] <;> (simp at this; omega)
  · rw [m_u_n (by omega), m_u_n (by omega), m_u_n (by omega)]; exact h3 j hj hj2
end -- [57.run]
section -- [58.home]
/-! Part 58: the reference: what a run keeps; homing, jogging, remembering. -/
theorem m_mk_ok {p : Nat → Int} (okp : m_ok p) (nnp : m_nn p) {n : Nat} (hn : (n : Int) ≤ p 4) : ∀ (d m : Nat) (w : Nat → Int), m + d = n → m_ok w → w 4 = p 4 → w 0 = p 0 → (∀ j, 74 ≤ j → w j = p j) → (∀ a, a < 3 → w (47 + a) = m_beg p m a) → m_ok (m_mk p n d m w).2 ∧ m_nn (m_mk p n d m w).2 := by
  have h16 := okp.2.1
  intro d
  induction d with
  | zero =>
    intro m w hm ok h4 h0 ht hc
    unfold m_mk
    simp only
    have em : m = n := by omega
    subst em
    have f4 : m_fin m w 4 = w 4 - m := by unfold m_fin; rw [m_u_s]
    have fo : ∀ j, j ≠ 4 → j < 74 → m_fin m w j = w j := fun j hj hj2 => by
      unfold m_fin; rw [m_u_n hj]; unfold m_cp; rw [if_neg (by omega)]
    have ft : ∀ j, j < 3 * (w 4 - m).toNat → m_fin m w (74 + j) = p (74 + 3 * m + j) := fun j hj => by
      unfold m_fin; rw [m_u_n (by omega)]; unfold m_cp; rw [if_pos (by omega), ht _ (by omega)]; congr 1; omega
    refine ⟨⟨?_, ?_, fun a ha => ?_, fun j hj hj2 => ?_⟩, ?_⟩
    · rw [fo 0 (by omega) (by omega)]; exact ok.1
    · rw [f4]; omega
    · rw [fo _ (by omega) (by omega), fo _ (by omega) (by omega), fo _ (by omega) (by omega), fo _ (by omega) (by omega), fo _ (by omega) (by omega)]; exact ok.2.2.1 a ha
    · unfold m_fin; rw [m_u_n (by omega)]; unfold m_cp
      split
      · exact ok.2.2.2 _ (by omega) (by omega)
      · exact ok.2.2.2 j hj hj2
    · intro k hk
      rw [f4, h4] at hk
      have hv := nnp (m + k) (by omega)
      have hb : ∀ j a, j ≤ k + 1 → a < 3 → m_beg (m_fin m w) j a = m_beg p (m + j) a := by
        intro j a hj ha
        by_cases e : j = 0
        · subst e
          rw [Nat.add_zero, ← hc a ha]; unfold m_beg; rw [if_pos rfl, fo _ (by omega) (by omega)]
        · unfold m_beg; rw [if_neg e, if_neg (by omega), show 74 + 3 * (j - 1) + a = 74 + (3 * (j - 1) + a) by omega, ft _ (by omega)]; congr 1; omega
      have hd : ∀ a, a < 3 → m_d (m_fin m w) k a = m_d p (m + k) a := by
        intro a ha; unfold m_d; rw [hb _ _ (by omega) ha, hb _ _ (by omega) ha]; rfl
      unfold m_mv
      rw [hd 0 (by omega), hd 1 (by omega), hd 2 (by omega)]
      exact hv
  | succ d ih =>
    intro m w hm ok h4 h0 ht hc
    unfold m_mk
    have hf := m_mm_fr (p := p) (m := m) w
    have ok1 := m_fr_ok ok hf
    split
    · have ok2 : m_ok (m_u (m_mm p m w).2 3 3) := by
        obtain ⟨g0, g1, g2, g3⟩ := ok1
        refine ⟨by rw [m_u_n (by omega)]; exact g0, by rw [m_u_n (by omega)]; exact g1, fun a ha => ?_, fun j hj hj2 => by rw [m_u_n (by omega)]; exact g3 j hj hj2⟩
        rw [m_u_n (by omega), m_u_n (by omega), m_u_n (by omega), m_u_n (by omega), m_u_n (by omega)]; exact g2 a ha
      exact ⟨m_stops_ok ok2, m_stops_nn _⟩
    · have hco : ∀ j, j < 47 ∨ 49 < j → m_co m (m_mm p m w).2 j = (m_mm p m w).2 j := fun j hj => by
        unfold m_co; rw [m_u_n (by omega), m_u_n (by omega), m_u_n (by omega)]
      refine ih (m + 1) _ (by omega) (m_co_ok ok1 (by omega)) ?_ ?_ (fun j hj => ?_) (fun a ha => ?_)
      · rw [hco 4 (by omega), hf 4 (by unfold m_dy; omega)]; exact h4
      · rw [hco 0 (by omega), hf 0 (by unfold m_dy; omega)]; exact h0
      · rw [hco j (by omega), hf j (by unfold m_dy; omega)]; exact ht j hj
      · have e : m_beg p (m + 1) a = p (74 + 3 * m + a) := by unfold m_beg; rw [if_neg (by omega)]; rfl
        rw [e, ← ht _ (by omega), ← hf (74 + 3 * m + a) (by unfold m_dy; omega)]
        unfold m_co
        rcases m_c3 ha with rfl | rfl | rfl <;> simp [m_u]
theorem m_run_ok {w : Nat → Int} (ok : m_ok w) (nn : m_nn w) {n : Nat} (hn : (n : Int) ≤ w 4) : m_ok (m_run n w).2 ∧ m_nn (m_run n w).2 :=
  m_mk_ok ok nn hn n 0 w (by omega) ok rfl rfl (fun _ _ => rfl) (fun a ha => by unfold m_beg; rw [if_pos rfl])
-- homing
noncomputable def m_skl (a : Nat) (c d t : Int) : Nat → (Nat → Int) → Nat × (Nat → Int)
  | 0, w => (0, w)
  | n + 1, w => if m_reads a w = c then (0, w) else ((m_skl a c d t n (m_u (m_step a d w).2 5 (q_w64 ((m_step a d w).2 5 + t)))).1 + 1, (m_skl a c d t n (m_u (m_step a d w).2 5 (q_w64 ((m_step a d w).2 5 + t)))).2)
theorem m_skl_fr {a : Nat} (ha : a < 3) (c d t : Int) : ∀ (n : Nat) (w : Nat → Int), m_fr w (m_skl a c d t n w).2 := by
  intro n
  induction n with
  | zero => intro w; exact m_fr_r
  | succ n ih =>
    intro w
    unfold m_skl; split
    · exact m_fr_r
    · exact m_fr_t (m_fr_u (m_step_fr ha d w) (by unfold m_dy; omega)) (ih _)
theorem m_skl_n {a : Nat} (c d t : Int) : ∀ (n : Nat) (w : Nat → Int), (m_skl a c d t n w).1 ≤ n := by
  intro n
  induction n with
  | zero => intro w; exact Nat.le_refl _
  | succ n ih =>
    intro w
    unfold m_skl; split
    · exact Nat.zero_le _
    · exact Nat.succ_le_succ (ih _)
noncomputable def m_seek (a : Nat) (c d t : Int) (w : Nat → Int) : Int × (Nat → Int) :=
  let r := m_skl a c d t (w (8 + a) + w (11 + a) + 1).toNat w
  (if m_reads a r.2 = c then (r.1 : Int) else -1, r.2)
theorem fn327_27_m {a : Nat} {c d t M : Int} (ha : a < 3) (hM : M ≤ 5000) : ∀ (n : Nat) (k l : Int) (f : Nat) (h : q_F), 0 ≤ k → k + n = M → n < f → fn327_27 f a c d t M k l h = some (if m_reads a (m_skl a c d t n (h 140)).2 = c then k + (m_skl a c d t n (h 140)).1 else -1, m_sr h 140 (m_skl a c d t n (h 140)).2) := by
  intro n
  induction n with
  | zero =>
    intro k l f h hk hn hf
    obtain ⟨f, rfl⟩ : ∃ f', f = f' + 1 := ⟨f - 1, by omega⟩
    rw [fn327_27, fn318_m ha, Option.bind_some]
    unfold m_skl
    simp only
    rw [m_sr_id]
    by_cases hc : m_reads a (h 140) = c
    · rw [if_pos hc, if_pos hc, fn327_81, fn318_m ha, Option.bind_some, if_pos hc]
      congr 2; omega
    · rw [if_neg hc, if_neg hc, if_pos (by omega), fn327_81, fn318_m ha, Option.bind_some, if_neg hc]
  | succ n ih =>
    intro k l f h hk hn hf
    obtain ⟨f, rfl⟩ : ∃ f', f = f' + 1 := ⟨f - 1, by omega⟩
    rw [fn327_27, fn318_m ha, Option.bind_some]
    unfold m_skl
    by_cases hc : m_reads a (h 140) = c
    · rw [if_pos hc, if_pos hc]
      simp only
      rw [m_sr_id, if_pos hc, fn327_81, fn318_m ha, Option.bind_some, if_pos hc]
      congr 2; omega
    · rw [if_neg hc, if_neg hc, if_neg (by omega), fn340_m ha, Option.bind_some]
      simp only
      have e62 : ∀ z, fn327_62 (fn327_27 f) a c d t M k z (m_sr h 140 (m_step a d (h 140)).2) = some (if m_reads a (m_skl a c d t n (m_u (m_step a d (h 140)).2 5 (q_w64 ((m_step a d (h 140)).2 5 + t)))).2 = c then k + (((m_skl a c d t n (m_u (m_step a d (h 140)).2 5 (q_w64 ((m_step a d (h 140)).2 5 + t)))).1 + 1 : Nat) : Int) else -1, m_sr h 140 (m_skl a c d t n (m_u (m_step a d (h 140)).2 5 (q_w64 ((m_step a d (h 140)).2 5 + t)))).2) := by
        intro z
        rw [fn327_62, m_ud_sr, m_let, m_sr_s, m_sr_sr, q_w32_id (by omega) (by omega), ih (k + 1) z f _ (by omega) (by omega) (by omega), m_sr_s, m_sr_sr]
        congr 2
        split <;> omega
      split
      · split
        · exact e62 _
        · exact e62 _
      · exact e62 _
theorem fn327_m {a : Nat} {c d t : Int} {h : q_F} (ha : a < 3) (ok : m_ok (h 140)) : fn327 a c d t h = some ((m_seek a c d t (h 140)).1, m_sr h 140 (m_seek a c d t (h 140)).2) := by
  have o := ok.2.2.1 a ha
  rw [fn327, q_w32_id (z := 8 + (a : Int)) (by omega) (by omega), fn303_i (by omega) (by omega), Option.bind_some, q_w32_id (z := 11 + (a : Int)) (by omega) (by omega), fn303_i (by omega) (by omega), Option.bind_some, show (8 + (a : Int)).toNat = 8 + a by omega, show (11 + (a : Int)).toNat = 11 + a by omega, q_w32_id (z := h 140 (8 + a)) (by omega) (by omega), q_w32_id (z := h 140 (11 + a)) (by omega) (by omega), q_w32_id (z := h 140 (8 + a) + h 140 (11 + a)) (by omega) (by omega), q_w32_id (by omega) (by omega)]
  rw [fn327_27_m ha (by omega) (h 140 (8 + a) + h 140 (11 + a) + 1).toNat 0 0 q_fu h (by omega) (by omega) (by have := q_fu_ge; omega)]
  unfold m_seek
  simp only [Int.zero_add]
noncomputable def m_hf (a : Nat) (al : Int) (w : Nat → Int) : Nat → Int := m_u (m_u w 3 al) (68 + a) (q_w64 (w (68 + a) + 1))
noncomputable def m_ho (a : Nat) (w : Nat → Int) : Nat → Int := m_u (m_u (m_u (m_u w (41 + a) 1) (47 + a) 0) (50 + a) (w (26 + a))) (65 + a) (q_w64 (w (65 + a) + 1))
noncomputable def m_home (a : Nat) (w : Nat → Int) : Int × (Nat → Int) :=
  let w0 := m_u w (41 + a) 0
  let r := m_seek a 1 (-1) (q_ldv 1000000 (w 0)) w0
  if r.1 = -1 then (-1, m_hf a 1 r.2) else
    let s := m_seek a 0 1 (q_w64 (4 * q_ldv 1000000 (w 0))) r.2
    if s.1 = -1 then (-1, m_hf a 2 s.2) else (q_w32 (r.1 + s.1), m_ho a s.2)
theorem m_seek_fr {a : Nat} (ha : a < 3) (c d t : Int) (w : Nat → Int) : m_fr w (m_seek a c d t w).2 := m_skl_fr ha _ _ _ _ _
theorem m_u_ok {w : Nat → Int} {j : Nat} {v : Int} (ok : m_ok w) (hj : j = 1 ∨ j = 2 ∨ j = 3 ∨ (5 ≤ j ∧ j ≤ 7) ∨ (20 ≤ j ∧ j ≤ 46) ∨ (50 ≤ j ∧ j < 74)) : m_ok (m_u w j v) := by
  obtain ⟨g0, g1, g2, g3⟩ := ok
  refine ⟨by rw [m_u_n (by omega)]; exact g0, by rw [m_u_n (by omega)]; exact g1, fun a ha => ?_, fun j hj hj2 => by rw [m_u_n (by omega)]; exact g3 j hj hj2⟩
  rw [m_u_n (by omega), m_u_n (by omega), m_u_n (by omega), m_u_n (by omega), m_u_n (by omega)]; exact g2 a ha
theorem fn266_69_m {a : Nat} {al : Int} {h : q_F} (ha : a < 3) : fn266_69 a al 3 h = some (-1, m_sr h 140 (m_hf a al (h 140))) := by
  rw [fn266_69, if_pos (by omega), m_ud_sr, m_let, q_w32_id (by omega) (by omega), if_pos (by omega), if_pos (by omega), show (68 + (a : Int)).toNat = 68 + a by omega, m_ud_sr, m_let, m_sr_s, m_sr_sr, show (3 : Int).toNat = 3 from rfl, m_u_n (show 68 + a ≠ 3 by omega)]
  rfl
theorem fn266_46_m {a : Nat} {x y : Int} {h : q_F} (ha : a < 3) : fn266_46 a x y h = some (if y = -1 then (-1 : Int) else q_w32 (x + y), m_sr h 140 (if y = -1 then (if x = -1 then m_hf a 1 (h 140) else m_hf a 2 (h 140)) else m_ho a (h 140))) := by
  unfold fn266_46
  by_cases hy : y = -1
  · rw [if_pos hy, if_pos hy, if_pos hy]
    split
    · exact fn266_69_m ha
    · exact fn266_69_m ha
  · rw [if_neg hy, if_neg hy, if_neg hy, q_w32_id (z := 41 + (a : Int)) (by omega) (by omega), if_pos (by omega), m_ud_sr, m_let, q_w32_id (z := 47 + (a : Int)) (by omega) (by omega), if_pos (by omega), m_ud_sr, m_let, q_w32_id (z := 26 + (a : Int)) (by omega) (by omega), if_pos (by omega), q_w32_id (z := 50 + (a : Int)) (by omega) (by omega), if_pos (by omega), m_ud_sr, m_let, q_w32_id (z := 65 + (a : Int)) (by omega) (by omega), if_pos (by omega), if_pos (by omega), m_ud_sr, m_let]
    simp only [m_sr_s, m_sr_sr]
    rw [show (41 + (a : Int)).toNat = 41 + a by omega, show (47 + (a : Int)).toNat = 47 + a by omega, show (26 + (a : Int)).toNat = 26 + a by omega, show (50 + (a : Int)).toNat = 50 + a by omega, show (65 + (a : Int)).toNat = 65 + a by omega]
    rw [m_u_n (show 26 + a ≠ 47 + a by omega), m_u_n (show 26 + a ≠ 41 + a by omega), m_u_n (show 65 + a ≠ 50 + a by omega), m_u_n (show 65 + a ≠ 47 + a by omega), m_u_n (show 65 + a ≠ 41 + a by omega)]
    rfl
theorem fn266_m {a : Nat} {h : q_F} (ha : a < 3) (ok : m_ok (h 140)) : fn266 a h = some ((m_home a (h 140)).1, m_sr h 140 (m_home a (h 140)).2) := by
  have ok0 : m_ok (m_u (h 140) (41 + a) 0) := m_u_ok ok (by omega)
  have n0 : m_u (h 140) (41 + a) 0 0 = h 140 0 := m_u_n (by omega)
  have h0 := ok.1
  rw [fn266, q_w32_id (z := 41 + (a : Int)) (by omega) (by omega), if_pos (by omega), show (41 + (a : Int)).toNat = 41 + a by omega, m_ud_sr, m_let, fn335_m (by rw [m_sr_s, n0]; omega), Option.bind_some, fn327_m ha (by rw [m_sr_s]; exact ok0), Option.bind_some, m_sr_s, m_sr_sr, n0]
  unfold m_home
  simp only
  by_cases c1 : (m_seek a 1 (-1) (q_ldv 1000000 (h 140 0)) (m_u (h 140) (41 + a) 0)).1 = -1
  · rw [if_pos c1, if_pos c1, fn266_46_m ha, if_pos rfl, if_pos rfl, if_pos c1, m_sr_s, m_sr_sr]
  · have fr := m_seek_fr ha 1 (-1) (q_ldv 1000000 (h 140 0)) (m_u (h 140) (41 + a) 0)
    have ok1 := m_fr_ok ok0 fr
    have e0 := fr 0 (by unfold m_dy; omega)
    rw [n0] at e0
    rw [if_neg c1, if_neg c1, fn335_m (by rw [m_sr_s, e0]; omega), Option.bind_some, fn327_m ha (by rw [m_sr_s]; exact ok1), Option.bind_some, m_sr_s, m_sr_sr, e0, fn266_46_m ha]
    simp only [m_sr_s, m_sr_sr]
    split
    · simp only [if_neg c1]
    · rfl
end -- [58.home]
