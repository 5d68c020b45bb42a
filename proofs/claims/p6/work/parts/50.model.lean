/-! Part 50: the table's row as a function, its moves; the reference's methods are these. -/
/-- a row of the heap replaced -/
def m_sr (h : q_F) (k : Nat) (w : Nat → Int) : q_F := fun k' => if k' = k then w else h k'
def m_u (w : Nat → Int) (j : Nat) (v : Int) : Nat → Int := fun j' => if j' = j then v else w j'
theorem m_ud_sr (h : q_F) (k j : Nat) (v : Int) : q_ud h k j v = m_sr h k (m_u (h k) j v) := by
  funext k' j'
  unfold q_ud m_sr m_u
  by_cases e : k' = k
  · subst e
    simp
  · simp [e]
theorem m_sr_s (h : q_F) (k : Nat) (w : Nat → Int) : m_sr h k w k = w := by unfold m_sr; rw [if_pos rfl]
theorem m_sr_n {h : q_F} {k k' : Nat} {w : Nat → Int} (e : k' ≠ k) : m_sr h k w k' = h k' := by unfold m_sr; rw [if_neg e]
theorem m_sr_sr (h : q_F) (k : Nat) (w w' : Nat → Int) : m_sr (m_sr h k w) k w' = m_sr h k w' := by
  funext k'; unfold m_sr; split <;> rfl
theorem m_sr_id (h : q_F) (k : Nat) : m_sr h k (h k) = h := by
  funext k'; unfold m_sr; split
  · rename_i e; rw [e]
  · rfl
theorem m_u_s (w : Nat → Int) (j : Nat) (v : Int) : m_u w j v j = v := by unfold m_u; rw [if_pos rfl]
theorem m_u_n {w : Nat → Int} {j j' : Nat} {v : Int} (e : j' ≠ j) : m_u w j v j' = w j' := by unfold m_u; rw [if_neg e]
/-- a step of the motor a: whether it is lost, the row behind it -/
noncomputable def m_sw (a : Nat) (w : Nat → Int) : Nat → Int :=
  if w (26 + a) ≤ q_w64 (w (20 + a) + w (23 + a)) then w else m_u w (53 + a) 0
noncomputable def m_sx (a : Nat) (w : Nat → Int) : Nat → Int :=
  m_sw a (if w (20 + a) < w (26 + a) then w else m_u w (53 + a) 1)
noncomputable def m_sm (a : Nat) (d e s : Int) (w : Nat → Int) : Int × (Nat → Int) :=
  if w (29 + a) = e then (if w (26 + a) = s then (1, m_u w (35 + a) (q_w64 (w (35 + a) + 1))) else (0, m_sx a (m_u w (26 + a) (q_w64 (w (26 + a) + d)))))
  else (0, m_u w (29 + a) (q_w64 (w (29 + a) + d)))
noncomputable def m_s0 (a c : Nat) (d : Int) (w : Nat → Int) : Nat → Int :=
  let w1 := m_u w (32 + a) (q_w64 (w (32 + a) + d))
  let w2 := m_u w1 (44 + a) d
  m_u w2 (c + a) (q_w64 (w2 (c + a) + 1))
noncomputable def m_step (a : Nat) (d : Int) (w : Nat → Int) : Int × (Nat → Int) :=
  if d ≤ 0 then m_sm a d 0 0 (m_s0 a 59 d w) else m_sm a d (w (11 + a)) (w (8 + a)) (m_s0 a 56 d w)
theorem m_c3 {a : Nat} (h : a < 3) : a = 0 ∨ a = 1 ∨ a = 2 := by omega
theorem fn340_m {a : Nat} {d : Int} {h : q_F} (ha : a < 3) : fn340 a d h = some ((m_step a d (h 140)).1, m_sr h 140 (m_step a d (h 140)).2) := by
  rcases m_c3 ha with rfl | rfl | rfl
  all_goals
    by_cases hd : d ≤ 0
    · simp [fn340, fn340_40, fn340_64, fn340_82, fn340_190, q_let, hd, q_w32_id, m_ud_sr, m_sr_s, m_sr_sr, m_u, m_step, m_sm, m_s0, m_sx, m_sw]
      (repeat' split) <;> (try simp_all [m_u]) <;> omega
    · simp [fn340, fn340_40, fn340_64, fn340_82, fn340_190, q_let, hd, q_w32_id, m_ud_sr, m_sr_s, m_sr_sr, m_u, m_step, m_sm, m_s0, m_sx, m_sw]
      (repeat' split) <;> (try simp_all [m_u]) <;> omega
theorem m_fu (k : Nat) (h : k ≤ 10000) : ∃ n, q_fu = n + k := ⟨q_fu - k, by have := q_fu_ge; omega⟩
/-- whether the switch of the axis a reads closed -/
def m_reads (a : Nat) (w : Nat → Int) : Int := if w (38 + a) = 2 ∨ (w (38 + a) = 0 ∧ w (53 + a) = 1) then 1 else 0
theorem fn318_m {a : Nat} {h : q_F} (ha : a < 3) : fn318 a h = some (m_reads a (h 140)) := by
  rcases m_c3 ha with rfl | rfl | rfl
  all_goals
    simp [fn318, fn318_44, q_w32_id, m_reads]
    (repeat' split) <;> simp_all
def m_stops (w : Nat → Int) : Nat → Int := m_u (m_u (m_u (m_u w 4 0) 41 0) 42 0) 43 0
theorem fn342_m (h : q_F) : fn342 h = some (0, m_sr h 140 (m_stops (h 140))) := by
  obtain ⟨n, e⟩ := m_fu 4 (by omega)
  simp [fn342, q_let, e, fn342_9, q_w32_id, m_ud_sr, m_sr_s, m_sr_sr, m_stops]
theorem fn335_m {h : q_F} (h0 : h 140 0 ≠ 0) : fn335 h = some (q_ldv 1000000 (h 140 0)) := by
  simp [fn335, h0]
theorem fn303_m {j : Nat} {h : q_F} (hj : j < 122) : fn303 j h = some (q_w32 (h 140 j)) := by
  simp [fn303, hj]; omega
