/-! Part 96: the class's new table. -/
def m_new (st cp dt : Int) (N B : Nat → Int) : Nat → Int := fun j =>
  if j = 0 then st else if j = 1 then cp else if j = 2 then dt else
  if 8 ≤ j ∧ j < 26 then N (6 * ((j - 8) % 3) + (j - 8) / 3) else
  if 26 ≤ j ∧ j < 29 then B (j - 26) else
  if 44 ≤ j ∧ j < 47 then 1 else
  if 53 ≤ j ∧ j < 56 then (if N (6 * (j - 53) + 4) < B (j - 53) then 0 else 1) else 0
theorem m_new_n {st cp dt : Int} {N B : Nat → Int} {a i : Nat} (ha : a < 3) (hi : i < 6) : m_new st cp dt N B (8 + 3 * i + a) = N (6 * a + i) := by
  unfold m_new
  rw [if_neg (by omega), if_neg (by omega), if_neg (by omega), if_pos (by omega), show (8 + 3 * i + a - 8) % 3 = a by omega, show (8 + 3 * i + a - 8) / 3 = i by omega]
theorem m_new_b {st cp dt : Int} {N B : Nat → Int} {a : Nat} (ha : a < 3) : m_new st cp dt N B (26 + a) = B a := by
  unfold m_new
  rw [if_neg (by omega), if_neg (by omega), if_neg (by omega), if_neg (by omega), if_pos (by omega), show 26 + a - 26 = a by omega]
theorem m_new_d {st cp dt : Int} {N B : Nat → Int} {a : Nat} (ha : a < 3) : m_new st cp dt N B (44 + a) = 1 := by
  unfold m_new
  rw [if_neg (by omega), if_neg (by omega), if_neg (by omega), if_neg (by omega), if_neg (by omega), if_pos (by omega)]
theorem m_new_c {st cp dt : Int} {N B : Nat → Int} {a : Nat} (ha : a < 3) : m_new st cp dt N B (53 + a) = if N (6 * a + 4) < B a then 0 else 1 := by
  unfold m_new
  rw [if_neg (by omega), if_neg (by omega), if_neg (by omega), if_neg (by omega), if_neg (by omega), if_neg (by omega), if_pos (by omega), show 53 + a - 53 = a by omega]
theorem m_new_0 {st cp dt : Int} {N B : Nat → Int} {j : Nat} (h : (3 ≤ j ∧ j < 8) ∨ (29 ≤ j ∧ j < 44) ∨ (47 ≤ j ∧ j < 53) ∨ 56 ≤ j) : m_new st cp dt N B j = 0 := by
  unfold m_new
  rw [if_neg (by omega), if_neg (by omega), if_neg (by omega), if_neg (by omega), if_neg (by omega), if_neg (by omega), if_neg (by omega)]
theorem m_RI_new {st cp dt : Int} {N B : Nat → Int} (h0 : 1 ≤ st ∧ st ≤ 1000) (h1 : cp = 0 ∨ cp = 1) (h2 : dt = 0 ∨ dt = 1) (hN : ∀ a, a < 3 → ∀ i, i < 6 → m_nr i (N (6 * a + i))) (hB : ∀ a, a < 3 → 0 ≤ B a ∧ B a ≤ N (6 * a)) : m_RI (m_new st cp dt N B) := by
  have e4 : m_new st cp dt N B 4 = 0 := m_new_0 (by omega)
  refine ⟨⟨fun j hj => ?_, m_a3_of fun a ha => ?_⟩, m_nn_0 e4⟩
  · by_cases c0 : j = 0
    · subst c0; exact m_pv_0 h0
    · by_cases c1 : j = 1
      · subst c1; exact m_pv_12 (Or.inl rfl) h1
      · by_cases c2 : j = 2
        · subst c2; exact m_pv_12 (Or.inr rfl) h2
        · by_cases c3 : 8 ≤ j ∧ j < 26
          · have ej : j = 8 + 3 * ((j - 8) / 3) + (j - 8) % 3 := by omega
            have n := hN ((j - 8) % 3) (by omega) ((j - 8) / 3) (by omega)
            have en : m_new st cp dt N B j = N (6 * ((j - 8) % 3) + (j - 8) / 3) := by
              have := m_new_n (st := st) (cp := cp) (dt := dt) (N := N) (B := B) (a := (j - 8) % 3) (i := (j - 8) / 3) (by omega) (by omega)
              rw [← ej] at this; exact this
            rw [en]
            generalize N (6 * ((j - 8) % 3) + (j - 8) / 3) = v at n
            unfold m_nr at n
            obtain ⟨n0, n1, n2, n3, n4, n5⟩ := n
            unfold m_pv
            refine ⟨?_, ?_, ?_, ?_, ?_, ?_, ?_, ?_, ?_, ?_⟩ <;> intro h9
            · omega
            · omega
            · omega
            · omega
            · omega
            · exact n0 (by omega)
            · exact n1 (by omega)
            · exact n2 (by omega)
            · exact n3 (by omega)
            · omega
          · by_cases c4 : (26 ≤ j ∧ j < 29) ∨ (44 ≤ j ∧ j < 47) ∨ (53 ≤ j ∧ j < 56)
            · unfold m_pv
              refine ⟨?_, ?_, ?_, ?_, ?_, ?_, ?_, ?_, ?_, ?_⟩ <;> intro h9 <;> omega
            · rw [m_new_0 (by omega)]
              unfold m_pv
              refine ⟨?_, ?_, ?_, ?_, ?_, ?_, ?_, ?_, ?_, ?_⟩ <;> intro h9 <;> omega
  · have n0 := (hN a ha 0 (by omega)).1 rfl
    have n1 := (hN a ha 1 (by omega)).2.1 rfl
    have n4 := (hN a ha 4 (by omega)).2.2.2.2.1 rfl
    have n5 := (hN a ha 5 (by omega)).2.2.2.2.2 rfl
    have b := hB a ha
    simp only [Nat.add_zero] at n0
    have e8 : m_new st cp dt N B (8 + a) = N (6 * a) := m_new_n (i := 0) ha (by omega)
    have e11 : m_new st cp dt N B (11 + a) = N (6 * a + 1) := m_new_n (i := 1) ha (by omega)
    have e20 : m_new st cp dt N B (20 + a) = N (6 * a + 4) := m_new_n (i := 4) ha (by omega)
    have e23 : m_new st cp dt N B (23 + a) = N (6 * a + 5) := m_new_n (i := 5) ha (by omega)
    unfold m_ai
    rw [e8, e11, e20, e23, m_new_b ha, m_new_d ha, m_new_c ha, m_new_0 (j := 29 + a) (by omega), m_new_0 (j := 32 + a) (by omega), m_new_0 (j := 56 + a) (by omega), m_new_0 (j := 59 + a) (by omega)]
    refine ⟨by omega, by omega, by split <;> simp, fun h9 => by rw [if_neg (by omega)], fun h9 => by rw [if_pos (by omega)], by omega, Or.inl rfl, rfl⟩
theorem c_newax {a o : Nat} {h : q_F} (ha : a < 3) (ho : 7 ≤ o) : ∃ h', fn56 o a h = some (0, h') ∧ c_fo o h h' ∧ ∀ st cp dt, c_ax h' o (m_new st cp dt (h 4) (h 5)) a := by
  have t0 : ∀ g, fn115 a 0 g = some (g 4 (6 * a)) := fun g => c_T115 (i := 0) ha (by omega)
  have t1 : ∀ g, fn115 a 1 g = some (g 4 (6 * a + 1)) := fun g => c_T115 (i := 1) ha (by omega)
  have t2 : ∀ g, fn115 a 2 g = some (g 4 (6 * a + 2)) := fun g => c_T115 (i := 2) ha (by omega)
  have t3 : ∀ g, fn115 a 3 g = some (g 4 (6 * a + 3)) := fun g => c_T115 (i := 3) ha (by omega)
  have t4 : ∀ g, fn115 a 4 g = some (g 4 (6 * a + 4)) := fun g => c_T115 (i := 4) ha (by omega)
  have t5 : ∀ g, fn115 a 5 g = some (g 4 (6 * a + 5)) := fun g => c_T115 (i := 5) ha (by omega)
  unfold fn56
  rw [t0, Option.bind_some, m_let, t1, Option.bind_some, m_let, t2, Option.bind_some, m_let, t3, Option.bind_some, m_let, t4, Option.bind_some, m_let, t5, Option.bind_some, m_let, c_ent (by omega) (by omega), Option.bind_some, m_let, m_let, m_let, m_let, Int.toNat_natCast]
  have n4 : ∀ g : q_F, ∀ i j v, q_ud g o i v 4 j = g 4 j := fun g i j v => q_ud_n (by omega)
  have n5 : ∀ g : q_F, ∀ i j v, q_ud g o i v 5 j = g 5 j := fun g i j v => q_ud_n (by omega)
  simp only [n4, n5]
  have key : ∀ p : Int, ∀ g17 : q_F, (∀ i, i < 6 → g17 o i = h 4 (6 * a + i)) → g17 o 6 = h 5 a → g17 o 7 = 0 → g17 o 8 = 1 → g17 o 9 = 0 → c_fo o h g17 → p = (if h 4 (6 * a + 4) < h 5 a then 0 else 1) → ∃ h', fn56_104 o p g17 = some (0, h') ∧ c_fo o h h' ∧ ∀ st cp dt, c_ax h' o (m_new st cp dt (h 4) (h 5)) a := by
    intro p g17 g0 g6 g7 g8 g9 F hp
    unfold fn56_104 fn41
    rw [m_let, m_let, m_let, m_let, m_let, m_let, m_let, m_let, m_let, m_let, m_let, Option.bind_some]
    dsimp only
    refine ⟨_, rfl, ?_, fun st cp dt => ⟨fun j hj => ?_, fun j hj => ?_⟩⟩
    · exact c_fo_u (c_fo_u (c_fo_u (c_fo_u (c_fo_u (c_fo_u (c_fo_u (c_fo_u (c_fo_u (c_fo_u (c_fo_u F (Or.inl rfl)) (Or.inl rfl)) (Or.inl rfl)) (Or.inl rfl)) (Or.inr rfl)) (Or.inr rfl)) (Or.inr rfl)) (Or.inr rfl)) (Or.inr rfl)) (Or.inr rfl)) (Or.inr rfl)
    · rw [q_ud_n (by omega), q_ud_n (by omega), q_ud_n (by omega), q_ud_n (by omega), q_ud_n (by omega), q_ud_n (by omega), q_ud_n (by omega)]
      obtain rfl | rfl | rfl | rfl | rfl | rfl | rfl | rfl | rfl | rfl | rfl | rfl | rfl | rfl : j = 0 ∨ j = 1 ∨ j = 2 ∨ j = 3 ∨ j = 4 ∨ j = 5 ∨ j = 6 ∨ j = 7 ∨ j = 8 ∨ j = 9 ∨ j = 10 ∨ j = 11 ∨ j = 12 ∨ j = 13 := by omega
      · rw [q_ud_n (by omega), q_ud_n (by omega), q_ud_n (by omega), q_ud_n (by omega), g0 0 (by omega)]; exact (m_new_n (i := 0) ha (by omega)).symm
      · rw [q_ud_n (by omega), q_ud_n (by omega), q_ud_n (by omega), q_ud_n (by omega), g0 1 (by omega)]; exact (m_new_n (i := 1) ha (by omega)).symm
      · rw [q_ud_n (by omega), q_ud_n (by omega), q_ud_n (by omega), q_ud_n (by omega), g0 2 (by omega)]; exact (m_new_n (i := 2) ha (by omega)).symm
      · rw [q_ud_n (by omega), q_ud_n (by omega), q_ud_n (by omega), q_ud_n (by omega), g0 3 (by omega)]; exact (m_new_n (i := 3) ha (by omega)).symm
      · rw [q_ud_n (by omega), q_ud_n (by omega), q_ud_n (by omega), q_ud_n (by omega), g0 4 (by omega)]; exact (m_new_n (i := 4) ha (by omega)).symm
      · rw [q_ud_n (by omega), q_ud_n (by omega), q_ud_n (by omega), q_ud_n (by omega), g0 5 (by omega)]; exact (m_new_n (i := 5) ha (by omega)).symm
      · rw [q_ud_n (by omega), q_ud_n (by omega), q_ud_n (by omega), q_ud_n (by omega), g6]; exact (m_new_b ha).symm
      · rw [q_ud_n (by omega), q_ud_n (by omega), q_ud_n (by omega), q_ud_n (by omega), g7]; exact (m_new_0 (j := 29 + a) (by omega)).symm
      · rw [q_ud_n (by omega), q_ud_n (by omega), q_ud_n (by omega), q_ud_n (by omega), g8]; exact (m_new_d ha).symm
      · rw [q_ud_n (by omega), q_ud_n (by omega), q_ud_n (by omega), q_ud_n (by omega), g9]; exact (m_new_0 (j := 38 + a) (by omega)).symm
      · rw [q_ud_n (by omega), q_ud_n (by omega), q_ud_n (by omega), q_ud_s, hp]; exact (m_new_c ha).symm
      · rw [q_ud_n (by omega), q_ud_n (by omega), q_ud_s]; exact (m_new_0 (j := 41 + a) (by omega)).symm
      · rw [q_ud_n (by omega), q_ud_s]; exact (m_new_0 (j := 47 + a) (by omega)).symm
      · rw [q_ud_s]; exact (m_new_0 (j := 50 + a) (by omega)).symm
    · have z : q_w32 (m_new st cp dt (h 4) (h 5) (c_g j + a)) = 0 := by
        have : 35 ≤ c_g j + a ∧ c_g j + a ≠ 44 ∧ c_g j + a ≠ 45 ∧ c_g j + a ≠ 46 ∧ (c_g j + a < 44 ∨ 56 ≤ c_g j + a) := by
          obtain rfl | rfl | rfl | rfl | rfl | rfl | rfl : j = 0 ∨ j = 1 ∨ j = 2 ∨ j = 3 ∨ j = 4 ∨ j = 5 ∨ j = 6 := by omega
          all_goals (simp [c_g]; omega)
        rw [m_new_0 (by omega)]; rfl
      rw [z]
      obtain rfl | rfl | rfl | rfl | rfl | rfl | rfl : j = 0 ∨ j = 1 ∨ j = 2 ∨ j = 3 ∨ j = 4 ∨ j = 5 ∨ j = 6 := by omega
      all_goals simp [q_ud]
  split
  · rename_i c
    refine key 0 _ (fun i hi => ?_) ?_ ?_ ?_ ?_ ?_ ?_
    · obtain rfl | rfl | rfl | rfl | rfl | rfl : i = 0 ∨ i = 1 ∨ i = 2 ∨ i = 3 ∨ i = 4 ∨ i = 5 := by omega
      all_goals simp [q_ud]
    · simp [q_ud]
    · simp [q_ud]
    · simp [q_ud]
    · simp [q_ud]
    · exact c_fo_u (c_fo_u (c_fo_u (c_fo_u (c_fo_u (c_fo_u (c_fo_u (c_fo_u (c_fo_u (c_fo_u c_fo_r (Or.inl rfl)) (Or.inl rfl)) (Or.inl rfl)) (Or.inl rfl)) (Or.inl rfl)) (Or.inl rfl)) (Or.inl rfl)) (Or.inl rfl)) (Or.inl rfl)) (Or.inl rfl)
    · simp [q_ud] at c; rw [if_pos c]
  · rename_i c
    refine key 1 _ (fun i hi => ?_) ?_ ?_ ?_ ?_ ?_ ?_
    · obtain rfl | rfl | rfl | rfl | rfl | rfl : i = 0 ∨ i = 1 ∨ i = 2 ∨ i = 3 ∨ i = 4 ∨ i = 5 := by omega
      all_goals simp [q_ud]
    · simp [q_ud]
    · simp [q_ud]
    · simp [q_ud]
    · simp [q_ud]
    · exact c_fo_u (c_fo_u (c_fo_u (c_fo_u (c_fo_u (c_fo_u (c_fo_u (c_fo_u (c_fo_u (c_fo_u c_fo_r (Or.inl rfl)) (Or.inl rfl)) (Or.inl rfl)) (Or.inl rfl)) (Or.inl rfl)) (Or.inl rfl)) (Or.inl rfl)) (Or.inl rfl)) (Or.inl rfl)) (Or.inl rfl)
    · simp [q_ud] at c; rw [if_neg (by omega)]
