/-! Part 93: the class prints. -/
theorem c_T60 (v : Int) (h : q_F) : ∃ h', fn60 137 v h = some (0, h') ∧ c_fo 137 h h' := by
  unfold fn60
  split
  · exact ⟨h, rfl, c_fo_r⟩
  · split
    · exact ⟨h, rfl, c_fo_r⟩
    · rw [if_pos (by omega)]
      exact ⟨_, rfl, c_fo_u (c_fo_u c_fo_r (Or.inr rfl)) (Or.inl rfl)⟩
theorem c_T61l (v : Int) : ∀ (d f : Nat) (u : Int) (h : q_F), d < f → u < 10 ^ d → d ≤ 4 → ∃ h', fn61_4 137 f v u h = some (0, h') ∧ c_fo 137 h h' := by
  intro d
  induction d with
  | zero =>
    intro f u h hf hu _
    obtain ⟨f, rfl⟩ : ∃ f', f = f' + 1 := ⟨f - 1, by omega⟩
    have : (10 : Int) ^ 0 = 1 := rfl
    exact ⟨h, by rw [fn61_4, if_pos (by omega)], c_fo_r⟩
  | succ d ih =>
    intro f u h hf hu hd
    obtain ⟨f, rfl⟩ : ∃ f', f = f' + 1 := ⟨f - 1, by omega⟩
    have e : (10 : Int) ^ (d + 1) = 10 ^ d * 10 := Int.pow_succ ..
    have big : (10 : Int) ^ d ≤ 1000 := by
      have : d = 0 ∨ d = 1 ∨ d = 2 ∨ d = 3 := by omega
      rcases this with rfl | rfl | rfl | rfl <;> decide
    rw [fn61_4]
    by_cases c : u < 1
    · rw [if_pos c]; exact ⟨h, rfl, c_fo_r⟩
    · rw [if_neg c]
      have q : q_idv u 10 = u / 10 := m_idv (by omega) (by omega) (by omega) (by omega)
      have k34 : ∀ g, c_fo 137 h g → ∃ h', fn61_34 137 (fn61_4 137 f) v u g = some (0, h') ∧ c_fo 137 h h' := fun g F => by
        obtain ⟨h', a, b⟩ := ih f (u / 10) g (by omega) (by omega) (by omega)
        exact ⟨h', by rw [fn61_34, q, a], c_fo_t F b⟩
      have k19 : ∃ h', fn61_19 137 (fn61_4 137 f) v u h = some (0, h') ∧ c_fo 137 h h' := by
        obtain ⟨x, ex⟩ := c_T201 v u h
        obtain ⟨g, eg, fg⟩ := c_T60 (q_w32 (48 + q_irm x 10)) h
        rw [fn61_19, ex, Option.bind_some, eg, Option.bind_some]
        exact k34 g fg
      (repeat' split) <;> first | exact k19 | exact k34 h c_fo_r
theorem c_T61 (v : Int) (h : q_F) : ∃ h', fn61 137 v h = some (0, h') ∧ c_fo 137 h h' := c_T61l v 4 q_fu 1000 h (by have := q_fu_ge; omega) (by decide) (by omega)
theorem c_I_out {h h' : q_F} {S : m_St} (hI : c_I h S) (hn : S.n ≤ 10) (f : c_fo 137 h h') : c_I h' S := c_I_k hI hn (fun k hk => f k (by omega) (by omega)) (by rw [f 0 (by omega) (by omega)])
theorem c_F_out {h h' : q_F} (f : c_fo 137 h h') : c_F h h' := fun k hk => f k (by omega) (by omega)
theorem c_printm {S : m_St} (hm : m_I S) : ∀ (d m f : Nat) (h : q_F), m + d = (S.w 4).toNat → d < f → c_I h S → c_W (fn197_34 f m h) h S := by
  have r := (m_R0_ok hm.1.1).2.1
  intro d
  induction d with
  | zero =>
    intro m f h hd hf hI
    obtain ⟨f, rfl⟩ : ∃ f', f = f' + 1 := ⟨f - 1, by omega⟩
    rw [fn197_34, hI.1.2.2.1, if_pos (by omega)]; exact c_W_i hI
  | succ d ih =>
    intro m f h hd hf hI
    obtain ⟨f, rfl⟩ : ∃ f', f = f' + 1 := ⟨f - 1, by omega⟩
    have sub : ∀ g, c_fo 137 h g → c_W (fn197_55 (fn197_34 f) m g) h S := fun g F => by
      obtain ⟨v0, e0⟩ := c_T148 13 m 0 g
      obtain ⟨g1, a1, a2⟩ := c_T61 v0 g
      obtain ⟨g2, b1, b2⟩ := c_T60 44 g1
      obtain ⟨v1, e1⟩ := c_T148 13 m 1 g2
      obtain ⟨g3, d1, d2⟩ := c_T61 v1 g2
      obtain ⟨g4, k1, k2⟩ := c_T60 44 g3
      obtain ⟨v2, e2⟩ := c_T148 13 m 2 g4
      obtain ⟨g5, l1, l2⟩ := c_T61 v2 g4
      rw [fn197_55, e0, Option.bind_some, a1, Option.bind_some]
      dsimp only
      rw [b1, Option.bind_some]
      dsimp only
      rw [e1, Option.bind_some, d1, Option.bind_some]
      dsimp only
      rw [k1, Option.bind_some]
      dsimp only
      rw [e2, Option.bind_some, l1, Option.bind_some, q_w32_id (z := (m : Int) + 1) (by omega) (by omega), ← m_s1]
      have F5 := c_fo_t F (c_fo_t a2 (c_fo_t b2 (c_fo_t d2 (c_fo_t k2 l2))))
      exact c_W_t (c_F_out F5) (ih (m + 1) f g5 (by omega) (by omega) (c_I_out hI hm.2.1.1 F5))
    rw [fn197_34, hI.1.2.2.1, if_neg (by omega)]
    split
    · exact sub h c_fo_r
    · obtain ⟨g, eg, fg⟩ := c_T60 32 h
      rw [eg, Option.bind_some]; exact sub g fg
theorem c_print {h : q_F} {S : m_St} (hI : c_I h S) (hm : m_I S) : c_W (fn197 h) h S := by
  have r := (m_R0_ok hm.1.1).2.1
  have F1 : c_fo 137 h (q_ud h 137 1 0) := c_fo_u c_fo_r (Or.inl rfl)
  have key : ∀ g, c_fo 137 h g → c_W (fn197_32 g) h S := fun g F => by
    rw [fn197_32]
    exact c_W_t (c_F_out F) (c_printm hm (S.w 4).toNat 0 q_fu g (by omega) (by have := q_fu_ge; omega) (c_I_out hI hm.2.1.1 F))
  unfold fn197
  rw [m_let]
  split
  · obtain ⟨g, eg, fg⟩ := c_T60 46 (q_ud h 137 1 0)
    rw [eg, Option.bind_some]; exact key g (c_fo_t F1 fg)
  · exact key _ F1
theorem c_outByte (v : Int) (h : q_F) : ∃ x, fn194 v h = some x := by
  unfold fn194 fn63
  (repeat' split) <;> first | exact ⟨_, rfl⟩ | (exfalso; omega)
theorem c_time (h : q_F) : ∃ x, fn223 h = some x := ⟨_, rfl⟩
theorem c_errCode (h : q_F) : ∃ x, fn177 h = some x := ⟨_, rfl⟩
theorem c_errOff (h : q_F) : ∃ x, fn178 h = some x := ⟨_, rfl⟩
