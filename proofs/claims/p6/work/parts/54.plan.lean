/-! Part 54: the reference's plan of the queue, whole. -/
theorem m_b1_s {w : Nat → Int} {j : Nat} (h4 : 0 ≤ w 4) (hj : (j : Int) < w 4) : m_b1 w j = qx_mn (m_b0 w j) (m_b1 w (j + 1) + m_c w 17 j * m_l w j) := by
  unfold m_b1
  rw [show (w 4).toNat - j = ((w 4).toNat - (j + 1)) + 1 by omega]
  show qx_mn (m_b0 w ((w 4).toNat - 1 - ((w 4).toNat - (j + 1)))) (m_b1r w (w 4).toNat ((w 4).toNat - (j + 1)) + m_c w 17 ((w 4).toNat - 1 - ((w 4).toNat - (j + 1))) * m_l w ((w 4).toNat - 1 - ((w 4).toNat - (j + 1)))) = _
  rw [show (w 4).toNat - 1 - ((w 4).toNat - (j + 1)) = j by omega]
theorem m_b1_n {w : Nat → Int} : m_b1 w (w 4).toNat = m_b0 w (w 4).toNat := by
  unfold m_b1; rw [Nat.sub_self]; rfl
theorem m_PA_sr {h : q_F} {w v : Nat → Int} {n k : Nat} (hP : m_PA h w n) (hk : k < 145 ∨ 148 < k) : m_PA (m_sr h k v) w n := by
  intro m hm
  obtain ⟨h1, h2, h3, h4⟩ := hP m hm
  refine ⟨fun a ha => ?_, ?_, ?_, ?_⟩
  · rw [m_sr_n (by omega)]; exact h1 a ha
  · rw [m_sr_n (by omega)]; exact h2
  · rw [m_sr_n (by omega)]; exact h3
  · rw [m_sr_n (by omega)]; exact h4
theorem fn278_190_m {w : Nat → Int} (ok : m_ok w) (nn : m_nn w) (h0 : 0 < w 4) : ∀ (d m f : Nat) (h : q_F), m + d = (w 4).toNat → d < f → m_PA h w (w 4).toNat → (∀ j, j ≤ m → h 149 j = m_b w j) → (∀ j, m < j → j ≤ (w 4).toNat → h 149 j = m_b1 w j) → ∃ v, fn278_190 f (w 4) m h = some (0, m_sr h 149 v) ∧ ∀ j, j ≤ (w 4).toNat → v j = m_b w j := by
  have h16 := ok.2.1
  intro d
  induction d with
  | zero =>
    intro m f h hm hf hP h1 h2
    obtain ⟨f, rfl⟩ : ∃ f', f = f' + 1 := ⟨f - 1, by omega⟩
    refine ⟨h 149, ?_, fun j hj => h1 j (by omega)⟩
    rw [fn278_190, if_pos (by omega), m_sr_id]
  | succ d ih =>
    intro m f h hm hf hP h1 h2
    obtain ⟨f, rfl⟩ : ∃ f', f = f' + 1 := ⟨f - 1, by omega⟩
    obtain ⟨-, p2, -, p4⟩ := hP m (by omega)
    have r := m_reach_r ok nn (m := m) (by omega)
    have b := m_b_r ok nn h0 m (by omega)
    have e1 : qx_mn (h 149 (m + 1)) (q_w32 (h 149 m + q_w32 (h 148 m * h 146 m))) = m_b w (m + 1) := by
      rw [h2 (m + 1) (by omega) (by omega), h1 m (by omega), p2, p4, q_w32_id (z := m_c w 17 m * m_l w m) (by omega) (by omega), q_w32_id (by omega) (by omega)]; rfl
    obtain ⟨v, g1, g2⟩ := ih (m + 1) f (m_sr h 149 (m_u (h 149) (m + 1) (m_b w (m + 1)))) (by omega) (by omega) (m_PA_sr hP (by omega)) (by
      intro j hj; rw [m_sr_s]
      by_cases e : j = m + 1
      · subst e; rw [m_u_s]
      · rw [m_u_n e]; exact h1 j (by omega)) (by
      intro j hj hj2; rw [m_sr_s, m_u_n (by omega)]; exact h2 j (by omega) hj2)
    refine ⟨v, ?_, g2⟩
    rw [fn278_190, if_neg (by omega), q_w32_id (z := (m : Int) + 1) (by omega) (by omega), if_pos (by omega), if_pos (by omega), if_pos (by omega), if_pos (by omega), m_tn1, Int.toNat_natCast, e1, m_ud_sr, m_let]
    rw [← m_s1, g1, m_sr_sr, if_pos (by omega)]
theorem fn278_141_m {w : Nat → Int} (ok : m_ok w) (nn : m_nn w) (h0 : 0 < w 4) : ∀ (m f : Nat) (h : q_F), m ≤ (w 4).toNat → m < f → m_PA h w (w 4).toNat → (∀ j, j < m → h 149 j = m_b0 w j) → (∀ j, m ≤ j → j ≤ (w 4).toNat → h 149 j = m_b1 w j) → ∃ v, fn278_141 f (w 4) ((m : Int) - 1) h = some (0, m_sr h 149 v) ∧ ∀ j, j ≤ (w 4).toNat → v j = m_b w j := by
  have h16 := ok.2.1
  intro m
  induction m with
  | zero =>
    intro f h hm hf hP h1 h2
    obtain ⟨f, rfl⟩ : ∃ f', f = f' + 1 := ⟨f - 1, by omega⟩
    rw [fn278_141, if_pos (by omega)]
    exact fn278_190_m ok nn h0 (w 4).toNat 0 q_fu h (by omega) (by have := q_fu_ge; omega) hP (by
      intro j hj
      have e : j = 0 := by omega
      subst e
      exact h2 0 (by omega) (by omega)) (fun j hj hj2 => h2 j (by omega) hj2)
  | succ m ih =>
    intro f h hm hf hP h1 h2
    obtain ⟨f, rfl⟩ : ∃ f', f = f' + 1 := ⟨f - 1, by omega⟩
    obtain ⟨-, p2, -, p4⟩ := hP m (by omega)
    have r := m_reach_r ok nn (m := m) (by omega)
    have b := m_b1_r ok nn (m := m + 1) (by omega) h0
    have e1 : qx_mn (h 149 m) (q_w32 (h 149 (m + 1) + q_w32 (h 148 m * h 146 m))) = m_b1 w m := by
      rw [h2 (m + 1) (by omega) (by omega), h1 m (by omega), p2, p4, q_w32_id (z := m_c w 17 m * m_l w m) (by omega) (by omega), q_w32_id (by omega) (by omega), m_b1_s (w := w) (j := m) (by omega) (by omega)]
    obtain ⟨v, g1, g2⟩ := ih f (m_sr h 149 (m_u (h 149) m (m_b1 w m))) (by omega) (by omega) (m_PA_sr hP (by omega)) (by
      intro j hj; rw [m_sr_s, m_u_n (by omega)]; exact h1 j (by omega)) (by
      intro j hj hj2; rw [m_sr_s]
      by_cases e : j = m
      · subst e; rw [m_u_s]
      · rw [m_u_n e]; exact h2 j (by omega) hj2)
    refine ⟨v, ?_, g2⟩
    rw [show ((m + 1 : Nat) : Int) - 1 = (m : Int) by omega]
    rw [fn278_141, if_neg (by omega), if_pos (by omega), q_w32_id (z := (m : Int) + 1) (by omega) (by omega), if_pos (by omega), if_pos (by omega), if_pos (by omega), m_tn1, Int.toNat_natCast, e1, m_ud_sr, m_let]
    rw [q_w32_id (by omega) (by omega), show (m : Int) + -1 = (m : Int) - 1 by omega, g1, m_sr_sr, if_pos (by omega)]
theorem fn278_73_m {w : Nat → Int} (ok : m_ok w) (nn : m_nn w) (h0 : 0 < w 4) : ∀ (d m f : Nat) (h : q_F), m + d = (w 4).toNat → 1 ≤ m → d < f → h 140 = w → m_PA h w (w 4).toNat → (∀ j, j < m → h 149 j = m_b0 w j) → h 149 (w 4).toNat = m_b0 w (w 4).toNat → ∃ v, fn278_73 f (w 4) m h = some (0, m_sr h 149 v) ∧ ∀ j, j ≤ (w 4).toNat → v j = m_b w j := by
  have h16 := ok.2.1
  have hw0 := ok.1
  intro d
  induction d with
  | zero =>
    intro m f h hm h1m hf hw hP h1 h2
    obtain ⟨f, rfl⟩ : ∃ f', f = f' + 1 := ⟨f - 1, by omega⟩
    rw [fn278_73, if_pos (by omega), q_w32_id (by omega) (by omega), show w 4 - 1 = (((w 4).toNat : Nat) : Int) - 1 by omega]
    exact fn278_141_m ok nn h0 (w 4).toNat q_fu h (by omega) (by have := q_fu_ge; omega) hP (fun j hj => h1 j (by omega)) (fun j hj hj2 => by
      have e : j = (w 4).toNat := by omega
      subst e
      rw [h2, m_b1_n])
  | succ d ih =>
    intro m f h hm h1m hf hw hP h1 h2
    obtain ⟨f, rfl⟩ : ∃ f', f = f' + 1 := ⟨f - 1, by omega⟩
    obtain ⟨-, -, p3, -⟩ := hP m (by omega)
    obtain ⟨-, -, q3, -⟩ := hP (m - 1) (by omega)
    have em : ((m : Int) - 1) = ((m - 1 : Nat) : Int) := by omega
    rw [fn278_73, if_neg (by omega), q_w32_id (z := (m : Int) - 1) (by omega) (by omega), if_pos (by omega), if_pos (by omega), if_pos (by omega), em, Int.toNat_natCast, Int.toNat_natCast, p3, q3, m_ud_sr, m_let, fn272_m (w := w) (by simp [m_sr, hw]) ok (by omega) (m_PA_sr hP (by omega)), Option.bind_some]
    by_cases hs : m_str w (m - 1) = 0
    · rw [if_pos hs, fn303_i (by omega) (by omega), Option.bind_some, m_sr_ne h 149 140 _ rfl, hw, Int.toNat_zero, q_w32_id (z := w 0) (by omega) (by omega), if_pos (by omega), if_pos (by omega), m_sr_s, m_u_s, m_ud_sr, m_let, fn278_131, m_sr_s, m_sr_sr, m_u_u]
      rw [q_w32_id (z := (m : Int) + 1) (by omega) (by omega), ← m_s1]
      obtain ⟨v, g1, g2⟩ := ih (m + 1) f (m_sr h 149 (m_u (h 149) m (qx_mn (w 0) (qx_mn (m_c w 14 (m - 1)) (m_c w 14 m))))) (by omega) (by omega) (by omega) (by simp [m_sr, hw]) (m_PA_sr hP (by omega)) (by
        intro j hj; rw [m_sr_s]
        by_cases e : j = m
        · subst e
          rw [m_u_s]
          unfold m_b0
          rw [if_neg (by omega), if_neg (by omega), if_pos hs]
        · rw [m_u_n e]; exact h1 j (by omega)) (by rw [m_sr_s, m_u_n (by omega)]; exact h2)
      exact ⟨v, by rw [g1, m_sr_sr], g2⟩
    · rw [if_neg hs, fn278_131]
      rw [q_w32_id (z := (m : Int) + 1) (by omega) (by omega), ← m_s1]
      obtain ⟨v, g1, g2⟩ := ih (m + 1) f (m_sr h 149 (m_u (h 149) m (qx_mn (m_c w 14 (m - 1)) (m_c w 14 m)))) (by omega) (by omega) (by omega) (by simp [m_sr, hw]) (m_PA_sr hP (by omega)) (by
        intro j hj; rw [m_sr_s]
        by_cases e : j = m
        · subst e
          rw [m_u_s]
          unfold m_b0
          rw [if_neg (by omega), if_neg (by omega), if_neg hs]
        · rw [m_u_n e]; exact h1 j (by omega)) (by rw [m_sr_s, m_u_n (by omega)]; exact h2)
      exact ⟨v, by rw [g1, m_sr_sr], g2⟩
def m_Plan (h : q_F) (w : Nat → Int) : Prop := m_PA h w (w 4).toNat ∧ ∀ m, m ≤ (w 4).toNat → 0 < w 4 → h 149 m = m_b w m
theorem m_PA_0 {h : q_F} {w : Nat → Int} : m_PA h w 0 := fun m hm => absurd hm (by omega)
/-- only the cells of the plan have changed -/
def m_fp (h h' : q_F) : Prop := ∀ k, k < 145 ∨ 149 < k → h' k = h k
theorem fn278_8_m {w : Nat → Int} (ok : m_ok w) (nn : m_nn w) : ∀ (d m f : Nat) (h : q_F), m + d = (w 4).toNat → d < f → h 140 = w → m_PA h w m → ∃ h', fn278_8 f (w 4) m h = some (0, h') ∧ m_Plan h' w ∧ m_fp h h' := by
  have h16 := ok.2.1
  have hw0 := ok.1
  intro d
  induction d with
  | zero =>
    intro m f h hm hf hw hP
    obtain ⟨f, rfl⟩ : ∃ f', f = f' + 1 := ⟨f - 1, by omega⟩
    have em : m = (w 4).toNat := by omega
    rw [fn278_8, if_pos (by omega)]
    by_cases hz : w 4 = 0
    · rw [if_pos hz]
      exact ⟨h, rfl, ⟨by rw [← em]; exact hP, fun j hj h9 => by omega⟩, fun k hk => rfl⟩
    · have p0 := (hP 0 (by omega)).2.2.1
      have p1 := (hP (m - 1) (by omega)).2.2.1
      rw [if_neg hz, fn303_i (by omega) (by omega), Option.bind_some, hw, Int.toNat_zero, q_w32_id (z := w 0) (by omega) (by omega), m_ud_sr, m_let, fn303_i (by omega) (by omega), Option.bind_some, m_sr_ne h 149 140 _ rfl, hw, Int.toNat_zero, q_w32_id (z := w 0) (by omega) (by omega), q_w32_id (z := w 4 - 1) (by omega) (by omega), if_pos (by omega), if_pos (by omega), m_ud_sr, m_let, m_sr_s, m_sr_sr, m_sr_ne h 149 147 _ rfl, p0]
      rw [show (w 4 - 1).toNat = m - 1 by omega, p1, ← em]
      obtain ⟨v, g1, g2⟩ := fn278_73_m ok nn (by omega) (m - 1) 1 q_fu (m_sr h 149 (m_u (m_u (h 149) 0 (qx_mn (w 0) (m_c w 14 0))) m (qx_mn (w 0) (m_c w 14 (m - 1))))) (by omega) (by omega) (by have := q_fu_ge; omega) (by simp [m_sr, hw]) (m_PA_sr (by rw [← em]; exact hP) (by omega)) (by
        intro j hj
        have e : j = 0 := by omega
        subst e
        rw [m_sr_s, m_u_n (by omega), m_u_s]
        unfold m_b0
        rw [if_pos rfl]) (by
        rw [← em, m_sr_s, m_u_s]
        unfold m_b0
        rw [if_neg (by omega), if_pos (by omega)])
      refine ⟨_, g1, ⟨m_PA_sr (m_PA_sr (by rw [← em]; exact hP) (by omega)) (by omega), fun j hj _ => by rw [m_sr_s]; exact g2 j hj⟩, fun k hk => ?_⟩
      rw [m_sr_n (by omega), m_sr_n (by omega)]
  | succ d ih =>
    intro m f h hm hf hw hP
    obtain ⟨f, rfl⟩ : ∃ f', f = f' + 1 := ⟨f - 1, by omega⟩
    rw [fn278_8, if_neg (by omega), fn277_m hw ok (by omega), Option.bind_some, q_w32_id (by omega) (by omega), ← m_s1]
    obtain ⟨h', g1, g2, g3⟩ := ih (m + 1) f (m_lay h w m) (by omega) (by omega) (by rw [m_lay_o (by omega)]; exact hw) (m_PA_lay hP)
    exact ⟨h', g1, g2, fun k hk => (g3 k hk).trans (m_lay_o (by omega))⟩
theorem fn278_m {w : Nat → Int} {h : q_F} (hw : h 140 = w) (ok : m_ok w) (nn : m_nn w) : ∃ h', fn278 h = some (0, h') ∧ m_Plan h' w ∧ m_fp h h' := by
  have h16 := ok.2.1
  obtain ⟨h', g1, g2, g3⟩ := fn278_8_m ok nn (w 4).toNat 0 q_fu h (by omega) (by have := q_fu_ge; omega) hw m_PA_0
  refine ⟨h', ?_, g2, g3⟩
  rw [fn278, fn303_i (by omega) (by omega), Option.bind_some, hw, show (4 : Int).toNat = 4 from rfl, q_w32_id (by omega) (by omega)]
  exact g1
