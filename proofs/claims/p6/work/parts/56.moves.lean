/-! Part 56: the reference's moves, gone on with. -/
noncomputable def m_ax (p : Nat → Int) (m : Nat) (k : Int) (a : Nat) (w : Nat → Int) : Int × (Nat → Int) :=
  if m_made p m a (k + 1) = m_made p m a k then (1, w) else
    let s := m_step a (m_sg (m_d p m a)) w
    if s.1 = 0 then (1, s.2) else if s.2 2 = 1 then (0, s.2) else (1, s.2)
/-- one thing behind the other, as long as it goes on -/
def m_sq (f g : (Nat → Int) → Int × (Nat → Int)) (w : Nat → Int) : Int × (Nat → Int) := if (f w).1 = 0 then f w else g (f w).2
noncomputable def m_tk (p : Nat → Int) (m : Nat) (k : Int) (w : Nat → Int) : Nat → Int :=
  let w1 := m_u w 5 (q_w64 (w 5 + m_t p m k))
  let w2 := m_u w1 6 (q_w64 (w1 6 + m_t p m k))
  m_u w2 7 (q_w64 (w2 7 + 1))
noncomputable def m_ms (p : Nat → Int) (m : Nat) (k : Int) (w : Nat → Int) : Int × (Nat → Int) :=
  m_sq (m_ax p m k 0) (m_sq (m_ax p m k 1) (m_ax p m k 2)) (m_tk p m k w)
theorem m_ax_fr {p : Nat → Int} {m : Nat} {k : Int} {a : Nat} (ha : a < 3) (w : Nat → Int) : m_fr w (m_ax p m k a w).2 := by
  unfold m_ax; simp only; (repeat' split) <;> first | exact m_fr_r | exact m_step_fr ha _ _
theorem m_sq_fr {f g : (Nat → Int) → Int × (Nat → Int)} (hf : ∀ w, m_fr w (f w).2) (hg : ∀ w, m_fr w (g w).2) (w : Nat → Int) : m_fr w (m_sq f g w).2 := by
  unfold m_sq; split
  · exact hf w
  · exact m_fr_t (hf w) (hg _)
theorem m_tk_fr {p : Nat → Int} {m : Nat} {k : Int} (w : Nat → Int) : m_fr w (m_tk p m k w) := by
  unfold m_tk
  exact m_fr_u (m_fr_u (m_fr_u m_fr_r (by unfold m_dy; omega)) (by unfold m_dy; omega)) (by unfold m_dy; omega)
theorem m_ms_fr {p : Nat → Int} {m : Nat} {k : Int} (w : Nat → Int) : m_fr w (m_ms p m k w).2 := by
  unfold m_ms
  exact m_fr_t (m_tk_fr w) (m_sq_fr (m_ax_fr (by omega)) (m_sq_fr (m_ax_fr (by omega)) (m_ax_fr (by omega))) _)
/-- the plan stands, whatever the row is -/
theorem m_Plan_sr {h : q_F} {w p : Nat → Int} (hP : m_Plan h p) : m_Plan (m_sr h 140 w) p := ⟨m_PA_sr hP.1 (by omega), fun m hm h0 => by rw [m_sr_n (by omega)]; exact hP.2 m hm h0⟩
theorem fn289_44s {p : Nat → Int} {h : q_F} (ok : m_ok p) (nn : m_nn p) (hP : m_Plan h p) {m a n : Nat} {k : Int} (hm : (m : Int) < p 4) (ha : a < 3) (h0 : 0 ≤ k) (h1 : k < m_l p m) :
    fn289_44 (n + 1) m k a h = if (m_ax p m k a (h 140)).1 = 0 then some (0, m_sr h 140 (m_ax p m k a (h 140)).2) else fn289_44 n m k ((a + 1 : Nat) : Int) (m_sr h 140 (m_ax p m k a (h 140)).2) := by
  have h16 := ok.2.1
  have l := m_l_r ok (m := m) (by omega)
  obtain ⟨p1, -⟩ := hP.1 m (by omega)
  rw [fn289_44, if_neg (by omega), q_w32_id (z := k + 1) (by omega) (by omega), fn286_m ok nn hP.1 hm ha (by omega) (by omega), Option.bind_some, fn286_m ok nn hP.1 hm ha (by omega) (by omega), Option.bind_some]
  unfold m_ax
  simp only
  by_cases hx : m_made p m a (k + 1) = m_made p m a k
  · rw [if_pos hx, if_pos hx]
    rw [if_neg (show ¬ (1 : Int) = 0 from by decide), m_sr_id, fn289_105, q_w32_id (by omega) (by omega), m_s1]
  · rw [if_neg hx, if_neg hx, q_w32_id (z := 3 * (m : Int)) (by omega) (by omega), q_w32_id (z := 3 * (m : Int) + a) (by omega) (by omega), if_pos (by omega), show (3 * (m : Int) + a).toNat = 3 * m + a by omega, p1 a ha, fn333_m, Option.bind_some, fn340_m ha, Option.bind_some]
    simp only [m_sr_s]
    by_cases hs : (m_step a (m_sg (m_d p m a)) (h 140)).1 = 0
    · rw [if_pos hs, if_pos hs]
      rw [if_neg (show ¬ (1 : Int) = 0 from by decide), fn289_105, q_w32_id (by omega) (by omega), m_s1]
    · rw [if_neg hs, if_neg hs]
      by_cases h2 : (m_step a (m_sg (m_d p m a)) (h 140)).2 2 = 1
      · rw [if_pos h2, if_pos h2]
        rw [if_pos rfl]
      · rw [if_neg h2, if_neg h2]
        rw [if_neg (show ¬ (1 : Int) = 0 from by decide), fn289_105, q_w32_id (by omega) (by omega), m_s1]
theorem m_ax_z (p : Nat → Int) (m : Nat) (k : Int) (a : Nat) (w : Nat → Int) : (m_ax p m k a w).1 = 0 ∨ (m_ax p m k a w).1 = 1 := by
  unfold m_ax; simp only; (repeat' split) <;> first | exact Or.inl rfl | exact Or.inr rfl
theorem fn289_m {p : Nat → Int} {h : q_F} (ok : m_ok p) (nn : m_nn p) (hP : m_Plan h p) {m : Nat} {k : Int} (hm : (m : Int) < p 4) (h0 : 0 ≤ k) (h1 : k < m_l p m) :
    fn289 m k h = some ((m_ms p m k (h 140)).1, m_sr h 140 (m_ms p m k (h 140)).2) := by
  obtain ⟨n, e⟩ := m_fu3
  have e5 : ∀ w, fn289_44 (n + 1) m k ((0 + 1 + 1 + 1 : Nat) : Int) (m_sr h 140 w) = some (1, m_sr h 140 w) := fun w => by rw [fn289_44, if_pos (by omega)]
  rw [fn289, fn275_m ok nn hP hm h0 h1, Option.bind_some, m_ud_sr, m_let, fn275_m ok nn (m_Plan_sr hP) hm h0 h1, Option.bind_some, m_ud_sr, m_let, m_ud_sr, m_let, m_sr_s, m_sr_sr, m_sr_s, m_sr_sr, e]
  have g0 : ∀ w, fn289_44 (n + 1 + 1 + 1 + 1) m k ((0 : Nat) : Int) (m_sr h 140 w) = some ((m_sq (m_ax p m k 0) (m_sq (m_ax p m k 1) (m_ax p m k 2)) w).1, m_sr h 140 (m_sq (m_ax p m k 0) (m_sq (m_ax p m k 1) (m_ax p m k 2)) w).2) := by
    intro w
    rw [fn289_44s ok nn (m_Plan_sr hP) hm (show 0 < 3 by omega) h0 h1, m_sr_s, m_sr_sr]
    unfold m_sq
    by_cases c0 : (m_ax p m k 0 w).1 = 0
    · rw [if_pos c0, if_pos c0, c0]
    · rw [if_neg c0, if_neg c0, fn289_44s ok nn (m_Plan_sr hP) hm (show 0 + 1 < 3 by omega) h0 h1, m_sr_s, m_sr_sr]
      by_cases c1 : (m_ax p m k 1 (m_ax p m k 0 w).2).1 = 0
      · rw [if_pos c1, if_pos c1, c1]
      · rw [if_neg c1, if_neg c1, fn289_44s ok nn (m_Plan_sr hP) hm (show 0 + 1 + 1 < 3 by omega) h0 h1, m_sr_s, m_sr_sr]
        by_cases c2 : (m_ax p m k 2 (m_ax p m k 1 (m_ax p m k 0 w).2).2).1 = 0
        · rw [if_pos c2, c2]
        · rw [if_neg c2, e5]
          have : (m_ax p m k 2 (m_ax p m k 1 (m_ax p m k 0 w).2).2).1 = 1 := (m_ax_z ..).resolve_left c2
          rw [this]
  exact g0 _
-- a move
noncomputable def m_rv (p : Nat → Int) (m a : Nat) (w : Nat → Int) : Nat → Int :=
  if m_sg (m_d p m a) = 0 then w else if m_sg (m_d p m a) = w (44 + a) then w else m_u w (71 + a) (q_w64 (w (71 + a) + 1))
noncomputable def m_sl (p : Nat → Int) (m : Nat) : Nat → Int → (Nat → Int) → Int × (Nat → Int)
  | 0, _, w => (1, w)
  | n + 1, k, w => if (m_ms p m k w).1 = 0 then (0, (m_ms p m k w).2) else m_sl p m n (k + 1) (m_ms p m k w).2
noncomputable def m_mm (p : Nat → Int) (m : Nat) (w : Nat → Int) : Int × (Nat → Int) :=
  m_sq (m_up p m 0) (m_sq (m_up p m 1) (m_sq (m_up p m 2) (m_sl p m (m_l p m).toNat 0))) (m_rv p m 2 (m_rv p m 1 (m_rv p m 0 w)))
theorem m_rv_fr {p : Nat → Int} {m a : Nat} (ha : a < 3) (w : Nat → Int) : m_fr w (m_rv p m a w) := by
  unfold m_rv; (repeat' split) <;> first | exact m_fr_r | exact m_fr_u m_fr_r (by unfold m_dy; omega)
theorem m_sl_fr {p : Nat → Int} {m : Nat} : ∀ (n : Nat) (k : Int) (w : Nat → Int), m_fr w (m_sl p m n k w).2 := by
  intro n
  induction n with
  | zero => intro k w; exact m_fr_r
  | succ n ih =>
    intro k w
    unfold m_sl; split
    · exact m_ms_fr w
    · exact m_fr_t (m_ms_fr w) (ih _ _)
theorem m_mm_fr {p : Nat → Int} {m : Nat} (w : Nat → Int) : m_fr w (m_mm p m w).2 := by
  unfold m_mm
  exact m_fr_t (m_fr_t (m_rv_fr (by omega) w) (m_fr_t (m_rv_fr (by omega) _) (m_rv_fr (by omega) _))) (m_sq_fr (m_up_fr (by omega)) (m_sq_fr (m_up_fr (by omega)) (m_sq_fr (m_up_fr (by omega)) (m_sl_fr _ _))) _)
theorem fn288_85_m {p : Nat → Int} (ok : m_ok p) (nn : m_nn p) {m : Nat} (hm : (m : Int) < p 4) : ∀ (n f : Nat) (k : Int) (h : q_F), 0 ≤ k → k + n = m_l p m → n < f → m_Plan h p → fn288_85 f m k h = some ((m_sl p m n k (h 140)).1, m_sr h 140 (m_sl p m n k (h 140)).2) := by
  have h16 := ok.2.1
  have l := m_l_r ok (m := m) (by omega)
  intro n
  induction n with
  | zero =>
    intro f k h hk hn hf hP
    obtain ⟨f, rfl⟩ : ∃ f', f = f' + 1 := ⟨f - 1, by omega⟩
    obtain ⟨-, p2, -⟩ := hP.1 m (by omega)
    rw [fn288_85, if_pos (by omega), Int.toNat_natCast, p2, if_pos (by omega)]
    unfold m_sl; rw [m_sr_id]
  | succ n ih =>
    intro f k h hk hn hf hP
    obtain ⟨f, rfl⟩ : ∃ f', f = f' + 1 := ⟨f - 1, by omega⟩
    obtain ⟨-, p2, -⟩ := hP.1 m (by omega)
    rw [fn288_85, if_pos (by omega), Int.toNat_natCast, p2, if_neg (by omega), fn289_m ok nn hP hm (by omega) (by omega), Option.bind_some]
    unfold m_sl
    simp only
    split
    · rfl
    · rw [q_w32_id (by omega) (by omega), ih f (k + 1) _ (by omega) (by omega) (by omega) (m_Plan_sr hP), m_sr_s, m_sr_sr]
theorem fn288_61s {p : Nat → Int} {h : q_F} (ok : m_ok p) (hP : m_Plan h p) {m a n : Nat} (hm : (m : Int) < p 4) (ha : a < 3) (h0 : h 140 0 ≠ 0) (hb : 0 ≤ h 140 (11 + a) ∧ h 140 (11 + a) ≤ 20) :
    fn288_61 (n + 1) m a h = if (m_up p m a (h 140)).1 = 0 then some (0, m_sr h 140 (m_up p m a (h 140)).2) else fn288_61 n m ((a + 1 : Nat) : Int) (m_sr h 140 (m_up p m a (h 140)).2) := by
  rw [fn288_61, if_neg (by omega), fn290_m ok hP.1 hm ha h0 hb, Option.bind_some, q_w32_id (z := (a : Int) + 1) (by omega) (by omega), m_s1]
theorem fn288_2s {p : Nat → Int} {h : q_F} (ok : m_ok p) (hP : m_Plan h p) {m a n : Nat} (hm : (m : Int) < p 4) (ha : a < 3) : fn288_2 (n + 1) m a h = fn288_2 n m ((a + 1 : Nat) : Int) (m_sr h 140 (m_rv p m a (h 140))) := by
  have h16 := ok.2.1
  obtain ⟨p1, -⟩ := hP.1 m (by omega)
  rw [fn288_2, if_neg (by omega), q_w32_id (z := 3 * (m : Int)) (by omega) (by omega), q_w32_id (z := 3 * (m : Int) + a) (by omega) (by omega), if_pos (by omega), show (3 * (m : Int) + a).toNat = 3 * m + a by omega, p1 a ha, fn333_m, Option.bind_some]
  unfold m_rv
  split
  · rw [m_sr_id, fn288_53, q_w32_id (by omega) (by omega), m_s1]
  · rw [q_w32_id (z := 44 + (a : Int)) (by omega) (by omega), if_pos (by omega), show (44 + (a : Int)).toNat = 44 + a by omega]
    split
    · rw [m_sr_id, fn288_53, q_w32_id (by omega) (by omega), m_s1]
    · rw [q_w32_id (z := 71 + (a : Int)) (by omega) (by omega), if_pos (by omega), if_pos (by omega), show (71 + (a : Int)).toNat = 71 + a by omega, m_ud_sr, m_let, fn288_53, q_w32_id (by omega) (by omega), m_s1]
/-- what the moves ask of the row -/
def m_row (w : Nat → Int) : Prop := w 0 ≠ 0 ∧ ∀ a, a < 3 → 0 ≤ w (11 + a) ∧ w (11 + a) ≤ 20
theorem m_row_fr {w w' : Nat → Int} (hr : m_row w) (hf : m_fr w w') : m_row w' := by
  refine ⟨by rw [hf 0 (by unfold m_dy; omega)]; exact hr.1, fun a ha => ?_⟩
  rw [hf (11 + a) (by unfold m_dy; omega)]; exact hr.2 a ha
theorem m_sq_z {f g : (Nat → Int) → Int × (Nat → Int)} {w : Nat → Int} (h : (f w).1 = 0) : m_sq f g w = (0, (f w).2) := by
  unfold m_sq; rw [if_pos h, ← h]
theorem m_sq_n {f g : (Nat → Int) → Int × (Nat → Int)} {w : Nat → Int} (h : (f w).1 ≠ 0) : m_sq f g w = g (f w).2 := by
  unfold m_sq; rw [if_neg h]
theorem fn288_m {p : Nat → Int} {h : q_F} (ok : m_ok p) (nn : m_nn p) (hP : m_Plan h p) {m : Nat} (hm : (m : Int) < p 4) (hr : m_row (h 140)) : fn288 m h = some ((m_mm p m (h 140)).1, m_sr h 140 (m_mm p m (h 140)).2) := by
  have h16 := ok.2.1
  have l := m_l_r ok (m := m) (by omega)
  obtain ⟨n, e⟩ := m_fu3
  have e3 : ∀ w, fn288_2 (n + 1) m ((0 + 1 + 1 + 1 : Nat) : Int) (m_sr h 140 w) = fn288_61 q_fu m ((0 : Nat) : Int) (m_sr h 140 w) := fun w => by rw [fn288_2, if_pos (by omega)]; rfl
  have e4 : ∀ w, fn288_61 (n + 1) m ((0 + 1 + 1 + 1 : Nat) : Int) (m_sr h 140 w) = fn288_85 q_fu m ((0 : Nat) : Int) (m_sr h 140 w) := fun w => by rw [fn288_61, if_pos (by omega)]; rfl
  have e0 : fn288 m h = fn288_61 q_fu m ((0 : Nat) : Int) (m_sr h 140 (m_rv p m 2 (m_rv p m 1 (m_rv p m 0 (h 140))))) := by
    rw [fn288, e]
    have g := fn288_2s (n := n + 1 + 1 + 1) ok hP hm (show 0 < 3 by omega)
    rw [fn288_2s (n := n + 1 + 1) ok (m_Plan_sr hP) hm (show 0 + 1 < 3 by omega), fn288_2s (n := n + 1) ok (m_Plan_sr (m_Plan_sr hP)) hm (show 0 + 1 + 1 < 3 by omega)] at g
    simp only [m_sr_s, m_sr_sr] at g
    rw [e3, e] at g
    exact g
  rw [e0]
  unfold m_mm
  have hr1 : m_row (m_rv p m 2 (m_rv p m 1 (m_rv p m 0 (h 140)))) := m_row_fr hr (m_fr_t (m_rv_fr (by omega) _) (m_fr_t (m_rv_fr (by omega) _) (m_rv_fr (by omega) _)))
  generalize m_rv p m 2 (m_rv p m 1 (m_rv p m 0 (h 140))) = w1 at hr1 ⊢
  rw [e, fn288_61s ok (m_Plan_sr hP) hm (show 0 < 3 by omega) (by rw [m_sr_s]; exact hr1.1) (by rw [m_sr_s]; exact hr1.2 0 (by omega)), m_sr_s, m_sr_sr]
  by_cases c0 : (m_up p m 0 w1).1 = 0
  · rw [if_pos c0, m_sq_z c0]
  · have hr2 := m_row_fr hr1 (m_up_fr (p := p) (m := m) (show 0 < 3 by omega) w1)
    rw [if_neg c0, m_sq_n c0]
    generalize (m_up p m 0 w1).2 = w2 at hr2 ⊢
    rw [fn288_61s ok (m_Plan_sr hP) hm (show 0 + 1 < 3 by omega) (by rw [m_sr_s]; exact hr2.1) (by rw [m_sr_s]; exact hr2.2 1 (by omega)), m_sr_s, m_sr_sr]
    by_cases c1 : (m_up p m 1 w2).1 = 0
    · rw [if_pos c1, m_sq_z c1]
    · have hr3 := m_row_fr hr2 (m_up_fr (p := p) (m := m) (show 1 < 3 by omega) w2)
      rw [if_neg c1, m_sq_n c1]
      show fn288_61 (n + 1 + 1) m ((0 + 1 + 1 : Nat) : Int) (m_sr h 140 (m_up p m 1 w2).2) = _
      generalize (m_up p m 1 w2).2 = w3 at hr3 ⊢
      rw [fn288_61s ok (m_Plan_sr hP) hm (show 0 + 1 + 1 < 3 by omega) (by rw [m_sr_s]; exact hr3.1) (by rw [m_sr_s]; exact hr3.2 2 (by omega)), m_sr_s, m_sr_sr]
      by_cases c2 : (m_up p m 2 w3).1 = 0
      · rw [if_pos c2, m_sq_z c2]
      · rw [if_neg c2, m_sq_n c2]
        show fn288_61 (n + 1) m ((0 + 1 + 1 + 1 : Nat) : Int) (m_sr h 140 (m_up p m 2 w3).2) = _
        rw [e4]
        have g := fn288_85_m ok nn hm (m_l p m).toNat q_fu 0 (m_sr h 140 (m_up p m 2 w3).2) (by omega) (by omega) (by have := q_fu_ge; omega) (m_Plan_sr hP)
        rw [m_sr_s, m_sr_sr] at g
        exact g
