/-! Part 98zzc: the time of moves made without detection; the direction behind them. -/
theorem a_sw_o {a j : Nat} {w : Nat → Int} (h : j ≠ 53 + a) : m_sw a w j = w j := by
  unfold m_sw; split
  · rfl
  · exact m_u_n h
theorem a_sx_o {a j : Nat} {w : Nat → Int} (h : j ≠ 53 + a) : m_sx a w j = w j := by
  unfold m_sx; rw [a_sw_o h]; split
  · rfl
  · exact m_u_n h
theorem a_sm_o {a j : Nat} {d e s : Int} {w : Nat → Int} (h1 : j ≠ 26 + a) (h2 : j ≠ 29 + a) (h3 : j ≠ 35 + a) (h4 : j ≠ 53 + a) : (m_sm a d e s w).2 j = w j := by
  unfold m_sm; split
  · split
    · exact m_u_n h3
    · show m_sx a (m_u w (26 + a) (q_w64 (w (26 + a) + d))) j = w j
      rw [a_sx_o h4]; exact m_u_n h1
  · exact m_u_n h2
theorem a_st5 {a : Nat} {d : Int} {w : Nat → Int} (ha : a < 3) : (m_step a d w).2 5 = w 5 := by
  unfold m_step; split
  · rw [a_sm_o (by omega) (by omega) (by omega) (by omega), m_s0_o (by omega) (by omega) (by omega)]
  · rw [a_sm_o (by omega) (by omega) (by omega) (by omega), m_s0_o (by omega) (by omega) (by omega)]
theorem a_stb {a b : Nat} {d : Int} {w : Nat → Int} (ha : a < 3) (hb : b < 3) (e : b ≠ a) : (m_step a d w).2 (44 + b) = w (44 + b) := by
  unfold m_step; split
  · rw [a_sm_o (by omega) (by omega) (by omega) (by omega), m_s0_o (by omega) (by omega) (by omega)]
  · rw [a_sm_o (by omega) (by omega) (by omega) (by omega), m_s0_o (by omega) (by omega) (by omega)]
theorem a_s0d {a c : Nat} {d : Int} {w : Nat → Int} (hc : c ≠ 44) : m_s0 a c d w (44 + a) = d := by
  unfold m_s0; rw [m_u_n (by omega), m_u_s]
theorem a_std {a : Nat} {d : Int} {w : Nat → Int} (ha : a < 3) : (m_step a d w).2 (44 + a) = d := by
  unfold m_step; split
  · rw [a_sm_o (by omega) (by omega) (by omega) (by omega), a_s0d (by omega)]
  · rw [a_sm_o (by omega) (by omega) (by omega) (by omega), a_s0d (by omega)]
/-- an axis in a step of a move -/
noncomputable def a_axw (p : Nat → Int) (m : Nat) (k : Int) (a : Nat) (w : Nat → Int) : Nat → Int := if m_made p m a (k + 1) = m_made p m a k then w else (m_step a (m_sg (m_d p m a)) w).2
theorem a_ax0 {p : Nat → Int} {m a : Nat} {k : Int} {w : Nat → Int} (ha : a < 3) (h2 : w 2 = 0) : m_ax p m k a w = (1, a_axw p m k a w) ∧ a_axw p m k a w 2 = 0 ∧ a_axw p m k a w 5 = w 5 ∧ (∀ b, b < 3 → b ≠ a → a_axw p m k a w (44 + b) = w (44 + b)) ∧ a_axw p m k a w (44 + a) = if m_made p m a (k + 1) = m_made p m a k then w (44 + a) else m_sg (m_d p m a) := by
  unfold m_ax a_axw
  dsimp only
  by_cases c : m_made p m a (k + 1) = m_made p m a k
  · simp only [if_pos c]
    exact ⟨trivial, h2, trivial, fun _ _ _ => trivial, trivial⟩
  · simp only [if_neg c]
    have e2 : (m_step a (m_sg (m_d p m a)) w).2 2 = 0 := (m_step_fr ha _ w 2 (by unfold m_dy; omega)).trans h2
    refine ⟨?_, e2, a_st5 ha, fun b hb hn => a_stb ha hb hn, a_std ha⟩
    split
    · rfl
    · rw [if_neg (by rw [e2]; decide)]
theorem a_sq1 {f g : (Nat → Int) → Int × (Nat → Int)} {w w1 : Nat → Int} (h : f w = (1, w1)) : m_sq f g w = g w1 := by
  rw [m_sq_n (by rw [h]; exact (show (1 : Int) ≠ 0 from by decide)), h]
/-- a step of a move -/
theorem a_ms0 {p : Nat → Int} {m : Nat} {k : Int} {w : Nat → Int} (h2 : w 2 = 0) : ∃ w', m_ms p m k w = (1, w') ∧ w' 2 = 0 ∧ w' 5 = q_w64 (w 5 + m_t p m k) ∧ ∀ b, b < 3 → w' (44 + b) = if m_made p m b (k + 1) = m_made p m b k then w (44 + b) else m_sg (m_d p m b) := by
  have t2 : m_tk p m k w 2 = 0 := by unfold m_tk; rw [m_u_n (by omega), m_u_n (by omega), m_u_n (by omega)]; exact h2
  have t5 : m_tk p m k w 5 = q_w64 (w 5 + m_t p m k) := by unfold m_tk; rw [m_u_n (by omega), m_u_n (by omega), m_u_s]
  have tb : ∀ b, m_tk p m k w (44 + b) = w (44 + b) := fun b => by unfold m_tk; rw [m_u_n (by omega), m_u_n (by omega), m_u_n (by omega)]
  obtain ⟨a1, a2, a3, a4, a5⟩ := a_ax0 (p := p) (m := m) (k := k) (show 0 < 3 by omega) t2
  obtain ⟨b1, b2, b3, b4, b5⟩ := a_ax0 (p := p) (m := m) (k := k) (show 1 < 3 by omega) a2
  obtain ⟨c1, c2, c3, c4, c5⟩ := a_ax0 (p := p) (m := m) (k := k) (show 2 < 3 by omega) b2
  refine ⟨_, ?_, c2, ?_, ?_⟩
  · unfold m_ms
    rw [a_sq1 a1, a_sq1 b1, c1]
  · rw [c3, b3, a3, t5]
  · intro b hb
    rcases m_c3 hb with rfl | rfl | rfl
    · rw [c4 0 (by omega) (by omega), b4 0 (by omega) (by omega), a5, tb]
    · rw [c4 1 (by omega) (by omega), b5, a4 1 (by omega) (by omega), tb]
    · rw [c5, b4 2 (by omega) (by omega), a4 2 (by omega) (by omega), tb]
/-- the same but for whole turns of a long -/
def a_cg (x y : Int) : Prop := ∃ c : Int, x = y + c * 18446744073709551616
theorem a_cg_r {x : Int} : a_cg x x := ⟨0, by omega⟩
theorem a_cg_t {x y z : Int} (h1 : a_cg x y) (h2 : a_cg y z) : a_cg x z := by
  obtain ⟨c, hc⟩ := h1; obtain ⟨d, hd⟩ := h2
  exact ⟨c + d, by omega⟩
theorem a_cg_a {x y z : Int} (h : a_cg x y) : a_cg (x + z) (y + z) := by
  obtain ⟨c, hc⟩ := h
  exact ⟨c, by omega⟩
theorem a_cg_w {z : Int} : a_cg (q_w64 z) z := (q_w64_s z).2.2
theorem a_cg_v {x y : Int} (h : a_cg x y) (h1 : -9223372036854775808 ≤ y) (h2 : y < 9223372036854775808) : q_w64 x = y := by
  obtain ⟨c, hc⟩ := h
  obtain ⟨w1, w2, d, hd⟩ := q_w64_s x
  omega
/-- the time of the steps from k on -/
noncomputable def a_ts (p : Nat → Int) (m : Nat) (k : Int) : Nat → Int
  | 0 => 0
  | n + 1 => m_t p m k + a_ts p m (k + 1) n
theorem a_sl0 {p : Nat → Int} {m : Nat} : ∀ (n : Nat) (k : Int) (w : Nat → Int), w 2 = 0 → ∃ w', m_sl p m n k w = (1, w') ∧ w' 2 = 0 ∧ a_cg (w' 5) (w 5 + a_ts p m k n) ∧ ∀ b, b < 3 → (w' (44 + b) = w (44 + b) ∧ m_made p m b (k + n) = m_made p m b k) ∨ w' (44 + b) = m_sg (m_d p m b) := by
  intro n
  induction n with
  | zero =>
    intro k w h2
    refine ⟨w, rfl, h2, ?_, fun b _ => Or.inl ⟨rfl, ?_⟩⟩
    · rw [a_ts, Int.add_zero]; exact a_cg_r
    · rw [show k + ((0 : Nat) : Int) = k by omega]
  | succ n ih =>
    intro k w h2
    obtain ⟨w1, a1, a2, a3, a4⟩ := a_ms0 (p := p) (m := m) (k := k) h2
    obtain ⟨w2, b1, b2, b3, b4⟩ := ih (k + 1) w1 a2
    refine ⟨w2, ?_, b2, ?_, fun b hb => ?_⟩
    · rw [m_sl, a1, if_neg (show ¬ (1 : Int) = 0 by decide), b1]
    · rw [a_ts]
      refine a_cg_t b3 ?_
      have := a_cg_a (z := a_ts p m (k + 1) n) (a_cg_w (z := w 5 + m_t p m k))
      rw [← a3] at this
      rw [show w 5 + (m_t p m k + a_ts p m (k + 1) n) = w 5 + m_t p m k + a_ts p m (k + 1) n by omega]
      exact this
    · have q := a4 b hb
      rcases b4 b hb with ⟨r1, r2⟩ | r
      · by_cases c : m_made p m b (k + 1) = m_made p m b k
        · rw [if_pos c] at q
          refine Or.inl ⟨r1.trans q, ?_⟩
          rw [show k + ((n + 1 : Nat) : Int) = k + 1 + (n : Int) by omega]
          exact r2.trans c
        · rw [if_neg c] at q
          exact Or.inr (r1.trans q)
      · exact Or.inr r
theorem a_upl0 {a : Nat} {d : Int} (ha : a < 3) : ∀ (n : Nat) (w : Nat → Int), w 2 = 0 → ∃ w', m_upl a d n w = (1, w') ∧ w' 2 = 0 ∧ a_cg (w' 5) (w 5 + n * q_ldv 1000000 (w 0)) ∧ (∀ b, b < 3 → b ≠ a → w' (44 + b) = w (44 + b)) ∧ (w' (44 + a) = w (44 + a) ∨ w' (44 + a) = d) := by
  intro n
  induction n with
  | zero =>
    intro w h2
    refine ⟨w, rfl, h2, ?_, fun _ _ _ => rfl, Or.inl rfl⟩
    rw [show w 5 + ((0 : Nat) : Int) * q_ldv 1000000 (w 0) = w 5 by simp]; exact a_cg_r
  | succ n ih =>
    intro w h2
    have k2 : (m_step a d (m_u (m_u w 5 (q_w64 (w 5 + q_ldv 1000000 (w 0)))) (62 + a) (q_w64 (m_u w 5 (q_w64 (w 5 + q_ldv 1000000 (w 0))) (62 + a) + 1)))).2 2 = 0 := by
      rw [m_step_fr ha _ _ 2 (by unfold m_dy; omega), m_u_n (by omega), m_u_n (by omega)]; exact h2
    have k0 : (m_step a d (m_u (m_u w 5 (q_w64 (w 5 + q_ldv 1000000 (w 0)))) (62 + a) (q_w64 (m_u w 5 (q_w64 (w 5 + q_ldv 1000000 (w 0))) (62 + a) + 1)))).2 0 = w 0 := by
      rw [m_step_fr ha _ _ 0 (by unfold m_dy; omega), m_u_n (by omega), m_u_n (by omega)]
    have k5 : (m_step a d (m_u (m_u w 5 (q_w64 (w 5 + q_ldv 1000000 (w 0)))) (62 + a) (q_w64 (m_u w 5 (q_w64 (w 5 + q_ldv 1000000 (w 0))) (62 + a) + 1)))).2 5 = q_w64 (w 5 + q_ldv 1000000 (w 0)) := by
      rw [a_st5 ha, m_u_n (by omega), m_u_s]
    have kb : ∀ b, b < 3 → b ≠ a → (m_step a d (m_u (m_u w 5 (q_w64 (w 5 + q_ldv 1000000 (w 0)))) (62 + a) (q_w64 (m_u w 5 (q_w64 (w 5 + q_ldv 1000000 (w 0))) (62 + a) + 1)))).2 (44 + b) = w (44 + b) := fun b hb hn => by
      rw [a_stb ha hb hn, m_u_n (by omega), m_u_n (by omega)]
    have kd := a_std (a := a) (d := d) (w := m_u (m_u w 5 (q_w64 (w 5 + q_ldv 1000000 (w 0)))) (62 + a) (q_w64 (m_u w 5 (q_w64 (w 5 + q_ldv 1000000 (w 0))) (62 + a) + 1))) ha
    have e : m_upl a d (n + 1) w = m_upl a d n (m_step a d (m_u (m_u w 5 (q_w64 (w 5 + q_ldv 1000000 (w 0)))) (62 + a) (q_w64 (m_u w 5 (q_w64 (w 5 + q_ldv 1000000 (w 0))) (62 + a) + 1)))).2 := by
      rw [m_upl]
      split
      · rfl
      · rw [if_neg (by rw [k2]; decide)]
    rw [e]
    generalize (m_step a d (m_u (m_u w 5 (q_w64 (w 5 + q_ldv 1000000 (w 0)))) (62 + a) (q_w64 (m_u w 5 (q_w64 (w 5 + q_ldv 1000000 (w 0))) (62 + a) + 1)))).2 = w1 at k2 k0 k5 kb kd
    obtain ⟨w', b1, b2, b3, b4, b5⟩ := ih w1 k2
    refine ⟨w', b1, b2, ?_, fun b hb hn => (b4 b hb hn).trans (kb b hb hn), Or.inr ?_⟩
    · rw [k0] at b3
      refine a_cg_t b3 ?_
      have := a_cg_a (z := (n : Int) * q_ldv 1000000 (w 0)) (a_cg_w (z := w 5 + q_ldv 1000000 (w 0)))
      rw [← k5] at this
      have e2 : w 5 + ((n + 1 : Nat) : Int) * q_ldv 1000000 (w 0) = w 5 + q_ldv 1000000 (w 0) + (n : Int) * q_ldv 1000000 (w 0) := by
        rw [m_s1, Int.add_mul]; omega
      rw [e2]; exact this
    · rcases b5 with q | q
      · exact q.trans kd
      · exact q
/-- what the compensation of an axis asks -/
noncomputable def a_up (p w : Nat → Int) (m a : Nat) : Int := if w 1 = 0 then 0 else if m_d p m a = 0 then 0 else if m_sg (m_d p m a) = w (44 + a) then 0 else w (11 + a)
theorem a_up0 {p : Nat → Int} {m a : Nat} {w : Nat → Int} (ha : a < 3) (h2 : w 2 = 0) (h11 : 0 ≤ w (11 + a)) : ∃ w', m_up p m a w = (1, w') ∧ w' 2 = 0 ∧ a_cg (w' 5) (w 5 + a_up p w m a * q_ldv 1000000 (w 0)) ∧ (∀ b, b < 3 → b ≠ a → w' (44 + b) = w (44 + b)) ∧ (w' (44 + a) = w (44 + a) ∨ (m_d p m a ≠ 0 ∧ w' (44 + a) = m_sg (m_d p m a))) ∧ m_fr w w' := by
  have fr := m_up_fr (p := p) (m := m) ha w
  have same : m_up p m a w = (1, w) → a_up p w m a = 0 → ∃ w', m_up p m a w = (1, w') ∧ w' 2 = 0 ∧ a_cg (w' 5) (w 5 + a_up p w m a * q_ldv 1000000 (w 0)) ∧ (∀ b, b < 3 → b ≠ a → w' (44 + b) = w (44 + b)) ∧ (w' (44 + a) = w (44 + a) ∨ (m_d p m a ≠ 0 ∧ w' (44 + a) = m_sg (m_d p m a))) ∧ m_fr w w' := fun h h9 =>
    ⟨w, h, h2, by rw [h9, Int.zero_mul, Int.add_zero]; exact a_cg_r, fun _ _ _ => rfl, Or.inl rfl, m_fr_r⟩
  by_cases c0 : m_sg (m_d p m a) = 0
  · have z := a_sg0.mp c0
    refine same (by unfold m_up; rw [if_pos c0]) ?_
    unfold a_up
    by_cases q : w 1 = 0
    · rw [if_pos q]
    · rw [if_neg q, if_pos z]
  · have z : m_d p m a ≠ 0 := fun h9 => c0 (a_sg0.mpr h9)
    by_cases c1 : m_sg (m_d p m a) = w (44 + a)
    · refine same (by unfold m_up; rw [if_neg c0, if_pos c1]) ?_
      unfold a_up
      by_cases q : w 1 = 0
      · rw [if_pos q]
      · rw [if_neg q, if_neg z, if_pos c1]
    · by_cases c2 : w 1 = 0
      · exact same (by unfold m_up; rw [if_neg c0, if_neg c1, if_pos c2]) (by unfold a_up; rw [if_pos c2])
      · have e : m_up p m a w = m_upl a (m_sg (m_d p m a)) (w (11 + a)).toNat w := by unfold m_up; rw [if_neg c0, if_neg c1, if_neg c2]
        have e2 : a_up p w m a = w (11 + a) := by unfold a_up; rw [if_neg c2, if_neg z, if_neg c1]
        obtain ⟨w', b1, b2, b3, b4, b5⟩ := a_upl0 (d := m_sg (m_d p m a)) ha (w (11 + a)).toNat w h2
        refine ⟨w', e.trans b1, b2, ?_, b4, ?_, ?_⟩
        · rw [e2]
          rw [show (((w (11 + a)).toNat : Nat) : Int) = w (11 + a) by omega] at b3
          exact b3
        · rcases b5 with q | q
          · exact Or.inl q
          · exact Or.inr ⟨z, q⟩
        · rw [e.trans b1] at fr; exact fr
theorem a_rv_o {p : Nat → Int} {m a j : Nat} {w : Nat → Int} (h : j < 71) : m_rv p m a w j = w j := by
  unfold m_rv; (repeat' split) <;> first | rfl | exact m_u_n (by omega)
theorem a_made_0 {p : Nat → Int} (ok : m_ok p) (nn : m_nn p) {m a : Nat} (hm : (m : Int) < p 4) : m_made p m a 0 = 0 := by
  have r := ok.2.1
  have l := m_l_r ok (m := m) (by omega)
  have l1 := m_l_1 ok (m := m) (by omega) (nn m hm)
  unfold m_made
  rw [Int.mul_zero, Int.zero_mul, Int.zero_add, m_idv (by omega) (by omega) (by omega) (by omega)]
  exact Int.ediv_eq_zero_of_lt (by omega) (by omega)
theorem a_made_l {p : Nat → Int} (ok : m_ok p) (nn : m_nn p) {m a : Nat} (hm : (m : Int) < p 4) (ha : a < 3) : m_made p m a (m_l p m) = m_abs (m_d p m a) := by
  have r := ok.2.1
  have l := m_l_r ok (m := m) (by omega)
  have l1 := m_l_1 ok (m := m) (by omega) (nn m hm)
  have d0 := m_abs_0 (m_d p m a)
  have dl : m_abs (m_d p m a) ≤ 2000 := (m_abs_r (k := 2000) (m_d_r ok (m := m) (by omega) ha)).2
  have pr := m_mulr (x := m_l p m) (l := m_abs (m_d p m a)) (a := 2000) (b := 2000) (by omega) (by omega) (by omega) (by omega)
  have e : 2 * m_l p m * m_abs (m_d p m a) + m_l p m = m_l p m + (2 * m_l p m) * m_abs (m_d p m a) := by omega
  have e2 : 2 * m_l p m * m_abs (m_d p m a) = 2 * (m_l p m * m_abs (m_d p m a)) := Int.mul_assoc _ _ _
  unfold m_made
  rw [m_idv (by omega) (by omega) (by omega) (by omega), e, Int.add_mul_ediv_left _ _ (by omega), Int.ediv_eq_zero_of_lt (by omega) (by omega), Int.zero_add]
/-- the time of a move -/
noncomputable def a_tm (p : Nat → Int) (m : Nat) : Int := m_cmp p m * q_ldv 1000000 (p 0) + a_ts p m 0 (m_l p m).toNat
/-- the row stands ahead of the move m of the path p -/
def a_at (p w : Nat → Int) (m : Nat) : Prop := w 2 = 0 ∧ w 0 = p 0 ∧ w 1 = p 1 ∧ (∀ a, a < 3 → w (11 + a) = p (11 + a)) ∧ ∀ a, a < 3 → w (44 + a) = m_dir p a m
theorem a_mm0 {p : Nat → Int} (ok : m_ok p) (nn : m_nn p) {m : Nat} {w : Nat → Int} (hm : (m : Int) < p 4) (H : a_at p w m) : ∃ w', m_mm p m w = (1, w') ∧ a_at p w' (m + 1) ∧ a_cg (w' 5) (w 5 + a_tm p m) := by
  have r := ok.2.1
  have l := m_l_r ok (m := m) (by omega)
  obtain ⟨h2, h0, h1, h11, h44⟩ := H
  have b11 : ∀ a, a < 3 → 0 ≤ w (11 + a) := fun a ha => by rw [h11 a ha]; exact (ok.2.2.1 a ha).2.2.1
  have rv : ∀ j, j < 71 → m_rv p m 2 (m_rv p m 1 (m_rv p m 0 w)) j = w j := fun j hj => by rw [a_rv_o hj, a_rv_o hj, a_rv_o hj]
  unfold m_mm
  have r2 := rv 2 (by omega)
  have r0 := rv 0 (by omega)
  have r1 := rv 1 (by omega)
  have r5 := rv 5 (by omega)
  have r11 : ∀ a, a < 3 → m_rv p m 2 (m_rv p m 1 (m_rv p m 0 w)) (11 + a) = w (11 + a) := fun a ha => rv _ (by omega)
  have r44 : ∀ a, a < 3 → m_rv p m 2 (m_rv p m 1 (m_rv p m 0 w)) (44 + a) = w (44 + a) := fun a ha => rv _ (by omega)
  generalize m_rv p m 2 (m_rv p m 1 (m_rv p m 0 w)) = w0 at r2 r0 r1 r5 r11 r44
  obtain ⟨w1, a1, a2, a3, a4, a5, a6⟩ := a_up0 (p := p) (m := m) (show 0 < 3 by omega) (r2.trans h2) (by rw [r11 0 (by omega)]; exact b11 0 (by omega))
  have a0 := a6 0 (by unfold m_dy; omega)
  have a01 := a6 1 (by unfold m_dy; omega)
  have a11 : ∀ a, a < 3 → w1 (11 + a) = w (11 + a) := fun a ha => (a6 (11 + a) (by unfold m_dy; omega)).trans (r11 a ha)
  obtain ⟨w2, b1, b2, b3, b4, b5, b6⟩ := a_up0 (p := p) (m := m) (show 1 < 3 by omega) a2 (by rw [a11 1 (by omega)]; exact b11 1 (by omega))
  have b0 := b6 0 (by unfold m_dy; omega)
  have b01 := b6 1 (by unfold m_dy; omega)
  have c11 : ∀ a, a < 3 → w2 (11 + a) = w (11 + a) := fun a ha => (b6 (11 + a) (by unfold m_dy; omega)).trans (a11 a ha)
  obtain ⟨w3, c1, c2, c3, c4, c5, c6⟩ := a_up0 (p := p) (m := m) (show 2 < 3 by omega) b2 (by rw [c11 2 (by omega)]; exact b11 2 (by omega))
  obtain ⟨w4, d1, d2, d3, d4⟩ := a_sl0 (p := p) (m := m) (m_l p m).toNat 0 w3 c2
  have fs := m_sl_fr (p := p) (m := m) (m_l p m).toNat 0 w3
  rw [d1] at fs
  have fs : m_fr w3 w4 := fs
  have q0 : w4 0 = p 0 := by rw [fs 0 (by unfold m_dy; omega), c6 0 (by unfold m_dy; omega), b0, a0, r0, h0]
  have q1 : w4 1 = p 1 := by rw [fs 1 (by unfold m_dy; omega), c6 1 (by unfold m_dy; omega), b01, a01, r1, h1]
  have q11 : ∀ a, a < 3 → w4 (11 + a) = p (11 + a) := fun a ha => by rw [fs (11 + a) (by unfold m_dy; omega), c6 (11 + a) (by unfold m_dy; omega), c11 a ha, h11 a ha]
  -- the directions
  have dir : ∀ a, a < 3 → (w3 (44 + a) = m_dir p a m ∨ (m_d p m a ≠ 0 ∧ w3 (44 + a) = m_sg (m_d p m a))) → w4 (44 + a) = m_dir p a (m + 1) := fun a ha h9 => by
    rw [m_dir]
    by_cases z : m_d p m a = 0
    · rw [if_pos z]
      have e3 : w3 (44 + a) = m_dir p a m := by
        rcases h9 with q | ⟨q, -⟩
        · exact q
        · exact absurd z q
      rcases d4 a ha with ⟨q, -⟩ | q
      · exact q.trans e3
      · -- a still axis makes no step
        have st : ∀ (n : Nat) (k : Int) (u : Nat → Int), 0 ≤ k → k + n ≤ m_l p m → u 2 = 0 → ∀ u', m_sl p m n k u = (1, u') → u' (44 + a) = u (44 + a) := by
          intro n
          induction n with
          | zero => intro k u _ _ _ u' hu; have := congrArg Prod.snd hu; rw [← show u = u' from this]
          | succ n ih =>
            intro k u k0 k1 u2 u' hu
            obtain ⟨v, v1, v2, -, v4⟩ := a_ms0 (p := p) (m := m) (k := k) u2
            rw [m_sl, v1, if_neg (show ¬ (1 : Int) = 0 by decide)] at hu
            rw [ih (k + 1) v (by omega) (by omega) v2 u' hu, v4 a ha, if_pos (by rw [a_made0 ok nn hm z, a_made0 ok nn hm z])]
        exact (st (m_l p m).toNat 0 w3 (by omega) (by omega) c2 w4 d1).trans e3
    · rw [if_neg z]
      rcases d4 a ha with ⟨-, q⟩ | q
      · exfalso
        rw [show (0 : Int) + ((m_l p m).toNat : Int) = m_l p m by omega, a_made_l ok nn hm ha, a_made_0 ok nn hm] at q
        exact z (m_abs_z.mp q)
      · exact q
  have e0 : w1 (44 + 0) = m_dir p 0 m ∨ (m_d p m 0 ≠ 0 ∧ w1 (44 + 0) = m_sg (m_d p m 0)) := by
    rcases a5 with q | q
    · exact Or.inl (q.trans ((r44 0 (by omega)).trans (h44 0 (by omega))))
    · exact Or.inr q
  have e1 : w1 (44 + 1) = m_dir p 1 m := (a4 1 (by omega) (by omega)).trans ((r44 1 (by omega)).trans (h44 1 (by omega)))
  have e1' : w2 (44 + 1) = m_dir p 1 m ∨ (m_d p m 1 ≠ 0 ∧ w2 (44 + 1) = m_sg (m_d p m 1)) := by
    rcases b5 with q | q
    · exact Or.inl (q.trans e1)
    · exact Or.inr q
  have e2 : w2 (44 + 2) = m_dir p 2 m := (b4 2 (by omega) (by omega)).trans ((a4 2 (by omega) (by omega)).trans ((r44 2 (by omega)).trans (h44 2 (by omega))))
  have e2' : w3 (44 + 2) = m_dir p 2 m ∨ (m_d p m 2 ≠ 0 ∧ w3 (44 + 2) = m_sg (m_d p m 2)) := by
    rcases c5 with q | q
    · exact Or.inl (q.trans e2)
    · exact Or.inr q
  have x0 : w3 (44 + 0) = w1 (44 + 0) := (c4 0 (by omega) (by omega)).trans (b4 0 (by omega) (by omega))
  have x1 : w3 (44 + 1) = w2 (44 + 1) := c4 1 (by omega) (by omega)
  refine ⟨w4, ?_, ⟨d2, q0, q1, q11, fun a ha => ?_⟩, ?_⟩
  · rw [a_sq1 a1, a_sq1 b1, a_sq1 c1, d1]
  · rcases m_c3 ha with rfl | rfl | rfl
    · exact dir 0 (by omega) (by rw [x0]; exact e0)
    · exact dir 1 (by omega) (by rw [x1]; exact e1')
    · exact dir 2 (by omega) e2'
  · -- the time
    have up : ∀ (a : Nat) (u : Nat → Int), a < 3 → u 1 = p 1 → u (11 + a) = p (11 + a) → u (44 + a) = m_dir p a m → a_up p u m a = if p 1 = 0 then 0 else m_st p m a := fun a u ha u1 u11 u44 => by
      unfold a_up m_st m_tn
      rw [u1, u11, u44, m_dir]
      by_cases c : p 1 = 0
      · rw [if_pos c, if_pos c]
      · rw [if_neg c, if_neg c]
        by_cases z : m_d p m a = 0
        · rw [if_pos z, if_pos z]
        · rw [if_neg z, if_neg z, if_neg z]
          by_cases q : m_sg (m_d p m a) = m_dir p a m
          · rw [if_pos q, if_pos q, if_pos rfl]
          · rw [if_neg q, if_neg q, if_neg (by decide)]
    rw [up 0 w0 (by omega) (r1.trans h1) ((r11 0 (by omega)).trans (h11 0 (by omega))) ((r44 0 (by omega)).trans (h44 0 (by omega))), r0, h0, r5] at a3
    rw [up 1 w1 (by omega) (a01.trans (r1.trans h1)) ((a11 1 (by omega)).trans (h11 1 (by omega))) e1, a0, r0, h0] at b3
    rw [up 2 w2 (by omega) (b01.trans (a01.trans (r1.trans h1))) ((c11 2 (by omega)).trans (h11 2 (by omega))) e2, b0, a0, r0, h0] at c3
    have f1 := a_cg_t b3 (a_cg_a a3)
    have f2 := a_cg_t c3 (a_cg_a f1)
    have f3 := a_cg_t d3 (a_cg_a f2)
    have e9 : w 5 + a_tm p m = w 5 + (if p 1 = 0 then 0 else m_st p m 0) * q_ldv 1000000 (p 0) + (if p 1 = 0 then 0 else m_st p m 1) * q_ldv 1000000 (p 0) + (if p 1 = 0 then 0 else m_st p m 2) * q_ldv 1000000 (p 0) + a_ts p m 0 (m_l p m).toNat := by
      unfold a_tm m_cmp
      split
      · omega
      · rw [Int.add_mul, Int.add_mul]; omega
    rw [e9]; exact f3
/-- the time of the moves from m on -/
noncomputable def a_TT (p : Nat → Int) (m : Nat) : Nat → Int
  | 0 => 0
  | d + 1 => a_tm p m + a_TT p (m + 1) d
theorem a_co_o {m j : Nat} {w : Nat → Int} (h : j < 47 ∨ 50 ≤ j) : m_co m w j = w j := by
  unfold m_co; rw [m_u_n (by omega), m_u_n (by omega), m_u_n (by omega)]
theorem a_fin_o {n j : Nat} {w : Nat → Int} (h : j < 74) (h4 : j ≠ 4) : m_fin n w j = w j := by
  unfold m_fin; rw [m_u_n h4]; unfold m_cp; rw [if_neg (by omega)]
theorem a_mk0 {p : Nat → Int} (ok : m_ok p) (nn : m_nn p) {n : Nat} (hn : (n : Int) ≤ p 4) : ∀ (d m : Nat) (w : Nat → Int), m + d = n → a_at p w m → ∃ w', m_mk p n d m w = ((n : Int), w') ∧ w' 2 = 0 ∧ a_cg (w' 5) (w 5 + a_TT p m d) := by
  intro d
  induction d with
  | zero =>
    intro m w hm H
    refine ⟨m_fin n w, rfl, ?_, ?_⟩
    · rw [a_fin_o (by omega) (by omega)]; exact H.1
    · rw [a_fin_o (by omega) (by omega), a_TT, Int.add_zero]; exact a_cg_r
  | succ d ih =>
    intro m w hm H
    obtain ⟨w1, a1, a2, a3⟩ := a_mm0 ok nn (m := m) (by omega) H
    have at2 : a_at p (m_co m w1) (m + 1) := by
      obtain ⟨x1, x2, x3, x4, x5⟩ := a2
      exact ⟨(a_co_o (by omega)).trans x1, (a_co_o (by omega)).trans x2, (a_co_o (by omega)).trans x3, fun a ha => (a_co_o (by omega)).trans (x4 a ha), fun a ha => (a_co_o (by omega)).trans (x5 a ha)⟩
    obtain ⟨w', b1, b2, b3⟩ := ih (m + 1) (m_co m w1) (by omega) at2
    refine ⟨w', ?_, b2, ?_⟩
    · rw [m_mk, a1, if_neg (show ¬ (1 : Int) = 0 by decide)]; exact b1
    · rw [a_co_o (by omega)] at b3
      rw [a_TT]
      have := a_cg_t b3 (a_cg_a a3)
      rw [show w 5 + (a_tm p m + a_TT p (m + 1) d) = w 5 + a_tm p m + a_TT p (m + 1) d by omega]
      exact this
/-- how large the time may be -/
theorem a_ldv_r {z : Int} (h : 1 ≤ z) (h2 : z ≤ 5000) : 0 ≤ q_ldv 1000000 z ∧ q_ldv 1000000 z ≤ 1000000 := by
  rw [m_ldv (by omega) (by omega) (by omega) (by omega)]
  exact ⟨Int.ediv_nonneg (by omega) (by omega), Int.ediv_le_self _ (by omega)⟩
theorem a_ts_r {p : Nat → Int} (ok : m_ok p) (nn : m_nn p) {m : Nat} (hm : (m : Int) < p 4) : ∀ (n : Nat) (k : Int), 0 ≤ k → k + n ≤ m_l p m → 0 ≤ a_ts p m k n ∧ a_ts p m k n ≤ 1000000 * n := by
  intro n
  induction n with
  | zero => intro k _ _; rw [a_ts]; omega
  | succ n ih =>
    intro k h0 h1
    have i := ih (k + 1) (by omega) (by omega)
    have s := m_sp_r ok nn (k := k) hm h0 (by omega)
    have t := a_ldv_r s.1 s.2
    have e : m_t p m k = q_ldv 1000000 (m_sp p m k) := rfl
    rw [a_ts]; omega
theorem a_tm_r {p : Nat → Int} (ok : m_ok p) (nn : m_nn p) {m : Nat} (hm : (m : Int) < p 4) : 0 ≤ a_tm p m ∧ a_tm p m ≤ 2060000000 := by
  have r := ok.2.1
  have l := m_l_r ok (m := m) (by omega)
  have s := a_ts_r ok nn hm (m_l p m).toNat 0 (by omega) (by omega)
  have z0 := ok.1
  have t := a_ldv_r (z := p 0) (by omega) (by omega)
  have s0 := m_st_r ok (m := m) (show 0 < 3 by omega)
  have s1 := m_st_r ok (m := m) (show 1 < 3 by omega)
  have s2 := m_st_r ok (m := m) (show 2 < 3 by omega)
  have c : 0 ≤ m_cmp p m ∧ m_cmp p m ≤ 60 := by unfold m_cmp; split <;> omega
  have pr := m_mulr (x := m_cmp p m) (l := q_ldv 1000000 (p 0)) (a := 60) (b := 1000000) c.1 c.2 t.1 t.2
  unfold a_tm; omega
theorem a_TT_r {p : Nat → Int} (ok : m_ok p) (nn : m_nn p) : ∀ (d m : Nat), (m : Int) + d ≤ p 4 → 0 ≤ a_TT p m d ∧ a_TT p m d ≤ 2060000000 * d := by
  intro d
  induction d with
  | zero => intro m _; rw [a_TT]; omega
  | succ d ih =>
    intro m h
    have i := ih (m + 1) (by omega)
    have t := a_tm_r ok nn (m := m) (by omega)
    rw [a_TT]; omega
