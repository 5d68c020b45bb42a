/-! Part 98zb: the input's bytes are the same on both sides. -/
theorem s_255 : Int32.ofInt 255 = 255 := rfl
theorem s_255t (i : Nat) (h : ¬ i < 8) : Nat.testBit 255 i = false := Nat.testBit_lt_two_pow (Nat.lt_of_lt_of_le (by decide : 255 < 2 ^ 8) (Nat.pow_le_pow_right (by decide) (by omega)))
theorem s_and8 (x y : BitVec 32) (h : ∀ i, i < 8 → x.getLsbD i = y.getLsbD i) : x &&& 255#32 = y &&& 255#32 := by
  apply BitVec.eq_of_getLsbD_eq
  intro i hi
  rw [BitVec.getLsbD_and, BitVec.getLsbD_and, BitVec.getLsbD_ofNat]
  by_cases c : i < 8
  · rw [h i c]
  · rw [s_255t i c]; simp
theorem s_i8 (x : Int) : q_ian (q_i8 x) 255 = q_ian x 255 := by
  unfold q_ian q_i8
  rw [Int32.ofInt_toInt]
  congr 1
  generalize Int32.ofInt x = y
  apply Int32.toBitVec_inj.mp
  rw [Int32.toBitVec_and, Int32.toBitVec_and, Int8.toBitVec_toInt32, Int32.toBitVec_toInt8]
  refine s_and8 _ _ fun i h => ?_
  rw [BitVec.getLsbD_signExtend, BitVec.getLsbD_signExtend]
  have h2 : i < 32 := by omega
  simp [h, h2]
theorem s_sh (x : BitVec 32) (k : Nat) (hk : k ≤ 24) : x >>> k &&& 255#32 = x.sshiftRight k &&& 255#32 := by
  refine s_and8 _ _ fun i h => ?_
  rw [BitVec.getLsbD_ushiftRight, BitVec.getLsbD_sshiftRight, if_pos (by omega)]
  have h2 : ¬ 32 ≤ i := by omega
  simp [h2]
theorem s_by0 (x : Int) : 0 ≤ q_ian x 255 := by
  unfold q_ian
  have h : (Int32.ofInt x &&& Int32.ofInt 255).toBitVec.toNat ≤ 255 := by
    rw [Int32.toBitVec_and, BitVec.toNat_and]
    exact Nat.and_le_right
  have e : (Int32.ofInt x &&& Int32.ofInt 255).toInt = (Int32.ofInt x &&& Int32.ofInt 255).toBitVec.toInt := rfl
  rw [e, BitVec.toInt_eq_toNat_of_lt (by omega)]
  omega
theorem s_sh24 (x : Int) : q_ian (q_iushr x 24) 255 = q_ian (q_ishr x 24) 255 := by
  unfold q_ian q_iushr q_ishr
  rw [Int32.ofInt_toInt, Int32.ofInt_toInt]
  congr 1
  generalize Int32.ofInt x = y
  have e1 : ((Int32.ofInt 24).toUInt32 &&& Int32.toUInt32 31) = 24 := rfl
  have e2 : (Int32.ofInt 24 &&& 31) = 24 := rfl
  rw [e1, e2]
  apply Int32.toBitVec_inj.mp
  simp
  exact s_sh _ 24 (by omega)
theorem s_sh16 (x : Int) : q_ian (q_iushr x 16) 255 = q_ian (q_ishr x 16) 255 := by
  unfold q_ian q_iushr q_ishr
  rw [Int32.ofInt_toInt, Int32.ofInt_toInt]
  congr 1
  generalize Int32.ofInt x = y
  have e1 : ((Int32.ofInt 16).toUInt32 &&& Int32.toUInt32 31) = 16 := rfl
  have e2 : (Int32.ofInt 16 &&& 31) = 16 := rfl
  rw [e1, e2]
  apply Int32.toBitVec_inj.mp
  simp
  exact s_sh _ 16 (by omega)
theorem s_sh8 (x : Int) : q_ian (q_iushr x 8) 255 = q_ian (q_ishr x 8) 255 := by
  unfold q_ian q_iushr q_ishr
  rw [Int32.ofInt_toInt, Int32.ofInt_toInt]
  congr 1
  generalize Int32.ofInt x = y
  have e1 : ((Int32.ofInt 8).toUInt32 &&& Int32.toUInt32 31) = 8 := rfl
  have e2 : (Int32.ofInt 8 &&& 31) = 8 := rfl
  rw [e1, e2]
  apply Int32.toBitVec_inj.mp
  simp
  exact s_sh _ 8 (by omega)
theorem s_sh0 (x : Int) : q_ian x 255 = q_ian (q_ishr x 0) 255 := by
  unfold q_ian q_ishr
  rw [Int32.ofInt_toInt]
  congr 1
  generalize Int32.ofInt x = y
  have e2 : (Int32.ofInt 0 &&& 31) = 0 := rfl
  rw [e2]
  apply Int32.toBitVec_inj.mp
  simp
/-- one byte more -/
def s_p1 (B : Nat → Int) (n : Nat) (x : Int) : Nat → Int := fun k => if k = n then x else B k
theorem s_cb {B : Nat → Int} {n : Nat} {v x : Int} {g : q_F} (T : s_ct B n g) (h : n < 600) (hx : q_ian v 255 = x) : ∃ g', fn60 1 v g = some (0, g') ∧ s_ct (s_p1 B n x) (n + 1) g' ∧ c_FI g g' := by
  obtain ⟨t1, t2, t3⟩ := T
  rw [fn60, t1, if_neg (by omega), if_neg (by omega), if_pos (by omega), m_let, m_let, q_ud_n (show ¬ (1 = 1 + 1 ∧ 1 = ((n : Nat) : Int).toNat) by omega), t1, q_w32_id (by omega) (by omega), Int.toNat_natCast]
  refine ⟨_, rfl, ⟨by rw [q_ud_s]; omega, by omega, fun k hk => ?_⟩, fun k k1 k2 => by funext j; rw [q_ud_n (by omega), q_ud_n (by omega)]⟩
  rw [q_ud_n (show ¬ (2 = 1 ∧ k = 1) by omega)]
  unfold s_p1
  by_cases e : k = n
  · rw [if_pos e, e, show (1 + 1) = 2 from rfl, q_ud_s, s_i8, s_i8]; exact hx
  · rw [if_neg e, q_ud_n (by omega)]; exact t3 k (by omega)
noncomputable def s_pw (B : Nat → Int) (n : Nat) (v : Int) : Nat → Int := s_p1 (s_p1 (s_p1 (s_p1 B n (q_ian (q_ishr v 24) 255)) (n + 1) (q_ian (q_ishr v 16) 255)) (n + 2) (q_ian (q_ishr v 8) 255)) (n + 3) (q_ian (q_ishr v 0) 255)
theorem s_cword {B : Nat → Int} {n : Nat} {v : Int} {g : q_F} (T : s_ct B n g) (h : n + 4 ≤ 600) : ∃ g', fn62 1 v g = some (0, g') ∧ s_ct (s_pw B n v) (n + 4) g' ∧ c_FI g g' := by
  obtain ⟨g1, a1, a2, a3⟩ := s_cb (v := q_iushr v 24) T (by omega) (s_sh24 v)
  obtain ⟨g2, b1, b2, b3⟩ := s_cb (v := q_iushr v 16) a2 (by omega) (s_sh16 v)
  obtain ⟨g3, d1, d2, d3⟩ := s_cb (v := q_iushr v 8) b2 (by omega) (s_sh8 v)
  obtain ⟨g4, e1, e2, e3⟩ := s_cb (v := v) d2 (by omega) (s_sh0 v)
  refine ⟨g4, ?_, e2, c_FI_t a3 (c_FI_t b3 (c_FI_t d3 e3))⟩
  rw [fn62, a1, Option.bind_some, b1, Option.bind_some, d1, Option.bind_some, e1, Option.bind_some]
theorem s_rb {B : Nat → Int} {n f : Nat} {v u : Int} {g : q_F} (T : s_rt B n g) (h : n < 600) (hu : 0 ≤ u ∧ u ≤ 24) : ∃ g', fn238_3 (f + 1) v u g = fn238_3 f v (u - 8) g' ∧ s_rt (s_p1 B n (q_ian (q_ishr v u) 255)) (n + 1) g' ∧ r_FI g g' := by
  obtain ⟨t1, t2, t3, t4⟩ := T
  rw [fn238_3, if_neg (by omega), t1, if_pos (by omega), m_let, m_let, q_ud_n (show ¬ (139 = 150 ∧ 14 = ((n : Nat) : Int).toNat) by omega), t1, q_w32_id (z := (n : Int) + 1) (by omega) (by omega), q_w32_id (by omega) (by omega), show u + -8 = u - 8 by omega, Int.toNat_natCast]
  refine ⟨_, rfl, ⟨by rw [q_ud_s]; omega, by omega, fun k hk => ?_, fun k hk => ?_⟩, fun k k1 k2 => by funext j; rw [q_ud_n (by omega), q_ud_n (by omega)], fun j h7 h14 => by rw [q_ud_n (by omega), q_ud_n (by omega)]⟩
  · rw [q_ud_n (show ¬ (150 = 139 ∧ k = 14) by omega)]
    unfold s_p1
    by_cases e : k = n
    · rw [if_pos e, e, q_ud_s]
    · rw [if_neg e, q_ud_n (by omega)]; exact t3 k (by omega)
  · unfold s_p1
    by_cases e : k = n
    · rw [if_pos e]; exact s_by0 _
    · rw [if_neg e]; exact t4 k (by omega)
theorem s_rword {B : Nat → Int} {n : Nat} {v : Int} {g : q_F} (T : s_rt B n g) (h : n + 4 ≤ 600) : ∃ g', fn238 v g = some (0, g') ∧ s_rt (s_pw B n v) (n + 4) g' ∧ r_FI g g' := by
  obtain ⟨f, hf⟩ : ∃ f', q_fu = f' + 5 := ⟨q_fu - 5, by have := q_fu_ge; omega⟩
  rw [fn238, hf]
  obtain ⟨g1, a1, a2, a3⟩ := s_rb (f := f + 4) (v := v) (u := 24) T (by omega) (by omega)
  obtain ⟨g2, b1, b2, b3⟩ := s_rb (f := f + 3) (v := v) (u := 16) a2 (by omega) (by omega)
  obtain ⟨g3, d1, d2, d3⟩ := s_rb (f := f + 2) (v := v) (u := 8) b2 (by omega) (by omega)
  obtain ⟨g4, e1, e2, e3⟩ := s_rb (f := f + 1) (v := v) (u := 0) d2 (by omega) (by omega)
  refine ⟨g4, ?_, e2, r_FI_t a3 (r_FI_t b3 (r_FI_t d3 e3))⟩
  rw [a1, show (24 : Int) - 8 = 16 by decide, b1, show (16 : Int) - 8 = 8 by decide, d1, show (8 : Int) - 8 = 0 by decide, e1, fn238_3, if_pos (by decide)]
noncomputable def s_pa (B : Nat → Int) (n : Nat) (a b c d e : Int) : Nat → Int := s_pw (s_pw (s_pw (s_pw (s_pw B n a) (n + 4) b) (n + 4 + 4) c) (n + 4 + 4 + 4) d) (n + 4 + 4 + 4 + 4) e
theorem s_capp {B : Nat → Int} {n : Nat} {a b c d e : Int} {h : q_F} (T : s_ct B n h) : ∃ h' B' n', fn156 a b c d e h = some (if (n : Int) ≤ 580 then (n : Int) + 20 else -1, h') ∧ s_ct B' n' h' ∧ c_FI h h' ∧ (if n ≤ 580 then B' = s_pa B n a b c d e ∧ n' = n + 20 else B' = B ∧ n' = n) := by
  have t2 := T.2.1
  unfold fn156
  rw [T.1]
  by_cases c1 : n ≤ 580
  · obtain ⟨g1, x1, x2, x3⟩ := s_cword (v := a) T (by omega)
    obtain ⟨g2, y1, y2, y3⟩ := s_cword (v := b) x2 (by omega)
    obtain ⟨g3, z1, z2, z3⟩ := s_cword (v := c) y2 (by omega)
    obtain ⟨g4, u1, u2, u3⟩ := s_cword (v := d) z2 (by omega)
    obtain ⟨g5, w1, w2, w3⟩ := s_cword (v := e) u2 (by omega)
    rw [if_pos (show (n : Int) ≤ 580 by omega), if_pos (show (n : Int) ≤ 580 by omega), x1, Option.bind_some, y1, Option.bind_some, z1, Option.bind_some, u1, Option.bind_some, w1, Option.bind_some]
    dsimp only
    rw [w2.1]
    exact ⟨g5, _, _, by rw [show ((n + 4 + 4 + 4 + 4 + 4 : Nat) : Int) = (n : Int) + 20 by omega], w2, c_FI_t x3 (c_FI_t y3 (c_FI_t z3 (c_FI_t u3 w3))), by rw [if_pos c1]; exact ⟨rfl, rfl⟩⟩
  · rw [if_neg (show ¬ (n : Int) ≤ 580 by omega), if_neg (show ¬ (n : Int) ≤ 580 by omega)]
    exact ⟨h, B, n, rfl, T, fun _ _ _ => rfl, by rw [if_neg c1]; exact ⟨rfl, rfl⟩⟩
theorem s_rapp {B : Nat → Int} {n : Nat} {a b c d e : Int} {h : q_F} (T : s_rt B n h) : ∃ h' B' n', fn237 a b c d e h = some (if (n : Int) ≤ 580 then (n : Int) + 20 else -1, h') ∧ s_rt B' n' h' ∧ r_FI h h' ∧ (if n ≤ 580 then B' = s_pa B n a b c d e ∧ n' = n + 20 else B' = B ∧ n' = n) := by
  have t2 := T.2.1
  have T0 : s_rt B n (q_ud h 139 7 0) := ⟨by rw [q_ud_n (by omega)]; exact T.1, t2, fun k hk => by rw [q_ud_n (by omega)]; exact T.2.2.1 k hk, T.2.2.2⟩
  have F0 : r_FI h (q_ud h 139 7 0) := ⟨fun k k1 k2 => by funext j; rw [q_ud_n (by omega)], fun j h7 h14 => by rw [q_ud_n (by omega)]⟩
  unfold fn237
  rw [m_let, T0.1, q_w32_id (by omega) (by omega)]
  by_cases c1 : n ≤ 580
  · obtain ⟨g1, x1, x2, x3⟩ := s_rword (v := a) T0 (by omega)
    obtain ⟨g2, y1, y2, y3⟩ := s_rword (v := b) x2 (by omega)
    obtain ⟨g3, z1, z2, z3⟩ := s_rword (v := c) y2 (by omega)
    obtain ⟨g4, u1, u2, u3⟩ := s_rword (v := d) z2 (by omega)
    obtain ⟨g5, w1, w2, w3⟩ := s_rword (v := e) u2 (by omega)
    rw [if_pos (show (n : Int) + 20 ≤ 600 by omega), if_pos (show (n : Int) ≤ 580 by omega), x1, Option.bind_some, y1, Option.bind_some, z1, Option.bind_some, u1, Option.bind_some, w1, Option.bind_some]
    dsimp only
    rw [w2.1]
    exact ⟨g5, _, _, by rw [show ((n + 4 + 4 + 4 + 4 + 4 : Nat) : Int) = (n : Int) + 20 by omega], w2, r_FI_t F0 (r_FI_t x3 (r_FI_t y3 (r_FI_t z3 (r_FI_t u3 w3)))), by rw [if_pos c1]; exact ⟨rfl, rfl⟩⟩
  · rw [if_neg (show ¬ (n : Int) + 20 ≤ 600 by omega), if_neg (show ¬ (n : Int) ≤ 580 by omega)]
    exact ⟨_, B, n, rfl, T0, F0, by rw [if_neg c1]; exact ⟨rfl, rfl⟩⟩
