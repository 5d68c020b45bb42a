/-! Part 98a: the reference reads a setup text: statements. -/
def r_Y (w : Nat → Int) : Prop := (1 ≤ w 0 ∧ w 0 ≤ 1000) ∧ (w 1 = 0 ∨ w 1 = 1) ∧ (w 2 = 0 ∨ w 2 = 1) ∧ (∀ a, a < 3 → ∀ i, i < 6 → m_nr i (w (8 + 3 * i + a))) ∧ (∀ a, a < 3 → 0 ≤ w (26 + a) ∧ w (26 + a) ≤ w (8 + a)) ∧ (∀ a, a < 3 → w (44 + a) = 1) ∧ ∀ j, (3 ≤ j ∧ j < 8) ∨ (29 ≤ j ∧ j < 44) ∨ (47 ≤ j ∧ j < 122) → w j = 0
def r_Ze (w : Nat → Int) : Prop := ∀ a, a < 3 → w (26 + a) = 0
theorem r_Y_len {w : Nat → Int} (Y : r_Y w) {a : Nat} (ha : a < 3) : 1 ≤ w (8 + a) ∧ w (8 + a) ≤ 2000 := (Y.2.2.2.1 a ha 0 (by omega)).1 rfl
theorem r_Y_n {w : Nat → Int} {a i : Nat} {x : Int} (Y : r_Y w) (Z : r_Ze w) (ha : a < 3) (hi : i < 6) (hx : m_nr i x) : r_Y (m_u w (8 + 3 * i + a) x) ∧ r_Ze (m_u w (8 + 3 * i + a) x) := by
  obtain ⟨y0, y1, y2, y3, y4, y5, y6⟩ := Y
  have Z' : r_Ze (m_u w (8 + 3 * i + a) x) := fun b hb => by rw [m_u_n (by omega)]; exact Z b hb
  have N : ∀ b, b < 3 → ∀ k, k < 6 → m_nr k (m_u w (8 + 3 * i + a) x (8 + 3 * k + b)) := fun b hb k hk => by
    by_cases e : b = a ∧ k = i
    · rw [e.1, e.2, m_u_s]; exact hx
    · rw [m_u_n (by omega)]; exact y3 b hb k hk
  refine ⟨⟨by rw [m_u_n (by omega)]; exact y0, by rw [m_u_n (by omega)]; exact y1, by rw [m_u_n (by omega)]; exact y2, N, fun b hb => ?_, fun b hb => by rw [m_u_n (by omega)]; exact y5 b hb, fun j hj => by rw [m_u_n (by omega)]; exact y6 j hj⟩, Z'⟩
  rw [Z' b hb]
  have := (N b hb 0 (by omega)).1 rfl
  have e : 8 + 3 * 0 + b = 8 + b := by omega
  rw [e] at this
  omega
theorem r_Y_b {w : Nat → Int} {a : Nat} {x : Int} (Y : r_Y w) (ha : a < 3) (hx : 0 ≤ x ∧ x ≤ w (8 + a)) : r_Y (m_u w (26 + a) x) := by
  obtain ⟨y0, y1, y2, y3, y4, y5, y6⟩ := Y
  refine ⟨by rw [m_u_n (by omega)]; exact y0, by rw [m_u_n (by omega)]; exact y1, by rw [m_u_n (by omega)]; exact y2, fun b hb k hk => by rw [m_u_n (by omega)]; exact y3 b hb k hk, fun b hb => ?_, fun b hb => by rw [m_u_n (by omega)]; exact y5 b hb, fun j hj => by rw [m_u_n (by omega)]; exact y6 j hj⟩
  rw [m_u_n (show 8 + b ≠ 26 + a by omega)]
  by_cases e : b = a
  · subst e; rw [m_u_s]; exact hx
  · rw [m_u_n (by omega)]; exact y4 b hb
theorem r_Y_j {w : Nat → Int} {j : Nat} {x : Int} (Y : r_Y w) (h : (j = 0 ∧ 1 ≤ x ∧ x ≤ 1000) ∨ ((j = 1 ∨ j = 2) ∧ x = 1)) : r_Y (m_u w j x) := by
  obtain ⟨y0, y1, y2, y3, y4, y5, y6⟩ := Y
  refine ⟨?_, ?_, ?_, fun b hb k hk => by rw [m_u_n (by omega)]; exact y3 b hb k hk, fun b hb => by rw [m_u_n (by omega), m_u_n (by omega)]; exact y4 b hb, fun b hb => by rw [m_u_n (by omega)]; exact y5 b hb, fun j hj => by rw [m_u_n (by omega)]; exact y6 j hj⟩
  · unfold m_u; split <;> omega
  · unfold m_u; split <;> omega
  · unfold m_u; split <;> omega
def r_S (h : q_F) : Prop := r_Y (h 140) ∧ ∀ s : Nat, h 139 23 = (s : Int) → s / 8 % 2 = 0 → r_Ze (h 140)
theorem r_fail {c : Int} {h : q_F} (Q : r_Q h) : ∃ h', fn259 c h = some (0, h') ∧ r_Q h' ∧ r_L h h' := by
  unfold fn259
  split
  · rw [m_let, m_let]
    refine ⟨_, rfl, ?_, fun k a b => by funext j; rw [q_ud_n (by omega), q_ud_n (by omega)], fun j hj => by rw [q_ud_n (by omega), q_ud_n (by omega)], by rw [q_ud_n (by omega), q_ud_n (by omega)]; exact Int.le_refl _⟩
    obtain ⟨q1, q2, q3, s, s1, s2⟩ := Q
    refine ⟨?_, ?_, ?_, s, s1, ?_⟩
    · rw [q_ud_n (by omega), q_ud_n (by omega)]; exact q1
    · rw [q_ud_n (by omega), q_ud_n (by omega), q_ud_n (by omega), q_ud_n (by omega), q_ud_n (by omega), q_ud_n (by omega)]; exact q2
    · rw [q_ud_n (by omega), q_ud_n (by omega), q_ud_n (by omega), q_ud_n (by omega), q_ud_n (by omega), q_ud_n (by omega)]; exact q3
    · rw [q_ud_n (by omega), q_ud_n (by omega)]; exact s2
  · exact ⟨h, rfl, Q, r_L_r⟩
/-- a number taken -/
theorem r_takes {p : Nat} {mn mx : Int} {h : q_F} (Q : r_Q h) (hp : p < 122) : ∃ v h', fn348 p mn mx h = some (v, h') ∧ r_Q h' ∧ r_L h h' ∧ (v = 0 ∨ (v = 1 ∧ h' 139 23 = h 139 23 ∧ ∃ x, mn ≤ x ∧ x ≤ mx ∧ h' 140 = m_u (h 140) p x)) := by
  have bad : ∀ c, ∃ v h', ((fn259 c h).bind fun x2 => some (x2.1, x2.2)) = some (v, h') ∧ r_Q h' ∧ r_L h h' ∧ (v = 0 ∨ (v = 1 ∧ h' 139 23 = h 139 23 ∧ ∃ x, mn ≤ x ∧ x ≤ mx ∧ h' 140 = m_u (h 140) p x)) := fun c => by
    obtain ⟨h', a, b, d⟩ := r_fail (c := c) Q
    exact ⟨0, h', by rw [a, Option.bind_some], b, d, Or.inl rfl⟩
  unfold fn348 fn348_16
  rw [fn355, Option.bind_some, r_rng, Option.bind_some]
  split
  · split
    · by_cases c : mn ≤ h 139 21 ∧ h 139 21 ≤ mx
      · rw [if_pos c, if_neg (by decide), if_pos (by omega), m_let, m_ud_sr, Int.toNat_natCast]
        have Q1 : r_Q (m_sr h 140 (m_u (h 140) p (h 139 21))) := by
          unfold r_Q; rw [m_sr_n (by omega)]; exact Q
        obtain ⟨g', a1, a2, a3, a4⟩ := r_adv Q1
        have L := r_N_L Q1 a3 a4
        rw [a1, Option.bind_some]
        refine ⟨1, g', rfl, a2, ⟨fun k a b => by rw [L.1 k a b, m_sr_n b], fun j hj => by rw [L.2.1 j hj, m_sr_n (by omega)], by have := L.2.2; rw [m_sr_n (by omega)] at this; exact this⟩, Or.inr ⟨rfl, ?_, h 139 21, c.1, c.2, ?_⟩⟩
        · rw [a3.2 23 (by omega) (by omega) (by omega) (by omega), m_sr_n (by omega)]
        · rw [a3.1 140 (by omega), m_sr_s]
      · rw [if_neg c, if_pos rfl]; exact bad 2
    · exact bad 1
  · exact bad 1
theorem m_ian8 : ∀ s : Nat, s < 128 → (q_ian (s : Int) 8 = 0 ↔ s / 8 % 2 = 0) := by decide +kernel
theorem m_shl : ∀ k : Nat, k < 7 → q_ishl 1 (k : Int) = ((2 ^ k : Nat) : Int) := by decide +kernel
/-- a statement begun -/
theorem r_once {k : Nat} {b may : Int} {h : q_F} (Q : r_Q h) (hk : k < 7) (hb : b = q_ishl 1 (k : Int)) : ∃ v h', fn339 b may h = some (v, h') ∧ r_Q h' ∧ r_L h h' ∧ h' 140 = h 140 ∧ (v = 0 ∨ (v = 1 ∧ may ≠ 0 ∧ ∀ s : Nat, s < 128 → h 139 23 = (s : Int) → ∃ t : Nat, h' 139 23 = (t : Int) ∧ (k = 3 → t / 8 % 2 = 1) ∧ (k ≠ 3 → t / 8 % 2 = s / 8 % 2))) := by
  subst hb
  obtain ⟨q1, q2, q3, s, s1, s2⟩ := Q
  have B := m_bits s s1 k hk
  have Q2 : r_Q (q_ud h 139 23 (q_ior (h 139 23) (q_ishl 1 (k : Int)))) := by
    refine ⟨?_, ?_, ?_, _, B.1, ?_⟩
    · rw [q_ud_n (by omega)]; exact q1
    · rw [q_ud_n (by omega), q_ud_n (by omega), q_ud_n (by omega)]; exact q2
    · rw [q_ud_n (by omega), q_ud_n (by omega), q_ud_n (by omega)]; exact q3
    · rw [q_ud_s, s2]; exact B.2.1
  have L2 : r_L h (q_ud h 139 23 (q_ior (h 139 23) (q_ishl 1 (k : Int)))) := ⟨fun k a b => by funext j; rw [q_ud_n (by omega)], fun j hj => by rw [q_ud_n (by omega)], by rw [q_ud_n (by omega)]; exact Int.le_refl _⟩
  have e140 : q_ud h 139 23 (q_ior (h 139 23) (q_ishl 1 (k : Int))) 140 = h 140 := by funext j; rw [q_ud_n (by omega)]
  have e23 : q_ud h 139 23 (q_ior (h 139 23) (q_ishl 1 (k : Int))) 139 23 = q_ior (s : Int) (q_ishl 1 (k : Int)) := by rw [q_ud_s, s2]
  have bad : ∃ v h', fn339_33 (q_ud h 139 23 (q_ior (h 139 23) (q_ishl 1 (k : Int)))) = some (v, h') ∧ r_Q h' ∧ r_L h h' ∧ h' 140 = h 140 ∧ v = 0 := by
    unfold fn339_33 fn259
    split
    · rw [m_let, m_let, Option.bind_some]
      dsimp only
      refine ⟨0, _, rfl, ?_, r_L_t L2 ⟨fun k a b => by funext j; rw [q_ud_n (by omega), q_ud_n (by omega)], fun j hj => by rw [q_ud_n (by omega), q_ud_n (by omega)], by rw [q_ud_n (by omega), q_ud_n (by omega)]; exact Int.le_refl _⟩, by funext j; rw [q_ud_n (by omega), q_ud_n (by omega), e140], rfl⟩
      obtain ⟨q1, q2, q3, s, s1, s2⟩ := Q2
      refine ⟨?_, ?_, ?_, s, s1, ?_⟩
      · rw [q_ud_n (by omega), q_ud_n (by omega)]; exact q1
      · rw [q_ud_n (by omega), q_ud_n (by omega), q_ud_n (by omega), q_ud_n (by omega), q_ud_n (by omega), q_ud_n (by omega)]; exact q2
      · rw [q_ud_n (by omega), q_ud_n (by omega), q_ud_n (by omega), q_ud_n (by omega), q_ud_n (by omega), q_ud_n (by omega)]; exact q3
      · rw [q_ud_n (by omega), q_ud_n (by omega)]; exact s2
    · exact ⟨0, _, rfl, Q2, L2, e140, rfl⟩
  obtain ⟨bv, bh, b1, b2, b3, b4, b5⟩ := bad
  unfold fn339 fn339_14
  rw [m_let, m_let, b1]
  have good : may ≠ 0 → ∃ v h', ((fn235 (q_ud h 139 23 (q_ior (h 139 23) (q_ishl 1 (k : Int))))).bind fun x6 => some ((1 : Int), x6.2)) = some (v, h') ∧ r_Q h' ∧ r_L h h' ∧ h' 140 = h 140 ∧ (v = 0 ∨ (v = 1 ∧ may ≠ 0 ∧ ∀ s : Nat, s < 128 → h 139 23 = (s : Int) → ∃ t : Nat, h' 139 23 = (t : Int) ∧ (k = 3 → t / 8 % 2 = 1) ∧ (k ≠ 3 → t / 8 % 2 = s / 8 % 2))) := fun hmay => by
    obtain ⟨g', a1, a2, a3, a4⟩ := r_adv Q2
    rw [a1, Option.bind_some]
    refine ⟨1, g', rfl, a2, r_L_t L2 (r_N_L Q2 a3 a4), by rw [a3.1 140 (by omega), e140], Or.inr ⟨rfl, hmay, fun s' h1 h2 => ?_⟩⟩
    obtain rfl : s = s' := by omega
    exact ⟨_, by rw [a3.2 23 (by omega) (by omega) (by omega) (by omega), e23]; exact B.2.1, B.2.2.1, B.2.2.2⟩
  have stop : ∃ v h', some (bv, bh) = some (v, h') ∧ r_Q h' ∧ r_L h h' ∧ h' 140 = h 140 ∧ (v = 0 ∨ (v = 1 ∧ may ≠ 0 ∧ ∀ s : Nat, s < 128 → h 139 23 = (s : Int) → ∃ t : Nat, h' 139 23 = (t : Int) ∧ (k = 3 → t / 8 % 2 = 1) ∧ (k ≠ 3 → t / 8 % 2 = s / 8 % 2))) := ⟨bv, bh, rfl, b2, b3, b4, Or.inl b5⟩
  split
  · rw [if_neg (by decide)]
    split
    · exact stop
    · rename_i c; exact good c
  · rw [if_pos rfl]; exact stop
def r_RS (f : Option (Int × q_F)) (h : q_F) : Prop := ∃ v h', f = some (v, h') ∧ r_Q h' ∧ r_L h h' ∧ (v = 0 ∨ (v = 1 ∧ r_S h'))
theorem r_RS_t {f : Option (Int × q_F)} {h h1 : q_F} (L : r_L h h1) (g : r_RS f h1) : r_RS f h := by
  obtain ⟨v, h', a, b, c, d⟩ := g
  exact ⟨v, h', a, b, r_L_t L c, d⟩
theorem r_RS_e {f : Option (Int × q_F)} {h : q_F} (g : r_RS f h) : r_RS (f.bind fun x => some (x.1, x.2)) h := by
  obtain ⟨v, h', a, b, c, d⟩ := g
  exact ⟨v, h', by rw [a, Option.bind_some], b, c, d⟩
/-- a number of an axis, then the rest -/
theorem r_takeN {a i : Nat} {mn mx : Int} {h : q_F} {K : Int × q_F → Option (Int × q_F)} (Q : r_Q h) (Y : r_Y (h 140)) (Z : r_Ze (h 140)) (s : Nat) (hs : h 139 23 = (s : Int)) (ha : a < 3) (hi : i < 6) (hx : ∀ x, mn ≤ x → x ≤ mx → m_nr i x) (h0 : ∀ g, r_Q g → r_RS (K (0, g)) g) (h1 : ∀ g, r_Q g → r_Y (g 140) → r_Ze (g 140) → g 139 23 = (s : Int) → r_RS (K (1, g)) g) : r_RS ((fn348 ((8 + 3 * i + a : Nat) : Int) mn mx h).bind K) h := by
  obtain ⟨v, h', a1, a2, a3, a4⟩ := r_takes (p := 8 + 3 * i + a) (mn := mn) (mx := mx) Q (by omega)
  rw [a1, Option.bind_some]
  rcases a4 with rfl | ⟨rfl, e23, x, x1, x2, x3⟩
  · exact r_RS_t a3 (h0 h' a2)
  · have g := r_Y_n Y Z ha hi (hx x x1 x2)
    rw [← x3] at g
    exact r_RS_t a3 (h1 h' a2 g.1 g.2 (e23.trans hs))
theorem r_RS_0 {h : q_F} (Q : r_Q h) : r_RS (some ((0 : Int), h)) h := ⟨0, h, rfl, Q, r_L_r, Or.inl rfl⟩
theorem r_readAxis {a : Nat} {h : q_F} (ha : a < 3) (Q : r_Q h) (hS : r_S h) : r_RS (fn314 a h) h := by
  obtain ⟨s, s1, s2⟩ := Q.2.2.2
  have body : ∀ p0 : Int, (p0 ≠ 0 → s / 8 % 2 = 0) → r_RS (fn314_19 a p0 (q_ishl 1 (a : Int)) h) h := fun p0 hp0 => by
    obtain ⟨v, h1, a1, a2, a3, a4, a5⟩ := r_once (k := a) (may := p0) Q (by omega) rfl
    rw [fn314_19, a1, Option.bind_some]
    rcases a5 with rfl | ⟨rfl, may, a5⟩
    · dsimp only; rw [if_pos rfl]; exact r_RS_t a3 (r_RS_0 a2)
    · obtain ⟨t, t1, -, t3⟩ := a5 s s1 s2
      have z := hp0 may
      have Y1 : r_Y (h1 140) := by rw [a4]; exact hS.1
      have Z1 : r_Ze (h1 140) := by rw [a4]; exact hS.2 s s2 z
      have tz : t / 8 % 2 = 0 := by rw [t3 (by omega)]; exact z
      dsimp only
      rw [if_neg (show ¬ (1 : Int) = 0 by decide), q_w32_id (z := 8 + (a : Int)) (by omega) (by omega), show 8 + (a : Int) = ((8 + 3 * 0 + a : Nat) : Int) by omega]
      refine r_RS_t a3 (r_takeN a2 Y1 Z1 t t1 ha (by omega) (fun x x1 x2 => by unfold m_nr; omega) (fun g Q => by dsimp only; rw [if_pos rfl]; unfold fn314_91 fn314_92; rw [if_pos rfl]; exact r_RS_0 Q) fun g Q Y Z es => ?_)
      dsimp only
      rw [if_neg (show ¬ (1 : Int) = 0 by decide), q_w32_id (z := 11 + (a : Int)) (by omega) (by omega), show 11 + (a : Int) = ((8 + 3 * 1 + a : Nat) : Int) by omega]
      refine r_takeN Q Y Z t es ha (by omega) (fun x x1 x2 => by unfold m_nr; omega) (fun g Q => by dsimp only; rw [if_pos rfl]; unfold fn314_91 fn314_92; rw [if_pos rfl]; exact r_RS_0 Q) fun g Q Y Z es => ?_
      dsimp only
      rw [if_neg (show ¬ (1 : Int) = 0 by decide), q_w32_id (z := 14 + (a : Int)) (by omega) (by omega), show 14 + (a : Int) = ((8 + 3 * 2 + a : Nat) : Int) by omega]
      refine r_takeN Q Y Z t es ha (by omega) (fun x x1 x2 => by unfold m_nr; omega) (fun g Q => by dsimp only; rw [if_pos rfl]; unfold fn314_91 fn314_92; rw [if_pos rfl]; exact r_RS_0 Q) fun g Q Y Z es => ?_
      dsimp only
      rw [if_neg (show ¬ (1 : Int) = 0 by decide), q_w32_id (z := 17 + (a : Int)) (by omega) (by omega), show 17 + (a : Int) = ((8 + 3 * 3 + a : Nat) : Int) by omega]
      refine r_takeN Q Y Z t es ha (by omega) (fun x x1 x2 => by unfold m_nr; omega) (fun g Q => by dsimp only; rw [if_pos rfl]; unfold fn314_91 fn314_92; rw [if_pos rfl]; exact r_RS_0 Q) fun g Q Y Z es => ?_
      have len := r_Y_len Y ha
      dsimp only
      unfold fn314_92
      rw [if_neg (show ¬ (1 : Int) = 0 by decide), if_neg (show ¬ (1 : Int) = 0 by decide), q_w32_id (z := 8 + (a : Int)) (by omega) (by omega), if_pos (by omega), q_w32_id (z := 20 + (a : Int)) (by omega) (by omega), show 20 + (a : Int) = ((8 + 3 * 4 + a : Nat) : Int) by omega, show (8 + (a : Int)).toNat = 8 + a by omega]
      refine r_takeN Q Y Z t es ha (by omega) (fun x x1 x2 => by unfold m_nr; omega) (fun g Q => by dsimp only; rw [if_pos rfl]; exact r_RS_0 Q) fun g Q Y Z es => ?_
      dsimp only
      rw [if_neg (show ¬ (1 : Int) = 0 by decide), q_w32_id (z := 23 + (a : Int)) (by omega) (by omega), show 23 + (a : Int) = ((8 + 3 * 5 + a : Nat) : Int) by omega]
      refine r_takeN Q Y Z t es ha (by omega) (fun x x1 x2 => by unfold m_nr; omega) (fun g Q => by dsimp only; rw [if_pos rfl]; exact r_RS_0 Q) fun g Q Y Z es => ?_
      dsimp only
      rw [if_neg (show ¬ (1 : Int) = 0 by decide)]
      exact ⟨1, g, rfl, Q, r_L_r, Or.inr ⟨rfl, Y, fun _ _ _ => Z⟩⟩
  unfold fn314
  rw [s2]
  by_cases c : q_ian (s : Int) 8 = 0
  · rw [if_pos c]; exact body 1 (fun _ => (m_ian8 s s1).mp c)
  · rw [if_neg c]; exact body 0 (fun h9 => absurd rfl h9)
