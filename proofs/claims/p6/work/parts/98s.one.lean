/-! Part 98s: a number is taken alike by both sides. -/
noncomputable def s_mn (st sl : Nat) : Int := if st < 3 then q_lgv 1 sl else if st = 3 then 0 else 1
noncomputable def s_mx (N : Nat → Int) (st sl : Nat) : Int := if st < 3 then (if sl = 4 then N (6 * st) else q_lgv 2 sl) else if st = 3 then N (6 * sl) else 1000
theorem s_114 {st sl : Nat} (ok : s_ok st sl) (h : q_F) : fn114 st sl h = some (s_mn st sl) := by
  unfold s_ok at ok
  unfold fn114 s_mn
  by_cases e4 : st = 4
  · rw [if_pos (by omega), if_neg (by omega), if_neg (by omega)]
  · rw [if_neg (by omega)]
    by_cases e3 : st = 3
    · rw [if_pos (by omega), if_neg (by omega), if_pos e3]
    · rw [if_neg (by omega), if_pos (by omega), show (1 : Int) = ((1 : Nat) : Int) from rfl, c_ents (by omega), Option.bind_some]
theorem s_106 {st sl : Nat} (ok : s_ok st sl) (h : q_F) : fn106 st sl h = some (s_mx (h 4) st sl) := by
  unfold s_ok at ok
  unfold fn106 s_mx
  by_cases e4 : st = 4
  · rw [if_pos (by omega), if_neg (by omega), if_neg (by omega)]
  · rw [if_neg (by omega)]
    by_cases e3 : st = 3
    · have t := c_T115 (a := sl) (i := 0) (h := h) (by omega) (by omega)
      have t' : fn115 (sl : Int) 0 h = some (h 4 (6 * sl)) := t
      rw [if_pos (by omega), if_neg (by omega), if_pos e3, t', Option.bind_some]
    · rw [if_neg (show ¬ (st : Int) = 3 by omega), if_pos (show st < 3 by omega)]
      by_cases e5 : sl = 4
      · have t := c_T115 (a := st) (i := 0) (h := h) (by omega) (by omega)
        have t' : fn115 (st : Int) 0 h = some (h 4 (6 * st)) := t
        rw [if_pos (show (sl : Int) = 4 by omega), if_pos e5, t', Option.bind_some]
      · rw [if_neg (show ¬ (sl : Int) = 4 by omega), if_neg e5, show (2 : Int) = ((2 : Nat) : Int) from rfl, c_ents (by omega), Option.bind_some]
theorem s_keep {st sl : Nat} {v : Int} {h : q_F} (ok : s_ok st sl) : fn113 st sl v h = some (0, q_ud h (s_c1 st) (s_c2 st sl) v) := by
  unfold s_ok at ok
  unfold s_c1 s_c2
  by_cases h3 : st < 3
  · rw [if_pos h3, if_pos h3]; exact c_keepA h3 (by omega)
  · rw [if_neg h3, if_neg h3]
    unfold fn113
    by_cases e3 : st = 3
    · rw [if_neg (by omega), if_pos (by omega), c_put (by omega) (by omega), Option.bind_some, if_pos e3, if_pos e3, Int.toNat_natCast]
    · rw [if_pos (by omega), if_neg e3, if_neg e3, m_let]
theorem s_R_err {B : Nat → Int} {n p s b e : Nat} {c g : q_F} {k : Int} (R : s_R B n p s c g) (hk : k ≠ 0) (hb : g 139 20 = (b : Int)) : ∃ c' g', ((fn103 k b (q_ud c 3 6 (e : Int))).bind fun x4 => some ((0 : Int), x4.2)) = some (0, c') ∧ ((fn259 k g).bind fun x2 => some (x2.1, x2.2)) = some (0, g') ∧ s_E c' g' := by
  obtain ⟨-, -, -, -, ⟨-, h17⟩, -⟩ := R
  rw [s_103, s_259 h17, Option.bind_some, Option.bind_some]
  exact ⟨_, _, rfl, rfl, s_E_i hk hb⟩
/-- a number -/
theorem s_simN {B : Nat → Int} {n p s st sl : Nat} {c g : q_F} {mn mx : Int} (R : s_R B n p s c g) (ok : s_ok st sl) (hmn : mn = s_mn st sl) (hmx : mx = s_mx (c 4) st sl) : ∃ c' g', fn118 1 st sl c = some (0, c') ∧ ((fn348 (s_pl' st sl : Nat) mn mx g = some (1, g') ∧ ∃ p', p ≤ p' ∧ s_R B n p' s c' g' ∧ g' 140 1 = g 140 1 ∧ g' 140 2 = g 140 2) ∨ (fn348 (s_pl' st sl : Nat) mn mx g = some (0, g') ∧ s_E c' g')) := by
  subst hmn hmx
  have R0 := R
  obtain ⟨T, hp, RT, X, ⟨hc, hg⟩, ⟨hc5, hg18⟩, hs, cs, gs⟩ := R
  obtain ⟨T0, hn, t20, tz, T1⟩ := RT
  obtain ⟨u, n1, n2⟩ := s_num (st := st) (sl := sl) T hp hn
  have t2 := T.2.1
  have ble := s_run_le (P := s_pb) (B := B) 600 p hn
  have bge := s_run_ge (P := s_pb) (B := B) (n := n) 600 p
  have eb : s_b B n p = s_run s_pb B n 600 p := rfl
  rw [← eb] at ble bge
  rw [n1]
  generalize s_b B n p = b at *
  have ele := s_run_le (P := s_pd) (B := B) 600 b ble
  have ege := s_run_ge (P := s_pd) (B := B) (n := n) 600 b
  have ee : s_d B n b = s_run s_pd B n 600 b := rfl
  rw [← ee] at ele ege
  have e36 : q_ud c 3 6 ((s_d B n b : Nat) : Int) 3 6 = ((s_d B n b : Nat) : Int) := q_ud_s _ _ _ _
  by_cases dg : b < n ∧ s_pd (B b) = true
  · have bd := s_pd_i.mp dg.2
    have ego : b < s_d B n b := s_run_go dg.1 dg.2 (by omega)
    have nl : s_pl (B b) = false := decide_eq_false (by omega)
    obtain ⟨k22, k19, k21⟩ := (T1 dg.1).2.1 nl dg.2
    unfold fn118_72 fn118_93 fn118_125 fn348 fn348_16
    rw [e36, if_pos k22, fn355, Option.bind_some, k19, t20, q_w32_id (z := ((s_d B n b : Nat) : Int) - (b : Int)) (by omega) (by omega), if_neg (by omega)]
    by_cases l4 : ((s_d B n b : Nat) : Int) - (b : Int) ≤ 4
    · rw [if_pos l4, if_pos l4, s_114 ok, Option.bind_some, s_106 ok, Option.bind_some, r_rng, Option.bind_some, k21 (by omega), n2 (by omega), show q_ud c 3 6 ((s_d B n b : Nat) : Int) 4 = c 4 by funext j; rw [q_ud_n (by omega)]]
      generalize hv : s_v B b (s_d B n b - b) = v
      have bad := s_R_err (e := s_d B n b) (k := 2) R0 (by decide) t20
      obtain ⟨c', g', b1, b2, b3⟩ := bad
      by_cases c1 : v < s_mn st sl
      · rw [if_pos c1, if_neg (show ¬ (s_mn st sl ≤ v ∧ v ≤ s_mx (c 4) st sl) by omega), if_pos rfl]
        exact ⟨c', g', b1, Or.inr ⟨b2, b3⟩⟩
      · rw [if_neg c1]
        by_cases c2 : v ≤ s_mx (c 4) st sl
        · rw [if_pos c2, if_pos (show s_mn st sl ≤ v ∧ v ≤ s_mx (c 4) st sl by omega), if_neg (show ¬ (1 : Int) = 0 by decide), s_keep ok, Option.bind_some]
          have pl : s_pl' st sl < 122 ∧ s_pl' st sl ≠ 1 ∧ s_pl' st sl ≠ 2 := by unfold s_pl'; unfold s_ok at ok; split <;> (try split) <;> omega
          have c1b : 3 ≤ s_c1 st ∧ (s_c1 st = 3 → s_c2 st sl = 2) := by unfold s_c1 s_c2; unfold s_ok at ok; split <;> (try split) <;> omega
          rw [if_pos (by omega), m_let, Int.toNat_natCast, m_ud_sr g 140]
          have Tg : s_rt B n (m_sr g 140 (m_u (g 140) (s_pl' st sl) v)) := ⟨by rw [m_sr_n (by omega)]; exact T0.1, T0.2.1, fun k hk => by rw [m_sr_n (by omega)]; exact T0.2.2.1 k hk, T0.2.2.2⟩
          obtain ⟨g', a1, a2, a3⟩ := s_tok (p := s_d B n b) Tg (by rw [m_sr_n (by omega)]; exact k19) ele
          rw [a1, Option.bind_some]
          have q39 : ∀ j, j ≠ 19 → j ≠ 20 → j ≠ 21 → j ≠ 22 → g' 139 j = g 139 j := fun j h1 h2 h3 h4 => by rw [a2.2 j h1 h2 h3 h4, m_sr_n (by omega)]
          have q40 : g' 140 = m_u (g 140) (s_pl' st sl) v := by rw [a2.1 140 (by omega), m_sr_s]
          have q3 : ∀ j, j ≠ 2 → j ≠ 6 → q_ud (q_ud c 3 6 ((s_d B n b : Nat) : Int)) (s_c1 st) (s_c2 st sl) v 3 j = c 3 j := fun j h1 h2 => by
            rw [q_ud_n (fun h9 => by have := c1b.2 h9.1.symm; omega), q_ud_n (by omega)]
          refine ⟨q_ud (q_ud c 3 6 ((s_d B n b : Nat) : Int)) (s_c1 st) (s_c2 st sl) v, g', rfl, Or.inl ⟨rfl, s_d B n b, by omega, ⟨s_ct_3 (s_ct_3 T (by omega)) c1b.1, ?_, a3, ?_, ⟨?_, ?_⟩, ⟨?_, ?_⟩, hs, ?_, ?_⟩, ?_, ?_⟩⟩
          · rw [q_ud_n (fun h9 => by have := c1b.2 h9.1.symm; omega)]; exact e36
          · refine s_X_k (s_X_u (v := v) (s_X_k (c' := q_ud c 3 6 ((s_d B n b : Nat) : Int)) (g' := g) X ?_ ?_ ?_ rfl) ok) rfl rfl rfl ?_
            · funext j; rw [q_ud_n (by omega)]
            · funext j; rw [q_ud_n (by omega)]
            · rw [q_ud_n (by omega)]
            · rw [q40, m_sr_s]
          · rw [q3 4 (by omega) (by omega)]; exact hc
          · rw [q39 17 (by omega) (by omega) (by omega) (by omega)]; exact hg
          · rw [q3 5 (by omega) (by omega)]; exact hc5
          · rw [q39 18 (by omega) (by omega) (by omega) (by omega)]; exact hg18
          · rw [q3 3 (by omega) (by omega)]; exact cs
          · rw [q39 23 (by omega) (by omega) (by omega) (by omega)]; exact gs
          · rw [q40, m_u_n (by omega)]
          · rw [q40, m_u_n (by omega)]
        · rw [if_neg c2, if_neg (show ¬ (s_mn st sl ≤ v ∧ v ≤ s_mx (c 4) st sl) by omega), if_pos rfl]
          exact ⟨c', g', b1, Or.inr ⟨b2, b3⟩⟩
    · rw [if_neg l4, if_neg l4]
      obtain ⟨c', g', b1, b2, b3⟩ := s_R_err (e := s_d B n b) (k := 1) R0 (by decide) t20
      exact ⟨c', g', b1, Or.inr ⟨b2, b3⟩⟩
  · have ee0 : s_d B n b = b := s_run_no dg
    have nt : ¬ g 139 22 = 2 := by
      by_cases bn : b < n
      · have nd : s_pd (B b) = false := by
          cases e : s_pd (B b) with
          | true => exact absurd ⟨bn, e⟩ dg
          | false => rfl
        obtain ⟨w, d, o⟩ := T1 bn
        cases e : s_pl (B b) with
        | true => rw [(w e).1]; decide
        | false =>
          by_cases e9 : B b = 59
          · rw [(o e nd).1 e9]; decide
          · rw [(o e nd).2.1 e9]; decide
      · rw [tz (by omega)]; decide
    unfold fn118_72 fn118_93 fn348 fn348_16
    rw [if_neg nt, e36, ee0, Int.sub_self, if_pos (by rw [q_w32_id (by omega) (by omega)]; omega)]
    obtain ⟨c', g', b1, b2, b3⟩ := s_R_err (e := b) (k := 1) R0 (by decide) t20
    exact ⟨c', g', b1, Or.inr ⟨b2, b3⟩⟩
