/-! Part 98v: a statement, the whole text. -/
theorem s_J_w {B : Nat → Int} {n p p1 : Nat} {F G : Option (Int × q_F)} (h : p1 ≤ p) (J : s_J B n p F G) : s_J B n p1 F G := by
  rcases J with ⟨c', g', p', s', a, b, d, e⟩ | J
  · exact Or.inl ⟨c', g', p', s', a, b, by omega, e⟩
  · exact Or.inr J
theorem s_id (G : Option (Int × q_F)) : (G.bind fun x => some (x.1, x.2)) = G := by cases G <;> rfl
theorem s_R_f {B : Nat → Int} {n p s j : Nat} {v : Int} {c g : q_F} (hj : j = 1 ∨ j = 2) (R : s_R B n p s c g) : s_R B n p s c (q_ud g 140 j v) := by
  obtain ⟨T, hp, RT, X, ⟨hc, hg⟩, ⟨hc5, hg18⟩, hs, cs, gs⟩ := R
  obtain ⟨T0, hn, t20, tz, T1⟩ := RT
  refine ⟨T, hp, ⟨⟨by rw [q_ud_n (by omega)]; exact T0.1, T0.2.1, fun k hk => by rw [q_ud_n (by omega)]; exact T0.2.2.1 k hk, T0.2.2.2⟩, hn, by rw [q_ud_n (by omega)]; exact t20, fun h9 => by rw [q_ud_n (by omega)]; exact tz h9, fun h9 => ?_⟩, fun st sl ok => ?_, ⟨hc, by rw [q_ud_n (by omega)]; exact hg⟩, ⟨hc5, by rw [q_ud_n (by omega)]; exact hg18⟩, hs, cs, by rw [q_ud_n (by omega)]; exact gs⟩
  · rw [q_ud_n (show ¬ (139 = 140 ∧ 22 = j) by omega), q_ud_n (show ¬ (139 = 140 ∧ 19 = j) by omega), q_ud_n (show ¬ (139 = 140 ∧ 21 = j) by omega)]
    exact T1 h9
  · have : s_pl' st sl ≠ 1 ∧ s_pl' st sl ≠ 2 := by unfold s_pl'; unfold s_ok at ok; split <;> (try split) <;> omega
    rw [q_ud_n (by omega)]; exact X st sl ok
/-- the class at a statement -/
theorem s_c120 {B : Nat → Int} {n p s st : Nat} {c g : q_F} (R : s_R B n p s c g) (hst : st < 7) (hv : fn121 1 (q_ud c 3 6 ((s_b B n p : Nat) : Int)) = some ((st : Int), q_ud c 3 6 ((s_l B n (s_b B n p) : Nat) : Int))) : ((s / 2 ^ st % 2 = 1 ∨ (st < 3 ∧ s / 8 % 2 = 1)) → fn120 1 (q_ud c 3 6 ((s_b B n p : Nat) : Int)) = fn120_43 1 ((s_b B n p : Nat) : Int) (q_ud c 3 6 ((s_l B n (s_b B n p) : Nat) : Int))) ∧ (¬ (s / 2 ^ st % 2 = 1 ∨ (st < 3 ∧ s / 8 % 2 = 1)) → fn120 1 (q_ud c 3 6 ((s_b B n p : Nat) : Int)) = fn120_71 1 q_fu st (if st < 3 then 6 else if st = 3 then 3 else if st = 4 then 1 else 0) 0 (q_ud (q_ud c 3 6 ((s_l B n (s_b B n p) : Nat) : Int)) 3 3 (q_ior (s : Int) (q_ishl 1 (st : Int))))) := by
  obtain ⟨T, hp, RT, X, ⟨hc, hg⟩, ⟨hc5, hg18⟩, hs, cs, gs⟩ := R
  have e3 : q_ud c 3 6 ((s_l B n (s_b B n p) : Nat) : Int) 3 3 = (s : Int) := by rw [q_ud_n (by omega)]; exact cs
  have e50 : fn120_50 1 st (q_ud c 3 6 ((s_l B n (s_b B n p) : Nat) : Int)) = fn120_71 1 q_fu st (if st < 3 then 6 else if st = 3 then 3 else if st = 4 then 1 else 0) 0 (q_ud (q_ud c 3 6 ((s_l B n (s_b B n p) : Nat) : Int)) 3 3 (q_ior (s : Int) (q_ishl 1 (st : Int)))) := by
    rw [fn120_50, m_let, e3, s_116 hst, Option.bind_some]
  rw [fn120, hv, Option.bind_some]
  dsimp only
  rw [if_pos (by omega), s_107 hs hst e3, Option.bind_some, q_ud_s]
  have s3 : fn107 3 (q_ud c 3 6 ((s_l B n (s_b B n p) : Nat) : Int)) = some (if s / 8 % 2 = 1 then 1 else 0) := s_107 (k := 3) hs (by omega) e3
  by_cases c1 : s / 2 ^ st % 2 = 1
  · rw [if_pos c1, if_neg (by decide)]
    exact ⟨fun _ => rfl, fun h9 => absurd (Or.inl c1) h9⟩
  · rw [if_neg c1, if_pos rfl]
    by_cases c3 : (3 : Int) ≤ (st : Int)
    · rw [if_pos c3, e50]
      exact ⟨fun h9 => by rcases h9 with h9 | h9; exact absurd h9 c1; omega, fun _ => rfl⟩
    · rw [if_neg c3, s3, Option.bind_some]
      by_cases c4 : s / 8 % 2 = 1
      · rw [if_pos c4, if_neg (by decide)]
        exact ⟨fun _ => rfl, fun h9 => absurd (Or.inr ⟨by omega, c4⟩) h9⟩
      · rw [if_neg c4, if_pos rfl, e50]
        exact ⟨fun h9 => by rcases h9 with h9 | h9; exact absurd h9 c1; exact absurd h9.2 c4, fun _ => rfl⟩
theorem s_stat {B : Nat → Int} {n p s : Nat} {c g : q_F} (R : s_R B n p s c g) (W : s_W s g) (hb : s_b B n p < n) : s_J B n (p + 1) (fn120 1 (q_ud c 3 6 ((s_b B n p : Nat) : Int))) (fn316 g) := by
  have R0 := R
  obtain ⟨T, hp, RT, X, ⟨hc, hg⟩, ⟨hc5, hg18⟩, hs, cs, gs⟩ := R
  have bge := s_run_ge (P := s_pb) (B := B) (n := n) 600 p
  have eb : s_b B n p = s_run s_pb B n 600 p := rfl
  rw [← eb] at bge
  have sel : ∀ j, j < 7 → (s_wd B (s_b B n p) (s_l B n (s_b B n p)) ((3 + j : Nat) : Int) → fn273 ((3 + j : Nat) : Int) g = some 1) ∧ (¬ s_wd B (s_b B n p) (s_l B n (s_b B n p)) ((3 + j : Nat) : Int) → fn273 ((3 + j : Nat) : Int) g = some 0) := fun j hj => s_rw RT hb hj
  obtain ⟨v, hv, ST⟩ := s_cst (s_ct_3 (k := 3) (j := 6) (v := ((s_b B n p : Nat) : Int)) T (by omega)) (q_ud_s _ _ _ _) (Nat.le_of_lt hb)
  rw [q_ud_u] at hv
  rcases ST with ⟨st, hst, rfl, wd, nwd⟩ | ⟨rfl, nwd⟩
  · -- a word of the language
    have ege : s_b B n p < s_l B n (s_b B n p) := by
      have := wd.1; have := s_sl st hst; omega
    have hl : s_pl (B (s_b B n p)) = true := (s_run_in 600 (s_b B n p) (s_b B n p) (Nat.le_refl _) ege).1
    have C := s_c120 R0 hst hv
    have z : ∀ j, j < st → fn273 ((3 + j : Nat) : Int) g = some 0 := fun j hj => (sel j (by omega)).2 (nwd j hj)
    have o : fn273 ((3 + st : Nat) : Int) g = some 1 := (sel st hst).1 wd
    have hw : p + 1 ≤ s_l B n (s_b B n p) := by omega
    -- an axis
    have axis : ∀ a : Nat, a < 3 → st = a → s_J B n (p + 1) (fn120 1 (q_ud c 3 6 ((s_b B n p : Nat) : Int))) ((fn314 a g).bind fun x27 => some (x27.1, x27.2)) := fun a ha e => by
      subst e
      rw [s_id]
      have m8 := m_ian8 s hs
      by_cases cb : s / 2 ^ st % 2 = 1 ∨ (st < 3 ∧ s / 8 % 2 = 1)
      · rw [C.1 cb]
        have hm : s / 2 ^ st % 2 = 1 ∨ (if q_ian (g 139 23) 8 = 0 then (1 : Int) else 0) = 0 := by
          rcases cb with h9 | h9
          · exact Or.inl h9
          · right; rw [gs, if_neg (fun h8 => by have := m8.mp h8; omega)]
        obtain ⟨c', g', a1, a2, a3⟩ := s_onceB (e := ((s_l B n (s_b B n p) : Nat) : Int)) R0 hst hm
        refine s_J_E a1 ?_ a3
        unfold fn314 fn314_19
        split
        · rename_i c9
          rw [if_pos c9] at a2
          rw [a2, Option.bind_some]; dsimp only; rw [if_pos rfl]
        · rename_i c9
          rw [if_neg c9] at a2
          rw [a2, Option.bind_some]; dsimp only; rw [if_pos rfl]
      · rw [C.2 cb]
        have h8 : q_ian (g 139 23) 8 = 0 := by rw [gs]; exact m8.mpr (by omega)
        obtain ⟨g', a1, a2, a3⟩ := s_onceG (may := 1) R0 hst hb hl (by omega) (by decide)
        unfold fn314 fn314_19
        rw [if_pos h8, a1, Option.bind_some]
        dsimp only
        rw [if_neg (show ¬ (1 : Int) = 0 by decide), if_pos ha]
        exact s_J_w hw (s_axis ha a2 (s_W_or hs (by omega) W a3))
    have rest : ∀ (g0 : q_F), s_R B n p s c g0 → 3 ≤ st → ((s / 2 ^ st % 2 = 1 → ∃ c' g', fn120 1 (q_ud c 3 6 ((s_b B n p : Nat) : Int)) = some (0, c') ∧ fn339 (q_ishl 1 (st : Int)) 1 g0 = some (0, g') ∧ s_E c' g') ∧ (¬ s / 2 ^ st % 2 = 1 → ∃ g', fn339 (q_ishl 1 (st : Int)) 1 g0 = some (1, g') ∧ fn120 1 (q_ud c 3 6 ((s_b B n p : Nat) : Int)) = fn120_71 1 q_fu st (if st < 3 then 6 else if st = 3 then 3 else if st = 4 then 1 else 0) 0 (q_ud (q_ud c 3 6 ((s_l B n (s_b B n p) : Nat) : Int)) 3 3 (q_ior (s : Int) (q_ishl 1 (st : Int)))) ∧ s_R B n (s_l B n (s_b B n p)) (s_or s st) (q_ud (q_ud c 3 6 ((s_l B n (s_b B n p) : Nat) : Int)) 3 3 (q_ior (s : Int) (q_ishl 1 (st : Int)))) g' ∧ g' 140 = g0 140)) := fun g0 Rg h3 => by
      refine ⟨fun cb => ?_, fun cb => ?_⟩
      · rw [C.1 (Or.inl cb)]
        exact s_onceB (may := 1) Rg hst (Or.inl cb)
      · obtain ⟨g', a1, a2, a3⟩ := s_onceG (may := 1) Rg hst hb hl (by omega) (by decide)
        exact ⟨g', a1, C.2 (fun h9 => by rcases h9 with h9 | h9; exact cb h9; omega), a2, a3⟩
    have flag : ∀ (j : Nat) (b : Int), (st = 5 ∧ j = 1) ∨ (st = 6 ∧ j = 2) → b = q_ishl 1 (st : Int) → s_J B n (p + 1) (fn120 1 (q_ud c 3 6 ((s_b B n p : Nat) : Int))) (fn339 b 1 (q_ud g 140 j 1)) := fun j b hj eb => by
      subst eb
      have Q := rest (q_ud g 140 j 1) (s_R_f (by omega) R0) (by omega)
      by_cases cb : s / 2 ^ st % 2 = 1
      · obtain ⟨c', g', a1, a2, a3⟩ := Q.1 cb
        exact s_J_E a1 a2 a3
      · obtain ⟨g', a1, a2, a3, a4⟩ := Q.2 cb
        rw [a1, a2, if_neg (by omega), if_neg (by omega), if_neg (by omega)]
        obtain ⟨f, hf⟩ : ∃ f', q_fu = f' + 1 := ⟨q_fu - 1, by have := q_fu_ge; omega⟩
        rw [hf]
        refine s_J_D (nn := 0) hw a3 ?_
        have B2 := s_bit2 s hs st hst
        unfold s_W s_or
        rw [a4, B2.2.2.1, B2.2.2.2]
        rcases hj with ⟨e1, e2⟩ | ⟨e1, e2⟩
        · rw [if_pos e1, if_neg (by omega), e2, q_ud_s, q_ud_n (by omega)]; exact ⟨rfl, W.2⟩
        · rw [if_neg (by omega), if_pos e1, e2, q_ud_s, q_ud_n (by omega)]; exact ⟨W.1, rfl⟩
    unfold fn316
    obtain rfl | rfl | rfl | rfl | rfl | rfl | rfl : st = 0 ∨ st = 1 ∨ st = 2 ∨ st = 3 ∨ st = 4 ∨ st = 5 ∨ st = 6 := by omega
    · have o' : fn273 3 g = some 1 := o
      rw [o', Option.bind_some, if_neg (by decide)]
      exact axis 0 (by omega) rfl
    · have z0 : fn273 3 g = some 0 := z 0 (by omega)
      have o' : fn273 4 g = some 1 := o
      rw [z0, Option.bind_some, if_pos rfl, o', Option.bind_some, if_neg (by decide)]
      exact axis 1 (by omega) rfl
    · have z0 : fn273 3 g = some 0 := z 0 (by omega)
      have z1 : fn273 4 g = some 0 := z 1 (by omega)
      have o' : fn273 5 g = some 1 := o
      rw [z0, Option.bind_some, if_pos rfl, z1, Option.bind_some, if_pos rfl, o', Option.bind_some, if_neg (by decide)]
      exact axis 2 (by omega) rfl
    · have z0 : fn273 3 g = some 0 := z 0 (by omega)
      have z1 : fn273 4 g = some 0 := z 1 (by omega)
      have z2 : fn273 5 g = some 0 := z 2 (by omega)
      have o' : fn273 6 g = some 1 := o
      rw [z0, Option.bind_some, if_pos rfl, z1, Option.bind_some, if_pos rfl, z2, Option.bind_some, if_pos rfl, o', Option.bind_some, if_neg (by decide), s_id, fn315]
      have Q := rest g R0 (by omega)
      have q8 : q_ishl 1 ((3 : Nat) : Int) = 8 := by decide +kernel
      rw [q8] at Q
      by_cases cb : s / 2 ^ 3 % 2 = 1
      · obtain ⟨c', g', a1, a2, a3⟩ := Q.1 cb
        rw [a2, Option.bind_some]; dsimp only; rw [if_pos rfl]
        exact s_J_E a1 rfl a3
      · obtain ⟨g', a1, a2, a3, a4⟩ := Q.2 cb
        rw [a1, a2, Option.bind_some]; dsimp only
        rw [if_neg (by decide)]
        exact s_J_w hw (s_begl 3 0 q_fu q_fu _ _ _ (by omega) (by have := q_fu_ge; omega) (by have := q_fu_ge; omega) (Nat.le_refl _) a3 (s_W_or hs (by omega) W a4))
    · have z0 : fn273 3 g = some 0 := z 0 (by omega)
      have z1 : fn273 4 g = some 0 := z 1 (by omega)
      have z2 : fn273 5 g = some 0 := z 2 (by omega)
      have z3 : fn273 6 g = some 0 := z 3 (by omega)
      have o' : fn273 7 g = some 1 := o
      rw [z0, Option.bind_some, if_pos rfl, z1, Option.bind_some, if_pos rfl, z2, Option.bind_some, if_pos rfl, z3, Option.bind_some, if_pos rfl, o', Option.bind_some, if_neg (by decide)]
      have Q := rest g R0 (by omega)
      have q8 : q_ishl 1 ((4 : Nat) : Int) = 16 := by decide +kernel
      rw [q8] at Q
      by_cases cb : s / 2 ^ 4 % 2 = 1
      · obtain ⟨c', g', a1, a2, a3⟩ := Q.1 cb
        rw [a2, Option.bind_some]; dsimp only; rw [if_pos rfl]
        exact s_J_E a1 rfl a3
      · obtain ⟨g', a1, a2, a3, a4⟩ := Q.2 cb
        rw [a1, a2, Option.bind_some]; dsimp only
        rw [if_neg (by decide)]
        exact s_J_w hw (s_start a3 (s_W_or hs (by omega) W a4))
    · have z0 : fn273 3 g = some 0 := z 0 (by omega)
      have z1 : fn273 4 g = some 0 := z 1 (by omega)
      have z2 : fn273 5 g = some 0 := z 2 (by omega)
      have z3 : fn273 6 g = some 0 := z 3 (by omega)
      have z4 : fn273 7 g = some 0 := z 4 (by omega)
      have o' : fn273 8 g = some 1 := o
      rw [z0, Option.bind_some, if_pos rfl, z1, Option.bind_some, if_pos rfl, z2, Option.bind_some, if_pos rfl, z3, Option.bind_some, if_pos rfl, z4, Option.bind_some, if_pos rfl, o', Option.bind_some, if_neg (by decide), m_let, s_id]
      exact flag 1 32 (Or.inl ⟨rfl, rfl⟩) (by decide +kernel)
    · have z0 : fn273 3 g = some 0 := z 0 (by omega)
      have z1 : fn273 4 g = some 0 := z 1 (by omega)
      have z2 : fn273 5 g = some 0 := z 2 (by omega)
      have z3 : fn273 6 g = some 0 := z 3 (by omega)
      have z4 : fn273 7 g = some 0 := z 4 (by omega)
      have z5 : fn273 8 g = some 0 := z 5 (by omega)
      have o' : fn273 9 g = some 1 := o
      rw [z0, Option.bind_some, if_pos rfl, z1, Option.bind_some, if_pos rfl, z2, Option.bind_some, if_pos rfl, z3, Option.bind_some, if_pos rfl, z4, Option.bind_some, if_pos rfl, z5, Option.bind_some, if_pos rfl, o', Option.bind_some, if_neg (by decide), m_let, s_id]
      exact flag 2 64 (Or.inr ⟨rfl, rfl⟩) (by decide +kernel)
  · -- no word of the language
    have z : ∀ j, j < 7 → fn273 ((3 + j : Nat) : Int) g = some 0 := fun j hj => (sel j hj).2 (nwd j hj)
    have z0 : fn273 3 g = some 0 := z 0 (by omega)
    have z1 : fn273 4 g = some 0 := z 1 (by omega)
    have z2 : fn273 5 g = some 0 := z 2 (by omega)
    have z3 : fn273 6 g = some 0 := z 3 (by omega)
    have z4 : fn273 7 g = some 0 := z 4 (by omega)
    have z5 : fn273 8 g = some 0 := z 5 (by omega)
    have z6 : fn273 9 g = some 0 := z 6 (by omega)
    obtain ⟨c', g', a1, a2, a3⟩ := s_R_err (e := s_l B n (s_b B n p)) (k := 1) R0 (by decide) RT.2.2.1
    unfold fn316
    rw [z0, Option.bind_some, if_pos rfl, z1, Option.bind_some, if_pos rfl, z2, Option.bind_some, if_pos rfl, z3, Option.bind_some, if_pos rfl, z4, Option.bind_some, if_pos rfl, z5, Option.bind_some, if_pos rfl, z6, Option.bind_some, if_pos rfl, fn120, hv, Option.bind_some]
    dsimp only
    rw [if_neg (by decide), q_ud_s]
    exact s_J_E a1 a2 a3
