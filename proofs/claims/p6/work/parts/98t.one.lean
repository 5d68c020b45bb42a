/-! Part 98t: a statement is read alike by both sides. -/
def s_W (s : Nat) (g : q_F) : Prop := g 140 1 = ((s / 32 % 2 : Nat) : Int) ∧ g 140 2 = ((s / 64 % 2 : Nat) : Int)
/-- behind the numbers of a statement: both go on alike, or both have found the same error -/
def s_J (B : Nat → Int) (n p : Nat) (F G : Option (Int × q_F)) : Prop := (∃ c' g' p' s', F = fn120_99 1 c' ∧ G = some (1, g') ∧ p ≤ p' ∧ s_R B n p' s' c' g' ∧ s_W s' g') ∨ ∃ c' g', F = some (0, c') ∧ G = some (0, g') ∧ s_E c' g'
theorem s_99E {c g : q_F} (E : s_E c g) : fn120_99 1 c = some (0, c) := by
  obtain ⟨k, k0, k1, -⟩ := E
  unfold fn120_99; rw [if_neg (by rw [k1]; exact k0)]
theorem s_71E {c g : q_F} {f : Nat} {a b d : Int} (E : s_E c g) : fn120_71 1 (f + 1) a b d c = some (0, c) := by
  have e := s_99E E
  obtain ⟨k, k0, k1, -⟩ := E
  rw [fn120_71]
  split
  · exact e
  · rw [if_neg (by rw [k1]; exact k0)]; exact e
theorem s_71D {c : q_F} {f nn : Nat} {a : Int} : fn120_71 1 (f + 1) a nn nn c = fn120_99 1 c := by
  rw [fn120_71, if_pos (Int.le_refl _)]
/-- one number, then the rest -/
theorem s_next {B : Nat → Int} {n p p0 s st nn i f : Nat} {c g : q_F} {mn mx : Int} {K : Int × q_F → Option (Int × q_F)} (R : s_R B n p s c g) (W : s_W s g) (h0 : p0 ≤ p) (hi : i < nn) (hn : nn < 10) (hf : 0 < f) (ok : s_ok st i) (hmn : mn = s_mn st i) (hmx : mx = s_mx (c 4) st i) (hK : ∀ c' g' p', p0 ≤ p' → s_R B n p' s c' g' → s_W s g' → s_J B n p0 (fn120_71 1 f st nn (i + 1 : Nat) c') (K (1, g'))) (K1 : ∀ g', K (0, g') = some (0, g')) : s_J B n p0 (fn120_71 1 (f + 1) st nn i c) ((fn348 (s_pl' st i : Nat) mn mx g).bind K) := by
  obtain ⟨c', g', a1, a2⟩ := s_simN R ok hmn hmx
  rw [fn120_71, if_neg (by omega), if_pos R.2.2.2.2.1.1, a1, Option.bind_some, q_w32_id (by omega) (by omega), show (i : Int) + 1 = ((i + 1 : Nat) : Int) by omega]
  dsimp only
  rcases a2 with ⟨b1, p', b2, b3, b4, b5⟩ | ⟨b1, b2⟩
  · rw [b1, Option.bind_some]
    exact hK c' g' p' (by omega) b3 ⟨b4.trans W.1, b5.trans W.2⟩
  · rw [b1, Option.bind_some, K1]
    obtain ⟨f, rfl⟩ : ∃ f', f = f' + 1 := ⟨f - 1, by omega⟩
    exact Or.inr ⟨c', g', s_71E b2, rfl, b2⟩
/-- the semicolon -/
theorem s_semi {B : Nat → Int} {n p s : Nat} {c g : q_F} (R : s_R B n p s c g) : ∃ c', fn120_99 1 c = some (0, c') ∧ ((g 139 22 = 3 ∧ ∃ g' p', fn235 g = some (0, g') ∧ p < p' ∧ s_R B n p' s c' g' ∧ g' 140 = g 140) ∨ (g 139 22 ≠ 3 ∧ ∃ g', fn259 1 g = some (0, g') ∧ s_E c' g')) := by
  have R0 := R
  obtain ⟨T, hp, RT, X, ⟨hc, hg⟩, ⟨hc5, hg18⟩, hs, cs, gs⟩ := R
  obtain ⟨T0, hn, t20, tz, T1⟩ := RT
  have t2 := T.2.1
  have ble := s_run_le (P := s_pb) (B := B) 600 p hn
  have bge := s_run_ge (P := s_pb) (B := B) (n := n) 600 p
  have eb : s_b B n p = s_run s_pb B n 600 p := rfl
  rw [← eb] at ble bge
  unfold fn120_99 fn119
  rw [if_pos hc, s_find T hp hn, Option.bind_some]
  dsimp only
  rw [q_ud_s, s_byte (s_ct_3 T (by omega)), Option.bind_some]
  generalize s_b B n p = b at *
  by_cases c9 : b < n ∧ B b = 59
  · have nl : s_pl (B b) = false := decide_eq_false (by omega)
    have nd : s_pd (B b) = false := decide_eq_false (by omega)
    obtain ⟨k22, -, k19⟩ := (T1 c9.1).2.2 nl nd
    rw [if_pos c9.1, if_pos c9.2, m_let, Option.bind_some, q_ud_u, q_w32_id (by omega) (by omega)]
    obtain ⟨g', a1, a2, a3⟩ := s_tok (p := b + 1) T0 k19 (by omega)
    have q39 : ∀ j, j ≠ 19 → j ≠ 20 → j ≠ 21 → j ≠ 22 → g' 139 j = g 139 j := fun j h1 h2 h3 h4 => a2.2 j h1 h2 h3 h4
    refine ⟨q_ud c 3 6 ((b : Int) + 1), rfl, Or.inl ⟨k22 c9.2, g', b + 1, a1, by omega, ⟨s_ct_3 T (by omega), by rw [q_ud_s]; omega, a3, s_X_k X ?_ ?_ ?_ (a2.1 140 (by omega)), ⟨?_, ?_⟩, ⟨?_, ?_⟩, hs, ?_, ?_⟩, a2.1 140 (by omega)⟩⟩
    · funext j; rw [q_ud_n (by omega)]
    · funext j; rw [q_ud_n (by omega)]
    · rw [q_ud_n (by omega)]
    · rw [q_ud_n (by omega)]; exact hc
    · rw [q39 17 (by omega) (by omega) (by omega) (by omega)]; exact hg
    · rw [q_ud_n (by omega)]; exact hc5
    · rw [q39 18 (by omega) (by omega) (by omega) (by omega)]; exact hg18
    · rw [q_ud_n (by omega)]; exact cs
    · rw [q39 23 (by omega) (by omega) (by omega) (by omega)]; exact gs
  · have nt : g 139 22 ≠ 3 := by
      by_cases bn : b < n
      · obtain ⟨w, d, o⟩ := T1 bn
        cases e : s_pl (B b) with
        | true => rw [(w e).1]; decide
        | false =>
          cases e2 : s_pd (B b) with
          | true => rw [(d e e2).1]; decide
          | false => rw [(o e e2).2.1 (fun h9 => c9 ⟨bn, h9⟩)]; decide
      · rw [tz (by omega)]; decide
    have nb : ¬ (if b < n then B b else (-1 : Int)) = 59 := by
      by_cases bn : b < n
      · rw [if_pos bn]; exact fun h9 => c9 ⟨bn, h9⟩
      · rw [if_neg bn]; decide
    rw [if_neg nb, s_103, Option.bind_some, Option.bind_some, s_259 hg]
    exact ⟨_, rfl, Or.inr ⟨nt, _, rfl, s_E_i (by decide) t20⟩⟩
theorem s_bit1 : ∀ s : Nat, s < 128 → ∀ k : Nat, k < 7 → (q_ian (q_ishr (s : Int) (k : Int)) 1 = 1 ↔ s / 2 ^ k % 2 = 1) ∧ (q_ian (s : Int) (q_ishl 1 (k : Int)) = 0 ↔ s / 2 ^ k % 2 = 0) := by decide +kernel
noncomputable def s_or (s k : Nat) : Nat := (q_ior (s : Int) (q_ishl 1 (k : Int))).toNat
theorem s_bit2 : ∀ s : Nat, s < 128 → ∀ k : Nat, k < 7 → (q_ior (s : Int) (q_ishl 1 (k : Int))).toNat < 128 ∧ q_ior (s : Int) (q_ishl 1 (k : Int)) = ((q_ior (s : Int) (q_ishl 1 (k : Int))).toNat : Int) ∧ ((q_ior (s : Int) (q_ishl 1 (k : Int))).toNat / 32 % 2 = if k = 5 then 1 else s / 32 % 2) ∧ ((q_ior (s : Int) (q_ishl 1 (k : Int))).toNat / 64 % 2 = if k = 6 then 1 else s / 64 % 2) := by decide +kernel
theorem s_107 {s k : Nat} {h : q_F} (hs : s < 128) (hk : k < 7) (e : h 3 3 = (s : Int)) : fn107 k h = some (if s / 2 ^ k % 2 = 1 then 1 else 0) := by
  unfold fn107
  rw [e]
  by_cases c : s / 2 ^ k % 2 = 1
  · rw [if_pos ((s_bit1 s hs k hk).1.mpr c), if_pos c]
  · rw [if_neg (fun h9 => c ((s_bit1 s hs k hk).1.mp h9)), if_neg c]
/-- a statement begins: the word is gone over, its bit is set -/
theorem s_onceG {B : Nat → Int} {n p s st : Nat} {c g : q_F} {may : Int} (R : s_R B n p s c g) (hst : st < 7) (hb : s_b B n p < n) (hl : s_pl (B (s_b B n p)) = true) (hns : s / 2 ^ st % 2 = 0) (hm : may ≠ 0) : ∃ g', fn339 (q_ishl 1 (st : Int)) may g = some (1, g') ∧ s_R B n (s_l B n (s_b B n p)) (s_or s st) (q_ud (q_ud c 3 6 ((s_l B n (s_b B n p) : Nat) : Int)) 3 3 (q_ior (s : Int) (q_ishl 1 (st : Int)))) g' ∧ g' 140 = g 140 := by
  obtain ⟨T, hp, RT, X, ⟨hc, hg⟩, ⟨hc5, hg18⟩, hs, cs, gs⟩ := R
  obtain ⟨T0, hn, t20, tz, T1⟩ := RT
  have t2 := T.2.1
  have ble := s_run_le (P := s_pl) (B := B) 600 (s_b B n p) (Nat.le_of_lt hb)
  obtain ⟨k22, k19⟩ := (T1 hb).1 hl
  have B2 := s_bit2 s hs st hst
  unfold fn339 fn339_14
  rw [gs, if_pos ((s_bit1 s hs st hst).2.mpr hns), m_let, if_neg (by decide), if_neg hm]
  have Tg : s_rt B n (q_ud g 139 23 (q_ior (s : Int) (q_ishl 1 (st : Int)))) := ⟨by rw [q_ud_n (by omega)]; exact T0.1, T0.2.1, fun k hk => by rw [q_ud_n (by omega)]; exact T0.2.2.1 k hk, T0.2.2.2⟩
  obtain ⟨g', a1, a2, a3⟩ := s_tok (p := s_l B n (s_b B n p)) Tg (by rw [q_ud_n (by omega)]; exact k19) ble
  rw [a1, Option.bind_some]
  have q39 : ∀ j, j ≠ 19 → j ≠ 20 → j ≠ 21 → j ≠ 22 → j ≠ 23 → g' 139 j = g 139 j := fun j h1 h2 h3 h4 h5 => by rw [a2.2 j h1 h2 h3 h4, q_ud_n (by omega)]
  have q40 : g' 140 = g 140 := by rw [a2.1 140 (by omega)]; funext j; rw [q_ud_n (by omega)]
  refine ⟨g', rfl, ⟨s_ct_3 (s_ct_3 T (by omega)) (by omega), ?_, a3, s_X_k X ?_ ?_ ?_ q40, ⟨?_, ?_⟩, ⟨?_, ?_⟩, B2.1, ?_, ?_⟩, q40⟩
  · rw [q_ud_n (by omega), q_ud_s]
  · funext j; rw [q_ud_n (by omega), q_ud_n (by omega)]
  · funext j; rw [q_ud_n (by omega), q_ud_n (by omega)]
  · rw [q_ud_n (by omega), q_ud_n (by omega)]
  · rw [q_ud_n (by omega), q_ud_n (by omega)]; exact hc
  · rw [q39 17 (by omega) (by omega) (by omega) (by omega) (by omega)]; exact hg
  · rw [q_ud_n (by omega), q_ud_n (by omega)]; exact hc5
  · rw [q39 18 (by omega) (by omega) (by omega) (by omega) (by omega)]; exact hg18
  · rw [q_ud_s]; exact B2.2.1
  · rw [a2.2 23 (by omega) (by omega) (by omega) (by omega), q_ud_s]; exact B2.2.1
/-- a statement that may not begin here -/
theorem s_onceB {B : Nat → Int} {n p s st : Nat} {c g : q_F} {may : Int} {e : Int} (R : s_R B n p s c g) (hst : st < 7) (hm : s / 2 ^ st % 2 = 1 ∨ may = 0) : ∃ c' g', fn120_43 1 (s_b B n p : Nat) (q_ud c 3 6 e) = some (0, c') ∧ fn339 (q_ishl 1 (st : Int)) may g = some (0, g') ∧ s_E c' g' := by
  obtain ⟨T, hp, RT, X, ⟨hc, hg⟩, ⟨hc5, hg18⟩, hs, cs, gs⟩ := R
  obtain ⟨T0, hn, t20, tz, T1⟩ := RT
  have g17 : ∀ v, q_ud g 139 23 v 139 17 = 0 := fun v => by rw [q_ud_n (by omega)]; exact hg
  unfold fn120_43 fn339 fn339_14 fn339_33
  rw [s_103, Option.bind_some, m_let, m_let, s_259 (g17 _), Option.bind_some]
  have e20 : ∀ v, q_ud g 139 23 v 139 20 = ((s_b B n p : Nat) : Int) := fun v => by rw [q_ud_n (by omega)]; exact t20
  refine ⟨_, _, rfl, ?_, s_E_i (g := q_ud g 139 23 (q_ior (g 139 23) (q_ishl 1 (st : Int)))) (k := 3) (by decide) (e20 _)⟩
  split
  · rename_i c9
    rw [gs] at c9
    have := (s_bit1 s hs st hst).2.mp c9
    rw [if_neg (by decide), if_pos (by omega)]
  · rw [if_pos rfl]
