/-! Part 95: the class reads a setup text, gone on with. -/
def c_NB (st : Nat) (f : Option (Int × q_F)) (h : q_F) : Prop := ∃ h', f = some (0, h') ∧ c_Z h' ∧ c_F3 h h' ∧ h' 3 3 = h 3 3 ∧ (st < 3 → ∀ a, a < 3 → h' 5 a = 0)
theorem c_NB_t {st : Nat} {f : Option (Int × q_F)} {h h1 : q_F} (F : c_F3 h h1) (e : h1 3 3 = h 3 3) (g : c_NB st f h1) : c_NB st f h := by
  obtain ⟨h', a, b, c, d, i⟩ := g
  exact ⟨h', a, b, c_F3_t F c, d.trans e, i⟩
theorem c_digl {st sl : Nat} {u4 : Int} (hst : st < 5) (hsl : (st < 3 → sl < 6) ∧ (st = 3 → sl < 3)) : ∀ (d f : Nat) (u5 : Int) (h : q_F), (h 1 1 - h 3 6).toNat ≤ d → d < f → c_Z h → (st < 3 → ∀ a, a < 3 → h 5 a = 0) → (st = 3 → ∃ s : Nat, h 3 3 = (s : Int) ∧ s / 8 % 2 = 1) → c_NB st (fn118_15 1 f st sl u4 u5 h) h := by
  intro d
  induction d with
  | zero =>
    intro f u5 h hd hf Z hb hs
    obtain ⟨f, rfl⟩ : ∃ f', f = f' + 1 := ⟨f - 1, by omega⟩
    rw [fn118_15, if_pos (by omega)]; exact c_num72 Z hst hsl hb hs
  | succ d ih =>
    intro f u5 h hd hf Z hb hs
    obtain ⟨f, rfl⟩ : ∃ f', f = f' + 1 := ⟨f - 1, by omega⟩
    rw [fn118_15]
    by_cases c : h 1 1 ≤ h 3 6
    · rw [if_pos c]; exact c_num72 Z hst hsl hb hs
    · obtain ⟨v, e, -⟩ := c_T63 (h 3 6) h
      have t : ∃ y, fn110 v h = some y := by unfold fn110; (repeat' split) <;> exact ⟨_, rfl⟩
      obtain ⟨y, ey⟩ := t
      rw [if_neg c, e, Option.bind_some, ey, Option.bind_some]
      split
      · exact c_num72 Z hst hsl hb hs
      · rw [Option.bind_some, m_let, q_w32_id (z := h 3 6 + 1) (by have := Z.1; have := Z.2.1; omega) (by have := Z.1; have := Z.2.1; omega)]
        have hd' : (h 1 1 - (h 3 6 + 1)).toNat ≤ d := by clear hs ih hb; omega
        have hf' : d < f := by clear hs ih hb; omega
        have hl' : h 3 6 < h 1 1 := by clear hs ih hb; omega
        refine c_NB_t (c_F3_u c_F3_r (by decide)) (q_ud_n (by decide)) (ih f _ (q_ud h 3 6 (h 3 6 + 1)) (by rw [q_ud_s, q_ud_n (by decide)]; exact hd') hf' (c_step6 Z hl') (fun h3 a ha => by rw [q_ud_n (by omega)]; exact hb h3 a ha) (fun h3 => ?_))
        obtain ⟨s, s1, s2⟩ := hs h3
        exact ⟨s, by rw [q_ud_n (by decide)]; exact s1, s2⟩
theorem c_num {st sl : Nat} {h : q_F} (hst : st < 5) (hsl : (st < 3 → sl < 6) ∧ (st = 3 → sl < 3)) (Z : c_Z h) (hb : st < 3 → ∀ a, a < 3 → h 5 a = 0) (hs : st = 3 → ∃ s : Nat, h 3 3 = (s : Int) ∧ s / 8 % 2 = 1) : c_NB st (fn118 1 st sl h) h := by
  obtain ⟨x, h1, a, b⟩ := c_findT Z
  obtain ⟨Z1, F1, e3, e4, e5, -⟩ := c_pl_Z Z b
  rw [fn118, a, Option.bind_some]
  exact c_NB_t F1 e3 (c_digl hst hsl 600 q_fu 0 h1 (by have := Z1.1; have := Z1.2.1; omega) (by have := q_fu_ge; omega) Z1 (fun h3 a ha => by rw [e5]; exact hb h3 a ha) (fun h3 => by
    obtain ⟨s, s1, s2⟩ := hs h3
    exact ⟨s, by show h1 3 3 = _; rw [e3]; exact s1, s2⟩))
def c_RZ0 (f : Option (Int × q_F)) (h : q_F) : Prop := ∃ h', f = some (0, h') ∧ c_Z h' ∧ c_F3 h h'
theorem c_RZ0_t {f : Option (Int × q_F)} {h h1 : q_F} (F : c_F3 h h1) (g : c_RZ0 f h1) : c_RZ0 f h := by
  obtain ⟨h', a, b, c⟩ := g
  exact ⟨h', a, b, c_F3_t F c⟩
theorem c_fail0 {c p : Int} {h : q_F} (Z : c_Z h) : c_RZ0 ((fn103 c p h).bind fun x5 => some ((0 : Int), x5.2)) h := by
  rw [fn103, m_let, m_let, Option.bind_some]
  exact ⟨_, rfl, c_Z_3 (c_Z_3 Z (Or.inl rfl)) (Or.inr (Or.inl rfl)), c_F3_u (c_F3_u c_F3_r (by omega)) (by omega)⟩
theorem c_semi {h : q_F} (Z : c_Z h) : c_RZ0 (fn119 1 h) h := by
  obtain ⟨x, h1, a, b⟩ := c_findT Z
  obtain ⟨Z1, F1, -⟩ := c_pl_Z Z b
  obtain ⟨v, e, ev⟩ := c_T63 (h1 3 6) h1
  rw [fn119, a, Option.bind_some]
  dsimp only
  rw [e, Option.bind_some]
  split
  · rename_i c
    rw [m_let, q_w32_id (by have := Z1.1; have := Z1.2.1; omega) (by have := Z1.1; have := Z1.2.1; omega)]
    have := ev (by omega)
    exact ⟨_, rfl, c_step6 Z1 this.2, c_F3_t F1 (c_F3_u c_F3_r (by omega))⟩
  · exact c_RZ0_t F1 (c_fail0 Z1)
theorem c_99 {h : q_F} (Z : c_Z h) : c_RZ0 (fn120_99 1 h) h := by
  unfold fn120_99
  split
  · obtain ⟨h', a, b, c⟩ := c_semi Z
    exact ⟨h', by rw [a, Option.bind_some], b, c⟩
  · exact ⟨h, rfl, Z, c_F3_r⟩
theorem c_numl {st n : Nat} (hst : st < 7) (hn : (st < 3 → n = 6) ∧ (st = 3 → n = 3) ∧ (st = 4 → n = 1) ∧ (4 < st → n = 0)) : ∀ (d k f : Nat) (h : q_F), k + d = n → d < f → c_Z h → (st < 3 → ∀ a, a < 3 → h 5 a = 0) → (st = 3 → ∃ s : Nat, h 3 3 = (s : Int) ∧ s / 8 % 2 = 1) → c_RZ0 (fn120_71 1 f st n k h) h := by
  intro d
  induction d with
  | zero =>
    intro k f h hd hf Z hb hs
    obtain ⟨f, rfl⟩ : ∃ f', f = f' + 1 := ⟨f - 1, by omega⟩
    rw [fn120_71, if_pos (by omega)]; exact c_99 Z
  | succ d ih =>
    intro k f h hd hf Z hb hs
    obtain ⟨f, rfl⟩ : ∃ f', f = f' + 1 := ⟨f - 1, by omega⟩
    rw [fn120_71, if_neg (by omega)]
    split
    · obtain ⟨h1, a, Z1, F1, e3, b1⟩ := c_num (st := st) (sl := k) (by omega) ⟨by omega, by omega⟩ Z hb hs
      have wk : q_w32 ((k : Int) + 1) = ((k + 1 : Nat) : Int) := by clear hs ih hb; rw [q_w32_id (by omega) (by omega), ← m_s1]
      have w1 : k + 1 + d = n := by clear hs ih hb; omega
      have w2 : d < f := by clear hs ih hb; omega
      rw [a, Option.bind_some, wk]
      exact c_RZ0_t F1 (ih (k + 1) f h1 w1 w2 Z1 b1 (fun h3 => by
        obtain ⟨s, s1, s2⟩ := hs h3
        exact ⟨s, by rw [e3]; exact s1, s2⟩))
    · exact c_99 Z
theorem c_seen {k : Nat} {h : q_F} : ∃ x, fn107 k h = some x := by unfold fn107; split <;> exact ⟨_, rfl⟩
theorem c_50 {st : Nat} {h : q_F} (hst : st < 7) (Z : c_Z h) (h3 : st < 3 → ∃ s : Nat, s < 128 ∧ h 3 3 = (s : Int) ∧ s / 8 % 2 = 0) : c_RZ0 (fn120_50 1 st h) h := by
  obtain ⟨z1, z2, z3, ⟨s, s1, s2, s3⟩, z5, z6⟩ := Z
  have B := m_bits s s1 st hst
  have Z1 : c_Z (q_ud h 3 3 (q_ior (h 3 3) (q_ishl 1 st))) := by
    refine ⟨by rw [q_ud_n (by omega)]; exact z1, by rw [q_ud_n (by omega), q_ud_n (by omega)]; exact z2, by rw [q_ud_n (by omega)]; exact z3, ⟨_, B.1, by rw [q_ud_s, s2]; exact B.2.1, fun h8 a ha => ?_⟩, fun a ha i hi => by rw [q_ud_n (by omega)]; exact z5 a ha i hi, fun a ha => by rw [q_ud_n (by omega), q_ud_n (by omega)]; exact z6 a ha⟩
    rw [q_ud_n (by omega)]
    by_cases e : st = 3
    · have := B.2.2.1 e; omega
    · have := B.2.2.2 e; exact s3 (by omega) a ha
  have t : ∃ n : Nat, (∀ g, fn116 st g = some (n : Int)) ∧ (st < 3 → n = 6) ∧ (st = 3 → n = 3) ∧ (st = 4 → n = 1) ∧ (4 < st → n = 0) := by
    unfold fn116
    by_cases c : st < 3
    · exact ⟨6, fun g => by rw [if_neg (by omega)]; rfl, fun _ => rfl, by omega, by omega, by omega⟩
    · by_cases c3 : st = 3
      · exact ⟨3, fun g => by rw [if_pos (by omega), if_pos (by omega)]; rfl, by omega, fun _ => rfl, by omega, by omega⟩
      · by_cases c4 : st = 4
        · exact ⟨1, fun g => by rw [if_pos (by omega), if_neg (by omega), if_pos (by omega)]; rfl, by omega, by omega, fun _ => rfl, by omega⟩
        · exact ⟨0, fun g => by rw [if_pos (by omega), if_neg (by omega), if_neg (by omega)]; rfl, by omega, by omega, by omega, fun _ => rfl⟩
  obtain ⟨n, en, hn⟩ := t
  rw [fn120_50, m_let, en, Option.bind_some]
  refine c_RZ0_t (c_F3_u c_F3_r (by omega)) (c_numl hst hn n 0 q_fu _ (by omega) (by have := q_fu_ge; omega) Z1 (fun c a ha => ?_) (fun c => ⟨_, by rw [q_ud_s, s2]; exact B.2.1, B.2.2.1 c⟩))
  rw [q_ud_n (by omega)]
  obtain ⟨s', x1, x2, x3⟩ := h3 c
  have : s = s' := by omega
  subst this
  exact s3 x3 a ha
theorem c_stat {h : q_F} (Z : c_Z h) : c_RZ0 (fn120 1 h) h := by
  obtain ⟨v, h1, a, b, v0, v6⟩ := c_readW (u := h 3 6) 600 q_fu h (by have := Z.1; have := Z.2.1; omega) (by have := q_fu_ge; omega) Z
  obtain ⟨Z1, F1, -⟩ := c_pl_Z Z b
  rw [fn120, fn121, a, Option.bind_some]
  dsimp only
  by_cases c : 0 ≤ v
  · obtain ⟨k, rfl⟩ : ∃ k : Nat, v = k := ⟨v.toNat, by omega⟩
    obtain ⟨x, ex⟩ := c_seen (k := k) (h := h1)
    rw [if_pos c, ex, Option.bind_some, fn120_43]
    split
    · split
      · exact c_RZ0_t F1 (c_50 (by omega) Z1 (fun h9 => by omega))
      · obtain ⟨z1, z2, z3, ⟨s, s1, s2, s3⟩, z5, z6⟩ := Z1
        have B := m_bit3 s s1
        have e7 : fn107 3 h1 = some (if s / 8 % 2 = 1 then 1 else 0) := by
          unfold fn107; rw [s2]
          by_cases q : s / 8 % 2 = 1
          · rw [if_pos (B.mpr q), if_pos q]
          · rw [if_neg (fun h9 => q (B.mp h9)), if_neg q]
        rw [e7, Option.bind_some]
        by_cases q : s / 8 % 2 = 1
        · rw [if_pos q, if_neg (by decide)]
          exact c_RZ0_t F1 (c_fail0 ⟨z1, z2, z3, ⟨s, s1, s2, s3⟩, z5, z6⟩)
        · rw [if_neg q, if_pos rfl]
          exact c_RZ0_t F1 (c_50 (by omega) ⟨z1, z2, z3, ⟨s, s1, s2, s3⟩, z5, z6⟩ (fun _ => ⟨s, s1, s2, by omega⟩))
    · exact c_RZ0_t F1 (c_fail0 Z1)
  · rw [if_neg c]
    exact c_RZ0_t F1 (c_fail0 Z1)
theorem c_parsel : ∀ (d k f : Nat) (h : q_F), k + d = 600 → d < f → c_Z h → c_RZ0 (fn117_6 1 f k h) h := by
  intro d
  induction d with
  | zero =>
    intro k f h hd hf Z
    obtain ⟨f, rfl⟩ : ∃ f', f = f' + 1 := ⟨f - 1, by omega⟩
    exact ⟨h, by rw [fn117_6, if_pos (by omega)], Z, c_F3_r⟩
  | succ d ih =>
    intro k f h hd hf Z
    obtain ⟨f, rfl⟩ : ∃ f', f = f' + 1 := ⟨f - 1, by omega⟩
    rw [fn117_6, if_neg (by omega)]
    split
    · obtain ⟨x, h1, a, b⟩ := c_findT Z
      obtain ⟨Z1, F1, -⟩ := c_pl_Z Z b
      rw [a, Option.bind_some]
      split
      · exact ⟨h1, rfl, Z1, F1⟩
      · obtain ⟨h2, a2, Z2, F2⟩ := c_stat Z1
        rw [a2, Option.bind_some, q_w32_id (by omega) (by omega), ← m_s1]
        exact c_RZ0_t (c_F3_t F1 F2) (ih (k + 1) f h2 (by omega) (by omega) Z2)
    · exact ⟨h, rfl, Z, c_F3_r⟩
/-- what forgetting has laid down -/
def c_fgt (h0 h : q_F) (n : Nat) : Prop := c_F3 h0 h ∧ (∀ a, a < n → h 5 a = 0 ∧ h 4 (6 * a) = 200 ∧ h 4 (6 * a + 1) = 0 ∧ h 4 (6 * a + 2) = 1000 ∧ h 4 (6 * a + 3) = 100 ∧ h 4 (6 * a + 4) = 5 ∧ h 4 (6 * a + 5) = 2)
theorem c_keepA {a i : Nat} {v : Int} {h : q_F} (ha : a < 3) (hi : i < 6) : fn113 a i v h = some (0, q_ud h 4 (6 * a + i) v) := by
  rw [fn113, if_neg (by omega), if_neg (by omega), q_w32_id (z := (a : Int) * 6) (by omega) (by omega), q_w32_id (z := (a : Int) * 6 + i) (by omega) (by omega), c_put (by omega) (by omega), Option.bind_some, show ((a : Int) * 6 + i).toNat = 6 * a + i by omega]
theorem c_fgl {h0 : q_F} (hl : 0 ≤ h0 1 1 ∧ h0 1 1 ≤ 600) : ∀ (d a f : Nat) (h : q_F), a + d = 3 → d < f → c_fgt h0 h a → ∃ h', fn105_2 f a h = some (0, h') ∧ c_Z h' ∧ c_F3 h0 h' := by
  intro d
  induction d with
  | zero =>
    intro a f h hd hf G
    obtain ⟨f, rfl⟩ : ∃ f', f = f' + 1 := ⟨f - 1, by omega⟩
    obtain rfl : a = 3 := by omega
    obtain ⟨F, G⟩ := G
    have e11 : h 1 1 = h0 1 1 := by rw [F 1 (by omega)]
    rw [fn105_2, if_pos (by omega), m_let, m_let, m_let, m_let, m_let]
    refine ⟨_, rfl, ⟨?_, ?_, ?_, ⟨0, by omega, ?_, fun _ a ha => ?_⟩, fun a ha i hi => ?_, fun a ha => ?_⟩, c_F3_u (c_F3_u (c_F3_u (c_F3_u (c_F3_u F (by omega)) (by omega)) (by omega)) (by omega)) (by omega)⟩
    · rw [q_ud_n (by omega), q_ud_n (by omega), q_ud_n (by omega), q_ud_n (by omega), q_ud_n (by omega), e11]; exact hl
    · rw [q_ud_s, q_ud_n (by omega), q_ud_n (by omega), q_ud_n (by omega), q_ud_n (by omega), q_ud_n (by omega), e11]; exact ⟨by omega, hl.1⟩
    · rw [q_ud_n (by omega), q_ud_n (by omega), q_ud_n (by omega), q_ud_n (by omega), q_ud_s]; omega
    · rw [q_ud_n (by omega), q_ud_n (by omega), q_ud_n (by omega), q_ud_s]; rfl
    · rw [q_ud_n (by omega), q_ud_n (by omega), q_ud_n (by omega), q_ud_n (by omega), q_ud_n (by omega)]; exact (G a ha).1
    · rw [q_ud_n (by omega), q_ud_n (by omega), q_ud_n (by omega), q_ud_n (by omega), q_ud_n (by omega)]
      obtain ⟨-, g0, g1, g2, g3, g4, g5⟩ := G a ha
      obtain rfl | rfl | rfl | rfl | rfl | rfl : i = 0 ∨ i = 1 ∨ i = 2 ∨ i = 3 ∨ i = 4 ∨ i = 5 := by omega
      all_goals
        unfold m_nr
        refine ⟨?_, ?_, ?_, ?_, ?_, ?_⟩ <;> intro h9 <;> first | omega | (simp only [Nat.add_zero]; omega)
    · rw [q_ud_n (by omega), q_ud_n (by omega), q_ud_n (by omega), q_ud_n (by omega), q_ud_n (by omega), q_ud_n (by omega), q_ud_n (by omega), q_ud_n (by omega), q_ud_n (by omega), q_ud_n (by omega)]
      have := G a ha
      omega
  | succ d ih =>
    intro a f h hd hf G
    obtain ⟨f, rfl⟩ : ∃ f', f = f' + 1 := ⟨f - 1, by omega⟩
    have ha : a < 3 := by omega
    have k0 : ∀ v h, fn113 a 0 v h = some (0, q_ud h 4 (6 * a) v) := fun v h => c_keepA (i := 0) ha (by omega)
    have k1 : ∀ v h, fn113 a 1 v h = some (0, q_ud h 4 (6 * a + 1) v) := fun v h => c_keepA (i := 1) ha (by omega)
    have k2 : ∀ v h, fn113 a 2 v h = some (0, q_ud h 4 (6 * a + 2) v) := fun v h => c_keepA (i := 2) ha (by omega)
    have k3 : ∀ v h, fn113 a 3 v h = some (0, q_ud h 4 (6 * a + 3) v) := fun v h => c_keepA (i := 3) ha (by omega)
    have k4 : ∀ v h, fn113 a 4 v h = some (0, q_ud h 4 (6 * a + 4) v) := fun v h => c_keepA (i := 4) ha (by omega)
    have k5 : ∀ v h, fn113 a 5 v h = some (0, q_ud h 4 (6 * a + 5) v) := fun v h => c_keepA (i := 5) ha (by omega)
    rw [fn105_2, if_neg (by omega), c_put (by omega) (by omega), Option.bind_some]
    dsimp only
    rw [k0, Option.bind_some]
    dsimp only
    rw [k1, Option.bind_some]
    dsimp only
    rw [k2, Option.bind_some]
    dsimp only
    rw [k3, Option.bind_some]
    dsimp only
    rw [k4, Option.bind_some]
    dsimp only
    rw [k5, Option.bind_some]
    dsimp only
    rw [Int.toNat_natCast, q_w32_id (by omega) (by omega), ← m_s1]
    obtain ⟨F, G⟩ := G
    refine ih (a + 1) f _ (by omega) (by omega) ⟨c_F3_u (c_F3_u (c_F3_u (c_F3_u (c_F3_u (c_F3_u (c_F3_u F (by omega)) (by omega)) (by omega)) (by omega)) (by omega)) (by omega)) (by omega), fun b hb => ?_⟩
    by_cases e : b = a
    · subst e
      refine ⟨?_, ?_, ?_, ?_, ?_, ?_, ?_⟩ <;> (simp [q_ud]) <;> omega
    · obtain ⟨g, g0, g1, g2, g3, g4, g5⟩ := G b (by omega)
      refine ⟨?_, ?_, ?_, ?_, ?_, ?_, ?_⟩ <;> (rw [q_ud_n (by omega), q_ud_n (by omega), q_ud_n (by omega), q_ud_n (by omega), q_ud_n (by omega), q_ud_n (by omega), q_ud_n (by omega)]; assumption)
theorem c_parse {h : q_F} (hl : 0 ≤ h 1 1 ∧ h 1 1 ≤ 600) : c_RZ0 (fn117 1 h) h := by
  obtain ⟨h1, a, Z, F⟩ := c_fgl hl 3 0 q_fu h (by omega) (by have := q_fu_ge; omega) ⟨c_F3_r, fun a ha => absurd ha (Nat.not_lt_zero a)⟩
  have a' : fn105 h = some (0, h1) := a
  rw [fn117, a', Option.bind_some]
  exact c_RZ0_t F (c_parsel 600 0 q_fu h1 (by omega) (by have := q_fu_ge; omega) Z)
