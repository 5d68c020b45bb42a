section -- [94.cload]
/-! Part 94: the class reads a setup text. -/
theorem m_bits : ∀ s : Nat, s < 128 → ∀ k : Nat, k < 7 → (q_ior (s : Int) (q_ishl 1 (k : Int))).toNat < 128 ∧ q_ior (s : Int) (q_ishl 1 (k : Int)) = ((q_ior (s : Int) (q_ishl 1 (k : Int))).toNat : Int) ∧ (k = 3 → (q_ior (s : Int) (q_ishl 1 (k : Int))).toNat / 8 % 2 = 1) ∧ (k ≠ 3 → (q_ior (s : Int) (q_ishl 1 (k : Int))).toNat / 8 % 2 = s / 8 % 2) := by decide +kernel
theorem m_bit3 : ∀ s : Nat, s < 128 → (q_ian (q_ishr (s : Int) 3) 1 = 1 ↔ s / 8 % 2 = 1) := by decide +kernel
theorem m_gt : ∀ i : Nat, i < 6 → 0 ≤ q_lgv 1 (i : Int) ∧ q_lgv 2 (i : Int) ≤ 5000 ∧ (i ≤ 3 → i ≠ 1 → 1 ≤ q_lgv 1 (i : Int)) ∧ (i = 0 → q_lgv 2 (i : Int) ≤ 2000) ∧ (i = 1 ∨ i = 5 → q_lgv 2 (i : Int) ≤ 20) ∧ (i = 3 → q_lgv 2 (i : Int) ≤ 500) := by decide +kernel
theorem q_sl10 (z : Int) : 0 ≤ qx_sl z ∧ qx_sl z ≤ 10 := by have := q_sb_l (q_sw z); unfold qx_sl; omega
/-- what a number of an axis may be -/
def m_nr (i : Nat) (v : Int) : Prop := (i = 0 → 1 ≤ v ∧ v ≤ 2000) ∧ (i = 1 → 0 ≤ v ∧ v ≤ 20) ∧ (i = 2 → 1 ≤ v ∧ v ≤ 5000) ∧ (i = 3 → 1 ≤ v ∧ v ≤ 500) ∧ (i = 4 → 0 ≤ v ∧ v ≤ 2000) ∧ (i = 5 → 0 ≤ v ∧ v ≤ 20)
def c_Z (h : q_F) : Prop := (0 ≤ h 1 1 ∧ h 1 1 ≤ 600) ∧ (0 ≤ h 3 6 ∧ h 3 6 ≤ h 1 1) ∧ (1 ≤ h 3 2 ∧ h 3 2 ≤ 1000) ∧ (∃ s : Nat, s < 128 ∧ h 3 3 = (s : Int) ∧ (s / 8 % 2 = 0 → ∀ a, a < 3 → h 5 a = 0)) ∧ (∀ a, a < 3 → ∀ i, i < 6 → m_nr i (h 4 (6 * a + i))) ∧ ∀ a, a < 3 → 0 ≤ h 5 a ∧ h 5 a ≤ h 4 (6 * a)
def c_F3 (h h' : q_F) : Prop := ∀ k, k < 3 ∨ 5 < k → h' k = h k
theorem c_F3_r {h : q_F} : c_F3 h h := fun _ _ => rfl
theorem c_F3_t {h h1 h2 : q_F} (f : c_F3 h h1) (g : c_F3 h1 h2) : c_F3 h h2 := fun k hk => (g k hk).trans (f k hk)
theorem c_F3_u {h h' : q_F} {k j : Nat} {v : Int} (f : c_F3 h h') (hk : 3 ≤ k ∧ k ≤ 5) : c_F3 h (q_ud h' k j v) := fun i hi => by funext j'; rw [q_ud_n (by omega)]; rw [f i hi]
theorem c_Z_3 {h : q_F} {j : Nat} {v : Int} (Z : c_Z h) (hj : j = 4 ∨ j = 5 ∨ (j = 6 ∧ 0 ≤ v ∧ v ≤ h 1 1) ∨ (j = 2 ∧ 1 ≤ v ∧ v ≤ 1000)) : c_Z (q_ud h 3 j v) := by
  obtain ⟨z1, z2, z3, ⟨s, s1, s2, s3⟩, z5, z6⟩ := Z
  refine ⟨by rw [q_ud_n (by omega)]; exact z1, ?_, ?_, ⟨s, s1, by rw [q_ud_n (by omega)]; exact s2, fun h8 a ha => by rw [q_ud_n (by omega)]; exact s3 h8 a ha⟩, fun a ha i hi => by rw [q_ud_n (by omega)]; exact z5 a ha i hi, fun a ha => by rw [q_ud_n (by omega), q_ud_n (by omega)]; exact z6 a ha⟩
  · rw [q_ud_n (show ¬ (1 = 3 ∧ 1 = j) by omega)]
    by_cases e : j = 6
    · subst e; rw [q_ud_s]; omega
    · rw [q_ud_n (by omega)]; exact z2
  · by_cases e : j = 2
    · subst e; rw [q_ud_s]; omega
    · rw [q_ud_n (by omega)]; exact z3
theorem c_T63 (z : Int) (h : q_F) : ∃ v, fn63 1 z h = some v ∧ (v ≠ -1 → 0 ≤ z ∧ z < h 1 1) := by
  unfold fn63
  split
  · exact ⟨_, rfl, fun h9 => absurd rfl h9⟩
  · split
    · exact ⟨_, rfl, fun h9 => absurd rfl h9⟩
    · split
      · exact ⟨_, rfl, fun h9 => absurd rfl h9⟩
      · rw [if_pos (by omega)]; exact ⟨_, rfl, fun _ => by omega⟩
theorem q_ud_u (h : q_F) (k j : Nat) (v v' : Int) : q_ud (q_ud h k j v) k j v' = q_ud h k j v' := by
  funext k' j'
  by_cases e : k' = k ∧ j' = j
  · rw [e.1, e.2, q_ud_s, q_ud_s]
  · rw [q_ud_n e, q_ud_n e, q_ud_n e]
theorem q_ud_id (h : q_F) (k j : Nat) : q_ud h k j (h k j) = h := by
  funext k' j'
  by_cases e : k' = k ∧ j' = j
  · rw [e.1, e.2, q_ud_s]
  · rw [q_ud_n e]
/-- the place gone on -/
def c_pl (h h' : q_F) : Prop := ∃ p, h' = q_ud h 3 6 p ∧ h 3 6 ≤ p ∧ p ≤ h 1 1
theorem c_pl_r {h : q_F} (Z : c_Z h) : c_pl h h := ⟨h 3 6, (q_ud_id _ _ _).symm, by omega, Z.2.1.2⟩
theorem c_pl_Z {h h' : q_F} (Z : c_Z h) (p : c_pl h h') : c_Z h' ∧ c_F3 h h' ∧ h' 3 3 = h 3 3 ∧ h' 3 4 = h 3 4 ∧ h' 5 = h 5 ∧ h' 4 = h 4 := by
  obtain ⟨q, rfl, q1, q2⟩ := p
  have := Z.2.1
  exact ⟨c_Z_3 Z (Or.inr (Or.inr (Or.inl ⟨rfl, by omega, q2⟩))), c_F3_u c_F3_r (by omega), q_ud_n (by omega), q_ud_n (by omega), by funext j; rw [q_ud_n (by omega)], by funext j; rw [q_ud_n (by omega)]⟩
theorem c_pl_s {h h' : q_F} (Z : c_Z h) (hp : h 3 6 < h 1 1) (p : c_pl (q_ud h 3 6 (h 3 6 + 1)) h') : c_pl h h' := by
  obtain ⟨q, rfl, q1, q2⟩ := p
  rw [q_ud_s] at q1
  rw [q_ud_n (by omega)] at q2
  exact ⟨q, q_ud_u _ _ _ _ _, by omega, q2⟩
theorem c_step6 {h : q_F} (Z : c_Z h) (hp : h 3 6 < h 1 1) : c_Z (q_ud h 3 6 (h 3 6 + 1)) := c_Z_3 Z (Or.inr (Or.inr (Or.inl ⟨rfl, by have := Z.2.1; omega, by omega⟩)))
theorem c_find : ∀ (d f : Nat) (h : q_F), (h 1 1 - h 3 6).toNat ≤ d → d < f → c_Z h → ∃ x h', fn104_0 1 f h = some (x, h') ∧ c_pl h h' := by
  intro d
  induction d with
  | zero =>
    intro f h hd hf Z
    obtain ⟨f, rfl⟩ : ∃ f', f = f' + 1 := ⟨f - 1, by omega⟩
    rw [fn104_0, if_pos (by omega)]; unfold fn104_38
    split <;> exact ⟨_, h, rfl, c_pl_r Z⟩
  | succ d ih =>
    intro f h hd hf Z
    obtain ⟨f, rfl⟩ : ∃ f', f = f' + 1 := ⟨f - 1, by omega⟩
    have en : ∃ x h', fn104_38 1 h = some (x, h') ∧ c_pl h h' := by unfold fn104_38; split <;> exact ⟨_, h, rfl, c_pl_r Z⟩
    rw [fn104_0]
    by_cases c : h 1 1 ≤ h 3 6
    · rw [if_pos c]; exact en
    · obtain ⟨v, e, -⟩ := c_T63 (h 3 6) h
      have t : ∃ y, fn109 v h = some y := by unfold fn109 fn109_12; (repeat' split) <;> exact ⟨_, rfl⟩
      obtain ⟨y, ey⟩ := t
      rw [if_neg c, e, Option.bind_some, ey, Option.bind_some]
      split
      · exact en
      · rw [m_let, q_w32_id (by have := Z.1; have := Z.2.1; omega) (by have := Z.1; have := Z.2.1; omega)]
        obtain ⟨x, h', a, b⟩ := ih f (q_ud h 3 6 (h 3 6 + 1)) (by rw [q_ud_s, q_ud_n (by omega)]; omega) (by omega) (c_step6 Z (by omega))
        exact ⟨x, h', a, c_pl_s Z (by omega) b⟩
theorem c_findT {h : q_F} (Z : c_Z h) : ∃ x h', fn104 1 h = some (x, h') ∧ c_pl h h' := c_find 600 q_fu h (by have := Z.1; have := Z.2.1; omega) (by have := q_fu_ge; omega) Z
theorem c_wordl {s u : Int} {h : q_F} : ∀ (d k f : Nat), (k : Int) + d = qx_sl s → d < f → ∃ v, fn112_15 1 s h f u k = some v := by
  have sl := q_sl10 s
  intro d
  induction d with
  | zero =>
    intro k f hd hf
    obtain ⟨f, rfl⟩ : ∃ f', f = f' + 1 := ⟨f - 1, by omega⟩
    exact ⟨1, by rw [fn112_15, if_pos (by omega)]⟩
  | succ d ih =>
    intro k f hd hf
    obtain ⟨f, rfl⟩ : ∃ f', f = f' + 1 := ⟨f - 1, by omega⟩
    obtain ⟨v, e, -⟩ := c_T63 (q_w32 (u + (k : Int))) h
    rw [fn112_15, if_neg (by omega), e, Option.bind_some, if_pos (by omega)]
    split
    · rw [q_w32_id (by omega) (by omega), ← m_s1]; exact ih (k + 1) f (by omega) (by omega)
    · exact ⟨_, rfl⟩
theorem c_isWord (s u p : Int) (h : q_F) : ∃ v, fn112 1 s u p h = some v := by
  have sl := q_sl10 s
  unfold fn112
  split
  · exact c_wordl (qx_sl s).toNat 0 q_fu (by omega) (by have := q_fu_ge; omega)
  · exact ⟨_, rfl⟩
theorem c_stats {u : Int} {h : q_F} : ∀ (d k f : Nat), k + d = 7 → d < f → ∃ v, fn121_45 1 f u k h = some (v, h) ∧ -1 ≤ v ∧ v ≤ 6 := by
  intro d
  induction d with
  | zero =>
    intro k f hd hf
    obtain ⟨f, rfl⟩ : ∃ f', f = f' + 1 := ⟨f - 1, by omega⟩
    exact ⟨-1, by rw [fn121_45, if_pos (by omega)], by omega, by omega⟩
  | succ d ih =>
    intro k f hd hf
    obtain ⟨f, rfl⟩ : ∃ f', f = f' + 1 := ⟨f - 1, by omega⟩
    have t : ∃ y, fn122 k h = some y := by unfold fn122; (repeat' split) <;> exact ⟨_, rfl⟩
    obtain ⟨y, ey⟩ := t
    obtain ⟨v, e⟩ := c_isWord y u (h 3 6) h
    rw [fn121_45, if_neg (by omega), ey, Option.bind_some, e, Option.bind_some]
    split
    · rw [q_w32_id (by omega) (by omega), ← m_s1]; exact ih (k + 1) f (by omega) (by omega)
    · exact ⟨_, rfl, by omega, by omega⟩
theorem c_readW {u : Int} : ∀ (d f : Nat) (h : q_F), (h 1 1 - h 3 6).toNat ≤ d → d < f → c_Z h → ∃ v h', fn121_5 1 f u h = some (v, h') ∧ c_pl h h' ∧ -1 ≤ v ∧ v ≤ 6 := by
  intro d
  induction d with
  | zero =>
    intro f h hd hf Z
    obtain ⟨f, rfl⟩ : ∃ f', f = f' + 1 := ⟨f - 1, by omega⟩
    rw [fn121_5, if_pos (by omega), fn121_43]
    obtain ⟨v, a, b⟩ := c_stats (u := u) (h := h) 7 0 q_fu (by omega) (by have := q_fu_ge; omega)
    exact ⟨v, h, a, c_pl_r Z, b⟩
  | succ d ih =>
    intro f h hd hf Z
    obtain ⟨f, rfl⟩ : ∃ f', f = f' + 1 := ⟨f - 1, by omega⟩
    have en : ∃ v h', fn121_43 1 u h = some (v, h') ∧ c_pl h h' ∧ -1 ≤ v ∧ v ≤ 6 := by
      rw [fn121_43]
      obtain ⟨v, a, b⟩ := c_stats (u := u) (h := h) 7 0 q_fu (by omega) (by have := q_fu_ge; omega)
      exact ⟨v, h, a, c_pl_r Z, b⟩
    rw [fn121_5]
    by_cases c : h 1 1 ≤ h 3 6
    · rw [if_pos c]; exact en
    · obtain ⟨v, e, -⟩ := c_T63 (h 3 6) h
      have t : ∃ y, fn111 v h = some y := by unfold fn111; (repeat' split) <;> exact ⟨_, rfl⟩
      obtain ⟨y, ey⟩ := t
      rw [if_neg c, e, Option.bind_some, ey, Option.bind_some]
      split
      · exact en
      · rw [m_let, q_w32_id (by have := Z.1; have := Z.2.1; omega) (by have := Z.1; have := Z.2.1; omega)]
        obtain ⟨x, h', a, b, b2⟩ := ih f (q_ud h 3 6 (h 3 6 + 1)) (by rw [q_ud_s, q_ud_n (by omega)]; omega) (by omega) (c_step6 Z (by omega))
        exact ⟨x, h', a, c_pl_s Z (by omega) b, b2⟩
/-- an end of a part of the reading: sound, and the places of begin as they may be -/
def c_RZ (f : Option (Int × q_F)) (h : q_F) : Prop := ∃ v h', f = some (v, h') ∧ c_Z h' ∧ c_F3 h h' ∧ h' 3 3 = h 3 3
theorem c_fail3 {c p : Int} {h : q_F} (Z : c_Z h) : c_RZ ((fn103 c p h).bind fun x5 => some ((0 : Int), x5.2)) h := by
  rw [fn103, m_let, m_let, Option.bind_some]
  dsimp only
  exact ⟨_, _, rfl, c_Z_3 (c_Z_3 Z (Or.inl rfl)) (Or.inr (Or.inl rfl)), c_F3_u (c_F3_u c_F3_r (by omega)) (by omega), by rw [q_ud_n (by omega), q_ud_n (by omega)]⟩
/-- a number kept -/
theorem c_keep {st sl : Nat} {v : Int} {h : q_F} (Z : c_Z h) (hst : st < 5) (hb : st < 3 → ∀ a, a < 3 → h 5 a = 0) (hsl : (st < 3 → sl < 6 ∧ m_nr sl v ∧ (sl = 4 → v ≤ h 4 (6 * st))) ∧ (st = 3 → sl < 3 ∧ 0 ≤ v ∧ v ≤ h 4 (6 * sl) ∧ ∃ s : Nat, h 3 3 = (s : Int) ∧ s / 8 % 2 = 1) ∧ (st = 4 → 1 ≤ v ∧ v ≤ 1000)) : ∃ h', fn113 st sl v h = some (0, h') ∧ c_Z h' ∧ c_F3 h h' ∧ h' 3 3 = h 3 3 ∧ (st < 3 → ∀ a, a < 3 → h' 5 a = 0) := by
  obtain ⟨k1, k2, k3⟩ := hsl
  unfold fn113
  by_cases e4 : st = 4
  · subst e4
    rw [if_pos (show ((4 : Nat) : Int) = 4 from rfl), m_let]
    exact ⟨_, rfl, c_Z_3 Z (Or.inr (Or.inr (Or.inr ⟨rfl, k3 rfl⟩))), c_F3_u c_F3_r (by omega), q_ud_n (by omega), fun h9 => absurd h9 (by omega)⟩
  · rw [if_neg (by omega)]
    by_cases e3 : st = 3
    · subst e3
      obtain ⟨l1, l2, l3, s, s1, s2⟩ := k2 rfl
      rw [if_pos (show ((3 : Nat) : Int) = 3 from rfl), c_put (by omega) (by omega), Option.bind_some, Int.toNat_natCast]
      dsimp only
      refine ⟨_, rfl, ?_, c_F3_u c_F3_r (by omega), q_ud_n (by omega), fun h9 => absurd h9 (by omega)⟩
      obtain ⟨z1, z2, z3, ⟨t, t1, t2, t3⟩, z5, z6⟩ := Z
      refine ⟨by rw [q_ud_n (by omega)]; exact z1, by rw [q_ud_n (by omega), q_ud_n (by omega)]; exact z2, by rw [q_ud_n (by omega)]; exact z3, ⟨t, t1, by rw [q_ud_n (by omega)]; exact t2, fun h8 => by omega⟩, fun a ha i hi => by rw [q_ud_n (by omega)]; exact z5 a ha i hi, fun a ha => ?_⟩
      rw [q_ud_n (show ¬ (4 = 5 ∧ 6 * a = sl) by omega)]
      by_cases ea : a = sl
      · subst ea; rw [q_ud_s]; exact ⟨l2, l3⟩
      · rw [q_ud_n (by omega)]; exact z6 a ha
    · have h3 : st < 3 := by omega
      obtain ⟨l1, l2, l3⟩ := k1 h3
      rw [if_neg (by omega), q_w32_id (z := (st : Int) * 6) (by omega) (by omega), q_w32_id (z := (st : Int) * 6 + sl) (by omega) (by omega), c_put (by omega) (by omega), Option.bind_some, show ((st : Int) * 6 + sl).toNat = 6 * st + sl by omega]
      dsimp only
      refine ⟨_, rfl, ?_, c_F3_u c_F3_r (by omega), q_ud_n (by omega), fun _ a ha => by rw [q_ud_n (by omega)]; exact hb h3 a ha⟩
      obtain ⟨z1, z2, z3, ⟨t, t1, t2, t3⟩, z5, z6⟩ := Z
      have N : ∀ a, a < 3 → ∀ i, i < 6 → m_nr i (q_ud h 4 (6 * st + sl) v 4 (6 * a + i)) := fun a ha i hi => by
        by_cases ea : a = st ∧ i = sl
        · rw [ea.1, ea.2, q_ud_s]; exact l2
        · rw [q_ud_n (by omega)]; exact z5 a ha i hi
      refine ⟨by rw [q_ud_n (by omega)]; exact z1, by rw [q_ud_n (by omega), q_ud_n (by omega)]; exact z2, by rw [q_ud_n (by omega)]; exact z3, ⟨t, t1, by rw [q_ud_n (by omega)]; exact t2, fun h8 a ha => by rw [q_ud_n (by omega)]; exact hb h3 a ha⟩, N, fun a ha => ?_⟩
      rw [q_ud_n (show ¬ (5 = 4 ∧ a = 6 * st + sl) by omega), hb h3 a ha]
      have := (N a ha 0 (by omega)).1 rfl
      simp only [Nat.add_zero] at this
      omega
theorem c_T115 {a i : Nat} {h : q_F} (ha : a < 3) (hi : i < 6) : fn115 a i h = some (h 4 (6 * a + i)) := by
  rw [fn115, q_w32_id (z := (a : Int) * 6) (by omega) (by omega), q_w32_id (z := (a : Int) * 6 + i) (by omega) (by omega), c_ent (by omega) (by omega), Option.bind_some, show ((a : Int) * 6 + i).toNat = 6 * a + i by omega]
theorem c_ents {z : Nat} {i : Nat} {h : q_F} (hi : i < 6) : fn175s (z : Int) i h = some (q_lgv z i) := by
  rw [fn175s, if_neg (by omega), if_neg (by omega), if_pos (by omega)]
theorem c_num72 {st sl : Nat} {u4 u5 : Int} {h : q_F} (Z : c_Z h) (hst : st < 5) (hsl : (st < 3 → sl < 6) ∧ (st = 3 → sl < 3)) (hb : st < 3 → ∀ a, a < 3 → h 5 a = 0) (hs : st = 3 → ∃ s : Nat, h 3 3 = (s : Int) ∧ s / 8 % 2 = 1) : ∃ h', fn118_72 1 st sl u4 u5 h = some (0, h') ∧ c_Z h' ∧ c_F3 h h' ∧ h' 3 3 = h 3 3 ∧ (st < 3 → ∀ a, a < 3 → h' 5 a = 0) := by
  have bad : ∀ c, ∃ h', ((fn103 c u4 h).bind fun x4 => some ((0 : Int), x4.2)) = some (0, h') ∧ c_Z h' ∧ c_F3 h h' ∧ h' 3 3 = h 3 3 ∧ (st < 3 → ∀ a, a < 3 → h' 5 a = 0) := fun c => by
    rw [fn103, m_let, m_let, Option.bind_some]
    dsimp only
    exact ⟨_, rfl, c_Z_3 (c_Z_3 Z (Or.inl rfl)) (Or.inr (Or.inl rfl)), c_F3_u (c_F3_u c_F3_r (by omega)) (by omega), by rw [q_ud_n (by omega), q_ud_n (by omega)], fun h3 a ha => by rw [q_ud_n (by omega), q_ud_n (by omega)]; exact hb h3 a ha⟩
  have lst : ∃ x, fn114 st sl h = some x ∧ (st < 3 → x = q_lgv 1 sl) ∧ (st = 3 → x = 0) ∧ (st = 4 → x = 1) := by
    unfold fn114
    by_cases e4 : st = 4
    · rw [if_pos (by omega)]; exact ⟨_, rfl, by omega, by omega, fun _ => rfl⟩
    · rw [if_neg (by omega)]
      by_cases e3 : st = 3
      · rw [if_pos (by omega)]; exact ⟨_, rfl, by omega, fun _ => rfl, by omega⟩
      · rw [if_neg (by omega), show (1 : Int) = ((1 : Nat) : Int) from rfl, c_ents (hsl.1 (by omega)), Option.bind_some]; exact ⟨_, rfl, fun _ => rfl, by omega, by omega⟩
  have gst : ∃ x, fn106 st sl h = some x ∧ (st < 3 → (sl = 4 → x = h 4 (6 * st)) ∧ (sl ≠ 4 → x = q_lgv 2 sl)) ∧ (st = 3 → x = h 4 (6 * sl)) ∧ (st = 4 → x = 1000) := by
    unfold fn106
    by_cases e4 : st = 4
    · rw [if_pos (by omega)]; exact ⟨_, rfl, by omega, by omega, fun _ => rfl⟩
    · rw [if_neg (by omega)]
      by_cases e3 : st = 3
      · have t := c_T115 (i := 0) (h := h) (hsl.2 e3) (by omega)
        have t' : fn115 (sl : Int) 0 h = some (h 4 (6 * sl)) := t
        rw [if_pos (by omega), t', Option.bind_some]; exact ⟨_, rfl, by omega, fun _ => rfl, by omega⟩
      · rw [if_neg (by omega)]
        by_cases e5 : sl = 4
        · have t := c_T115 (a := st) (i := 0) (h := h) (by omega) (by omega)
          have t' : fn115 (st : Int) 0 h = some (h 4 (6 * st)) := t
          rw [if_pos (by omega), t', Option.bind_some]; exact ⟨_, rfl, fun _ => ⟨fun _ => rfl, fun h9 => absurd e5 h9⟩, by omega, by omega⟩
        · rw [if_neg (by omega), show (2 : Int) = ((2 : Nat) : Int) from rfl, c_ents (hsl.1 (by omega)), Option.bind_some]; exact ⟨_, rfl, fun _ => ⟨fun h9 => absurd h9 e5, fun _ => rfl⟩, by omega, by omega⟩
  obtain ⟨x, ex, x1, x2, x3⟩ := lst
  obtain ⟨y, ey, y1, y2, y3⟩ := gst
  unfold fn118_72 fn118_93 fn118_125
  rw [ex, Option.bind_some, ey]
  split
  · exact bad 1
  · split
    · split
      · exact bad 2
      · rename_i c1
        rw [Option.bind_some]
        split
        · rename_i c2
          obtain ⟨h', a, b⟩ := c_keep (v := u5) Z hst hb ⟨fun h3 => by
            have g := m_gt sl (hsl.1 h3)
            have hx := x1 h3
            have hy := y1 h3
            have z5 := (Z.2.2.2.2.1 st h3 0 (by omega)).1 rfl
            simp only [Nat.add_zero] at z5
            refine ⟨hsl.1 h3, ?_, fun e5 => by have := hy.1 e5; omega⟩
            unfold m_nr
            refine ⟨fun e => ?_, fun e => ?_, fun e => ?_, fun e => ?_, fun e => ?_, fun e => ?_⟩
            · have := hy.2 (by omega); have := g.2.2.1 (by omega) (by omega); have := g.2.2.2.1 e; omega
            · have := hy.2 (by omega); have := g.2.2.2.2.1 (Or.inl e); omega
            · have := hy.2 (by omega); have := g.2.2.1 (by omega) (by omega); omega
            · have := hy.2 (by omega); have := g.2.2.1 (by omega) (by omega); have := g.2.2.2.2.2 e; omega
            · have := hy.1 e; omega
            · have := hy.2 (by omega); have := g.2.2.2.2.1 (Or.inr e); omega, fun e3 => ⟨hsl.2 e3, by have := x2 e3; omega, by have := y2 e3; omega, hs e3⟩, fun e4 => by have := x3 e4; have := y3 e4; omega⟩
          exact ⟨h', by rw [a, Option.bind_some], b⟩
        · exact bad 2
    · exact bad 1
end -- [94.cload]
section -- [95.cload]
/-! Part 95: the class reads a setup text, gone on with. -/
def c_NB (st : Nat) (f : Option (Int × q_F)) (h : q_F) : Prop := ∃ h', f = some (0, h') ∧ c_Z h' ∧ c_F3 h h' ∧ h' 3 3 = h 3 3 ∧ (st < 3 → ∀ a, a < 3 → h' 5 a = 0)
theorem c_NB_t {st : Nat} {f : Option (Int × q_F)} {h h1 : q_F} (F : c_F3 h h1) (e : h1 3 3 = h 3 3) (g : c_NB st f h1) : c_NB st f h := by
  obtain ⟨h', a, b, c, d, i⟩ := g
  exact ⟨h', a, b, c_F3_t F c, d.trans e, i⟩
theorem c_digl {st sl : Nat} {u4 : Int} (hst : st < 5) (hsl : (st < 3 → sl < 6) ∧ (st = 3 → sl < 3)) : ∀ (d f : Nat) (u5 : Int) (h : q_F), (h 1 1 - h 3 6).toNat ≤ d → d < f → c_Z h → (st < 3 → ∀ a, a < 3 → h 5 a = 0) → (st = 3 → ∃ s : Nat, h 3 3 = (s : Int) ∧ s / 8 % 2 = 1) → c_NB st (fn118_15 1 f st sl u4 u5 h) h := by
  intro d
  induction d with
  | zero =>
    intro f u5 h hd hf Z hb hs
    obtain ⟨f, rfl⟩ : ∃ f', f = f' + 1 := ⟨f - 1, by omega⟩
    rw [fn118_15, if_pos (by omega)]; exact c_num72 Z hst hsl hb hs
  | succ d ih =>
    intro f u5 h hd hf Z hb hs
    obtain ⟨f, rfl⟩ : ∃ f', f = f' + 1 := ⟨f - 1, by omega⟩
    rw [fn118_15]
    by_cases c : h 1 1 ≤ h 3 6
    · rw [if_pos c]; exact c_num72 Z hst hsl hb hs
    · obtain ⟨v, e, -⟩ := c_T63 (h 3 6) h
      have t : ∃ y, fn110 v h = some y := by unfold fn110; (repeat' split) <;> exact ⟨_, rfl⟩
      obtain ⟨y, ey⟩ := t
      rw [if_neg c, e, Option.bind_some, ey, Option.bind_some]
      split
      · exact c_num72 Z hst hsl hb hs
      · rw [Option.bind_some, m_let, q_w32_id (z := h 3 6 + 1) (by have := Z.1; have := Z.2.1; omega) (by have := Z.1; have := Z.2.1; omega)]
        have hd' : (h 1 1 - (h 3 6 + 1)).toNat ≤ d := by clear hs ih hb; omega
        have hf' : d < f := by clear hs ih hb; omega
        have hl' : h 3 6 < h 1 1 := by clear hs ih hb; omega
        refine c_NB_t (c_F3_u c_F3_r (by decide)) (q_ud_n (by decide)) (ih f _ (q_ud h 3 6 (h 3 6 + 1)) (by rw [q_ud_s, q_ud_n (by decide)]; exact hd') hf' (c_step6 Z hl') (fun h3 a ha => by rw [q_ud_n (by omega)]; exact hb h3 a ha) (fun h3 => ?_))
        obtain ⟨s, s1, s2⟩ := hs h3
        exact ⟨s, by rw [q_ud_n (by decide)]; exact s1, s2⟩
theorem c_num {st sl : Nat} {h : q_F} (hst : st < 5) (hsl : (st < 3 → sl < 6) ∧ (st = 3 → sl < 3)) (Z : c_Z h) (hb : st < 3 → ∀ a, a < 3 → h 5 a = 0) (hs : st = 3 → ∃ s : Nat, h 3 3 = (s : Int) ∧ s / 8 % 2 = 1) : c_NB st (fn118 1 st sl h) h := by
  obtain ⟨x, h1, a, b⟩ := c_findT Z
  obtain ⟨Z1, F1, e3, e4, e5, -⟩ := c_pl_Z Z b
  rw [fn118, a, Option.bind_some]
  exact c_NB_t F1 e3 (c_digl hst hsl 600 q_fu 0 h1 (by have := Z1.1; have := Z1.2.1; omega) (by have := q_fu_ge; omega) Z1 (fun h3 a ha => by rw [e5]; exact hb h3 a ha) (fun h3 => by
    obtain ⟨s, s1, s2⟩ := hs h3
    exact ⟨s, by show h1 3 3 = _; rw [e3]; exact s1, s2⟩))
def c_RZ0 (f : Option (Int × q_F)) (h : q_F) : Prop := ∃ h', f = some (0, h') ∧ c_Z h' ∧ c_F3 h h'
theorem c_RZ0_t {f : Option (Int × q_F)} {h h1 : q_F} (F : c_F3 h h1) (g : c_RZ0 f h1) : c_RZ0 f h := by
  obtain ⟨h', a, b, c⟩ := g
  exact ⟨h', a, b, c_F3_t F c⟩
theorem c_fail0 {c p : Int} {h : q_F} (Z : c_Z h) : c_RZ0 ((fn103 c p h).bind fun x5 => some ((0 : Int), x5.2)) h := by
  rw [fn103, m_let, m_let, Option.bind_some]
  exact ⟨_, rfl, c_Z_3 (c_Z_3 Z (Or.inl rfl)) (Or.inr (Or.inl rfl)), c_F3_u (c_F3_u c_F3_r (by omega)) (by omega)⟩
theorem c_semi {h : q_F} (Z : c_Z h) : c_RZ0 (fn119 1 h) h := by
  obtain ⟨x, h1, a, b⟩ := c_findT Z
  obtain ⟨Z1, F1, -⟩ := c_pl_Z Z b
  obtain ⟨v, e, ev⟩ := c_T63 (h1 3 6) h1
  rw [fn119, a, Option.bind_some]
  dsimp only
  rw [e, Option.bind_some]
  split
  · rename_i c
    rw [m_let, q_w32_id (by have := Z1.1; have := Z1.2.1; omega) (by have := Z1.1; have := Z1.2.1; omega)]
    have := ev (by omega)
    exact ⟨_, rfl, c_step6 Z1 this.2, c_F3_t F1 (c_F3_u c_F3_r (by omega))⟩
  · exact c_RZ0_t F1 (c_fail0 Z1)
theorem c_99 {h : q_F} (Z : c_Z h) : c_RZ0 (fn120_99 1 h) h := by
  unfold fn120_99
  split
  · obtain ⟨h', a, b, c⟩ := c_semi Z
    exact ⟨h', by rw [a, Option.bind_some], b, c⟩
  · exact ⟨h, rfl, Z, c_F3_r⟩
theorem c_numl {st n : Nat} (hst : st < 7) (hn : (st < 3 → n = 6) ∧ (st = 3 → n = 3) ∧ (st = 4 → n = 1) ∧ (4 < st → n = 0)) : ∀ (d k f : Nat) (h : q_F), k + d = n → d < f → c_Z h → (st < 3 → ∀ a, a < 3 → h 5 a = 0) → (st = 3 → ∃ s : Nat, h 3 3 = (s : Int) ∧ s / 8 % 2 = 1) → c_RZ0 (fn120_71 1 f st n k h) h := by
  intro d
  induction d with
  | zero =>
    intro k f h hd hf Z hb hs
    obtain ⟨f, rfl⟩ : ∃ f', f = f' + 1 := ⟨f - 1, by omega⟩
    rw [fn120_71, if_pos (by omega)]; exact c_99 Z
  | succ d ih =>
    intro k f h hd hf Z hb hs
    obtain ⟨f, rfl⟩ : ∃ f', f = f' + 1 := ⟨f - 1, by omega⟩
    rw [fn120_71, if_neg (by omega)]
    split
    · obtain ⟨h1, a, Z1, F1, e3, b1⟩ := c_num (st := st) (sl := k) (by omega) ⟨by omega, by omega⟩ Z hb hs
      have wk : q_w32 ((k : Int) + 1) = ((k + 1 : Nat) : Int) := by clear hs ih hb; rw [q_w32_id (by omega) (by omega), ← m_s1]
      have w1 : k + 1 + d = n := by clear hs ih hb; omega
      have w2 : d < f := by clear hs ih hb; omega
      rw [a, Option.bind_some, wk]
      exact c_RZ0_t F1 (ih (k + 1) f h1 w1 w2 Z1 b1 (fun h3 => by
        obtain ⟨s, s1, s2⟩ := hs h3
        exact ⟨s, by rw [e3]; exact s1, s2⟩))
    · exact c_99 Z
theorem c_seen {k : Nat} {h : q_F} : ∃ x, fn107 k h = some x := by unfold fn107; split <;> exact ⟨_, rfl⟩
theorem c_50 {st : Nat} {h : q_F} (hst : st < 7) (Z : c_Z h) (h3 : st < 3 → ∃ s : Nat, s < 128 ∧ h 3 3 = (s : Int) ∧ s / 8 % 2 = 0) : c_RZ0 (fn120_50 1 st h) h := by
  obtain ⟨z1, z2, z3, ⟨s, s1, s2, s3⟩, z5, z6⟩ := Z
  have B := m_bits s s1 st hst
  have Z1 : c_Z (q_ud h 3 3 (q_ior (h 3 3) (q_ishl 1 st))) := by
    refine ⟨by rw [q_ud_n (by omega)]; exact z1, by rw [q_ud_n (by omega), q_ud_n (by omega)]; exact z2, by rw [q_ud_n (by omega)]; exact z3, ⟨_, B.1, by rw [q_ud_s, s2]; exact B.2.1, fun h8 a ha => ?_⟩, fun a ha i hi => by rw [q_ud_n (by omega)]; exact z5 a ha i hi, fun a ha => by rw [q_ud_n (by omega), q_ud_n (by omega)]; exact z6 a ha⟩
    rw [q_ud_n (by omega)]
    by_cases e : st = 3
    · have := B.2.2.1 e; omega
    · have := B.2.2.2 e; exact s3 (by omega) a ha
  have t : ∃ n : Nat, (∀ g, fn116 st g = some (n : Int)) ∧ (st < 3 → n = 6) ∧ (st = 3 → n = 3) ∧ (st = 4 → n = 1) ∧ (4 < st → n = 0) := by
    unfold fn116
    by_cases c : st < 3
    · exact ⟨6, fun g => by rw [if_neg (by omega)]; rfl, fun _ => rfl, by omega, by omega, by omega⟩
    · by_cases c3 : st = 3
      · exact ⟨3, fun g => by rw [if_pos (by omega), if_pos (by omega)]; rfl, by omega, fun _ => rfl, by omega, by omega⟩
      · by_cases c4 : st = 4
        · exact ⟨1, fun g => by rw [if_pos (by omega), if_neg (by omega), if_pos (by omega)]; rfl, by omega, by omega, fun _ => rfl, by omega⟩
        · exact ⟨0, fun g => by rw [if_pos (by omega), if_neg (by omega), if_neg (by omega)]; rfl, by omega, by omega, by omega, fun _ => rfl⟩
  obtain ⟨n, en, hn⟩ := t
  rw [fn120_50, m_let, en, Option.bind_some]
  refine c_RZ0_t (c_F3_u c_F3_r (by omega)) (c_numl hst hn n 0 q_fu _ (by omega) (by have := q_fu_ge; omega) Z1 (fun c a ha => ?_) (fun c => ⟨_, by rw [q_ud_s, s2]; exact B.2.1, B.2.2.1 c⟩))
  rw [q_ud_n (by omega)]
  obtain ⟨s', x1, x2, x3⟩ := h3 c
  have : s = s' := by omega
  subst this
  exact s3 x3 a ha
theorem c_stat {h : q_F} (Z : c_Z h) : c_RZ0 (fn120 1 h) h := by
  obtain ⟨v, h1, a, b, v0, v6⟩ := c_readW (u := h 3 6) 600 q_fu h (by have := Z.1; have := Z.2.1; omega) (by have := q_fu_ge; omega) Z
  obtain ⟨Z1, F1, -⟩ := c_pl_Z Z b
  rw [fn120, fn121, a, Option.bind_some]
  dsimp only
  by_cases c : 0 ≤ v
  · obtain ⟨k, rfl⟩ : ∃ k : Nat, v = k := ⟨v.toNat, by omega⟩
    obtain ⟨x, ex⟩ := c_seen (k := k) (h := h1)
    rw [if_pos c, ex, Option.bind_some, fn120_43]
    split
    · split
      · exact c_RZ0_t F1 (c_50 (by omega) Z1 (fun h9 => by omega))
      · obtain ⟨z1, z2, z3, ⟨s, s1, s2, s3⟩, z5, z6⟩ := Z1
        have B := m_bit3 s s1
        have e7 : fn107 3 h1 = some (if s / 8 % 2 = 1 then 1 else 0) := by
          unfold fn107; rw [s2]
          by_cases q : s / 8 % 2 = 1
          · rw [if_pos (B.mpr q), if_pos q]
          · rw [if_neg (fun h9 => q (B.mp h9)), if_neg q]
        rw [e7, Option.bind_some]
        by_cases q : s / 8 % 2 = 1
        · rw [if_pos q, if_neg (by decide)]
          exact c_RZ0_t F1 (c_fail0 ⟨z1, z2, z3, ⟨s, s1, s2, s3⟩, z5, z6⟩)
        · rw [if_neg q, if_pos rfl]
          exact c_RZ0_t F1 (c_50 (by omega) ⟨z1, z2, z3, ⟨s, s1, s2, s3⟩, z5, z6⟩ (fun _ => ⟨s, s1, s2, by omega⟩))
    · exact c_RZ0_t F1 (c_fail0 Z1)
  · rw [if_neg c]
    exact c_RZ0_t F1 (c_fail0 Z1)
theorem c_parsel : ∀ (d k f : Nat) (h : q_F), k + d = 600 → d < f → c_Z h → c_RZ0 (fn117_6 1 f k h) h := by
  intro d
  induction d with
  | zero =>
    intro k f h hd hf Z
    obtain ⟨f, rfl⟩ : ∃ f', f = f' + 1 := ⟨f - 1, by omega⟩
    exact ⟨h, by rw [fn117_6, if_pos (by omega)], Z, c_F3_r⟩
  | succ d ih =>
    intro k f h hd hf Z
    obtain ⟨f, rfl⟩ : ∃ f', f = f' + 1 := ⟨f - 1, by omega⟩
    rw [fn117_6, if_neg (by omega)]
    split
    · obtain ⟨x, h1, a, b⟩ := c_findT Z
      obtain ⟨Z1, F1, -⟩ := c_pl_Z Z b
      rw [a, Option.bind_some]
      split
      · exact ⟨h1, rfl, Z1, F1⟩
      · obtain ⟨h2, a2, Z2, F2⟩ := c_stat Z1
        rw [a2, Option.bind_some, q_w32_id (by omega) (by omega), ← m_s1]
        exact c_RZ0_t (c_F3_t F1 F2) (ih (k + 1) f h2 (by omega) (by omega) Z2)
    · exact ⟨h, rfl, Z, c_F3_r⟩
/-- what forgetting has laid down -/
def c_fgt (h0 h : q_F) (n : Nat) : Prop := c_F3 h0 h ∧ (∀ a, a < n → h 5 a = 0 ∧ h 4 (6 * a) = 200 ∧ h 4 (6 * a + 1) = 0 ∧ h 4 (6 * a + 2) = 1000 ∧ h 4 (6 * a + 3) = 100 ∧ h 4 (6 * a + 4) = 5 ∧ h 4 (6 * a + 5) = 2)
theorem c_keepA {a i : Nat} {v : Int} {h : q_F} (ha : a < 3) (hi : i < 6) : fn113 a i v h = some (0, q_ud h 4 (6 * a + i) v) := by
  rw [fn113, if_neg (by omega), if_neg (by omega), q_w32_id (z := (a : Int) * 6) (by omega) (by omega), q_w32_id (z := (a : Int) * 6 + i) (by omega) (by omega), c_put (by omega) (by omega), Option.bind_some, show ((a : Int) * 6 + i).toNat = 6 * a + i by omega]
theorem c_fgl {h0 : q_F} (hl : 0 ≤ h0 1 1 ∧ h0 1 1 ≤ 600) : ∀ (d a f : Nat) (h : q_F), a + d = 3 → d < f → c_fgt h0 h a → ∃ h', fn105_2 f a h = some (0, h') ∧ c_Z h' ∧ c_F3 h0 h' := by
  intro d
  induction d with
  | zero =>
    intro a f h hd hf G
    obtain ⟨f, rfl⟩ : ∃ f', f = f' + 1 := ⟨f - 1, by omega⟩
    obtain rfl : a = 3 := by omega
    obtain ⟨F, G⟩ := G
    have e11 : h 1 1 = h0 1 1 := by rw [F 1 (by omega)]
    rw [fn105_2, if_pos (by omega), m_let, m_let, m_let, m_let, m_let]
    refine ⟨_, rfl, ⟨?_, ?_, ?_, ⟨0, by omega, ?_, fun _ a ha => ?_⟩, fun a ha i hi => ?_, fun a ha => ?_⟩, c_F3_u (c_F3_u (c_F3_u (c_F3_u (c_F3_u F (by omega)) (by omega)) (by omega)) (by omega)) (by omega)⟩
    · rw [q_ud_n (by omega), q_ud_n (by omega), q_ud_n (by omega), q_ud_n (by omega), q_ud_n (by omega), e11]; exact hl
    · rw [q_ud_s, q_ud_n (by omega), q_ud_n (by omega), q_ud_n (by omega), q_ud_n (by omega), q_ud_n (by omega), e11]; exact ⟨by omega, hl.1⟩
    · rw [q_ud_n (by omega), q_ud_n (by omega), q_ud_n (by omega), q_ud_n (by omega), q_ud_s]; omega
    · rw [q_ud_n (by omega), q_ud_n (by omega), q_ud_n (by omega), q_ud_s]; rfl
    · rw [q_ud_n (by omega), q_ud_n (by omega), q_ud_n (by omega), q_ud_n (by omega), q_ud_n (by omega)]; exact (G a ha).1
    · rw [q_ud_n (by omega), q_ud_n (by omega), q_ud_n (by omega), q_ud_n (by omega), q_ud_n (by omega)]
      obtain ⟨-, g0, g1, g2, g3, g4, g5⟩ := G a ha
      obtain rfl | rfl | rfl | rfl | rfl | rfl : i = 0 ∨ i = 1 ∨ i = 2 ∨ i = 3 ∨ i = 4 ∨ i = 5 := by omega
      all_goals
        unfold m_nr
        refine ⟨?_, ?_, ?_, ?_, ?_, ?_⟩ <;> intro h9 <;> first | omega | (simp only [Nat.add_zero]; omega)
    · rw [q_ud_n (by omega), q_ud_n (by omega), q_ud_n (by omega), q_ud_n (by omega), q_ud_n (by omega), q_ud_n (by omega), q_ud_n (by omega), q_ud_n (by omega), q_ud_n (by omega), q_ud_n (by omega)]
      have := G a ha
      omega
  | succ d ih =>
    intro a f h hd hf G
    obtain ⟨f, rfl⟩ : ∃ f', f = f' + 1 := ⟨f - 1, by omega⟩
    have ha : a < 3 := by omega
    have k0 : ∀ v h, fn113 a 0 v h = some (0, q_ud h 4 (6 * a) v) := fun v h => c_keepA (i := 0) ha (by omega)
    have k1 : ∀ v h, fn113 a 1 v h = some (0, q_ud h 4 (6 * a + 1) v) := fun v h => c_keepA (i := 1) ha (by omega)
    have k2 : ∀ v h, fn113 a 2 v h = some (0, q_ud h 4 (6 * a + 2) v) := fun v h => c_keepA (i := 2) ha (by omega)
    have k3 : ∀ v h, fn113 a 3 v h = some (0, q_ud h 4 (6 * a + 3) v) := fun v h => c_keepA (i := 3) ha (by omega)
    have k4 : ∀ v h, fn113 a 4 v h = some (0, q_ud h 4 (6 * a + 4) v) := fun v h => c_keepA (i := 4) ha (by omega)
    have k5 : ∀ v h, fn113 a 5 v h = some (0, q_ud h 4 (6 * a + 5) v) := fun v h => c_keepA (i := 5) ha (by omega)
    rw [fn105_2, if_neg (by omega), c_put (by omega) (by omega), Option.bind_some]
    dsimp only
    rw [k0, Option.bind_some]
    dsimp only
    rw [k1, Option.bind_some]
    dsimp only
    rw [k2, Option.bind_some]
    dsimp only
    rw [k3, Option.bind_some]
    dsimp only
    rw [k4, Option.bind_some]
    dsimp only
    rw [k5, Option.bind_some]
    dsimp only
    rw [Int.toNat_natCast, q_w32_id (by omega) (by omega), ← m_s1]
    obtain ⟨F, G⟩ := G
    refine ih (a + 1) f _ (by omega) (by omega) ⟨c_F3_u (c_F3_u (c_F3_u (c_F3_u (c_F3_u (c_F3_u (c_F3_u F (by omega)) (by omega)) (by omega)) (by omega)) (by omega)) (by omega)) (by omega), fun b hb => ?_⟩
    by_cases e : b = a
    · subst e
      refine ⟨?_, ?_, ?_, ?_, ?_, ?_, ?_⟩ <;> (simp [q_ud]) <;> omega
    · obtain ⟨g, g0, g1, g2, g3, g4, g5⟩ := G b (by omega)
      refine ⟨?_, ?_, ?_, ?_, ?_, ?_, ?_⟩ <;> (rw [q_ud_n (by omega), q_ud_n (by omega), q_ud_n (by omega), q_ud_n (by omega), q_ud_n (by omega), q_ud_n (by omega), q_ud_n (by omega)]; assumption)
theorem c_parse {h : q_F} (hl : 0 ≤ h 1 1 ∧ h 1 1 ≤ 600) : c_RZ0 (fn117 1 h) h := by
  obtain ⟨h1, a, Z, F⟩ := c_fgl hl 3 0 q_fu h (by omega) (by have := q_fu_ge; omega) ⟨c_F3_r, fun a ha => absurd ha (Nat.not_lt_zero a)⟩
  have a' : fn105 h = some (0, h1) := a
  rw [fn117, a', Option.bind_some]
  exact c_RZ0_t F (c_parsel 600 0 q_fu h1 (by omega) (by have := q_fu_ge; omega) Z)
end -- [95.cload]
section -- [96.cload]
/-! Part 96: the class's new table. -/
def m_new (st cp dt : Int) (N B : Nat → Int) : Nat → Int := fun j =>
  if j = 0 then st else if j = 1 then cp else if j = 2 then dt else
  if 8 ≤ j ∧ j < 26 then N (6 * ((j - 8) % 3) + (j - 8) / 3) else
  if 26 ≤ j ∧ j < 29 then B (j - 26) else
  if 44 ≤ j ∧ j < 47 then 1 else
  if 53 ≤ j ∧ j < 56 then (if N (6 * (j - 53) + 4) < B (j - 53) then 0 else 1) else 0
theorem m_new_n {st cp dt : Int} {N B : Nat → Int} {a i : Nat} (ha : a < 3) (hi : i < 6) : m_new st cp dt N B (8 + 3 * i + a) = N (6 * a + i) := by
  unfold m_new
  rw [if_neg (by omega), if_neg (by omega), if_neg (by omega), if_pos (by omega), show (8 + 3 * i + a - 8) % 3 = a by omega, show (8 + 3 * i + a - 8) / 3 = i by omega]
theorem m_new_b {st cp dt : Int} {N B : Nat → Int} {a : Nat} (ha : a < 3) : m_new st cp dt N B (26 + a) = B a := by
  unfold m_new
  rw [if_neg (by omega), if_neg (by omega), if_neg (by omega), if_neg (by omega), if_pos (by omega), show 26 + a - 26 = a by omega]
theorem m_new_d {st cp dt : Int} {N B : Nat → Int} {a : Nat} (ha : a < 3) : m_new st cp dt N B (44 + a) = 1 := by
  unfold m_new
  rw [if_neg (by omega), if_neg (by omega), if_neg (by omega), if_neg (by omega), if_neg (by omega), if_pos (by omega)]
theorem m_new_c {st cp dt : Int} {N B : Nat → Int} {a : Nat} (ha : a < 3) : m_new st cp dt N B (53 + a) = if N (6 * a + 4) < B a then 0 else 1 := by
  unfold m_new
  rw [if_neg (by omega), if_neg (by omega), if_neg (by omega), if_neg (by omega), if_neg (by omega), if_neg (by omega), if_pos (by omega), show 53 + a - 53 = a by omega]
theorem m_new_0 {st cp dt : Int} {N B : Nat → Int} {j : Nat} (h : (3 ≤ j ∧ j < 8) ∨ (29 ≤ j ∧ j < 44) ∨ (47 ≤ j ∧ j < 53) ∨ 56 ≤ j) : m_new st cp dt N B j = 0 := by
  unfold m_new
  rw [if_neg (by omega), if_neg (by omega), if_neg (by omega), if_neg (by omega), if_neg (by omega), if_neg (by omega), if_neg (by omega)]
theorem m_RI_new {st cp dt : Int} {N B : Nat → Int} (h0 : 1 ≤ st ∧ st ≤ 1000) (h1 : cp = 0 ∨ cp = 1) (h2 : dt = 0 ∨ dt = 1) (hN : ∀ a, a < 3 → ∀ i, i < 6 → m_nr i (N (6 * a + i))) (hB : ∀ a, a < 3 → 0 ≤ B a ∧ B a ≤ N (6 * a)) : m_RI (m_new st cp dt N B) := by
  have e4 : m_new st cp dt N B 4 = 0 := m_new_0 (by omega)
  refine ⟨⟨fun j hj => ?_, m_a3_of fun a ha => ?_⟩, m_nn_0 e4⟩
  · by_cases c0 : j = 0
    · subst c0; exact m_pv_0 h0
    · by_cases c1 : j = 1
      · subst c1; exact m_pv_12 (Or.inl rfl) h1
      · by_cases c2 : j = 2
        · subst c2; exact m_pv_12 (Or.inr rfl) h2
        · by_cases c3 : 8 ≤ j ∧ j < 26
          · have ej : j = 8 + 3 * ((j - 8) / 3) + (j - 8) % 3 := by omega
            have n := hN ((j - 8) % 3) (by omega) ((j - 8) / 3) (by omega)
            have en : m_new st cp dt N B j = N (6 * ((j - 8) % 3) + (j - 8) / 3) := by
              have := m_new_n (st := st) (cp := cp) (dt := dt) (N := N) (B := B) (a := (j - 8) % 3) (i := (j - 8) / 3) (by omega) (by omega)
              rw [← ej] at this; exact this
            rw [en]
            generalize N (6 * ((j - 8) % 3) + (j - 8) / 3) = v at n
            unfold m_nr at n
            obtain ⟨n0, n1, n2, n3, n4, n5⟩ := n
            unfold m_pv
            refine ⟨?_, ?_, ?_, ?_, ?_, ?_, ?_, ?_, ?_, ?_⟩ <;> intro h9
            · omega
            · omega
            · omega
            · omega
            · omega
            · exact n0 (by omega)
            · exact n1 (by omega)
            · exact n2 (by omega)
            · exact n3 (by omega)
            · omega
          · by_cases c4 : (26 ≤ j ∧ j < 29) ∨ (44 ≤ j ∧ j < 47) ∨ (53 ≤ j ∧ j < 56)
            · unfold m_pv
              refine ⟨?_, ?_, ?_, ?_, ?_, ?_, ?_, ?_, ?_, ?_⟩ <;> intro h9 <;> omega
            · rw [m_new_0 (by omega)]
              unfold m_pv
              refine ⟨?_, ?_, ?_, ?_, ?_, ?_, ?_, ?_, ?_, ?_⟩ <;> intro h9 <;> omega
  · have n0 := (hN a ha 0 (by omega)).1 rfl
    have n1 := (hN a ha 1 (by omega)).2.1 rfl
    have n4 := (hN a ha 4 (by omega)).2.2.2.2.1 rfl
    have n5 := (hN a ha 5 (by omega)).2.2.2.2.2 rfl
    have b := hB a ha
    simp only [Nat.add_zero] at n0
    have e8 : m_new st cp dt N B (8 + a) = N (6 * a) := m_new_n (i := 0) ha (by omega)
    have e11 : m_new st cp dt N B (11 + a) = N (6 * a + 1) := m_new_n (i := 1) ha (by omega)
    have e20 : m_new st cp dt N B (20 + a) = N (6 * a + 4) := m_new_n (i := 4) ha (by omega)
    have e23 : m_new st cp dt N B (23 + a) = N (6 * a + 5) := m_new_n (i := 5) ha (by omega)
    unfold m_ai
    rw [e8, e11, e20, e23, m_new_b ha, m_new_d ha, m_new_c ha, m_new_0 (j := 29 + a) (by omega), m_new_0 (j := 32 + a) (by omega), m_new_0 (j := 56 + a) (by omega), m_new_0 (j := 59 + a) (by omega)]
    refine ⟨by omega, by omega, by split <;> simp, fun h9 => by rw [if_neg (by omega)], fun h9 => by rw [if_pos (by omega)], by omega, Or.inl rfl, rfl⟩
theorem c_newax {a o : Nat} {h : q_F} (ha : a < 3) (ho : 7 ≤ o) : ∃ h', fn56 o a h = some (0, h') ∧ c_fo o h h' ∧ ∀ st cp dt, c_ax h' o (m_new st cp dt (h 4) (h 5)) a := by
  have t0 : ∀ g, fn115 a 0 g = some (g 4 (6 * a)) := fun g => c_T115 (i := 0) ha (by omega)
  have t1 : ∀ g, fn115 a 1 g = some (g 4 (6 * a + 1)) := fun g => c_T115 (i := 1) ha (by omega)
  have t2 : ∀ g, fn115 a 2 g = some (g 4 (6 * a + 2)) := fun g => c_T115 (i := 2) ha (by omega)
  have t3 : ∀ g, fn115 a 3 g = some (g 4 (6 * a + 3)) := fun g => c_T115 (i := 3) ha (by omega)
  have t4 : ∀ g, fn115 a 4 g = some (g 4 (6 * a + 4)) := fun g => c_T115 (i := 4) ha (by omega)
  have t5 : ∀ g, fn115 a 5 g = some (g 4 (6 * a + 5)) := fun g => c_T115 (i := 5) ha (by omega)
  unfold fn56
  rw [t0, Option.bind_some, m_let, t1, Option.bind_some, m_let, t2, Option.bind_some, m_let, t3, Option.bind_some, m_let, t4, Option.bind_some, m_let, t5, Option.bind_some, m_let, c_ent (by omega) (by omega), Option.bind_some, m_let, m_let, m_let, m_let, Int.toNat_natCast]
  have n4 : ∀ g : q_F, ∀ i j v, q_ud g o i v 4 j = g 4 j := fun g i j v => q_ud_n (by omega)
  have n5 : ∀ g : q_F, ∀ i j v, q_ud g o i v 5 j = g 5 j := fun g i j v => q_ud_n (by omega)
  simp only [n4, n5]
  have key : ∀ p : Int, ∀ g17 : q_F, (∀ i, i < 6 → g17 o i = h 4 (6 * a + i)) → g17 o 6 = h 5 a → g17 o 7 = 0 → g17 o 8 = 1 → g17 o 9 = 0 → c_fo o h g17 → p = (if h 4 (6 * a + 4) < h 5 a then 0 else 1) → ∃ h', fn56_104 o p g17 = some (0, h') ∧ c_fo o h h' ∧ ∀ st cp dt, c_ax h' o (m_new st cp dt (h 4) (h 5)) a := by
    intro p g17 g0 g6 g7 g8 g9 F hp
    unfold fn56_104 fn41
    rw [m_let, m_let, m_let, m_let, m_let, m_let, m_let, m_let, m_let, m_let, m_let, Option.bind_some]
    dsimp only
    refine ⟨_, rfl, ?_, fun st cp dt => ⟨fun j hj => ?_, fun j hj => ?_⟩⟩
    · exact c_fo_u (c_fo_u (c_fo_u (c_fo_u (c_fo_u (c_fo_u (c_fo_u (c_fo_u (c_fo_u (c_fo_u (c_fo_u F (Or.inl rfl)) (Or.inl rfl)) (Or.inl rfl)) (Or.inl rfl)) (Or.inr rfl)) (Or.inr rfl)) (Or.inr rfl)) (Or.inr rfl)) (Or.inr rfl)) (Or.inr rfl)) (Or.inr rfl)
    · rw [q_ud_n (by omega), q_ud_n (by omega), q_ud_n (by omega), q_ud_n (by omega), q_ud_n (by omega), q_ud_n (by omega), q_ud_n (by omega)]
      obtain rfl | rfl | rfl | rfl | rfl | rfl | rfl | rfl | rfl | rfl | rfl | rfl | rfl | rfl : j = 0 ∨ j = 1 ∨ j = 2 ∨ j = 3 ∨ j = 4 ∨ j = 5 ∨ j = 6 ∨ j = 7 ∨ j = 8 ∨ j = 9 ∨ j = 10 ∨ j = 11 ∨ j = 12 ∨ j = 13 := by omega
      · rw [q_ud_n (by omega), q_ud_n (by omega), q_ud_n (by omega), q_ud_n (by omega), g0 0 (by omega)]; exact (m_new_n (i := 0) ha (by omega)).symm
      · rw [q_ud_n (by omega), q_ud_n (by omega), q_ud_n (by omega), q_ud_n (by omega), g0 1 (by omega)]; exact (m_new_n (i := 1) ha (by omega)).symm
      · rw [q_ud_n (by omega), q_ud_n (by omega), q_ud_n (by omega), q_ud_n (by omega), g0 2 (by omega)]; exact (m_new_n (i := 2) ha (by omega)).symm
      · rw [q_ud_n (by omega), q_ud_n (by omega), q_ud_n (by omega), q_ud_n (by omega), g0 3 (by omega)]; exact (m_new_n (i := 3) ha (by omega)).symm
      · rw [q_ud_n (by omega), q_ud_n (by omega), q_ud_n (by omega), q_ud_n (by omega), g0 4 (by omega)]; exact (m_new_n (i := 4) ha (by omega)).symm
      · rw [q_ud_n (by omega), q_ud_n (by omega), q_ud_n (by omega), q_ud_n (by omega), g0 5 (by omega)]; exact (m_new_n (i := 5) ha (by omega)).symm
      · rw [q_ud_n (by omega), q_ud_n (by omega), q_ud_n (by omega), q_ud_n (by omega), g6]; exact (m_new_b ha).symm
      · rw [q_ud_n (by omega), q_ud_n (by omega), q_ud_n (by omega), q_ud_n (by omega), g7]; exact (m_new_0 (j := 29 + a) (by omega)).symm
      · rw [q_ud_n (by omega), q_ud_n (by omega), q_ud_n (by omega), q_ud_n (by omega), g8]; exact (m_new_d ha).symm
      · rw [q_ud_n (by omega), q_ud_n (by omega), q_ud_n (by omega), q_ud_n (by omega), g9]; exact (m_new_0 (j := 38 + a) (by omega)).symm
      · rw [q_ud_n (by omega), q_ud_n (by omega), q_ud_n (by omega), q_ud_s, hp]; exact (m_new_c ha).symm
      · rw [q_ud_n (by omega), q_ud_n (by omega), q_ud_s]; exact (m_new_0 (j := 41 + a) (by omega)).symm
      · rw [q_ud_n (by omega), q_ud_s]; exact (m_new_0 (j := 47 + a) (by omega)).symm
      · rw [q_ud_s]; exact (m_new_0 (j := 50 + a) (by omega)).symm
    · have z : q_w32 (m_new st cp dt (h 4) (h 5) (c_g j + a)) = 0 := by
        have : 35 ≤ c_g j + a ∧ c_g j + a ≠ 44 ∧ c_g j + a ≠ 45 ∧ c_g j + a ≠ 46 ∧ (c_g j + a < 44 ∨ 56 ≤ c_g j + a) := by
          obtain rfl | rfl | rfl | rfl | rfl | rfl | rfl : j = 0 ∨ j = 1 ∨ j = 2 ∨ j = 3 ∨ j = 4 ∨ j = 5 ∨ j = 6 := by omega
          all_goals (simp [c_g]; omega)
        rw [m_new_0 (by omega)]; rfl
      rw [z]
      obtain rfl | rfl | rfl | rfl | rfl | rfl | rfl : j = 0 ∨ j = 1 ∨ j = 2 ∨ j = 3 ∨ j = 4 ∨ j = 5 ∨ j = 6 := by omega
      all_goals simp [q_ud]
  split
  · rename_i c
    refine key 0 _ (fun i hi => ?_) ?_ ?_ ?_ ?_ ?_ ?_
    · obtain rfl | rfl | rfl | rfl | rfl | rfl : i = 0 ∨ i = 1 ∨ i = 2 ∨ i = 3 ∨ i = 4 ∨ i = 5 := by omega
      all_goals simp [q_ud]
    · simp [q_ud]
    · simp [q_ud]
    · simp [q_ud]
    · simp [q_ud]
    · exact c_fo_u (c_fo_u (c_fo_u (c_fo_u (c_fo_u (c_fo_u (c_fo_u (c_fo_u (c_fo_u (c_fo_u c_fo_r (Or.inl rfl)) (Or.inl rfl)) (Or.inl rfl)) (Or.inl rfl)) (Or.inl rfl)) (Or.inl rfl)) (Or.inl rfl)) (Or.inl rfl)) (Or.inl rfl)) (Or.inl rfl)
    · simp [q_ud] at c; rw [if_pos c]
  · rename_i c
    refine key 1 _ (fun i hi => ?_) ?_ ?_ ?_ ?_ ?_ ?_
    · obtain rfl | rfl | rfl | rfl | rfl | rfl : i = 0 ∨ i = 1 ∨ i = 2 ∨ i = 3 ∨ i = 4 ∨ i = 5 := by omega
      all_goals simp [q_ud]
    · simp [q_ud]
    · simp [q_ud]
    · simp [q_ud]
    · simp [q_ud]
    · exact c_fo_u (c_fo_u (c_fo_u (c_fo_u (c_fo_u (c_fo_u (c_fo_u (c_fo_u (c_fo_u (c_fo_u c_fo_r (Or.inl rfl)) (Or.inl rfl)) (Or.inl rfl)) (Or.inl rfl)) (Or.inl rfl)) (Or.inl rfl)) (Or.inl rfl)) (Or.inl rfl)) (Or.inl rfl)) (Or.inl rfl)
    · simp [q_ud] at c; rw [if_neg (by omega)]
end -- [96.cload]
section -- [97.cload]
/-! Part 97: the class's loadTable. -/
theorem c_seen01 (k : Int) (h : q_F) : ∃ x, fn107 k h = some x ∧ (x = 0 ∨ x = 1) := by
  unfold fn107; split
  · exact ⟨1, rfl, Or.inr rfl⟩
  · exact ⟨0, rfl, Or.inl rfl⟩
theorem c_setUp {h : q_F} (z3 : 1 ≤ h 3 2 ∧ h 3 2 ≤ 1000) (z5 : ∀ a, a < 3 → ∀ i, i < 6 → m_nr i (h 4 (6 * a + i))) (z6 : ∀ a, a < 3 → 0 ≤ h 5 a ∧ h 5 a ≤ h 4 (6 * a)) : ∃ h' w, fn139 6 h = some (0, h') ∧ c_ft 6 h h' ∧ c_tb h' 6 w ∧ m_RI w := by
  obtain ⟨h1, a1, a2, a3⟩ := c_newax (a := 0) (o := 7) (h := h) (by omega) (by omega)
  obtain ⟨h2, b1, b2, b3⟩ := c_newax (a := 1) (o := 9) (h := h1) (by omega) (by omega)
  obtain ⟨h3, d1, d2, d3⟩ := c_newax (a := 2) (o := 11) (h := h2) (by omega) (by omega)
  have e14 : h1 4 = h 4 := a2 4 (by omega) (by omega)
  have e15 : h1 5 = h 5 := a2 5 (by omega) (by omega)
  have e24 : h2 4 = h 4 := (b2 4 (by omega) (by omega)).trans e14
  have e25 : h2 5 = h 5 := (b2 5 (by omega) (by omega)).trans e15
  have e3 : h3 3 = h 3 := by rw [d2 3 (by omega) (by omega), b2 3 (by omega) (by omega), a2 3 (by omega) (by omega)]
  rw [e14, e15] at b3
  rw [e24, e25] at d3
  obtain ⟨cp, ec, c01⟩ := c_seen01 5 (q_ud (q_ud h3 13 1 0) 6 4 (h 3 2))
  obtain ⟨dt, ed, d01⟩ := c_seen01 6 (q_ud (q_ud (q_ud h3 13 1 0) 6 4 (h 3 2)) 6 5 cp)
  have a1' : fn56 (6 + 1) 0 h = some (0, h1) := a1
  have b1' : fn56 (6 + 3) 1 h1 = some (0, h2) := b1
  have d1' : fn56 (6 + 5) 2 h2 = some (0, h3) := d1
  have f3 : c_ft 6 h h3 := c_ft_t (c_ft_o a2 (by omega) (by omega)) (c_ft_t (c_ft_o b2 (by omega) (by omega)) (c_ft_o d2 (by omega) (by omega)))
  refine ⟨q_ud (q_ud (q_ud (q_ud (q_ud (q_ud (q_ud (q_ud h3 13 1 0) 6 4 (h 3 2)) 6 5 cp) 6 6 dt) 6 7 0) 6 8 0) 6 9 0) 6 10 0, m_new (h 3 2) cp dt (h 4) (h 5), ?_, ?_, ⟨fun a ha => ?_, ?_, ?_, fun j hj => ?_⟩, m_RI_new z3 c01 d01 z5 z6⟩
  · rw [fn139, a1', Option.bind_some]
    dsimp only
    rw [b1', Option.bind_some]
    dsimp only
    rw [d1', Option.bind_some, fn143, m_let, Option.bind_some, m_let]
    dsimp only
    rw [show (6 + 7) = 13 from rfl, q_ud_n (show ¬ (3 = 13 ∧ 2 = 1) by omega), e3, ec, Option.bind_some, m_let, ed, Option.bind_some, m_let, m_let, m_let, m_let, m_let]
  · exact c_ft_u (c_ft_u (c_ft_u (c_ft_u (c_ft_u (c_ft_u (c_ft_u (c_ft_u f3 (by omega) (by omega)) (by omega) (by omega)) (by omega) (by omega)) (by omega) (by omega)) (by omega) (by omega)) (by omega) (by omega)) (by omega) (by omega)) (by omega) (by omega)
  · have fin : ∀ o, (o = 7 ∨ o = 9 ∨ o = 11) → ∀ y, c_ax y o (m_new (h 3 2) cp dt (h 4) (h 5)) a → y o = h3 o → y (o + 1) = h3 (o + 1) → c_ax (q_ud (q_ud (q_ud (q_ud (q_ud (q_ud (q_ud (q_ud h3 13 1 0) 6 4 (h 3 2)) 6 5 cp) 6 6 dt) 6 7 0) 6 8 0) 6 9 0) 6 10 0) o (m_new (h 3 2) cp dt (h 4) (h 5)) a := fun o ho y hy e1 e2 => c_ax_h hy (by funext j; rw [q_ud_n (by omega), q_ud_n (by omega), q_ud_n (by omega), q_ud_n (by omega), q_ud_n (by omega), q_ud_n (by omega), q_ud_n (by omega), q_ud_n (by omega), e1]) (by funext j; rw [q_ud_n (by omega), q_ud_n (by omega), q_ud_n (by omega), q_ud_n (by omega), q_ud_n (by omega), q_ud_n (by omega), q_ud_n (by omega), q_ud_n (by omega), e2])
    rcases m_c3 ha with rfl | rfl | rfl
    · exact fin 7 (by omega) h1 (a3 _ _ _) (by rw [d2 7 (by omega) (by omega), b2 7 (by omega) (by omega)]) (by rw [d2 8 (by omega) (by omega), b2 8 (by omega) (by omega)])
    · exact fin 9 (by omega) h2 (b3 _ _ _) (by rw [d2 9 (by omega) (by omega)]) (by rw [d2 10 (by omega) (by omega)])
    · exact fin 11 (by omega) h3 (d3 _ _ _) rfl rfl
  · refine ⟨?_, ?_, ?_, ?_, ?_, ?_, ?_⟩
    · rw [q_ud_n (by omega), q_ud_n (by omega), q_ud_n (by omega), q_ud_n (by omega), q_ud_n (by omega), q_ud_n (by omega), q_ud_s]; rfl
    · rw [q_ud_n (by omega), q_ud_n (by omega), q_ud_n (by omega), q_ud_n (by omega), q_ud_n (by omega), q_ud_s]; rfl
    · rw [q_ud_n (by omega), q_ud_n (by omega), q_ud_n (by omega), q_ud_n (by omega), q_ud_s]; rfl
    · rw [q_ud_n (by omega), q_ud_n (by omega), q_ud_n (by omega), q_ud_s]; rfl
    · rw [q_ud_n (by omega), q_ud_n (by omega), q_ud_s]; rfl
    · rw [q_ud_n (by omega), q_ud_s]; rfl
    · rw [q_ud_s]; rfl
  · rw [q_ud_n (by omega), q_ud_n (by omega), q_ud_n (by omega), q_ud_n (by omega), q_ud_n (by omega), q_ud_n (by omega), q_ud_n (by omega)]
    exact q_ud_s _ _ _ _
  · rw [m_new_0 (by omega)] at hj
    simp at hj
/-- how loadTable of the class ends -/
theorem c_load {h : q_F} {S : m_St} (hI : c_I h S) (hm : m_I S) (hl : 0 ≤ h 1 1 ∧ h 1 1 ≤ 600) : ∃ v h' S', fn187 h = some (v, h') ∧ c_I h' S' ∧ m_I S' ∧ h' 1 1 = 0 ∧ ∀ k, 139 ≤ k → h' k = h k := by
  obtain ⟨h1, a1, Z, F1⟩ := c_parse hl
  have I2 : c_I (q_ud h1 1 1 0) S := c_I_k hI hm.2.1.1 (fun k hk => by funext j; rw [q_ud_n (by omega), F1 k (by omega)]) (by rw [q_ud_n (by omega), F1 0 (by omega)])
  rw [fn187, a1, Option.bind_some, m_let]
  dsimp only
  obtain ⟨z1, z2, z3, -, z5, z6⟩ := Z
  have e3 : q_ud h1 1 1 0 3 = h1 3 := by funext j; rw [q_ud_n (by omega)]
  have e4 : q_ud h1 1 1 0 4 = h1 4 := by funext j; rw [q_ud_n (by omega)]
  have e5 : q_ud h1 1 1 0 5 = h1 5 := by funext j; rw [q_ud_n (by omega)]
  have k1 : ∀ k, 139 ≤ k → q_ud h1 1 1 0 k = h k := fun k hk => by funext j; rw [q_ud_n (by omega), F1 k (by omega)]
  have l1 : q_ud h1 1 1 0 1 1 = 0 := q_ud_s _ _ _ _
  generalize q_ud h1 1 1 0 = g at I2 e3 e4 e5 k1 l1 ⊢
  split
  · obtain ⟨g2, w, b1, b2, b3, b4⟩ := c_setUp (h := g) (by rw [e3]; exact z3) (by rw [e4]; exact z5) (by rw [e4, e5]; exact z6)
    obtain ⟨i1, ⟨i2, i3, i4, i5⟩, i6, i7⟩ := I2
    rw [b1, Option.bind_some, fn65, m_let, Option.bind_some, m_let, m_let]
    dsimp only
    refine ⟨_, _, m_mkS w 0 S.P 0 S.ws, rfl, ⟨?_, ⟨?_, ?_, ?_, fun k hk => absurd hk (Nat.not_lt_zero k)⟩, q_ud_s _ _ _ _, fun h9 => absurd rfl h9⟩, ⟨b4, ⟨Nat.zero_le _, fun k hk => absurd hk (Nat.not_lt_zero k)⟩, Or.inl rfl, fun h9 => absurd rfl h9⟩, ?_, fun k hk => ?_⟩
    · exact c_tb_k b3 fun k x y => by funext j; rw [q_ud_n (by omega), q_ud_n (by omega), q_ud_n (by omega)]
    · rw [q_ud_n (by omega), q_ud_n (by omega), q_ud_s]; rfl
    · rw [q_ud_n (by omega), q_ud_n (by omega), q_ud_n (by omega), b2 33 (by omega)]; exact i3
    · rw [q_ud_n (by omega), q_ud_n (by omega), q_ud_n (by omega), b2 33 (by omega)]; exact i4
    · rw [q_ud_n (by omega), q_ud_n (by omega), q_ud_n (by omega), b2 1 (by omega)]; exact l1
    · funext j
      rw [q_ud_n (by omega), q_ud_n (by omega), q_ud_n (by omega), b2 k (by omega), k1 k hk]
  · exact ⟨_, _, S, rfl, I2, hm, l1, k1⟩
end -- [97.cload]
section -- [98.rload]
/-! Part 98: the reference reads a setup text: tokens. -/
def r_Q (h : q_F) : Prop := (0 ≤ h 139 14 ∧ h 139 14 ≤ 600) ∧ (0 ≤ h 139 20 ∧ h 139 20 ≤ h 139 19 ∧ h 139 19 ≤ h 139 14) ∧ (h 139 22 ≠ 0 → h 139 20 < h 139 19) ∧ ∃ s : Nat, s < 128 ∧ h 139 23 = (s : Int)
def r_L (h h' : q_F) : Prop := (∀ k, k ≠ 139 → k ≠ 140 → h' k = h k) ∧ (∀ j, j < 17 ∨ 24 ≤ j → h' 139 j = h 139 j) ∧ h 139 20 ≤ h' 139 20
theorem r_L_r {h : q_F} : r_L h h := ⟨fun _ _ _ => rfl, fun _ _ => rfl, Int.le_refl _⟩
theorem r_L_t {h h1 h2 : q_F} (f : r_L h h1) (g : r_L h1 h2) : r_L h h2 := ⟨fun k a b => (g.1 k a b).trans (f.1 k a b), fun j hj => (g.2.1 j hj).trans (f.2.1 j hj), Int.le_trans f.2.2 g.2.2⟩
/-- while a token is read: the input, the next byte -/
def r_N (g g' : q_F) : Prop := (∀ k, k ≠ 139 → g' k = g k) ∧ ∀ j, j ≠ 19 → j ≠ 20 → j ≠ 21 → j ≠ 22 → g' 139 j = g 139 j
theorem r_N_r {g : q_F} : r_N g g := ⟨fun _ _ => rfl, fun _ _ _ _ _ => rfl⟩
theorem r_N_t {h h1 h2 : q_F} (f : r_N h h1) (g : r_N h1 h2) : r_N h h2 := ⟨fun k a => (g.1 k a).trans (f.1 k a), fun j a b c d => (g.2 j a b c d).trans (f.2 j a b c d)⟩
theorem r_N_u {h h1 : q_F} {j : Nat} {v : Int} (f : r_N h h1) (hj : 19 ≤ j ∧ j ≤ 22) : r_N h (q_ud h1 139 j v) := ⟨fun k a => by funext i; rw [q_ud_n (by omega)]; rw [f.1 k a], fun i a b c d => by rw [q_ud_n (by omega)]; exact f.2 i a b c d⟩
theorem r_byte {z n : Int} {h : q_F} (e : h 139 14 = n) (hz : 0 ≤ z) (hn : n ≤ 600) : fn245 z h = some (if n ≤ z then -1 else h 150 z.toNat) := by
  unfold fn245; rw [e]
  by_cases c : n ≤ z
  · rw [if_pos c, if_pos c]
  · rw [if_neg c, if_neg c, if_pos (by omega)]
/-- letters -/
theorem r_let : ∀ (d f : Nat) (g : q_F), (g 139 14 - g 139 19).toNat ≤ d → d < f → 0 ≤ g 139 19 → g 139 19 ≤ g 139 14 → g 139 14 ≤ 600 → ∃ g', fn235_93 f g = some (0, g') ∧ r_N g g' ∧ g 139 19 ≤ g' 139 19 ∧ g' 139 19 ≤ g 139 14 ∧ g' 139 20 = g 139 20 ∧ g' 139 22 = g 139 22 ∧ (g 139 19 < g 139 14 → 97 ≤ g 150 (g 139 19).toNat → g 150 (g 139 19).toNat ≤ 122 → g 139 19 < g' 139 19) := by
  intro d
  induction d with
  | zero =>
    intro f g hd hf h0 h1 h2
    obtain ⟨f, rfl⟩ : ∃ f', f = f' + 1 := ⟨f - 1, by omega⟩
    rw [fn235_93, r_byte rfl h0 h2, Option.bind_some, if_pos (show g 139 14 ≤ g 139 19 by omega), r_rng, Option.bind_some, if_neg (show ¬ ((97 : Int) ≤ -1 ∧ (-1 : Int) ≤ 122) by decide), if_pos rfl]
    exact ⟨g, rfl, r_N_r, Int.le_refl _, h1, rfl, rfl, fun h9 => by omega⟩
  | succ d ih =>
    intro f g hd hf h0 h1 h2
    obtain ⟨f, rfl⟩ : ∃ f', f = f' + 1 := ⟨f - 1, by omega⟩
    rw [fn235_93, r_byte rfl h0 h2, Option.bind_some, r_rng, Option.bind_some]
    by_cases c : g 139 14 ≤ g 139 19
    · rw [if_pos c, if_neg (show ¬ ((97 : Int) ≤ -1 ∧ (-1 : Int) ≤ 122) by decide), if_pos rfl]
      exact ⟨g, rfl, r_N_r, Int.le_refl _, h1, rfl, rfl, fun h9 => by omega⟩
    · rw [if_neg c]
      by_cases l : 97 ≤ g 150 (g 139 19).toNat ∧ g 150 (g 139 19).toNat ≤ 122
      · rw [if_pos l, if_neg (by decide), m_let, q_w32_id (by omega) (by omega)]
        obtain ⟨g', a1, a2, a3, a4, a5, a6, -⟩ := ih f (q_ud g 139 19 (g 139 19 + 1)) (by rw [q_ud_s, q_ud_n (by omega)]; omega) (by omega) (by rw [q_ud_s]; omega) (by rw [q_ud_s, q_ud_n (by omega)]; omega) (by rw [q_ud_n (by omega)]; exact h2)
        rw [q_ud_s] at a3
        rw [q_ud_n (by omega)] at a4 a5 a6
        exact ⟨g', a1, r_N_t (r_N_u r_N_r (by omega)) a2, by omega, a4, a5, a6, fun _ _ _ => by omega⟩
      · rw [if_neg l, if_pos rfl]
        exact ⟨g, rfl, r_N_r, Int.le_refl _, h1, rfl, rfl, fun _ x y => absurd ⟨x, y⟩ l⟩
/-- digits -/
theorem r_dig : ∀ (d f : Nat) (g : q_F), (g 139 14 - g 139 19).toNat ≤ d → d < f → 0 ≤ g 139 19 → g 139 19 ≤ g 139 14 → g 139 14 ≤ 600 → ∃ g', fn235_146 f g = some (0, g') ∧ r_N g g' ∧ g 139 19 ≤ g' 139 19 ∧ g' 139 19 ≤ g 139 14 ∧ g' 139 20 = g 139 20 ∧ g' 139 22 = g 139 22 ∧ (g 139 19 < g 139 14 → 48 ≤ g 150 (g 139 19).toNat → g 150 (g 139 19).toNat ≤ 57 → g 139 19 < g' 139 19) := by
  intro d
  induction d with
  | zero =>
    intro f g hd hf h0 h1 h2
    obtain ⟨f, rfl⟩ : ∃ f', f = f' + 1 := ⟨f - 1, by omega⟩
    rw [fn235_146, r_byte rfl h0 h2, Option.bind_some, if_pos (show g 139 14 ≤ g 139 19 by omega), r_rng, Option.bind_some, if_neg (show ¬ ((48 : Int) ≤ -1 ∧ (-1 : Int) ≤ 57) by decide), if_pos rfl]
    exact ⟨g, rfl, r_N_r, Int.le_refl _, h1, rfl, rfl, fun h9 => by omega⟩
  | succ d ih =>
    intro f g hd hf h0 h1 h2
    obtain ⟨f, rfl⟩ : ∃ f', f = f' + 1 := ⟨f - 1, by omega⟩
    rw [fn235_146, r_byte rfl h0 h2, Option.bind_some, r_rng, Option.bind_some]
    by_cases c : g 139 14 ≤ g 139 19
    · rw [if_pos c, if_neg (show ¬ ((48 : Int) ≤ -1 ∧ (-1 : Int) ≤ 57) by decide), if_pos rfl]
      exact ⟨g, rfl, r_N_r, Int.le_refl _, h1, rfl, rfl, fun h9 => by omega⟩
    · rw [if_neg c]
      by_cases l : 48 ≤ g 150 (g 139 19).toNat ∧ g 150 (g 139 19).toNat ≤ 57
      · rw [if_pos l, if_neg (by decide)]
        have sub : ∀ g1, r_N g g1 → g1 139 19 = g 139 19 → g1 139 20 = g 139 20 → g1 139 22 = g 139 22 → ∃ g', fn235_203 (fn235_146 f) g1 = some (0, g') ∧ r_N g g' ∧ g 139 19 ≤ g' 139 19 ∧ g' 139 19 ≤ g 139 14 ∧ g' 139 20 = g 139 20 ∧ g' 139 22 = g 139 22 ∧ g 139 19 < g' 139 19 := fun g1 N e9 e0 e2 => by
          have e14 : g1 139 14 = g 139 14 := N.2 14 (by omega) (by omega) (by omega) (by omega)
          rw [fn235_203, m_let, e9, q_w32_id (by omega) (by omega)]
          obtain ⟨g', a1, a2, a3, a4, a5, a6, -⟩ := ih f (q_ud g1 139 19 (g 139 19 + 1)) (by rw [q_ud_s, q_ud_n (by omega), e14]; omega) (by omega) (by rw [q_ud_s]; omega) (by rw [q_ud_s, q_ud_n (by omega), e14]; omega) (by rw [q_ud_n (by omega), e14]; exact h2)
          rw [q_ud_s] at a3
          rw [q_ud_n (by omega)] at a4 a5 a6
          exact ⟨g', a1, r_N_t (r_N_u N (by omega)) a2, by omega, by omega, a5.trans e0, a6.trans e2, by omega⟩
        split
        · obtain ⟨g', a1, a2, a3, a4, a5, a6, a7⟩ := sub g r_N_r rfl rfl rfl
          exact ⟨g', a1, a2, a3, a4, a5, a6, fun _ _ _ => a7⟩
        · rw [Option.bind_some, m_let]
          obtain ⟨g', a1, a2, a3, a4, a5, a6, a7⟩ := sub (q_ud g 139 21 (q_w32 (q_w32 (q_w32 (10 * g 139 21) + g 150 (g 139 19).toNat) - 48))) (r_N_u r_N_r (by omega)) (q_ud_n (by omega)) (q_ud_n (by omega)) (q_ud_n (by omega))
          exact ⟨g', a1, a2, a3, a4, a5, a6, fun _ _ _ => a7⟩
      · rw [if_neg l, if_pos rfl]
        exact ⟨g, rfl, r_N_r, Int.le_refl _, h1, rfl, rfl, fun _ x y => absurd ⟨x, y⟩ l⟩
theorem r_adv0 : ∀ (d f : Nat) (g : q_F), (g 139 14 - g 139 19).toNat ≤ d → d < f → 0 ≤ g 139 19 → g 139 19 ≤ g 139 14 → g 139 14 ≤ 600 → ∃ g', fn235_0 f g = some (0, g') ∧ r_N g g' ∧ g 139 19 ≤ g' 139 20 ∧ g' 139 20 ≤ g' 139 19 ∧ g' 139 19 ≤ g 139 14 ∧ (g' 139 22 ≠ 0 → g' 139 20 < g' 139 19) := by
  have tail : ∀ (g : q_F), 0 ≤ g 139 19 → g 139 19 ≤ g 139 14 → g 139 14 ≤ 600 → ∃ g', (q_let (q_ud g 139 20 (g 139 19)) fun g6 =>
        (fn245 (g6 139 19) g6).bind fun x7 =>
        q_let (q_ud g6 139 21 (0 : Int)) fun g8 =>
        if x7 = (-1 : Int) then (
          q_let (q_ud g8 139 22 (0 : Int)) fun g30 =>
          some ((0 : Int), g30))
        else (
          (fn267 x7 (97 : Int) (122 : Int) g8).bind fun x10 =>
          if x10 = 0 then (
            (fn267 x7 (48 : Int) (57 : Int) g8).bind fun x12 =>
            if x12 = 0 then (
              if x7 = (59 : Int) then (
                fn235_228 (3 : Int) g8)
              else (
                fn235_228 (4 : Int) g8))
            else (
              q_let (q_ud g8 139 22 (2 : Int)) fun g17 =>
              fn235_146 q_fu g17))
          else (
            q_let (q_ud g8 139 22 (1 : Int)) fun g25 =>
            fn235_93 q_fu g25))) = some (0, g') ∧ r_N g g' ∧ g 139 19 ≤ g' 139 20 ∧ g' 139 20 ≤ g' 139 19 ∧ g' 139 19 ≤ g 139 14 ∧ (g' 139 22 ≠ 0 → g' 139 20 < g' 139 19) := by
    intro g h0 h1 h2
    have e19 : q_ud g 139 20 (g 139 19) 139 19 = g 139 19 := q_ud_n (by omega)
    have e14 : q_ud g 139 20 (g 139 19) 139 14 = g 139 14 := q_ud_n (by omega)
    have e150 : q_ud g 139 20 (g 139 19) 150 = g 150 := by funext j; rw [q_ud_n (by omega)]
    rw [m_let, e19, r_byte e14 h0 h2, Option.bind_some, m_let, e150]
    by_cases c : g 139 14 ≤ g 139 19
    · rw [if_pos c, if_pos rfl, m_let]
      refine ⟨_, rfl, r_N_u (r_N_u (r_N_u r_N_r (by omega)) (by omega)) (by omega), ?_, ?_, ?_, fun h9 => absurd (q_ud_s _ _ _ _) h9⟩
      · rw [q_ud_n (by omega), q_ud_n (by omega), q_ud_s]; exact Int.le_refl _
      · rw [q_ud_n (by omega), q_ud_n (by omega), q_ud_s, q_ud_n (by omega), q_ud_n (by omega), e19]; exact Int.le_refl _
      · rw [q_ud_n (by omega), q_ud_n (by omega), e19]; exact h1
    · rw [if_neg c]
      by_cases cm : g 150 (g 139 19).toNat = -1
      · rw [if_pos cm, m_let]
        refine ⟨_, rfl, r_N_u (r_N_u (r_N_u r_N_r (by omega)) (by omega)) (by omega), ?_, ?_, ?_, fun h9 => absurd (q_ud_s _ _ _ _) h9⟩
        · rw [q_ud_n (by omega), q_ud_n (by omega), q_ud_s]; exact Int.le_refl _
        · rw [q_ud_n (by omega), q_ud_n (by omega), q_ud_s, q_ud_n (by omega), q_ud_n (by omega), e19]; exact Int.le_refl _
        · rw [q_ud_n (by omega), q_ud_n (by omega), e19]; exact h1
      · have N8 : ∀ t : Int, r_N g (q_ud (q_ud (q_ud g 139 20 (g 139 19)) 139 21 0) 139 22 t) := fun t => r_N_u (r_N_u (r_N_u r_N_r (by omega)) (by omega)) (by omega)
        have f19 : ∀ t : Int, q_ud (q_ud (q_ud g 139 20 (g 139 19)) 139 21 0) 139 22 t 139 19 = g 139 19 := fun t => by rw [q_ud_n (by omega), q_ud_n (by omega), e19]
        have f14 : ∀ t : Int, q_ud (q_ud (q_ud g 139 20 (g 139 19)) 139 21 0) 139 22 t 139 14 = g 139 14 := fun t => by rw [q_ud_n (by omega), q_ud_n (by omega), e14]
        have f20 : ∀ t : Int, q_ud (q_ud (q_ud g 139 20 (g 139 19)) 139 21 0) 139 22 t 139 20 = g 139 19 := fun t => by rw [q_ud_n (by omega), q_ud_n (by omega), q_ud_s]
        have f150 : ∀ t : Int, q_ud (q_ud (q_ud g 139 20 (g 139 19)) 139 21 0) 139 22 t 150 = g 150 := fun t => by funext j; rw [q_ud_n (by omega), q_ud_n (by omega), q_ud_n (by omega)]
        have oth : ∀ t : Int, ∃ g', fn235_228 t (q_ud (q_ud g 139 20 (g 139 19)) 139 21 0) = some (0, g') ∧ r_N g g' ∧ g 139 19 ≤ g' 139 20 ∧ g' 139 20 ≤ g' 139 19 ∧ g' 139 19 ≤ g 139 14 ∧ (g' 139 22 ≠ 0 → g' 139 20 < g' 139 19) := fun t => by
          rw [fn235_228, m_let, m_let, f19, q_w32_id (by omega) (by omega)]
          refine ⟨_, rfl, r_N_u (N8 t) (by omega), ?_, ?_, ?_, fun _ => ?_⟩
          · rw [q_ud_n (by omega), f20]; exact Int.le_refl _
          · rw [q_ud_n (by omega), f20, q_ud_s]; omega
          · rw [q_ud_s]; omega
          · rw [q_ud_n (by omega), f20, q_ud_s]; omega
        rw [if_neg cm, r_rng, Option.bind_some]
        by_cases l : 97 ≤ g 150 (g 139 19).toNat ∧ g 150 (g 139 19).toNat ≤ 122
        · rw [if_pos l, if_neg (by decide), m_let]
          obtain ⟨g', a1, a2, a3, a4, a5, a6, a7⟩ := r_let 600 q_fu (q_ud (q_ud (q_ud g 139 20 (g 139 19)) 139 21 0) 139 22 1) (by rw [f14, f19]; omega) (by have := q_fu_ge; omega) (by rw [f19]; exact h0) (by rw [f14, f19]; exact h1) (by rw [f14]; exact h2)
          rw [f19, f14, f150] at a7
          rw [f19] at a3
          rw [f14] at a4
          rw [f20] at a5
          exact ⟨g', a1, r_N_t (N8 1) a2, by omega, by omega, a4, fun _ => by have := a7 (by omega) l.1 l.2; omega⟩
        · rw [if_neg l, if_pos rfl, r_rng, Option.bind_some]
          by_cases m : 48 ≤ g 150 (g 139 19).toNat ∧ g 150 (g 139 19).toNat ≤ 57
          · rw [if_pos m, if_neg (by decide), m_let]
            obtain ⟨g', a1, a2, a3, a4, a5, a6, a7⟩ := r_dig 600 q_fu (q_ud (q_ud (q_ud g 139 20 (g 139 19)) 139 21 0) 139 22 2) (by rw [f14, f19]; omega) (by have := q_fu_ge; omega) (by rw [f19]; exact h0) (by rw [f14, f19]; exact h1) (by rw [f14]; exact h2)
            rw [f19, f14, f150] at a7
            rw [f19] at a3
            rw [f14] at a4
            rw [f20] at a5
            exact ⟨g', a1, r_N_t (N8 2) a2, by omega, by omega, a4, fun _ => by have := a7 (by omega) m.1 m.2; omega⟩
          · rw [if_neg m, if_pos rfl]
            split
            · exact oth 3
            · exact oth 4
  intro d
  induction d with
  | zero =>
    intro f g hd hf h0 h1 h2
    obtain ⟨f, rfl⟩ : ∃ f', f = f' + 1 := ⟨f - 1, by omega⟩
    rw [fn235_0, r_byte rfl h0 h2, Option.bind_some, if_pos (show g 139 14 ≤ g 139 19 by omega), if_neg (show ¬ (-1 : Int) = 32 by decide), Option.bind_some, if_neg (show ¬ (-1 : Int) = 10 by decide)]
    exact tail g h0 h1 h2
  | succ d ih =>
    intro f g hd hf h0 h1 h2
    obtain ⟨f, rfl⟩ : ∃ f', f = f' + 1 := ⟨f - 1, by omega⟩
    have blank : ¬ g 139 14 ≤ g 139 19 → ∃ g', fn235_26 (fn235_0 f) g = some (0, g') ∧ r_N g g' ∧ g 139 19 ≤ g' 139 20 ∧ g' 139 20 ≤ g' 139 19 ∧ g' 139 19 ≤ g 139 14 ∧ (g' 139 22 ≠ 0 → g' 139 20 < g' 139 19) := fun c => by
      rw [fn235_26, m_let, q_w32_id (by omega) (by omega)]
      obtain ⟨g', a1, a2, a3, a4, a5, a6⟩ := ih f (q_ud g 139 19 (g 139 19 + 1)) (by rw [q_ud_s, q_ud_n (by omega)]; omega) (by omega) (by rw [q_ud_s]; omega) (by rw [q_ud_s, q_ud_n (by omega)]; omega) (by rw [q_ud_n (by omega)]; exact h2)
      rw [q_ud_s] at a3
      rw [q_ud_n (by omega)] at a5
      exact ⟨g', a1, r_N_t (r_N_u r_N_r (by omega)) a2, by omega, a4, a5, a6⟩
    rw [fn235_0, r_byte rfl h0 h2, Option.bind_some]
    by_cases c : g 139 14 ≤ g 139 19
    · rw [if_pos c, if_neg (show ¬ (-1 : Int) = 32 by decide), Option.bind_some, if_neg (show ¬ (-1 : Int) = 10 by decide)]
      exact tail g h0 h1 h2
    · rw [if_neg c]
      split
      · exact blank c
      · rw [Option.bind_some]
        split
        · exact blank c
        · exact tail g h0 h1 h2
/-- the next token -/
theorem r_adv {g : q_F} (Q : r_Q g) : ∃ g', fn235 g = some (0, g') ∧ r_Q g' ∧ r_N g g' ∧ g 139 19 ≤ g' 139 20 := by
  obtain ⟨q1, q2, q3, s, s1, s2⟩ := Q
  obtain ⟨g', a1, a2, a3, a4, a5, a6⟩ := r_adv0 600 q_fu g (by omega) (by have := q_fu_ge; omega) (by omega) (by omega) (by omega)
  have e14 : g' 139 14 = g 139 14 := a2.2 14 (by omega) (by omega) (by omega) (by omega)
  have e23 : g' 139 23 = g 139 23 := a2.2 23 (by omega) (by omega) (by omega) (by omega)
  exact ⟨g', a1, ⟨by rw [e14]; exact q1, by rw [e14]; omega, a6, s, s1, e23.trans s2⟩, a2, a3⟩
theorem r_N_L {g g' : q_F} (Q : r_Q g) (N : r_N g g') (h : g 139 19 ≤ g' 139 20) : r_L g g' := ⟨fun k a b => N.1 k a, fun j hj => N.2 j (by omega) (by omega) (by omega) (by omega), by have := Q.2.1; omega⟩
end -- [98.rload]
section -- [98a.rload]
/-! Part 98a: the reference reads a setup text: statements. -/
def r_Y (w : Nat → Int) : Prop := (1 ≤ w 0 ∧ w 0 ≤ 1000) ∧ (w 1 = 0 ∨ w 1 = 1) ∧ (w 2 = 0 ∨ w 2 = 1) ∧ (∀ a, a < 3 → ∀ i, i < 6 → m_nr i (w (8 + 3 * i + a))) ∧ (∀ a, a < 3 → 0 ≤ w (26 + a) ∧ w (26 + a) ≤ w (8 + a)) ∧ (∀ a, a < 3 → w (44 + a) = 1) ∧ ∀ j, (3 ≤ j ∧ j < 8) ∨ (29 ≤ j ∧ j < 44) ∨ (47 ≤ j ∧ j < 122) → w j = 0
def r_Ze (w : Nat → Int) : Prop := ∀ a, a < 3 → w (26 + a) = 0
theorem r_Y_len {w : Nat → Int} (Y : r_Y w) {a : Nat} (ha : a < 3) : 1 ≤ w (8 + a) ∧ w (8 + a) ≤ 2000 := (Y.2.2.2.1 a ha 0 (by omega)).1 rfl
theorem r_Y_n {w : Nat → Int} {a i : Nat} {x : Int} (Y : r_Y w) (Z : r_Ze w) (ha : a < 3) (hi : i < 6) (hx : m_nr i x) : r_Y (m_u w (8 + 3 * i + a) x) ∧ r_Ze (m_u w (8 + 3 * i + a) x) := by
  obtain ⟨y0, y1, y2, y3, y4, y5, y6⟩ := Y
  have Z' : r_Ze (m_u w (8 + 3 * i + a) x) := fun b hb => by rw [m_u_n (by omega)]; exact Z b hb
  have N : ∀ b, b < 3 → ∀ k, k < 6 → m_nr k (m_u w (8 + 3 * i + a) x (8 + 3 * k + b)) := fun b hb k hk => by
    by_cases e : b = a ∧ k = i
    · rw [e.1, e.2, m_u_s]; exact hx
    · rw [m_u_n (by omega)]; exact y3 b hb k hk
  refine ⟨⟨by rw [m_u_n (by omega)]; exact y0, by rw [m_u_n (by omega)]; exact y1, by rw [m_u_n (by omega)]; exact y2, N, fun b hb => ?_, fun b hb => by rw [m_u_n (by omega)]; exact y5 b hb, fun j hj => by rw [m_u_n (by omega)]; exact y6 j hj⟩, Z'⟩
  rw [Z' b hb]
  have := (N b hb 0 (by omega)).1 rfl
  have e : 8 + 3 * 0 + b = 8 + b := by omega
  rw [e] at this
  omega
theorem r_Y_b {w : Nat → Int} {a : Nat} {x : Int} (Y : r_Y w) (ha : a < 3) (hx : 0 ≤ x ∧ x ≤ w (8 + a)) : r_Y (m_u w (26 + a) x) := by
  obtain ⟨y0, y1, y2, y3, y4, y5, y6⟩ := Y
  refine ⟨by rw [m_u_n (by omega)]; exact y0, by rw [m_u_n (by omega)]; exact y1, by rw [m_u_n (by omega)]; exact y2, fun b hb k hk => by rw [m_u_n (by omega)]; exact y3 b hb k hk, fun b hb => ?_, fun b hb => by rw [m_u_n (by omega)]; exact y5 b hb, fun j hj => by rw [m_u_n (by omega)]; exact y6 j hj⟩
  rw [m_u_n (show 8 + b ≠ 26 + a by omega)]
  by_cases e : b = a
  · subst e; rw [m_u_s]; exact hx
  · rw [m_u_n (by omega)]; exact y4 b hb
theorem r_Y_j {w : Nat → Int} {j : Nat} {x : Int} (Y : r_Y w) (h : (j = 0 ∧ 1 ≤ x ∧ x ≤ 1000) ∨ ((j = 1 ∨ j = 2) ∧ x = 1)) : r_Y (m_u w j x) := by
  obtain ⟨y0, y1, y2, y3, y4, y5, y6⟩ := Y
  refine ⟨?_, ?_, ?_, fun b hb k hk => by rw [m_u_n (by omega)]; exact y3 b hb k hk, fun b hb => by rw [m_u_n (by omega), m_u_n (by omega)]; exact y4 b hb, fun b hb => by rw [m_u_n (by omega)]; exact y5 b hb, fun j hj => by rw [m_u_n (by omega)]; exact y6 j hj⟩
  · unfold m_u; split <;> omega
  · unfold m_u; split <;> omega
  · unfold m_u; split <;> omega
def r_S (h : q_F) : Prop := r_Y (h 140) ∧ ∀ s : Nat, h 139 23 = (s : Int) → s / 8 % 2 = 0 → r_Ze (h 140)
theorem r_fail {c : Int} {h : q_F} (Q : r_Q h) : ∃ h', fn259 c h = some (0, h') ∧ r_Q h' ∧ r_L h h' := by
  unfold fn259
  split
  · rw [m_let, m_let]
    refine ⟨_, rfl, ?_, fun k a b => by funext j; rw [q_ud_n (by omega), q_ud_n (by omega)], fun j hj => by rw [q_ud_n (by omega), q_ud_n (by omega)], by rw [q_ud_n (by omega), q_ud_n (by omega)]; exact Int.le_refl _⟩
    obtain ⟨q1, q2, q3, s, s1, s2⟩ := Q
    refine ⟨?_, ?_, ?_, s, s1, ?_⟩
    · rw [q_ud_n (by omega), q_ud_n (by omega)]; exact q1
    · rw [q_ud_n (by omega), q_ud_n (by omega), q_ud_n (by omega), q_ud_n (by omega), q_ud_n (by omega), q_ud_n (by omega)]; exact q2
    · rw [q_ud_n (by omega), q_ud_n (by omega), q_ud_n (by omega), q_ud_n (by omega), q_ud_n (by omega), q_ud_n (by omega)]; exact q3
    · rw [q_ud_n (by omega), q_ud_n (by omega)]; exact s2
  · exact ⟨h, rfl, Q, r_L_r⟩
/-- a number taken -/
theorem r_takes {p : Nat} {mn mx : Int} {h : q_F} (Q : r_Q h) (hp : p < 122) : ∃ v h', fn348 p mn mx h = some (v, h') ∧ r_Q h' ∧ r_L h h' ∧ (v = 0 ∨ (v = 1 ∧ h' 139 23 = h 139 23 ∧ ∃ x, mn ≤ x ∧ x ≤ mx ∧ h' 140 = m_u (h 140) p x)) := by
  have bad : ∀ c, ∃ v h', ((fn259 c h).bind fun x2 => some (x2.1, x2.2)) = some (v, h') ∧ r_Q h' ∧ r_L h h' ∧ (v = 0 ∨ (v = 1 ∧ h' 139 23 = h 139 23 ∧ ∃ x, mn ≤ x ∧ x ≤ mx ∧ h' 140 = m_u (h 140) p x)) := fun c => by
    obtain ⟨h', a, b, d⟩ := r_fail (c := c) Q
    exact ⟨0, h', by rw [a, Option.bind_some], b, d, Or.inl rfl⟩
  unfold fn348 fn348_16
  rw [fn355, Option.bind_some, r_rng, Option.bind_some]
  split
  · split
    · by_cases c : mn ≤ h 139 21 ∧ h 139 21 ≤ mx
      · rw [if_pos c, if_neg (by decide), if_pos (by omega), m_let, m_ud_sr, Int.toNat_natCast]
        have Q1 : r_Q (m_sr h 140 (m_u (h 140) p (h 139 21))) := by
          unfold r_Q; rw [m_sr_n (by omega)]; exact Q
        obtain ⟨g', a1, a2, a3, a4⟩ := r_adv Q1
        have L := r_N_L Q1 a3 a4
        rw [a1, Option.bind_some]
        refine ⟨1, g', rfl, a2, ⟨fun k a b => by rw [L.1 k a b, m_sr_n b], fun j hj => by rw [L.2.1 j hj, m_sr_n (by omega)], by have := L.2.2; rw [m_sr_n (by omega)] at this; exact this⟩, Or.inr ⟨rfl, ?_, h 139 21, c.1, c.2, ?_⟩⟩
        · rw [a3.2 23 (by omega) (by omega) (by omega) (by omega), m_sr_n (by omega)]
        · rw [a3.1 140 (by omega), m_sr_s]
      · rw [if_neg c, if_pos rfl]; exact bad 2
    · exact bad 1
  · exact bad 1
theorem m_ian8 : ∀ s : Nat, s < 128 → (q_ian (s : Int) 8 = 0 ↔ s / 8 % 2 = 0) := by decide +kernel
theorem m_shl : ∀ k : Nat, k < 7 → q_ishl 1 (k : Int) = ((2 ^ k : Nat) : Int) := by decide +kernel
/-- a statement begun -/
theorem r_once {k : Nat} {b may : Int} {h : q_F} (Q : r_Q h) (hk : k < 7) (hb : b = q_ishl 1 (k : Int)) : ∃ v h', fn339 b may h = some (v, h') ∧ r_Q h' ∧ r_L h h' ∧ h' 140 = h 140 ∧ (v = 0 ∨ (v = 1 ∧ may ≠ 0 ∧ ∀ s : Nat, s < 128 → h 139 23 = (s : Int) → ∃ t : Nat, h' 139 23 = (t : Int) ∧ (k = 3 → t / 8 % 2 = 1) ∧ (k ≠ 3 → t / 8 % 2 = s / 8 % 2))) := by
  subst hb
  obtain ⟨q1, q2, q3, s, s1, s2⟩ := Q
  have B := m_bits s s1 k hk
  have Q2 : r_Q (q_ud h 139 23 (q_ior (h 139 23) (q_ishl 1 (k : Int)))) := by
    refine ⟨?_, ?_, ?_, _, B.1, ?_⟩
    · rw [q_ud_n (by omega)]; exact q1
    · rw [q_ud_n (by omega), q_ud_n (by omega), q_ud_n (by omega)]; exact q2
    · rw [q_ud_n (by omega), q_ud_n (by omega), q_ud_n (by omega)]; exact q3
    · rw [q_ud_s, s2]; exact B.2.1
  have L2 : r_L h (q_ud h 139 23 (q_ior (h 139 23) (q_ishl 1 (k : Int)))) := ⟨fun k a b => by funext j; rw [q_ud_n (by omega)], fun j hj => by rw [q_ud_n (by omega)], by rw [q_ud_n (by omega)]; exact Int.le_refl _⟩
  have e140 : q_ud h 139 23 (q_ior (h 139 23) (q_ishl 1 (k : Int))) 140 = h 140 := by funext j; rw [q_ud_n (by omega)]
  have e23 : q_ud h 139 23 (q_ior (h 139 23) (q_ishl 1 (k : Int))) 139 23 = q_ior (s : Int) (q_ishl 1 (k : Int)) := by rw [q_ud_s, s2]
  have bad : ∃ v h', fn339_33 (q_ud h 139 23 (q_ior (h 139 23) (q_ishl 1 (k : Int)))) = some (v, h') ∧ r_Q h' ∧ r_L h h' ∧ h' 140 = h 140 ∧ v = 0 := by
    unfold fn339_33 fn259
    split
    · rw [m_let, m_let, Option.bind_some]
      dsimp only
      refine ⟨0, _, rfl, ?_, r_L_t L2 ⟨fun k a b => by funext j; rw [q_ud_n (by omega), q_ud_n (by omega)], fun j hj => by rw [q_ud_n (by omega), q_ud_n (by omega)], by rw [q_ud_n (by omega), q_ud_n (by omega)]; exact Int.le_refl _⟩, by funext j; rw [q_ud_n (by omega), q_ud_n (by omega), e140], rfl⟩
      obtain ⟨q1, q2, q3, s, s1, s2⟩ := Q2
      refine ⟨?_, ?_, ?_, s, s1, ?_⟩
      · rw [q_ud_n (by omega), q_ud_n (by omega)]; exact q1
      · rw [q_ud_n (by omega), q_ud_n (by omega), q_ud_n (by omega), q_ud_n (by omega), q_ud_n (by omega), q_ud_n (by omega)]; exact q2
      · rw [q_ud_n (by omega), q_ud_n (by omega), q_ud_n (by omega), q_ud_n (by omega), q_ud_n (by omega), q_ud_n (by omega)]; exact q3
      · rw [q_ud_n (by omega), q_ud_n (by omega)]; exact s2
    · exact ⟨0, _, rfl, Q2, L2, e140, rfl⟩
  obtain ⟨bv, bh, b1, b2, b3, b4, b5⟩ := bad
  unfold fn339 fn339_14
  rw [m_let, m_let, b1]
  have good : may ≠ 0 → ∃ v h', ((fn235 (q_ud h 139 23 (q_ior (h 139 23) (q_ishl 1 (k : Int))))).bind fun x6 => some ((1 : Int), x6.2)) = some (v, h') ∧ r_Q h' ∧ r_L h h' ∧ h' 140 = h 140 ∧ (v = 0 ∨ (v = 1 ∧ may ≠ 0 ∧ ∀ s : Nat, s < 128 → h 139 23 = (s : Int) → ∃ t : Nat, h' 139 23 = (t : Int) ∧ (k = 3 → t / 8 % 2 = 1) ∧ (k ≠ 3 → t / 8 % 2 = s / 8 % 2))) := fun hmay => by
    obtain ⟨g', a1, a2, a3, a4⟩ := r_adv Q2
    rw [a1, Option.bind_some]
    refine ⟨1, g', rfl, a2, r_L_t L2 (r_N_L Q2 a3 a4), by rw [a3.1 140 (by omega), e140], Or.inr ⟨rfl, hmay, fun s' h1 h2 => ?_⟩⟩
    obtain rfl : s = s' := by omega
    exact ⟨_, by rw [a3.2 23 (by omega) (by omega) (by omega) (by omega), e23]; exact B.2.1, B.2.2.1, B.2.2.2⟩
  have stop : ∃ v h', some (bv, bh) = some (v, h') ∧ r_Q h' ∧ r_L h h' ∧ h' 140 = h 140 ∧ (v = 0 ∨ (v = 1 ∧ may ≠ 0 ∧ ∀ s : Nat, s < 128 → h 139 23 = (s : Int) → ∃ t : Nat, h' 139 23 = (t : Int) ∧ (k = 3 → t / 8 % 2 = 1) ∧ (k ≠ 3 → t / 8 % 2 = s / 8 % 2))) := ⟨bv, bh, rfl, b2, b3, b4, Or.inl b5⟩
  split
  · rw [if_neg (by decide)]
    split
    · exact stop
    · rename_i c; exact good c
  · rw [if_pos rfl]; exact stop
def r_RS (f : Option (Int × q_F)) (h : q_F) : Prop := ∃ v h', f = some (v, h') ∧ r_Q h' ∧ r_L h h' ∧ (v = 0 ∨ (v = 1 ∧ r_S h'))
theorem r_RS_t {f : Option (Int × q_F)} {h h1 : q_F} (L : r_L h h1) (g : r_RS f h1) : r_RS f h := by
  obtain ⟨v, h', a, b, c, d⟩ := g
  exact ⟨v, h', a, b, r_L_t L c, d⟩
theorem r_RS_e {f : Option (Int × q_F)} {h : q_F} (g : r_RS f h) : r_RS (f.bind fun x => some (x.1, x.2)) h := by
  obtain ⟨v, h', a, b, c, d⟩ := g
  exact ⟨v, h', by rw [a, Option.bind_some], b, c, d⟩
/-- a number of an axis, then the rest -/
theorem r_takeN {a i : Nat} {mn mx : Int} {h : q_F} {K : Int × q_F → Option (Int × q_F)} (Q : r_Q h) (Y : r_Y (h 140)) (Z : r_Ze (h 140)) (s : Nat) (hs : h 139 23 = (s : Int)) (ha : a < 3) (hi : i < 6) (hx : ∀ x, mn ≤ x → x ≤ mx → m_nr i x) (h0 : ∀ g, r_Q g → r_RS (K (0, g)) g) (h1 : ∀ g, r_Q g → r_Y (g 140) → r_Ze (g 140) → g 139 23 = (s : Int) → r_RS (K (1, g)) g) : r_RS ((fn348 ((8 + 3 * i + a : Nat) : Int) mn mx h).bind K) h := by
  obtain ⟨v, h', a1, a2, a3, a4⟩ := r_takes (p := 8 + 3 * i + a) (mn := mn) (mx := mx) Q (by omega)
  rw [a1, Option.bind_some]
  rcases a4 with rfl | ⟨rfl, e23, x, x1, x2, x3⟩
  · exact r_RS_t a3 (h0 h' a2)
  · have g := r_Y_n Y Z ha hi (hx x x1 x2)
    rw [← x3] at g
    exact r_RS_t a3 (h1 h' a2 g.1 g.2 (e23.trans hs))
theorem r_RS_0 {h : q_F} (Q : r_Q h) : r_RS (some ((0 : Int), h)) h := ⟨0, h, rfl, Q, r_L_r, Or.inl rfl⟩
theorem r_readAxis {a : Nat} {h : q_F} (ha : a < 3) (Q : r_Q h) (hS : r_S h) : r_RS (fn314 a h) h := by
  obtain ⟨s, s1, s2⟩ := Q.2.2.2
  have body : ∀ p0 : Int, (p0 ≠ 0 → s / 8 % 2 = 0) → r_RS (fn314_19 a p0 (q_ishl 1 (a : Int)) h) h := fun p0 hp0 => by
    obtain ⟨v, h1, a1, a2, a3, a4, a5⟩ := r_once (k := a) (may := p0) Q (by omega) rfl
    rw [fn314_19, a1, Option.bind_some]
    rcases a5 with rfl | ⟨rfl, may, a5⟩
    · dsimp only; rw [if_pos rfl]; exact r_RS_t a3 (r_RS_0 a2)
    · obtain ⟨t, t1, -, t3⟩ := a5 s s1 s2
      have z := hp0 may
      have Y1 : r_Y (h1 140) := by rw [a4]; exact hS.1
      have Z1 : r_Ze (h1 140) := by rw [a4]; exact hS.2 s s2 z
      have tz : t / 8 % 2 = 0 := by rw [t3 (by omega)]; exact z
      dsimp only
      rw [if_neg (show ¬ (1 : Int) = 0 by decide), q_w32_id (z := 8 + (a : Int)) (by omega) (by omega), show 8 + (a : Int) = ((8 + 3 * 0 + a : Nat) : Int) by omega]
      refine r_RS_t a3 (r_takeN a2 Y1 Z1 t t1 ha (by omega) (fun x x1 x2 => by unfold m_nr; omega) (fun g Q => by dsimp only; rw [if_pos rfl]; unfold fn314_91 fn314_92; rw [if_pos rfl]; exact r_RS_0 Q) fun g Q Y Z es => ?_)
      dsimp only
      rw [if_neg (show ¬ (1 : Int) = 0 by decide), q_w32_id (z := 11 + (a : Int)) (by omega) (by omega), show 11 + (a : Int) = ((8 + 3 * 1 + a : Nat) : Int) by omega]
      refine r_takeN Q Y Z t es ha (by omega) (fun x x1 x2 => by unfold m_nr; omega) (fun g Q => by dsimp only; rw [if_pos rfl]; unfold fn314_91 fn314_92; rw [if_pos rfl]; exact r_RS_0 Q) fun g Q Y Z es => ?_
      dsimp only
      rw [if_neg (show ¬ (1 : Int) = 0 by decide), q_w32_id (z := 14 + (a : Int)) (by omega) (by omega), show 14 + (a : Int) = ((8 + 3 * 2 + a : Nat) : Int) by omega]
      refine r_takeN Q Y Z t es ha (by omega) (fun x x1 x2 => by unfold m_nr; omega) (fun g Q => by dsimp only; rw [if_pos rfl]; unfold fn314_91 fn314_92; rw [if_pos rfl]; exact r_RS_0 Q) fun g Q Y Z es => ?_
      dsimp only
      rw [if_neg (show ¬ (1 : Int) = 0 by decide), q_w32_id (z := 17 + (a : Int)) (by omega) (by omega), show 17 + (a : Int) = ((8 + 3 * 3 + a : Nat) : Int) by omega]
      refine r_takeN Q Y Z t es ha (by omega) (fun x x1 x2 => by unfold m_nr; omega) (fun g Q => by dsimp only; rw [if_pos rfl]; unfold fn314_91 fn314_92; rw [if_pos rfl]; exact r_RS_0 Q) fun g Q Y Z es => ?_
      have len := r_Y_len Y ha
      dsimp only
      unfold fn314_92
      rw [if_neg (show ¬ (1 : Int) = 0 by decide), if_neg (show ¬ (1 : Int) = 0 by decide), q_w32_id (z := 8 + (a : Int)) (by omega) (by omega), if_pos (by omega), q_w32_id (z := 20 + (a : Int)) (by omega) (by omega), show 20 + (a : Int) = ((8 + 3 * 4 + a : Nat) : Int) by omega, show (8 + (a : Int)).toNat = 8 + a by omega]
      refine r_takeN Q Y Z t es ha (by omega) (fun x x1 x2 => by unfold m_nr; omega) (fun g Q => by dsimp only; rw [if_pos rfl]; exact r_RS_0 Q) fun g Q Y Z es => ?_
      dsimp only
      rw [if_neg (show ¬ (1 : Int) = 0 by decide), q_w32_id (z := 23 + (a : Int)) (by omega) (by omega), show 23 + (a : Int) = ((8 + 3 * 5 + a : Nat) : Int) by omega]
      refine r_takeN Q Y Z t es ha (by omega) (fun x x1 x2 => by unfold m_nr; omega) (fun g Q => by dsimp only; rw [if_pos rfl]; exact r_RS_0 Q) fun g Q Y Z es => ?_
      dsimp only
      rw [if_neg (show ¬ (1 : Int) = 0 by decide)]
      exact ⟨1, g, rfl, Q, r_L_r, Or.inr ⟨rfl, Y, fun _ _ _ => Z⟩⟩
  unfold fn314
  rw [s2]
  by_cases c : q_ian (s : Int) 8 = 0
  · rw [if_pos c]; exact body 1 (fun _ => (m_ian8 s s1).mp c)
  · rw [if_neg c]; exact body 0 (fun h9 => absurd rfl h9)
end -- [98a.rload]
section -- [98b.rload]
/-! Part 98b: the reference's loadTable. -/
theorem r_begl : ∀ (d a f : Nat) (h : q_F), a + d = 3 → d < f → r_Q h → r_Y (h 140) → (∀ s : Nat, h 139 23 = (s : Int) → s / 8 % 2 = 1) → r_RS (fn315_16 f 1 a h) h := by
  intro d
  induction d with
  | zero =>
    intro a f h ha hf Q Y hb
    obtain ⟨f, rfl⟩ : ∃ f', f = f' + 1 := ⟨f - 1, by omega⟩
    rw [fn315_16, if_pos (by omega)]
    exact ⟨1, h, rfl, Q, r_L_r, Or.inr ⟨rfl, Y, fun s e z => by have := hb s e; omega⟩⟩
  | succ d ih =>
    intro a f h ha hf Q Y hb
    obtain ⟨f, rfl⟩ : ∃ f', f = f' + 1 := ⟨f - 1, by omega⟩
    have ha3 : a < 3 := by clear hb ih; omega
    rw [fn315_16, if_neg (by clear hb ih; omega), if_neg (by decide), q_w32_id (z := 8 + (a : Int)) (by clear hb ih; omega) (by clear hb ih; omega), if_pos (by clear hb ih; omega), q_w32_id (z := 26 + (a : Int)) (by clear hb ih; omega) (by clear hb ih; omega), show 26 + (a : Int) = ((26 + a : Nat) : Int) by clear hb ih; omega, show (8 + (a : Int)).toNat = 8 + a by clear hb ih; omega]
    obtain ⟨v, h', a1, a2, a3, a4⟩ := r_takes (p := 26 + a) (mn := 0) (mx := h 140 (8 + a)) Q (by clear hb ih; omega)
    have wk : q_w32 ((a : Int) + 1) = ((a + 1 : Nat) : Int) := by clear hb ih; rw [q_w32_id (by omega) (by omega), ← m_s1]
    have hf' : d < f := by clear hb ih; omega
    have hd' : a + 1 + d = 3 := by clear hb ih; omega
    rw [a1, Option.bind_some, wk]
    rcases a4 with rfl | ⟨rfl, e23, x, x1, x2, x3⟩
    · obtain ⟨f, rfl⟩ : ∃ f', f = f' + 1 := ⟨f - 1, by clear hb ih; omega⟩
      dsimp only
      refine r_RS_t a3 ⟨0, h', ?_, a2, r_L_r, Or.inl rfl⟩
      rw [fn315_16, if_pos rfl, ite_self]
    · have Y1 := r_Y_b Y ha3 ⟨x1, x2⟩
      rw [← x3] at Y1
      exact r_RS_t a3 (ih (a + 1) f h' hd' hf' a2 Y1 (fun s e => hb s (e23.symm.trans e)))
theorem r_readBegin {h : q_F} (Q : r_Q h) (hS : r_S h) : r_RS (fn315 h) h := by
  obtain ⟨s, s1, s2⟩ := Q.2.2.2
  obtain ⟨v, h1, a1, a2, a3, a4, a5⟩ := r_once (k := 3) (b := 8) (may := 1) Q (by omega) (m_shl 3 (by omega)).symm
  unfold fn315
  rw [a1, Option.bind_some]
  rcases a5 with rfl | ⟨rfl, may, a5⟩
  · dsimp only; rw [if_pos rfl]; exact r_RS_t a3 (r_RS_0 a2)
  · obtain ⟨t, t1, t2, -⟩ := a5 s s1 s2
    dsimp only
    rw [if_neg (show ¬ (1 : Int) = 0 by decide)]
    exact r_RS_t a3 (r_begl 3 0 q_fu h1 (by omega) (by have := q_fu_ge; omega) a2 (by rw [a4]; exact hS.1) (fun u e => by
      have h2 := t2 rfl
      have h3 : u = t := by omega
      rw [h3]; exact h2))
/-- a flag set, a statement begun -/
theorem r_flag {k j : Nat} {b : Int} {h : q_F} (Q : r_Q h) (hS : r_S h) (hk : k < 7 ∧ k ≠ 3) (hj : j = 1 ∨ j = 2) (hb : b = q_ishl 1 (k : Int)) : r_RS ((fn339 b 1 (q_ud h 140 j 1)).bind fun x => some (x.1, x.2)) h := by
  have Q1 : r_Q (q_ud h 140 j 1) := by
    obtain ⟨q1, q2, q3, s, s1, s2⟩ := Q
    exact ⟨by rw [q_ud_n (by omega)]; exact q1, by rw [q_ud_n (by omega), q_ud_n (by omega), q_ud_n (by omega)]; exact q2, by rw [q_ud_n (by omega), q_ud_n (by omega), q_ud_n (by omega)]; exact q3, s, s1, by rw [q_ud_n (by omega)]; exact s2⟩
  have L1 : r_L h (q_ud h 140 j 1) := ⟨fun k a b => by funext i; rw [q_ud_n (by omega)], fun i hi => by rw [q_ud_n (by omega)], by rw [q_ud_n (by omega)]; exact Int.le_refl _⟩
  have e140 : q_ud h 140 j 1 140 = m_u (h 140) j 1 := by rw [m_ud_sr, m_sr_s]
  obtain ⟨s, s1, s2⟩ := Q.2.2.2
  obtain ⟨v, h1, a1, a2, a3, a4, a5⟩ := r_once (k := k) (may := 1) Q1 hk.1 hb
  rw [a1, Option.bind_some]
  refine ⟨v, h1, rfl, a2, r_L_t L1 a3, ?_⟩
  rcases a5 with h9 | ⟨h9, -, a5⟩
  · exact Or.inl h9
  · obtain ⟨t, t1, -, t3⟩ := a5 s s1 (by rw [q_ud_n (by omega)]; exact s2)
    refine Or.inr ⟨h9, by rw [a4, e140]; exact r_Y_j hS.1 (Or.inr ⟨hj, rfl⟩), fun u e z => ?_⟩
    have : u = t := by omega
    subst this
    have zz := hS.2 s s2 (by have := t3 hk.2; omega)
    rw [a4, e140]
    intro c hc
    rw [m_u_n (by omega)]; exact zz c hc
theorem r_wordl2 {s : Int} {h : q_F} (Q : r_Q h) (hl : h 139 20 + qx_sl s ≤ h 139 19) : ∀ (d k f : Nat), (k : Int) + d = qx_sl s → d < f → ∃ v, fn273_23 s h f k = some v := by
  have sl := q_sl10 s
  obtain ⟨q1, q2, -⟩ := Q
  intro d
  induction d with
  | zero =>
    intro k f hd hf
    obtain ⟨f, rfl⟩ : ∃ f', f = f' + 1 := ⟨f - 1, by omega⟩
    exact ⟨1, by rw [fn273_23, if_pos (by omega)]⟩
  | succ d ih =>
    intro k f hd hf
    obtain ⟨f, rfl⟩ : ∃ f', f = f' + 1 := ⟨f - 1, by omega⟩
    rw [fn273_23, if_neg (by omega), q_w32_id (z := h 139 20 + (k : Int)) (by omega) (by omega), if_pos (by omega), if_pos (by omega)]
    split
    · rw [q_w32_id (by omega) (by omega), ← m_s1]; exact ih (k + 1) f (by omega) (by omega)
    · exact ⟨_, rfl⟩
theorem r_isWord {h : q_F} (s : Int) (Q : r_Q h) : ∃ v, fn273 s h = some v := by
  have sl := q_sl10 s
  have q1 := Q.1
  have q2 := Q.2.1
  unfold fn273
  split
  · rw [fn355, Option.bind_some, q_w32_id (by omega) (by omega)]
    split
    · exact r_wordl2 Q (by omega) (qx_sl s).toNat 0 q_fu (by omega) (by have := q_fu_ge; omega)
    · exact ⟨_, rfl⟩
  · exact ⟨_, rfl⟩
theorem r_statement {h : q_F} (Q : r_Q h) (hS : r_S h) : r_RS (fn316 h) h := by
  obtain ⟨v1, e1⟩ := r_isWord 3 Q
  obtain ⟨v2, e2⟩ := r_isWord 4 Q
  obtain ⟨v3, e3⟩ := r_isWord 5 Q
  obtain ⟨v4, e4⟩ := r_isWord 6 Q
  obtain ⟨v5, e5⟩ := r_isWord 7 Q
  obtain ⟨v6, e6⟩ := r_isWord 8 Q
  obtain ⟨v7, e7⟩ := r_isWord 9 Q
  unfold fn316
  rw [e1, Option.bind_some, e2, Option.bind_some, e3, Option.bind_some, e4, Option.bind_some, e5, Option.bind_some, e6, Option.bind_some, e7, Option.bind_some, m_let, m_let]
  split
  · split
    · split
      · split
        · split
          · split
            · split
              · obtain ⟨h', a, b, c⟩ := r_fail (c := 1) Q
                exact ⟨0, h', by rw [a, Option.bind_some], b, c, Or.inl rfl⟩
              · exact r_flag (k := 6) Q hS (by omega) (Or.inr rfl) (m_shl 6 (by omega)).symm
            · exact r_flag (k := 5) Q hS (by omega) (Or.inl rfl) (m_shl 5 (by omega)).symm
          · obtain ⟨s, s1, s2⟩ := Q.2.2.2
            obtain ⟨v, h1, a1, a2, a3, a4, a5⟩ := r_once (k := 4) (b := 16) (may := 1) Q (by omega) (m_shl 4 (by omega)).symm
            rw [a1, Option.bind_some]
            rcases a5 with rfl | ⟨rfl, may, a5⟩
            · dsimp only; rw [if_pos rfl]; exact r_RS_t a3 (r_RS_0 a2)
            · obtain ⟨t, t1, -, t3⟩ := a5 s s1 s2
              obtain ⟨x, h2, b1, b2, b3, b4⟩ := r_takes (p := 0) (mn := 1) (mx := 1000) a2 (by omega)
              have b1' : fn348 0 1 1000 h1 = some (x, h2) := b1
              dsimp only
              rw [if_neg (show ¬ (1 : Int) = 0 by decide), b1', Option.bind_some]
              rcases b4 with rfl | ⟨rfl, e23, y, y1, y2, y3⟩
              · dsimp only; rw [if_pos rfl]; exact r_RS_t (r_L_t a3 b3) (r_RS_0 b2)
              · dsimp only; rw [if_neg (show ¬ (1 : Int) = 0 by decide)]
                refine ⟨1, h2, rfl, b2, r_L_t a3 b3, Or.inr ⟨rfl, by rw [y3, a4]; exact r_Y_j hS.1 (Or.inl ⟨rfl, y1, y2⟩), fun u e z => ?_⟩⟩
                have : u = t := by omega
                subst this
                have zz := hS.2 s s2 (by have := t3 (by omega); omega)
                rw [y3, a4]
                intro c hc
                rw [m_u_n (by omega)]; exact zz c hc
        · exact r_RS_e (r_readBegin Q hS)
      · exact r_RS_e (r_readAxis (a := 2) (by omega) Q hS)
    · exact r_RS_e (r_readAxis (a := 1) (by omega) Q hS)
  · exact r_RS_e (r_readAxis (a := 0) (by omega) Q hS)
theorem r_text : ∀ (d f : Nat) (h : q_F), (h 139 14 - h 139 20).toNat ≤ d → d < f → r_Q h → r_S h → r_RS (fn317_0 f h) h := by
  intro d
  induction d with
  | zero =>
    intro f h hd hf Q hS
    obtain ⟨f, rfl⟩ : ∃ f', f = f' + 1 := ⟨f - 1, by omega⟩
    have q2 := Q.2.1
    rw [fn317_0]
    by_cases c : h 139 22 = 0
    · rw [if_pos c]; exact ⟨1, h, rfl, Q, r_L_r, Or.inr ⟨rfl, hS⟩⟩
    · have := Q.2.2.1 c; omega
  | succ d ih =>
    intro f h hd hf Q hS
    obtain ⟨f, rfl⟩ : ∃ f', f = f' + 1 := ⟨f - 1, by omega⟩
    have q2 := Q.2.1
    rw [fn317_0]
    by_cases c : h 139 22 = 0
    · rw [if_pos c]; exact ⟨1, h, rfl, Q, r_L_r, Or.inr ⟨rfl, hS⟩⟩
    · obtain ⟨v, h1, a1, a2, a3, a4⟩ := r_statement Q hS
      rw [if_neg c, a1, Option.bind_some]
      rcases a4 with rfl | ⟨rfl, S1⟩
      · dsimp only; rw [if_pos rfl]; exact r_RS_t a3 (r_RS_0 a2)
      · dsimp only
        rw [if_neg (show ¬ (1 : Int) = 0 by decide)]
        by_cases c3 : h1 139 22 = 3
        · obtain ⟨h2, b1, b2, b3, b4⟩ := r_adv a2
          have lt := a2.2.2.1 (by omega)
          have L2 := r_N_L a2 b3 b4
          have e14 : h2 139 14 = h 139 14 := (L2.2.1 14 (by omega)).trans (a3.2.1 14 (by omega))
          have mono := a3.2.2
          have e140 : h2 140 = h1 140 := b3.1 140 (by omega)
          have e23 : h2 139 23 = h1 139 23 := b3.2 23 (by omega) (by omega) (by omega) (by omega)
          rw [if_pos c3, b1, Option.bind_some]
          exact r_RS_t (r_L_t a3 L2) (ih f h2 (by rw [e14]; omega) (by omega) b2 ⟨by rw [e140]; exact S1.1, fun s e z => by rw [e140]; exact S1.2 s (e23.symm.trans e) z⟩)
        · obtain ⟨h2, b1, b2, b3⟩ := r_fail (c := 1) a2
          rw [if_neg c3, b1, Option.bind_some]
          exact r_RS_t (r_L_t a3 b3) (r_RS_0 b2)
-- the row cleared
def m_clr (n : Nat) : Nat → Int := fun j => if j = 0 then 100 else if 8 ≤ j ∧ j < 8 + n then 200 else if 14 ≤ j ∧ j < 14 + n then 1000 else if 17 ≤ j ∧ j < 17 + n then 100 else if 20 ≤ j ∧ j < 20 + n then 5 else if 23 ≤ j ∧ j < 23 + n then 2 else if 44 ≤ j ∧ j < 44 + n then 1 else 0
theorem r_clr2 : ∀ (d a f : Nat) (h : q_F), a + d = 3 → d < f → (∀ j, j < 122 → h 140 j = m_clr a j) → ∃ h', fn246_32 f a h = some (0, h') ∧ (∀ k, k ≠ 140 → h' k = h k) ∧ ∀ j, j < 122 → h' 140 j = m_clr 3 j := by
  intro d
  induction d with
  | zero =>
    intro a f h ha hf e
    obtain ⟨f, rfl⟩ : ∃ f', f = f' + 1 := ⟨f - 1, by omega⟩
    obtain rfl : a = 3 := by omega
    exact ⟨h, by rw [fn246_32, if_pos (by omega)], fun _ _ => rfl, e⟩
  | succ d ih =>
    intro a f h ha hf e
    obtain ⟨f, rfl⟩ : ∃ f', f = f' + 1 := ⟨f - 1, by omega⟩
    rw [fn246_32, if_neg (by omega), q_w32_id (z := 8 + (a : Int)) (by omega) (by omega), q_w32_id (z := 14 + (a : Int)) (by omega) (by omega), q_w32_id (z := 17 + (a : Int)) (by omega) (by omega), q_w32_id (z := 20 + (a : Int)) (by omega) (by omega), q_w32_id (z := 23 + (a : Int)) (by omega) (by omega), q_w32_id (z := 44 + (a : Int)) (by omega) (by omega), if_pos (by omega), m_let, if_pos (by omega), m_let, if_pos (by omega), m_let, if_pos (by omega), m_let, if_pos (by omega), m_let, if_pos (by omega), m_let, q_w32_id (z := (a : Int) + 1) (by omega) (by omega), ← m_s1]
    have key : ∀ X : q_F, (∀ k, k ≠ 140 → X k = h k) → (∀ j, j < 122 → X 140 j = m_clr (a + 1) j) → ∃ h', fn246_32 f ((a + 1 : Nat) : Int) X = some (0, h') ∧ (∀ k, k ≠ 140 → h' k = h k) ∧ ∀ j, j < 122 → h' 140 j = m_clr 3 j := fun X hk hX => by
      obtain ⟨h', a1, a2, a3⟩ := ih (a + 1) f X (by omega) (by omega) hX
      exact ⟨h', a1, fun k hk2 => (a2 k hk2).trans (hk k hk2), a3⟩
    refine key _ (fun k hk => ?_) (fun j hj => ?_)
    · funext j; rw [q_ud_n (by omega), q_ud_n (by omega), q_ud_n (by omega), q_ud_n (by omega), q_ud_n (by omega), q_ud_n (by omega)]
    · rw [show (8 + (a : Int)).toNat = 8 + a by omega, show (14 + (a : Int)).toNat = 14 + a by omega, show (17 + (a : Int)).toNat = 17 + a by omega, show (20 + (a : Int)).toNat = 20 + a by omega, show (23 + (a : Int)).toNat = 23 + a by omega, show (44 + (a : Int)).toNat = 44 + a by omega]
      simp only [m_ud_sr, m_sr_s, m_sr_sr]
      have ej := e j hj
      unfold m_u m_clr
      unfold m_clr at ej
      rw [ej]
      have : a = 0 ∨ a = 1 ∨ a = 2 := by omega
      (repeat' split) <;> first | rfl | omega
theorem r_clr1 : ∀ (d k f : Nat) (h : q_F), k + d = 122 → d < f → (∀ j, j < k → h 140 j = 0) → ∃ h', fn246_2 f k h = some (0, h') ∧ (∀ k, k ≠ 140 → h' k = h k) ∧ ∀ j, j < 122 → h' 140 j = m_clr 3 j := by
  intro d
  induction d with
  | zero =>
    intro k f h hk hf e
    obtain ⟨f, rfl⟩ : ∃ f', f = f' + 1 := ⟨f - 1, by omega⟩
    rw [fn246_2, if_pos (by omega), m_let]
    obtain ⟨h', a1, a2, a3⟩ := r_clr2 3 0 q_fu (q_ud h 140 0 100) (by omega) (by have := q_fu_ge; omega) (fun j hj => by
      unfold m_clr
      by_cases c : j = 0
      · subst c; rw [q_ud_s, if_pos rfl]
      · rw [q_ud_n (by omega), e j (by omega), if_neg c, if_neg (by omega), if_neg (by omega), if_neg (by omega), if_neg (by omega), if_neg (by omega), if_neg (by omega)])
    exact ⟨h', a1, fun k hk => by rw [a2 k hk]; funext j; rw [q_ud_n (by omega)], a3⟩
  | succ d ih =>
    intro k f h hk hf e
    obtain ⟨f, rfl⟩ : ∃ f', f = f' + 1 := ⟨f - 1, by omega⟩
    rw [fn246_2, if_neg (by omega), if_pos (by omega), m_let, Int.toNat_natCast, q_w32_id (by omega) (by omega), ← m_s1]
    obtain ⟨h', a1, a2, a3⟩ := ih (k + 1) f (q_ud h 140 k 0) (by omega) (by omega) (fun j hj => by
      by_cases c : j = k
      · subst c; exact q_ud_s _ _ _ _
      · rw [q_ud_n (by omega)]; exact e j (by omega))
    exact ⟨h', a1, fun k hk => by rw [a2 k hk]; funext j; rw [q_ud_n (by omega)], a3⟩
theorem r_clear (h : q_F) : ∃ h', fn246 h = some (0, h') ∧ (∀ k, k ≠ 140 → h' k = h k) ∧ ∀ j, j < 122 → h' 140 j = m_clr 3 j := r_clr1 122 0 q_fu h (by omega) (by have := q_fu_ge; omega) (fun j hj => absurd hj (Nat.not_lt_zero j))
theorem r_Y_c {w w' : Nat → Int} (Y : r_Y w) (e : ∀ j, j < 122 → w' j = w j) : r_Y w' := by
  obtain ⟨y0, y1, y2, y3, y4, y5, y6⟩ := Y
  refine ⟨by rw [e 0 (by omega)]; exact y0, by rw [e 1 (by omega)]; exact y1, by rw [e 2 (by omega)]; exact y2, fun a ha i hi => by rw [e _ (by omega)]; exact y3 a ha i hi, fun a ha => by rw [e _ (by omega), e _ (by omega)]; exact y4 a ha, fun a ha => by rw [e _ (by omega)]; exact y5 a ha, fun j hj => by rw [e _ (by omega)]; exact y6 j hj⟩
theorem r_Y_clr : r_Y (m_clr 3) ∧ r_Ze (m_clr 3) := by
  have D : ∀ a, a < 3 → ∀ i, i < 6 → m_clr 3 (8 + 3 * i + a) = [200, 0, 1000, 100, 5, 2].getD i 0 := by decide
  refine ⟨⟨by decide, by decide, by decide, fun a ha i hi => ?_, by decide, by decide, fun j hj => ?_⟩, ?_⟩
  · rw [D a ha i hi]
    obtain rfl | rfl | rfl | rfl | rfl | rfl : i = 0 ∨ i = 1 ∨ i = 2 ∨ i = 3 ∨ i = 4 ∨ i = 5 := by omega
    all_goals
      unfold m_nr
      refine ⟨?_, ?_, ?_, ?_, ?_, ?_⟩ <;> intro h9 <;> first | omega | (simp)
  · unfold m_clr
    rw [if_neg (by omega), if_neg (by omega), if_neg (by omega), if_neg (by omega), if_neg (by omega), if_neg (by omega), if_neg (by omega)]
  · unfold r_Ze; decide
-- the switches at first
def m_cls (w : Nat → Int) : Nat → Int := fun j => if 53 ≤ j ∧ j < 56 then (if w (20 + (j - 53)) < w (26 + (j - 53)) then 0 else 1) else w j
theorem r_RI_cls {w : Nat → Int} (Y : r_Y w) : m_RI (m_cls w) := by
  obtain ⟨y0, y1, y2, y3, y4, y5, y6⟩ := Y
  have R := m_RI_new (st := w 0) (cp := w 1) (dt := w 2) (N := fun k => w (8 + 3 * (k % 6) + k / 6)) (B := fun a => w (26 + a)) y0 y1 y2 (fun a ha i hi => by
    show m_nr i (w (8 + 3 * ((6 * a + i) % 6) + (6 * a + i) / 6))
    rw [show (6 * a + i) % 6 = i by omega, show (6 * a + i) / 6 = a by omega]; exact y3 a ha i hi) (fun a ha => by
    show 0 ≤ w (26 + a) ∧ w (26 + a) ≤ w (8 + 3 * ((6 * a) % 6) + (6 * a) / 6)
    rw [show (6 * a) % 6 = 0 by omega, show (6 * a) / 6 = a by omega]; exact y4 a ha)
  refine m_RI_c R fun j hj => ?_
  unfold m_cls m_new
  dsimp only
  by_cases c0 : j = 0
  · subst c0; rfl
  · by_cases c1 : j = 1
    · subst c1; rfl
    · by_cases c2 : j = 2
      · subst c2; rfl
      · rw [if_neg c0, if_neg c1, if_neg c2]
        by_cases c3 : 8 ≤ j ∧ j < 26
        · rw [if_neg (by omega), if_pos c3]; congr 1; omega
        · rw [if_neg c3]
          by_cases c4 : 26 ≤ j ∧ j < 29
          · rw [if_neg (by omega), if_pos c4]; congr 1; omega
          · rw [if_neg c4]
            by_cases c5 : 44 ≤ j ∧ j < 47
            · rw [if_neg (by omega), if_pos c5, show j = 44 + (j - 44) by omega]; exact y5 _ (by omega)
            · rw [if_neg c5]
              by_cases c6 : 53 ≤ j ∧ j < 56
              · have e20 : w (8 + 3 * ((6 * (j - 53) + 4) % 6) + (6 * (j - 53) + 4) / 6) = w (20 + (j - 53)) := by congr 1; omega
                rw [if_pos c6, if_pos c6]
                by_cases q : w (20 + (j - 53)) < w (26 + (j - 53))
                · rw [if_pos q, if_pos (by rw [e20]; exact q)]
                · rw [if_neg q, if_neg (by rw [e20]; exact q)]
              · rw [if_neg c6, if_neg c6]; exact y6 j (by omega)
theorem r_cls1 {h : q_F} {w : Nat → Int} {a f : Nat} (ha : a < 3) (e : ∀ j, j < 53 → h 140 j = w j) : fn247_2 (f + 1) a h = fn247_2 f ((a + 1 : Nat) : Int) (m_sr h 140 (m_u (h 140) (53 + a) (if w (20 + a) < w (26 + a) then 0 else 1))) := by
  have e1 := e (20 + a) (by omega)
  have e2 := e (26 + a) (by omega)
  have fin : ∀ p : Int, fn247_42 (fn247_2 f) a p (53 + (a : Int)) h = fn247_2 f ((a + 1 : Nat) : Int) (m_sr h 140 (m_u (h 140) (53 + a) p)) := fun p => by
    rw [fn247_42, if_pos (by omega), m_let, q_w32_id (z := (a : Int) + 1) (by omega) (by omega), show (53 + (a : Int)).toNat = 53 + a by omega, m_ud_sr, ← m_s1]
  rw [fn247_2, if_neg (by omega), q_w32_id (z := 26 + (a : Int)) (by omega) (by omega), q_w32_id (z := 20 + (a : Int)) (by omega) (by omega), q_w32_id (z := 53 + (a : Int)) (by omega) (by omega), if_pos (show 0 ≤ 26 + (a : Int) ∧ 26 + (a : Int) < 122 by omega), if_pos (show 0 ≤ 20 + (a : Int) ∧ 20 + (a : Int) < 122 by omega), show (26 + (a : Int)).toNat = 26 + a by omega, show (20 + (a : Int)).toNat = 20 + a by omega, fin, fin]
  by_cases q : w (20 + a) < w (26 + a)
  · rw [if_pos (by omega), if_pos q]
  · rw [if_neg (by omega), if_neg q]
theorem r_closes {h : q_F} {w : Nat → Int} (e : h 140 = w) : fn247 h = some (0, m_sr h 140 (m_cls w)) := by
  obtain ⟨n, en⟩ := m_fu3
  have g := r_cls1 (h := h) (w := w) (f := n + 1 + 1 + 1) (show 0 < 3 by omega) (fun j _ => by rw [e])
  rw [r_cls1 (w := w) (f := n + 1 + 1) (show 0 + 1 < 3 by omega) (fun j hj => by rw [m_sr_s, m_u_n (by omega), e]), r_cls1 (w := w) (f := n + 1) (show 0 + 1 + 1 < 3 by omega) (fun j hj => by rw [m_sr_s, m_sr_s, m_u_n (by omega), m_u_n (by omega), e])] at g
  simp only [m_sr_s, m_sr_sr] at g
  rw [fn247, en]
  refine g.trans ?_
  rw [fn247_2, if_pos (by omega), e]
  congr 3
  funext j
  unfold m_u m_cls
  by_cases c2 : j = 53 + (0 + 1 + 1)
  · subst c2; rfl
  · rw [if_neg c2]
    by_cases c1 : j = 53 + (0 + 1)
    · subst c1; rfl
    · rw [if_neg c1]
      by_cases c0 : j = 53 + 0
      · subst c0; rfl
      · rw [if_neg c0, if_neg (by omega)]
end -- [98b.rload]
section -- [98c.rload]
/-! Part 98c: the reference's loadTable, whole. -/
theorem r_load {h : q_F} {S : m_St} (hI : r_I h S) (hm : m_I S) (hl : 0 ≤ h 139 14 ∧ h 139 14 ≤ 600) : ∃ v h' S', fn283 h = some (v, h') ∧ r_I h' S' ∧ m_I S' ∧ h' 139 14 = 0 ∧ (∀ k, k < 139 ∨ 152 ≤ k → h' k = h k) ∧ h' 139 27 = h 139 27 := by
  unfold fn283
  rw [m_let, fn249_i (by omega) (by omega) (by omega) (by omega) (by omega) (by omega) (by omega) (by omega), Option.bind_some]
  dsimp only
  -- the row kept
  have K1 : ∀ k, k ≠ 139 → k ≠ 141 → m_sr (q_ud h 139 7 0) 141 (m_cp (q_ud h 139 7 0 140) (q_ud h 139 7 0 141) (0 : Int).toNat (0 : Int).toNat (122 : Int).toNat) k = h k := fun k a b => by rw [m_sr_n b]; funext j; rw [q_ud_n (by omega)]
  have K2 : ∀ j, j ≠ 7 → m_sr (q_ud h 139 7 0) 141 (m_cp (q_ud h 139 7 0 140) (q_ud h 139 7 0 141) (0 : Int).toNat (0 : Int).toNat (122 : Int).toNat) 139 j = h 139 j := fun j a => by rw [m_sr_n (by omega), q_ud_n (by omega)]
  have K3 : ∀ j, j < 122 → m_sr (q_ud h 139 7 0) 141 (m_cp (q_ud h 139 7 0 140) (q_ud h 139 7 0 141) (0 : Int).toNat (0 : Int).toNat (122 : Int).toNat) 141 j = S.w j := fun j hj => by
    rw [m_sr_s]; unfold m_cp
    rw [show (0 : Int).toNat = 0 from rfl, show (122 : Int).toNat = 122 from rfl, if_pos (by omega), q_ud_n (by omega), hI.1]; congr 1; omega
  generalize m_sr (q_ud h 139 7 0) 141 (m_cp (q_ud h 139 7 0 140) (q_ud h 139 7 0 141) (0 : Int).toNat (0 : Int).toNat (122 : Int).toNat) = g1 at K1 K2 K3 ⊢
  obtain ⟨g2, a1, a2, a3⟩ := r_clear g1
  rw [a1, Option.bind_some, m_let, m_let, m_let, m_let]
  dsimp only
  -- the places before the first token
  have F : ∀ k j, k ≠ 139 → q_ud (q_ud (q_ud (q_ud g2 139 17 0) 139 18 (-1)) 139 19 0) 139 23 0 k j = g2 k j := fun k j hk => by rw [q_ud_n (by omega), q_ud_n (by omega), q_ud_n (by omega), q_ud_n (by omega)]
  have F9 : ∀ j, j < 17 ∨ 24 ≤ j → q_ud (q_ud (q_ud (q_ud g2 139 17 0) 139 18 (-1)) 139 19 0) 139 23 0 139 j = g2 139 j := fun j hj => by rw [q_ud_n (by omega), q_ud_n (by omega), q_ud_n (by omega), q_ud_n (by omega)]
  have F19 : q_ud (q_ud (q_ud (q_ud g2 139 17 0) 139 18 (-1)) 139 19 0) 139 23 0 139 19 = 0 := by rw [q_ud_n (by omega), q_ud_s]
  have F23 : q_ud (q_ud (q_ud (q_ud g2 139 17 0) 139 18 (-1)) 139 19 0) 139 23 0 139 23 = 0 := q_ud_s _ _ _ _
  generalize q_ud (q_ud (q_ud (q_ud g2 139 17 0) 139 18 (-1)) 139 19 0) 139 23 0 = g3 at F F9 F19 F23 ⊢
  have e14 : g3 139 14 = h 139 14 := by rw [F9 14 (by omega), a2 139 (by omega), K2 14 (by omega)]
  obtain ⟨g4, b1, b2, b3, b4, b5, b6⟩ := r_adv0 600 q_fu g3 (by rw [e14, F19]; omega) (by have := q_fu_ge; omega) (by rw [F19]; omega) (by rw [F19, e14]; omega) (by rw [e14]; exact hl.2)
  have c14 : g4 139 14 = h 139 14 := (b2.2 14 (by omega) (by omega) (by omega) (by omega)).trans e14
  have c23 : g4 139 23 = ((0 : Nat) : Int) := (b2.2 23 (by omega) (by omega) (by omega) (by omega)).trans F23
  have c140 : ∀ j, j < 122 → g4 140 j = m_clr 3 j := fun j hj => by rw [b2.1 140 (by omega), F 140 j (by omega), a3 j hj]
  have Q4 : r_Q g4 := ⟨by rw [c14]; exact hl, by rw [c14]; rw [F19] at b3; rw [e14] at b5; omega, b6, 0, by omega, c23⟩
  have S4 : r_S g4 := ⟨r_Y_c r_Y_clr.1 c140, fun s e z a ha => by rw [c140 _ (by omega)]; exact r_Y_clr.2 a ha⟩
  have b1' : fn235 g3 = some (0, g4) := b1
  rw [b1', Option.bind_some]
  dsimp only
  obtain ⟨v, g5, d1, d2, d3, d4⟩ := r_text 600 q_fu g4 (by have := Q4.1; have := Q4.2.1; omega) (by have := q_fu_ge; omega) Q4 S4
  have d1' : fn317 g4 = some (v, g5) := d1
  rw [d1', Option.bind_some, m_let, m_let, m_let]
  dsimp only
  -- what stands behind the text
  have G : ∀ k, k ≠ 139 → k ≠ 140 → k ≠ 141 → g5 k = h k := fun k x y z => by
    rw [d3.1 k x y, b2.1 k x]; funext j; rw [F k j x, a2 k y, K1 k x z]
  have G9 : ∀ j, j < 17 ∨ 24 ≤ j → j ≠ 7 → g5 139 j = h 139 j := fun j hj h7 => by
    rw [d3.2.1 j hj, b2.2 j (by omega) (by omega) (by omega) (by omega), F9 j hj, a2 139 (by omega), K2 j h7]
  have G141 : ∀ j, j < 122 → g5 141 j = S.w j := fun j hj => by
    rw [d3.1 141 (by omega) (by omega), b2.1 141 (by omega), F 141 j (by omega), a2 141 (by omega), K3 j hj]
  have U : ∀ k j, k ≠ 139 → q_ud (q_ud (q_ud g5 139 14 0) 139 15 (q_ud g5 139 14 0 139 17)) 139 16 (q_ud (q_ud g5 139 14 0) 139 15 (q_ud g5 139 14 0 139 17) 139 18) k j = g5 k j := fun k j hk => by rw [q_ud_n (by omega), q_ud_n (by omega), q_ud_n (by omega)]
  have U9 : ∀ j, j ≠ 14 → j ≠ 15 → j ≠ 16 → q_ud (q_ud (q_ud g5 139 14 0) 139 15 (q_ud g5 139 14 0 139 17)) 139 16 (q_ud (q_ud g5 139 14 0) 139 15 (q_ud g5 139 14 0 139 17) 139 18) 139 j = g5 139 j := fun j x y z => by rw [q_ud_n (by omega), q_ud_n (by omega), q_ud_n (by omega)]
  have U14 : q_ud (q_ud (q_ud g5 139 14 0) 139 15 (q_ud g5 139 14 0 139 17)) 139 16 (q_ud (q_ud g5 139 14 0) 139 15 (q_ud g5 139 14 0 139 17) 139 18) 139 14 = 0 := by rw [q_ud_n (by omega), q_ud_n (by omega), q_ud_s]
  generalize q_ud (q_ud (q_ud g5 139 14 0) 139 15 (q_ud g5 139 14 0 139 17)) 139 16 (q_ud (q_ud g5 139 14 0) 139 15 (q_ud g5 139 14 0 139 17) 139 18) = g6 at U U9 U14 ⊢
  have U140 : g6 140 = g5 140 := by funext j; exact U 140 j (by omega)
  rcases d4 with rfl | ⟨rfl, d4⟩
  · rw [if_pos rfl, fn249_i (by omega) (by omega) (by omega) (by omega) (by omega) (by omega) (by omega) (by omega), Option.bind_some]
    have ew : ∀ j, j < 122 → m_cp (g6 141) (g6 140) (0 : Int).toNat (0 : Int).toNat (122 : Int).toNat j = S.w j := fun j hj => by
      unfold m_cp
      rw [show (0 : Int).toNat = 0 from rfl, show (122 : Int).toNat = 122 from rfl, if_pos (by omega), U 141 _ (by omega), show 0 + (j - 0) = j by omega]; exact G141 j hj
    dsimp only
    refine ⟨_, _, m_set S (m_cp (g6 141) (g6 140) (0 : Int).toNat (0 : Int).toNat (122 : Int).toNat), rfl, ⟨m_sr_s _ _ _, ⟨?_, fun k hk j hj => ?_⟩, ?_, fun hs j hj => ?_⟩, m_I_set hm (m_RI_c hm.1 ew), ?_, fun k hk => ?_, ?_⟩
    · rw [m_sr_n (by omega), U9 5 (by omega) (by omega) (by omega), G9 5 (by omega) (by omega)]; exact hI.2.1.1
    · rw [m_sr_n (by omega), U 144 _ (by omega), G 144 (by omega) (by omega) (by omega)]; exact hI.2.1.2 k hk j hj
    · rw [m_sr_n (by omega), U9 6 (by omega) (by omega) (by omega), G9 6 (by omega) (by omega)]; exact hI.2.2.1
    · rw [m_sr_n (by omega), U 143 _ (by omega), G 143 (by omega) (by omega) (by omega)]; exact hI.2.2.2 hs j hj
    · rw [m_sr_n (by omega)]; exact U14
    · rw [m_sr_n (by omega)]; funext j; rw [U k j (by omega), G k (by omega) (by omega) (by omega)]
    · rw [m_sr_n (by omega), U9 27 (by omega) (by omega) (by omega), G9 27 (by omega) (by omega)]
  · have R := r_RI_cls d4.1
    rw [if_neg (show ¬ (1 : Int) = 0 by decide), r_closes U140, Option.bind_some, m_let, m_let]
    dsimp only
    rw [fn303_i (by omega) (by omega), Option.bind_some, fn303_i (by omega) (by omega), Option.bind_some, fn303_i (by omega) (by omega), Option.bind_some]
    refine ⟨_, _, m_mkS (m_cls (g5 140)) 0 S.P 0 S.ws, rfl, ⟨?_, ⟨?_, fun k hk => absurd hk (Nat.not_lt_zero k)⟩, q_ud_s _ _ _ _, fun h9 => absurd rfl h9⟩, ⟨R, ⟨Nat.zero_le _, fun k hk => absurd hk (Nat.not_lt_zero k)⟩, Or.inl rfl, fun h9 => absurd rfl h9⟩, ?_, fun k hk => ?_, ?_⟩
    · funext j; rw [q_ud_n (by omega), q_ud_n (by omega), m_sr_s]; rfl
    · rw [q_ud_n (by omega), q_ud_s]; rfl
    · rw [q_ud_n (by omega), q_ud_n (by omega), m_sr_n (by omega)]; exact U14
    · funext j; rw [q_ud_n (by omega), q_ud_n (by omega), m_sr_n (by omega), U k j (by omega), G k (by omega) (by omega) (by omega)]
    · rw [q_ud_n (by omega), q_ud_n (by omega), m_sr_n (by omega), U9 27 (by omega) (by omega) (by omega), G9 27 (by omega) (by omega)]
end -- [98c.rload]
