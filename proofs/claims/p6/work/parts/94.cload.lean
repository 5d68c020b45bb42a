/-! Part 94: the class reads a setup text. -/
theorem m_bits : ∀ s : Nat, s < 128 → ∀ k : Nat, k < 7 → (q_ior (s : Int) (q_ishl 1 (k : Int))).toNat < 128 ∧ q_ior (s : Int) (q_ishl 1 (k : Int)) = ((q_ior (s : Int) (q_ishl 1 (k : Int))).toNat : Int) ∧ (k = 3 → (q_ior (s : Int) (q_ishl 1 (k : Int))).toNat / 8 % 2 = 1) ∧ (k ≠ 3 → (q_ior (s : Int) (q_ishl 1 (k : Int))).toNat / 8 % 2 = s / 8 % 2) := by decide +kernel
theorem m_bit3 : ∀ s : Nat, s < 128 → (q_ian (q_ishr (s : Int) 3) 1 = 1 ↔ s / 8 % 2 = 1) := by decide +kernel
theorem m_gt : ∀ i : Nat, i < 6 → 0 ≤ q_lgv 1 (i : Int) ∧ q_lgv 2 (i : Int) ≤ 5000 ∧ (i ≤ 3 → i ≠ 1 → 1 ≤ q_lgv 1 (i : Int)) ∧ (i = 0 → q_lgv 2 (i : Int) ≤ 2000) ∧ (i = 1 ∨ i = 5 → q_lgv 2 (i : Int) ≤ 20) ∧ (i = 3 → q_lgv 2 (i : Int) ≤ 500) := by decide +kernel
theorem q_sl10 (z : Int) : 0 ≤ qx_sl z ∧ qx_sl z ≤ 10 := by have := q_sb_l (q_sw z); unfold qx_sl; omega
/-- what a number of an axis may be -/
def m_nr (i : Nat) (v : Int) : Prop := (i = 0 → 1 ≤ v ∧ v ≤ 2000) ∧ (i = 1 → 0 ≤ v ∧ v ≤ 20) ∧ (i = 2 → 1 ≤ v ∧ v ≤ 5000) ∧ (i = 3 → 1 ≤ v ∧ v ≤ 500) ∧ (i = 4 → 0 ≤ v ∧ v ≤ 2000) ∧ (i = 5 → 0 ≤ v ∧ v ≤ 20)
def c_Z (h : q_F) : Prop := (0 ≤ h 1 1 ∧ h 1 1 ≤ 600) ∧ (0 ≤ h 3 6 ∧ h 3 6 ≤ h 1 1) ∧ (1 ≤ h 3 2 ∧ h 3 2 ≤ 1000) ∧ (∃ s : Nat, s < 128 ∧ h 3 3 = (s : Int) ∧ (s / 8 % 2 = 0 → ∀ a, a < 3 → h 5 a = 0)) ∧ (∀ a, a < 3 → ∀ i, i < 6 → m_nr i (h 4 (6 * a + i))) ∧ ∀ a, a < 3 → 0 ≤ h 5 a ∧ h 5 a ≤ h 4 (6 * a)
def c_F3 (h h' : q_F) : Prop := ∀ k, k < 3 ∨ 5 < k → h' k = h k
theorem c_F3_r {h : q_F} : c_F3 h h := fun _ _ => rfl
theorem c_F3_t {h h1 h2 : q_F} (f : c_F3 h h1) (g : c_F3 h1 h2) : c_F3 h h2 := fun k hk => (g k hk).trans (f k hk)
theorem c_F3_u {h h' : q_F} {k j : Nat} {v : Int} (f : c_F3 h h') (hk : 3 ≤ k ∧ k ≤ 5) : c_F3 h (q_ud h' k j v) := fun i hi => by funext j'; rw [q_ud_n (by omega)]; rw [f i hi]
theorem c_Z_3 {h : q_F} {j : Nat} {v : Int} (Z : c_Z h) (hj : j = 4 ∨ j = 5 ∨ (j = 6 ∧ 0 ≤ v ∧ v ≤ h 1 1) ∨ (j = 2 ∧ 1 ≤ v ∧ v ≤ 1000)) : c_Z (q_ud h 3 j v) := by
  obtain ⟨z1, z2, z3, ⟨s, s1, s2, s3⟩, z5, z6⟩ := Z
  refine ⟨by rw [q_ud_n (by omega)]; exact z1, ?_, ?_, ⟨s, s1, by rw [q_ud_n (by omega)]; exact s2, fun h8 a ha => by rw [q_ud_n (by omega)]; exact s3 h8 a ha⟩, fun a ha i hi => by rw [q_ud_n (by omega)]; exact z5 a ha i hi, fun a ha => by rw [q_ud_n (by omega), q_ud_n (by omega)]; exact z6 a ha⟩
  · rw [q_ud_n (show ¬ (1 = 3 ∧ 1 = j) by omega)]
    by_cases e : j = 6
    · subst e; rw [q_ud_s]; omega
    · rw [q_ud_n (by omega)]; exact z2
  · by_cases e : j = 2
    · subst e; rw [q_ud_s]; omega
    · rw [q_ud_n (by omega)]; exact z3
theorem c_T63 (z : Int) (h : q_F) : ∃ v, fn63 1 z h = some v ∧ (v ≠ -1 → 0 ≤ z ∧ z < h 1 1) := by
  unfold fn63
  split
  · exact ⟨_, rfl, fun h9 => absurd rfl h9⟩
  · split
    · exact ⟨_, rfl, fun h9 => absurd rfl h9⟩
    · split
      · exact ⟨_, rfl, fun h9 => absurd rfl h9⟩
      · rw [if_pos (by omega)]; exact ⟨_, rfl, fun _ => by omega⟩
theorem q_ud_u (h : q_F) (k j : Nat) (v v' : Int) : q_ud (q_ud h k j v) k j v' = q_ud h k j v' := by
  funext k' j'
  by_cases e : k' = k ∧ j' = j
  · rw [e.1, e.2, q_ud_s, q_ud_s]
  · rw [q_ud_n e, q_ud_n e, q_ud_n e]
theorem q_ud_id (h : q_F) (k j : Nat) : q_ud h k j (h k j) = h := by
  funext k' j'
  by_cases e : k' = k ∧ j' = j
  · rw [e.1, e.2, q_ud_s]
  · rw [q_ud_n e]
/-- the place gone on -/
def c_pl (h h' : q_F) : Prop := ∃ p, h' = q_ud h 3 6 p ∧ h 3 6 ≤ p ∧ p ≤ h 1 1
theorem c_pl_r {h : q_F} (Z : c_Z h) : c_pl h h := ⟨h 3 6, (q_ud_id _ _ _).symm, by omega, Z.2.1.2⟩
theorem c_pl_Z {h h' : q_F} (Z : c_Z h) (p : c_pl h h') : c_Z h' ∧ c_F3 h h' ∧ h' 3 3 = h 3 3 ∧ h' 3 4 = h 3 4 ∧ h' 5 = h 5 ∧ h' 4 = h 4 := by
  obtain ⟨q, rfl, q1, q2⟩ := p
  have := Z.2.1
  exact ⟨c_Z_3 Z (Or.inr (Or.inr (Or.inl ⟨rfl, by omega, q2⟩))), c_F3_u c_F3_r (by omega), q_ud_n (by omega), q_ud_n (by omega), by funext j; rw [q_ud_n (by omega)], by funext j; rw [q_ud_n (by omega)]⟩
theorem c_pl_s {h h' : q_F} (Z : c_Z h) (hp : h 3 6 < h 1 1) (p : c_pl (q_ud h 3 6 (h 3 6 + 1)) h') : c_pl h h' := by
  obtain ⟨q, rfl, q1, q2⟩ := p
  rw [q_ud_s] at q1
  rw [q_ud_n (by omega)] at q2
  exact ⟨q, q_ud_u _ _ _ _ _, by omega, q2⟩
theorem c_step6 {h : q_F} (Z : c_Z h) (hp : h 3 6 < h 1 1) : c_Z (q_ud h 3 6 (h 3 6 + 1)) := c_Z_3 Z (Or.inr (Or.inr (Or.inl ⟨rfl, by have := Z.2.1; omega, by omega⟩)))
theorem c_find : ∀ (d f : Nat) (h : q_F), (h 1 1 - h 3 6).toNat ≤ d → d < f → c_Z h → ∃ x h', fn104_0 1 f h = some (x, h') ∧ c_pl h h' := by
  intro d
  induction d with
  | zero =>
    intro f h hd hf Z
    obtain ⟨f, rfl⟩ : ∃ f', f = f' + 1 := ⟨f - 1, by omega⟩
    rw [fn104_0, if_pos (by omega)]; unfold fn104_38
    split <;> exact ⟨_, h, rfl, c_pl_r Z⟩
  | succ d ih =>
    intro f h hd hf Z
    obtain ⟨f, rfl⟩ : ∃ f', f = f' + 1 := ⟨f - 1, by omega⟩
    have en : ∃ x h', fn104_38 1 h = some (x, h') ∧ c_pl h h' := by unfold fn104_38; split <;> exact ⟨_, h, rfl, c_pl_r Z⟩
    rw [fn104_0]
    by_cases c : h 1 1 ≤ h 3 6
    · rw [if_pos c]; exact en
    · obtain ⟨v, e, -⟩ := c_T63 (h 3 6) h
      have t : ∃ y, fn109 v h = some y := by unfold fn109 fn109_12; (repeat' split) <;> exact ⟨_, rfl⟩
      obtain ⟨y, ey⟩ := t
      rw [if_neg c, e, Option.bind_some, ey, Option.bind_some]
      split
      · exact en
      · rw [m_let, q_w32_id (by have := Z.1; have := Z.2.1; omega) (by have := Z.1; have := Z.2.1; omega)]
        obtain ⟨x, h', a, b⟩ := ih f (q_ud h 3 6 (h 3 6 + 1)) (by rw [q_ud_s, q_ud_n (by omega)]; omega) (by omega) (c_step6 Z (by omega))
        exact ⟨x, h', a, c_pl_s Z (by omega) b⟩
theorem c_findT {h : q_F} (Z : c_Z h) : ∃ x h', fn104 1 h = some (x, h') ∧ c_pl h h' := c_find 600 q_fu h (by have := Z.1; have := Z.2.1; omega) (by have := q_fu_ge; omega) Z
theorem c_wordl {s u : Int} {h : q_F} : ∀ (d k f : Nat), (k : Int) + d = qx_sl s → d < f → ∃ v, fn112_15 1 s h f u k = some v := by
  have sl := q_sl10 s
  intro d
  induction d with
  | zero =>
    intro k f hd hf
    obtain ⟨f, rfl⟩ : ∃ f', f = f' + 1 := ⟨f - 1, by omega⟩
    exact ⟨1, by rw [fn112_15, if_pos (by omega)]⟩
  | succ d ih =>
    intro k f hd hf
    obtain ⟨f, rfl⟩ : ∃ f', f = f' + 1 := ⟨f - 1, by omega⟩
    obtain ⟨v, e, -⟩ := c_T63 (q_w32 (u + (k : Int))) h
    rw [fn112_15, if_neg (by omega), e, Option.bind_some, if_pos (by omega)]
    split
    · rw [q_w32_id (by omega) (by omega), ← m_s1]; exact ih (k + 1) f (by omega) (by omega)
    · exact ⟨_, rfl⟩
theorem c_isWord (s u p : Int) (h : q_F) : ∃ v, fn112 1 s u p h = some v := by
  have sl := q_sl10 s
  unfold fn112
  split
  · exact c_wordl (qx_sl s).toNat 0 q_fu (by omega) (by have := q_fu_ge; omega)
  · exact ⟨_, rfl⟩
theorem c_stats {u : Int} {h : q_F} : ∀ (d k f : Nat), k + d = 7 → d < f → ∃ v, fn121_45 1 f u k h = some (v, h) ∧ -1 ≤ v ∧ v ≤ 6 := by
  intro d
  induction d with
  | zero =>
    intro k f hd hf
    obtain ⟨f, rfl⟩ : ∃ f', f = f' + 1 := ⟨f - 1, by omega⟩
    exact ⟨-1, by rw [fn121_45, if_pos (by omega)], by omega, by omega⟩
  | succ d ih =>
    intro k f hd hf
    obtain ⟨f, rfl⟩ : ∃ f', f = f' + 1 := ⟨f - 1, by omega⟩
    have t : ∃ y, fn122 k h = some y := by unfold fn122; (repeat' split) <;> exact ⟨_, rfl⟩
    obtain ⟨y, ey⟩ := t
    obtain ⟨v, e⟩ := c_isWord y u (h 3 6) h
    rw [fn121_45, if_neg (by omega), ey, Option.bind_some, e, Option.bind_some]
    split
    · rw [q_w32_id (by omega) (by omega), ← m_s1]; exact ih (k + 1) f (by omega) (by omega)
    · exact ⟨_, rfl, by omega, by omega⟩
theorem c_readW {u : Int} : ∀ (d f : Nat) (h : q_F), (h 1 1 - h 3 6).toNat ≤ d → d < f → c_Z h → ∃ v h', fn121_5 1 f u h = some (v, h') ∧ c_pl h h' ∧ -1 ≤ v ∧ v ≤ 6 := by
  intro d
  induction d with
  | zero =>
    intro f h hd hf Z
    obtain ⟨f, rfl⟩ : ∃ f', f = f' + 1 := ⟨f - 1, by omega⟩
    rw [fn121_5, if_pos (by omega), fn121_43]
    obtain ⟨v, a, b⟩ := c_stats (u := u) (h := h) 7 0 q_fu (by omega) (by have := q_fu_ge; omega)
    exact ⟨v, h, a, c_pl_r Z, b⟩
  | succ d ih =>
    intro f h hd hf Z
    obtain ⟨f, rfl⟩ : ∃ f', f = f' + 1 := ⟨f - 1, by omega⟩
    have en : ∃ v h', fn121_43 1 u h = some (v, h') ∧ c_pl h h' ∧ -1 ≤ v ∧ v ≤ 6 := by
      rw [fn121_43]
      obtain ⟨v, a, b⟩ := c_stats (u := u) (h := h) 7 0 q_fu (by omega) (by have := q_fu_ge; omega)
      exact ⟨v, h, a, c_pl_r Z, b⟩
    rw [fn121_5]
    by_cases c : h 1 1 ≤ h 3 6
    · rw [if_pos c]; exact en
    · obtain ⟨v, e, -⟩ := c_T63 (h 3 6) h
      have t : ∃ y, fn111 v h = some y := by unfold fn111; (repeat' split) <;> exact ⟨_, rfl⟩
      obtain ⟨y, ey⟩ := t
      rw [if_neg c, e, Option.bind_some, ey, Option.bind_some]
      split
      · exact en
      · rw [m_let, q_w32_id (by have := Z.1; have := Z.2.1; omega) (by have := Z.1; have := Z.2.1; omega)]
        obtain ⟨x, h', a, b, b2⟩ := ih f (q_ud h 3 6 (h 3 6 + 1)) (by rw [q_ud_s, q_ud_n (by omega)]; omega) (by omega) (c_step6 Z (by omega))
        exact ⟨x, h', a, c_pl_s Z (by omega) b, b2⟩
/-- an end of a part of the reading: sound, and the places of begin as they may be -/
def c_RZ (f : Option (Int × q_F)) (h : q_F) : Prop := ∃ v h', f = some (v, h') ∧ c_Z h' ∧ c_F3 h h' ∧ h' 3 3 = h 3 3
theorem c_fail3 {c p : Int} {h : q_F} (Z : c_Z h) : c_RZ ((fn103 c p h).bind fun x5 => some ((0 : Int), x5.2)) h := by
  rw [fn103, m_let, m_let, Option.bind_some]
  dsimp only
  exact ⟨_, _, rfl, c_Z_3 (c_Z_3 Z (Or.inl rfl)) (Or.inr (Or.inl rfl)), c_F3_u (c_F3_u c_F3_r (by omega)) (by omega), by rw [q_ud_n (by omega), q_ud_n (by omega)]⟩
/-- a number kept -/
theorem c_keep {st sl : Nat} {v : Int} {h : q_F} (Z : c_Z h) (hst : st < 5) (hb : st < 3 → ∀ a, a < 3 → h 5 a = 0) (hsl : (st < 3 → sl < 6 ∧ m_nr sl v ∧ (sl = 4 → v ≤ h 4 (6 * st))) ∧ (st = 3 → sl < 3 ∧ 0 ≤ v ∧ v ≤ h 4 (6 * sl) ∧ ∃ s : Nat, h 3 3 = (s : Int) ∧ s / 8 % 2 = 1) ∧ (st = 4 → 1 ≤ v ∧ v ≤ 1000)) : ∃ h', fn113 st sl v h = some (0, h') ∧ c_Z h' ∧ c_F3 h h' ∧ h' 3 3 = h 3 3 ∧ (st < 3 → ∀ a, a < 3 → h' 5 a = 0) := by
  obtain ⟨k1, k2, k3⟩ := hsl
  unfold fn113
  by_cases e4 : st = 4
  · subst e4
    rw [if_pos (show ((4 : Nat) : Int) = 4 from rfl), m_let]
    exact ⟨_, rfl, c_Z_3 Z (Or.inr (Or.inr (Or.inr ⟨rfl, k3 rfl⟩))), c_F3_u c_F3_r (by omega), q_ud_n (by omega), fun h9 => absurd h9 (by omega)⟩
  · rw [if_neg (by omega)]
    by_cases e3 : st = 3
    · subst e3
      obtain ⟨l1, l2, l3, s, s1, s2⟩ := k2 rfl
      rw [if_pos (show ((3 : Nat) : Int) = 3 from rfl), c_put (by omega) (by omega), Option.bind_some, Int.toNat_natCast]
      dsimp only
      refine ⟨_, rfl, ?_, c_F3_u c_F3_r (by omega), q_ud_n (by omega), fun h9 => absurd h9 (by omega)⟩
      obtain ⟨z1, z2, z3, ⟨t, t1, t2, t3⟩, z5, z6⟩ := Z
      refine ⟨by rw [q_ud_n (by omega)]; exact z1, by rw [q_ud_n (by omega), q_ud_n (by omega)]; exact z2, by rw [q_ud_n (by omega)]; exact z3, ⟨t, t1, by rw [q_ud_n (by omega)]; exact t2, fun h8 => by omega⟩, fun a ha i hi => by rw [q_ud_n (by omega)]; exact z5 a ha i hi, fun a ha => ?_⟩
      rw [q_ud_n (show ¬ (4 = 5 ∧ 6 * a = sl) by omega)]
      by_cases ea : a = sl
      · subst ea; rw [q_ud_s]; exact ⟨l2, l3⟩
      · rw [q_ud_n (by omega)]; exact z6 a ha
    · have h3 : st < 3 := by omega
      obtain ⟨l1, l2, l3⟩ := k1 h3
      rw [if_neg (by omega), q_w32_id (z := (st : Int) * 6) (by omega) (by omega), q_w32_id (z := (st : Int) * 6 + sl) (by omega) (by omega), c_put (by omega) (by omega), Option.bind_some, show ((st : Int) * 6 + sl).toNat = 6 * st + sl by omega]
      dsimp only
      refine ⟨_, rfl, ?_, c_F3_u c_F3_r (by omega), q_ud_n (by omega), fun _ a ha => by rw [q_ud_n (by omega)]; exact hb h3 a ha⟩
      obtain ⟨z1, z2, z3, ⟨t, t1, t2, t3⟩, z5, z6⟩ := Z
      have N : ∀ a, a < 3 → ∀ i, i < 6 → m_nr i (q_ud h 4 (6 * st + sl) v 4 (6 * a + i)) := fun a ha i hi => by
        by_cases ea : a = st ∧ i = sl
        · rw [ea.1, ea.2, q_ud_s]; exact l2
        · rw [q_ud_n (by omega)]; exact z5 a ha i hi
      refine ⟨by rw [q_ud_n (by omega)]; exact z1, by rw [q_ud_n (by omega), q_ud_n (by omega)]; exact z2, by rw [q_ud_n (by omega)]; exact z3, ⟨t, t1, by rw [q_ud_n (by omega)]; exact t2, fun h8 a ha => by rw [q_ud_n (by omega)]; exact hb h3 a ha⟩, N, fun a ha => ?_⟩
      rw [q_ud_n (show ¬ (5 = 4 ∧ a = 6 * st + sl) by omega), hb h3 a ha]
      have := (N a ha 0 (by omega)).1 rfl
      simp only [Nat.add_zero] at this
      omega
theorem c_T115 {a i : Nat} {h : q_F} (ha : a < 3) (hi : i < 6) : fn115 a i h = some (h 4 (6 * a + i)) := by
  rw [fn115, q_w32_id (z := (a : Int) * 6) (by omega) (by omega), q_w32_id (z := (a : Int) * 6 + i) (by omega) (by omega), c_ent (by omega) (by omega), Option.bind_some, show ((a : Int) * 6 + i).toNat = 6 * a + i by omega]
theorem c_ents {z : Nat} {i : Nat} {h : q_F} (hi : i < 6) : fn175s (z : Int) i h = some (q_lgv z i) := by
  rw [fn175s, if_neg (by omega), if_neg (by omega), if_pos (by omega)]
theorem c_num72 {st sl : Nat} {u4 u5 : Int} {h : q_F} (Z : c_Z h) (hst : st < 5) (hsl : (st < 3 → sl < 6) ∧ (st = 3 → sl < 3)) (hb : st < 3 → ∀ a, a < 3 → h 5 a = 0) (hs : st = 3 → ∃ s : Nat, h 3 3 = (s : Int) ∧ s / 8 % 2 = 1) : ∃ h', fn118_72 1 st sl u4 u5 h = some (0, h') ∧ c_Z h' ∧ c_F3 h h' ∧ h' 3 3 = h 3 3 ∧ (st < 3 → ∀ a, a < 3 → h' 5 a = 0) := by
  have bad : ∀ c, ∃ h', ((fn103 c u4 h).bind fun x4 => some ((0 : Int), x4.2)) = some (0, h') ∧ c_Z h' ∧ c_F3 h h' ∧ h' 3 3 = h 3 3 ∧ (st < 3 → ∀ a, a < 3 → h' 5 a = 0) := fun c => by
    rw [fn103, m_let, m_let, Option.bind_some]
    dsimp only
    exact ⟨_, rfl, c_Z_3 (c_Z_3 Z (Or.inl rfl)) (Or.inr (Or.inl rfl)), c_F3_u (c_F3_u c_F3_r (by omega)) (by omega), by rw [q_ud_n (by omega), q_ud_n (by omega)], fun h3 a ha => by rw [q_ud_n (by omega), q_ud_n (by omega)]; exact hb h3 a ha⟩
  have lst : ∃ x, fn114 st sl h = some x ∧ (st < 3 → x = q_lgv 1 sl) ∧ (st = 3 → x = 0) ∧ (st = 4 → x = 1) := by
    unfold fn114
    by_cases e4 : st = 4
    · rw [if_pos (by omega)]; exact ⟨_, rfl, by omega, by omega, fun _ => rfl⟩
    · rw [if_neg (by omega)]
      by_cases e3 : st = 3
      · rw [if_pos (by omega)]; exact ⟨_, rfl, by omega, fun _ => rfl, by omega⟩
      · rw [if_neg (by omega), show (1 : Int) = ((1 : Nat) : Int) from rfl, c_ents (hsl.1 (by omega)), Option.bind_some]; exact ⟨_, rfl, fun _ => rfl, by omega, by omega⟩
  have gst : ∃ x, fn106 st sl h = some x ∧ (st < 3 → (sl = 4 → x = h 4 (6 * st)) ∧ (sl ≠ 4 → x = q_lgv 2 sl)) ∧ (st = 3 → x = h 4 (6 * sl)) ∧ (st = 4 → x = 1000) := by
    unfold fn106
    by_cases e4 : st = 4
    · rw [if_pos (by omega)]; exact ⟨_, rfl, by omega, by omega, fun _ => rfl⟩
    · rw [if_neg (by omega)]
      by_cases e3 : st = 3
      · have t := c_T115 (i := 0) (h := h) (hsl.2 e3) (by omega)
        have t' : fn115 (sl : Int) 0 h = some (h 4 (6 * sl)) := t
        rw [if_pos (by omega), t', Option.bind_some]; exact ⟨_, rfl, by omega, fun _ => rfl, by omega⟩
      · rw [if_neg (by omega)]
        by_cases e5 : sl = 4
        · have t := c_T115 (a := st) (i := 0) (h := h) (by omega) (by omega)
          have t' : fn115 (st : Int) 0 h = some (h 4 (6 * st)) := t
          rw [if_pos (by omega), t', Option.bind_some]; exact ⟨_, rfl, fun _ => ⟨fun _ => rfl, fun h9 => absurd e5 h9⟩, by omega, by omega⟩
        · rw [if_neg (by omega), show (2 : Int) = ((2 : Nat) : Int) from rfl, c_ents (hsl.1 (by omega)), Option.bind_some]; exact ⟨_, rfl, fun _ => ⟨fun h9 => absurd h9 e5, fun _ => rfl⟩, by omega, by omega⟩
  obtain ⟨x, ex, x1, x2, x3⟩ := lst
  obtain ⟨y, ey, y1, y2, y3⟩ := gst
  unfold fn118_72 fn118_93 fn118_125
  rw [ex, Option.bind_some, ey]
  split
  · exact bad 1
  · split
    · split
      · exact bad 2
      · rename_i c1
        rw [Option.bind_some]
        split
        · rename_i c2
          obtain ⟨h', a, b⟩ := c_keep (v := u5) Z hst hb ⟨fun h3 => by
            have g := m_gt sl (hsl.1 h3)
            have hx := x1 h3
            have hy := y1 h3
            have z5 := (Z.2.2.2.2.1 st h3 0 (by omega)).1 rfl
            simp only [Nat.add_zero] at z5
            refine ⟨hsl.1 h3, ?_, fun e5 => by have := hy.1 e5; omega⟩
            unfold m_nr
            refine ⟨fun e => ?_, fun e => ?_, fun e => ?_, fun e => ?_, fun e => ?_, fun e => ?_⟩
            · have := hy.2 (by omega); have := g.2.2.1 (by omega) (by omega); have := g.2.2.2.1 e; omega
            · have := hy.2 (by omega); have := g.2.2.2.2.1 (Or.inl e); omega
            · have := hy.2 (by omega); have := g.2.2.1 (by omega) (by omega); omega
            · have := hy.2 (by omega); have := g.2.2.1 (by omega) (by omega); have := g.2.2.2.2.2 e; omega
            · have := hy.1 e; omega
            · have := hy.2 (by omega); have := g.2.2.2.2.1 (Or.inr e); omega, fun e3 => ⟨hsl.2 e3, by have := x2 e3; omega, by have := y2 e3; omega, hs e3⟩, fun e4 => by have := x3 e4; have := y3 e4; omega⟩
          exact ⟨h', by rw [a, Option.bind_some], b⟩
        · exact bad 2
    · exact bad 1
