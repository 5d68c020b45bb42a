/-! Part 90: the class's questions of a plan end. -/
theorem c_T79 (m : Int) (h : q_F) : ∃ v, fn79 m h = some v := by
  obtain ⟨v, e⟩ := c_ent_t 129 16 m h
  exact ⟨v, by rw [fn79, e, Option.bind_some]⟩
theorem c_T73 (m a : Int) (h : q_F) : ∃ v, fn73 m a h = some v := by
  unfold fn73
  obtain ⟨v, e⟩ := c_ent_t 127 48 (q_w32 (q_w32 (m * 3) + a)) h
  exact ⟨v, by rw [e, Option.bind_some]⟩
theorem c_T100 (m a : Int) (h : q_F) : ∃ v, fn100 m a h = some v := by
  unfold fn100
  obtain ⟨v, e⟩ := c_ent_t 128 48 (q_w32 (q_w32 (m * 3) + a)) h
  rw [e, Option.bind_some]; split <;> exact ⟨_, rfl⟩
theorem c_T101 (m a : Int) (h : q_F) : ∃ v, fn101 m a h = some v := by
  unfold fn101
  obtain ⟨v, e⟩ := c_ent_t 127 48 (q_w32 (q_w32 (m * 3) + a)) h
  rw [e, Option.bind_some]; split <;> exact ⟨_, rfl⟩
theorem c_T93 (m k : Int) (h : q_F) : ∃ v, fn93 m k h = some v := by
  unfold fn93
  obtain ⟨v1, e1⟩ := c_ent_t 131 16 m h
  obtain ⟨v2, e2⟩ := c_ent_t 134 17 m h
  obtain ⟨v3, e3⟩ := c_ent_t 134 17 (q_w32 (m + 1)) h
  obtain ⟨v4, e4⟩ := c_ent_t 129 16 m h
  obtain ⟨v5, e5⟩ := c_ent_t 130 16 m h
  rw [e1, Option.bind_some, e2, Option.bind_some, e3, Option.bind_some, e4, Option.bind_some, e5, Option.bind_some]
  exact ⟨_, rfl⟩
theorem c_T201 (a b : Int) (h : q_F) : ∃ v, fn201 a b h = some v := by
  unfold fn201
  by_cases c : b = 0
  · rw [if_pos c]; exact ⟨_, rfl⟩
  · rw [if_neg c, if_pos c]; exact ⟨_, rfl⟩
theorem c_T95 (m k : Int) (h : q_F) : ∃ v, fn95 m k h = some v := by
  obtain ⟨v, e⟩ := c_T93 m k h
  obtain ⟨u, e2⟩ := c_T201 1000000 v h
  exact ⟨u, by rw [fn95, e, Option.bind_some, e2, Option.bind_some]⟩
theorem c_T83 (m a k : Int) (h : q_F) : ∃ v, fn83 m a k h = some v := by
  unfold fn83
  obtain ⟨v1, e1⟩ := c_ent_t 129 16 m h
  obtain ⟨v2, e2⟩ := c_ent_t 127 48 (q_w32 (q_w32 (m * 3) + a)) h
  rw [e1, Option.bind_some, e2, Option.bind_some]
  obtain ⟨v3, e3⟩ := c_T201 (q_w32 (q_w32 (q_w32 (2 * k) * qx_ab v2) + v1)) (q_w32 (2 * v1)) h
  rw [e3, Option.bind_some]; exact ⟨_, rfl⟩
theorem c_T87 (m a k : Int) (h : q_F) : ∃ v, fn87 m a k h = some v := by
  unfold fn87
  obtain ⟨v1, e1⟩ := c_ent_t 126 48 (q_w32 (q_w32 (m * 3) + a)) h
  obtain ⟨v2, e2⟩ := c_T101 m a h
  obtain ⟨v3, e3⟩ := c_T83 m a k h
  rw [e1, Option.bind_some, e2, Option.bind_some, e3, Option.bind_some]; exact ⟨_, rfl⟩
theorem c_T71 (m : Int) (h : q_F) : ∃ v, fn71 m h = some v := by
  unfold fn71
  obtain ⟨v1, e1⟩ := c_ent_t 133 16 m h
  obtain ⟨v2, e2⟩ := c_T201 1000000 (h 125 10) h
  rw [e1, Option.bind_some, e2, Option.bind_some]; exact ⟨_, rfl⟩
theorem c_T76 {m l : Int} {h : q_F} (e : fn79 m h = some l) (hl : l ≤ 2000) : ∀ (d : Nat) (k : Int) (f : Nat) (u : Int), 0 ≤ k → l ≤ k + d → k ≤ 3000 → d < f → ∃ v, fn76_4 h f m u k = some v := by
  intro d
  induction d with
  | zero =>
    intro k f u hk hd _ hf
    obtain ⟨f, rfl⟩ : ∃ f', f = f' + 1 := ⟨f - 1, by omega⟩
    exact ⟨u, by rw [fn76_4, e, Option.bind_some, if_pos (by omega)]⟩
  | succ d ih =>
    intro k f u hk hd h3 hf
    obtain ⟨f, rfl⟩ : ∃ f', f = f' + 1 := ⟨f - 1, by omega⟩
    obtain ⟨v, e1⟩ := c_T93 m k h
    rw [fn76_4, e, Option.bind_some]
    by_cases c : l ≤ k
    · rw [if_pos c]; exact ⟨_, rfl⟩
    · rw [if_neg c, e1, Option.bind_some, q_w32_id (by omega) (by omega)]
      exact ih (k + 1) f _ (by omega) (by omega) (by omega) (by omega)
theorem c_T77 {m l x : Int} {h : q_F} (e : fn79 m h = some l) (hl : l ≤ 2000) : ∀ (d : Nat) (k : Int) (f : Nat) (u : Int), 0 ≤ k → l ≤ k + d → k ≤ 3000 → d < f → ∃ v, fn77_11 h f m x u k = some v := by
  intro d
  induction d with
  | zero =>
    intro k f u hk hd _ hf
    obtain ⟨f, rfl⟩ : ∃ f', f = f' + 1 := ⟨f - 1, by omega⟩
    exact ⟨u, by rw [fn77_11, e, Option.bind_some, if_pos (by omega)]⟩
  | succ d ih =>
    intro k f u hk hd h3 hf
    obtain ⟨f, rfl⟩ : ∃ f', f = f' + 1 := ⟨f - 1, by omega⟩
    obtain ⟨v, e1⟩ := c_T93 m k h
    rw [fn77_11, e, Option.bind_some]
    by_cases c : l ≤ k
    · rw [if_pos c]; exact ⟨_, rfl⟩
    · rw [if_neg c, e1, Option.bind_some, fn77_38, fn77_38, q_w32_id (z := k + 1) (by omega) (by omega)]
      split <;> exact ih (k + 1) f _ (by omega) (by omega) (by omega) (by omega)
theorem c_T70 {m l x : Int} {h : q_F} (e : fn79 m h = some l) (hl : l ≤ 2000) : ∀ (d : Nat) (k : Int) (f : Nat) (u : Int), 0 ≤ k → l ≤ k + d → k ≤ 3000 → d < f → ∃ v, fn70_5 h f m x u k = some v := by
  intro d
  induction d with
  | zero =>
    intro k f u hk hd _ hf
    obtain ⟨f, rfl⟩ : ∃ f', f = f' + 1 := ⟨f - 1, by omega⟩
    exact ⟨u, by rw [fn70_5, e, Option.bind_some, if_pos (by omega)]⟩
  | succ d ih =>
    intro k f u hk hd h3 hf
    obtain ⟨f, rfl⟩ : ∃ f', f = f' + 1 := ⟨f - 1, by omega⟩
    obtain ⟨v, e1⟩ := c_T93 m k h
    obtain ⟨v2, e2⟩ := c_T93 m (q_w32 (k - 1)) h
    rw [fn70_5, e, Option.bind_some]
    by_cases c : l ≤ k
    · rw [if_pos c]; exact ⟨_, rfl⟩
    · rw [if_neg c, e1, Option.bind_some, e2, Option.bind_some]
      unfold fn70_56 fn70_52 fn70_57
      rw [q_w32_id (z := k + 1) (by omega) (by omega)]
      (repeat' split) <;> exact ih (k + 1) f _ (by omega) (by omega) (by omega) (by omega)
theorem c_T97 {m l : Int} {h : q_F} (e : fn79 m h = some l) (hl : l ≤ 2000) : ∀ (d : Nat) (k : Int) (f : Nat) (u : Int), 0 ≤ k → l ≤ k + d → k ≤ 3000 → d < f → ∃ v, fn97_6 h f m u k = some v := by
  intro d
  induction d with
  | zero =>
    intro k f u hk hd _ hf
    obtain ⟨f, rfl⟩ : ∃ f', f = f' + 1 := ⟨f - 1, by omega⟩
    exact ⟨k, by rw [fn97_6, e, Option.bind_some, if_pos (by omega)]⟩
  | succ d ih =>
    intro k f u hk hd h3 hf
    obtain ⟨f, rfl⟩ : ∃ f', f = f' + 1 := ⟨f - 1, by omega⟩
    obtain ⟨v, e1⟩ := c_T95 m k h
    rw [fn97_6, e, Option.bind_some]
    by_cases c : l ≤ k
    · rw [if_pos c]; exact ⟨_, rfl⟩
    · rw [if_neg c, e1, Option.bind_some]
      split
      · exact ⟨_, rfl⟩
      · rw [Option.bind_some, q_w32_id (by omega) (by omega)]
        exact ih (k + 1) f _ (by omega) (by omega) (by omega) (by omega)
theorem c_T9699 (a b c d : Int) (h : q_F) : ∃ v, fn96_99 a b c d h = some v := by
  unfold fn96_99
  obtain ⟨v, e⟩ := c_T201 1000000 a h
  rw [e, Option.bind_some]; exact ⟨_, rfl⟩
theorem c_T9660 {m c : Int} {h : q_F} : ∀ (d : Nat) (x y k : Int) (f : Nat), y ≤ 3000 → 0 ≤ x → y ≤ x + d → d < f → ∃ v, fn96_60 h f m c k x y = some v := by
  intro d
  induction d with
  | zero =>
    intro x y k f hy hx hd hf
    obtain ⟨f, rfl⟩ : ∃ f', f = f' + 1 := ⟨f - 1, by omega⟩
    rw [fn96_60, if_pos (by omega)]; exact c_T9699 _ _ _ _ _
  | succ d ih =>
    intro x y k f hy hx hd hf
    obtain ⟨f, rfl⟩ : ∃ f', f = f' + 1 := ⟨f - 1, by omega⟩
    rw [fn96_60]
    by_cases c1 : y ≤ x
    · rw [if_pos c1]; exact c_T9699 _ _ _ _ _
    · obtain ⟨v, e1⟩ := c_T93 m (q_w32 (y - 1)) h
      obtain ⟨u, e2⟩ := c_T95 m (q_w32 (y + -1)) h
      rw [if_neg c1, e1, Option.bind_some]
      split
      · exact c_T9699 _ _ _ _ _
      · rw [e2, Option.bind_some, q_w32_id (z := y + -1) (by omega) (by omega)]
        exact ih x (y + -1) _ f (by omega) hx (by omega) (by omega)
theorem c_T9621 {m c l : Int} {h : q_F} (hl : l ≤ 2000) : ∀ (d : Nat) (x k : Int) (f : Nat), 0 ≤ x → x ≤ 3000 → l ≤ x + d → d < f → ∃ v, fn96_21 h f m c l k x = some v := by
  intro d
  induction d with
  | zero =>
    intro x k f hx _ hd hf
    obtain ⟨f, rfl⟩ : ∃ f', f = f' + 1 := ⟨f - 1, by omega⟩
    rw [fn96_21, if_pos (by omega), fn96_57]; exact c_T9660 2000 x l k q_fu (by omega) hx (by omega) (by have := q_fu_ge; omega)
  | succ d ih =>
    intro x k f hx h3 hd hf
    obtain ⟨f, rfl⟩ : ∃ f', f = f' + 1 := ⟨f - 1, by omega⟩
    have fin : ∃ v, fn96_57 m c l k x h = some v := by rw [fn96_57]; exact c_T9660 2000 x l k q_fu (by omega) hx (by omega) (by have := q_fu_ge; omega)
    obtain ⟨v, e1⟩ := c_T93 m x h
    obtain ⟨u, e2⟩ := c_T95 m x h
    rw [fn96_21]
    by_cases c1 : l ≤ x
    · rw [if_pos c1]; exact fin
    · rw [if_neg c1, e1, Option.bind_some]
      split
      · exact fin
      · rw [e2, Option.bind_some, q_w32_id (z := x + 1) (by omega) (by omega)]
        exact ih (x + 1) _ f (by omega) (by omega) (by omega) (by omega)
theorem c_T96 {m l : Int} {h : q_F} (e : fn79 m h = some l) (hl : l ≤ 2000) : ∃ v, fn96 m h = some v := by
  obtain ⟨v, e1⟩ := c_ent_t 130 16 m h
  rw [fn96, e1, Option.bind_some, e, Option.bind_some]
  exact c_T9621 hl 2000 0 0 q_fu (by omega) (by omega) (by omega) (by have := q_fu_ge; omega)
/-- the plan's leads, as far as it goes -/
def c_Ld (h : q_F) : Prop := 0 ≤ h 125 9 ∧ h 125 9 ≤ 16 ∧ ∀ m : Nat, (m : Int) < h 125 9 → ∃ l, fn79 m h = some l ∧ 0 ≤ l ∧ l ≤ 2000
theorem c_Ld_P {h : q_F} {p : Nat → Int} (ok : m_ok p) (hP : c_Plan h p) : c_Ld h := by
  have r := ok.2.1
  have e := hP.2.2.2.1
  refine ⟨by rw [e]; exact r.1, by rw [e]; exact r.2, fun m hm => ?_⟩
  rw [e] at hm
  have l := m_l_r ok (m := m) (by omega)
  exact ⟨_, c_lead (hP.1.2 m (by omega)).1 (by omega), l.1, l.2.1⟩
theorem c_T99 {h : q_F} {x : Int} (L : c_Ld h) (hx : x ≤ 20) : ∀ (d m f : Nat) (u : Int), (h 125 9).toNat ≤ m + d → d < f → m ≤ 20 → ∃ v, fn99_5 h f x u m = some v := by
  obtain ⟨l1, l2, l3⟩ := L
  intro d
  induction d with
  | zero =>
    intro m f u hd hf hm
    obtain ⟨f, rfl⟩ : ∃ f', f = f' + 1 := ⟨f - 1, by omega⟩
    rw [fn99_5]
    split
    · exact ⟨_, rfl⟩
    · rw [if_pos (by omega)]; exact ⟨_, rfl⟩
  | succ d ih =>
    intro m f u hd hf hm
    obtain ⟨f, rfl⟩ : ∃ f', f = f' + 1 := ⟨f - 1, by omega⟩
    rw [fn99_5]
    split
    · exact ⟨_, rfl⟩
    · by_cases c : h 125 9 ≤ m
      · rw [if_pos c]; exact ⟨_, rfl⟩
      · obtain ⟨l, e1, e2, e3⟩ := l3 m (by omega)
        obtain ⟨a, ea⟩ := c_T71 m h
        obtain ⟨b, eb⟩ := c_T96 e1 e3
        rw [if_neg c, ea, Option.bind_some, eb, Option.bind_some, q_w32_id (z := (m : Int) + 1) (by omega) (by omega), ← m_s1]
        exact ih (m + 1) f _ (by omega) (by omega) (by omega)
theorem c_T99f {h : q_F} {x : Int} (L : c_Ld h) (hx : x ≤ 20) : ∃ v, fn99 x h = some v := c_T99 L hx 16 0 q_fu 0 (by have := L.2.1; omega) (by have := q_fu_ge; omega) (by omega)
theorem c_T102 {h : q_F} (L : c_Ld h) : ∃ v, fn102 h = some v := by
  have := L.1
  have := L.2.1
  obtain ⟨v, e⟩ := c_T99f (x := h 125 9 - 1) L (by omega)
  exact ⟨v, by rw [fn102, q_w32_id (by omega) (by omega), e, Option.bind_some]⟩
-- calls
theorem c_E_i {k : Nat} {v : Int} {h : q_F} {S : m_St} {Q : Nat → Prop} (hI : c_I h S) (hk : Q k) : c_E (some (k, v, h)) h S Q := ⟨k, v, h, rfl, hk, hI, c_F_r⟩
theorem c_E_t {f : Option (Nat × Int × q_F)} {h h1 : q_F} {S : m_St} {Q : Nat → Prop} (F : c_F h h1) (g : c_E f h1 S Q) : c_E f h S Q := by
  obtain ⟨k, v, h', a, b, c, d⟩ := g
  exact ⟨k, v, h', a, b, c, c_F_t F d⟩
/-- a question of an axis -/
theorem c_axisQ {a : Int} {h : q_F} {S : m_St} {Q : Nat → Prop} {K : Nat × Int × q_F → Option (Nat × Int × q_F)} (hF : 0 ≤ a → a ≤ 2 → c_E (K (0, 0, h)) h S Q) (h3 : c_E (K (3, 0, h)) h S Q) : c_E ((fn162 a h).bind K) h S Q := by
  rw [c_axis, Option.bind_some]
  by_cases ca : 0 ≤ a ∧ a ≤ 2
  · rw [if_pos ca]; exact hF ca.1 ca.2
  · rw [if_neg ca]; exact h3
theorem c_moveQ {m : Int} {h : q_F} {S : m_St} {Q : Nat → Prop} {K : Nat × Int × q_F → Option (Nat × Int × q_F)} (hI : c_I h S) (hF : 0 ≤ m → m < S.w 4 → c_E (K (0, 0, h)) h S Q) (h3 : c_E (K (3, 0, h)) h S Q) : c_E ((fn164 m h).bind K) h S Q := by
  rw [c_move m hI, Option.bind_some]
  by_cases ca : 0 ≤ m ∧ m < S.w 4
  · rw [if_pos ca]; exact hF ca.1 ca.2
  · rw [if_neg ca]; exact h3
theorem c_homedQ {a : Int} {h : q_F} {S : m_St} {Q : Nat → Prop} {K : Nat × Int × q_F → Option (Nat × Int × q_F)} (hF : c_E (K (0, 0, h)) h S Q) (h4 : c_E (K (4, 0, h)) h S Q) : c_E ((fn163 a h).bind K) h S Q := by
  unfold fn163
  split
  · rw [Option.bind_some]; exact h4
  · rw [Option.bind_some]; exact hF
theorem c_planQ {h : q_F} {S : m_St} {Q : Nat → Prop} {K : Int × q_F → Option (Nat × Int × q_F)} (hI : c_I h S) (hm : m_I S) (hF : ∀ g, c_I g S → c_Plan g S.w → c_Ld g → c_E (K (0, g)) g S Q) : c_E ((fn195 h).bind K) h S Q := by
  obtain ⟨h', g1, g2, g3, g4⟩ := c_planned hI hm
  rw [g1, Option.bind_some]
  exact c_E_t (c_F_fp g3) (hF h' g4 g2 (c_Ld_P (m_R0_ok hm.1.1) g2))
theorem c_account {a v : Int} {h : q_F} {S : m_St} (hI : c_I h S) : c_E (fn155 a v h) h S (fun k => k = 1 ∨ k = 2 ∨ k = 3) := by
  unfold fn155 fn155_14
  refine c_axisQ (fun a0 a1 => ?_) (c_E_i hI (Or.inr (Or.inr rfl)))
  dsimp only
  rw [if_pos rfl]
  have key : ∃ x, fn44 (q_axn 6 a + 1) v h = some x := by unfold fn44; (repeat' split) <;> exact ⟨_, rfl⟩
  obtain ⟨x, e⟩ := key
  rw [e, Option.bind_some]
  (repeat' split) <;> first | exact c_E_i hI (Or.inl rfl) | exact c_E_i hI (Or.inr (Or.inl rfl))
theorem c_axisC {a v : Int} {h : q_F} {S : m_St} (hI : c_I h S) : c_E (fn157 a v h) h S (fun k => k = 1 ∨ k = 2 ∨ k = 3) := by
  unfold fn157 fn157_15
  refine c_axisQ (fun a0 a1 => ?_) (c_E_i hI (Or.inr (Or.inr rfl)))
  dsimp only
  rw [if_pos rfl]
  have k1 : ∃ x, fn50 (q_axn 6 a) v h = some x := by unfold fn50; (repeat' split) <;> exact ⟨_, rfl⟩
  have k2 : ∃ x, fn45 (q_axn 6 a) v h = some x := by unfold fn45; (repeat' split) <;> exact ⟨_, rfl⟩
  obtain ⟨x, e⟩ := k1
  obtain ⟨y, e2⟩ := k2
  rw [e, Option.bind_some, e2, Option.bind_some]
  (repeat' split) <;> first | exact c_E_i hI (Or.inl rfl) | exact c_E_i hI (Or.inr (Or.inl rfl))
theorem c_coordinate {a : Int} {h : q_F} {S : m_St} (hI : c_I h S) : c_E (fn170 a h) h S (fun k => k = 1 ∨ k = 3 ∨ k = 4) := by
  unfold fn170
  refine c_axisQ (fun a0 a1 => ?_) (c_E_i hI (Or.inr (Or.inl rfl)))
  dsimp only
  rw [if_pos rfl]
  exact c_homedQ (c_E_i hI (Or.inl rfl)) (c_E_i hI (Or.inr (Or.inr rfl)))
theorem c_errorC {a : Int} {h : q_F} {S : m_St} (hI : c_I h S) : c_E (fn176 a h) h S (fun k => k = 1 ∨ k = 3 ∨ k = 4) := by
  unfold fn176 fn47
  refine c_axisQ (fun a0 a1 => ?_) (c_E_i hI (Or.inr (Or.inl rfl)))
  dsimp only
  rw [if_pos rfl]
  exact c_homedQ (c_E_i hI (Or.inl rfl)) (c_E_i hI (Or.inr (Or.inr rfl)))
theorem c_count {v : Int} {h : q_F} {S : m_St} (hI : c_I h S) (hm : m_I S) : c_E (fn171 v h) h S (fun k => k = 1 ∨ k = 2) := by
  unfold fn171
  rw [c_homed hI hm, Option.bind_some]
  (repeat' split) <;> first | exact c_E_i hI (Or.inl rfl) | exact c_E_i hI (Or.inr rfl)
theorem c_readsC {a : Int} {h : q_F} {S : m_St} (hI : c_I h S) : c_E (fn204 a h) h S (fun k => k = 1 ∨ k = 3) := by
  unfold fn204
  have k1 : ∃ x, fn54 (q_axn 6 a) h = some x := by unfold fn54; (repeat' split) <;> exact ⟨_, rfl⟩
  obtain ⟨x, e⟩ := k1
  rw [c_axis, Option.bind_some]
  by_cases ca : 0 ≤ a ∧ a ≤ 2
  · rw [if_pos ca]; dsimp only; rw [if_pos rfl, e, Option.bind_some]; exact c_E_i hI (Or.inl rfl)
  · rw [if_neg ca]; dsimp only; rw [if_neg (by decide), if_pos rfl]; exact c_E_i hI (Or.inr rfl)
theorem c_slackC {a v : Int} {h : q_F} {S : m_St} (hI : c_I h S) : c_E (fn214 a v h) h S (fun k => k = 1 ∨ k = 3) := by
  unfold fn214
  have k1 : ∃ x, fn57 (q_axn 6 a) v h = some x := by unfold fn57; (repeat' split) <;> exact ⟨_, rfl⟩
  obtain ⟨x, e⟩ := k1
  rw [c_axis, Option.bind_some]
  by_cases ca : 0 ≤ a ∧ a ≤ 2
  · rw [if_pos ca]; dsimp only; rw [if_pos rfl, e, Option.bind_some]; exact c_E_i hI (Or.inl rfl)
  · rw [if_neg ca]; dsimp only; rw [if_neg (by decide), if_pos rfl]; exact c_E_i hI (Or.inr rfl)
