/-! Part 91: the class's questions end, gone on with. -/
theorem c_T148 (o : Nat) (m a : Int) (h : q_F) : ∃ v, fn148 o m a h = some v := by
  unfold fn148
  obtain ⟨v, e⟩ := c_ent_t (o + 1) 48 (q_w32 (q_w32 (m * 3) + a)) h
  exact ⟨v, by rw [e, Option.bind_some]⟩
theorem c_target {m a : Int} {h : q_F} {S : m_St} (hI : c_I h S) : c_E (fn222 m a h) h S (fun k => k = 1 ∨ k = 3) := by
  unfold fn222
  refine c_moveQ hI (fun m0 m1 => ?_) (c_E_i hI (Or.inr rfl))
  dsimp only
  rw [if_pos rfl]
  refine c_axisQ (fun a0 a1 => ?_) (c_E_i hI (Or.inr rfl))
  dsimp only
  obtain ⟨v, e⟩ := c_T148 13 m a h
  rw [if_pos rfl, e, Option.bind_some]
  exact c_E_i hI (Or.inl rfl)
theorem c_W_i {v : Int} {h : q_F} {S : m_St} (hI : c_I h S) : c_W (some (v, h)) h S := ⟨v, h, rfl, hI, c_F_r⟩
theorem c_W_t {f : Option (Int × q_F)} {h h1 : q_F} {S : m_St} (F : c_F h h1) (g : c_W f h1 S) : c_W f h S := by
  obtain ⟨v, h', a, b, c⟩ := g
  exact ⟨v, h', a, b, c_F_t F c⟩
theorem c_planW {h : q_F} {S : m_St} {K : Int × q_F → Option (Int × q_F)} (hI : c_I h S) (hm : m_I S) (hF : ∀ g, c_I g S → c_Plan g S.w → c_Ld g → c_W (K (0, g)) g S) : c_W ((fn195 h).bind K) h S := by
  obtain ⟨h', g1, g2, g3, g4⟩ := c_planned hI hm
  rw [g1, Option.bind_some]
  exact c_W_t (c_F_fp g3) (hF h' g4 g2 (c_Ld_P (m_R0_ok hm.1.1) g2))
theorem c_pairs {h : q_F} {S : m_St} (hI : c_I h S) (hm : m_I S) : c_W (fn218 h) h S := by
  unfold fn218
  refine c_planW hI hm fun g I P L => ?_
  dsimp only
  rw [c_sc (m_R0_ok hm.1.1).2.1 P, Option.bind_some]; exact c_W_i I
theorem c_queueTime {h : q_F} {S : m_St} (hI : c_I h S) (hm : m_I S) : c_W (fn200 h) h S := by
  unfold fn200
  refine c_planW hI hm fun g I P L => ?_
  obtain ⟨v, e⟩ := c_T102 L
  dsimp only
  rw [e, Option.bind_some]; exact c_W_i I
theorem c_boundl {a u : Int} {h : q_F} {S : m_St} {Q : Nat → Prop} (hI : c_I h S) (hm : m_I S) (h1 : Q 1) : ∀ (d m f : Nat) (b : Int), m + d = (S.w 4).toNat → d < f → c_E (fn160_25 f a u b m h) h S Q := by
  have r := (m_R0_ok hm.1.1).2.1
  have e : h 13 1 = S.w 4 := hI.1.2.2.1
  intro d
  induction d with
  | zero =>
    intro m f b hd hf
    obtain ⟨f, rfl⟩ : ∃ f', f = f' + 1 := ⟨f - 1, by omega⟩
    rw [fn160_25, e, if_pos (by omega)]; exact c_E_i hI h1
  | succ d ih =>
    intro m f b hd hf
    obtain ⟨f, rfl⟩ : ∃ f', f = f' + 1 := ⟨f - 1, by omega⟩
    obtain ⟨v, ev⟩ := c_T148 13 m a h
    rw [fn160_25, e, if_neg (by omega), ev, Option.bind_some, fn160_74, fn160_74, q_w32_id (z := (m : Int) + 1) (by omega) (by omega), ← m_s1]
    split <;> exact ih (m + 1) f _ (by omega) (by omega)
theorem c_bound {a u : Int} {h : q_F} {S : m_St} (hI : c_I h S) (hm : m_I S) : c_E (fn160 a u h) h S (fun k => k = 1 ∨ k = 3 ∨ k = 4) := by
  have r := (m_R0_ok hm.1.1).2.1
  unfold fn160
  refine c_axisQ (fun a0 a1 => ?_) (c_E_i hI (Or.inr (Or.inl rfl)))
  dsimp only
  rw [if_pos rfl]
  refine c_homedQ ?_ (c_E_i hI (Or.inr (Or.inr rfl)))
  dsimp only
  rw [if_pos rfl]
  exact c_boundl hI hm (Or.inl rfl) (S.w 4).toNat 0 q_fu _ (by omega) (by have := q_fu_ge; omega)
theorem c_nearl {x y z u : Int} {h : q_F} {n : Int} (e : h 13 1 = n) (hn : 0 ≤ n ∧ n ≤ 16) : ∀ (d m f : Nat) (b l : Int), m + d = n.toNat → d < f → ∃ v, fn151_9 13 h f x y z u b l m = some v := by
  intro d
  induction d with
  | zero =>
    intro m f b l hd hf
    obtain ⟨f, rfl⟩ : ∃ f', f = f' + 1 := ⟨f - 1, by omega⟩
    exact ⟨b, by rw [fn151_9, e, if_pos (by omega)]⟩
  | succ d ih =>
    intro m f b l hd hf
    obtain ⟨f, rfl⟩ : ∃ f', f = f' + 1 := ⟨f - 1, by omega⟩
    obtain ⟨v0, e0⟩ := c_T148 13 m 0 h
    obtain ⟨v1, e1⟩ := c_T148 13 m 1 h
    obtain ⟨v2, e2⟩ := c_T148 13 m 2 h
    rw [fn151_9, e, if_neg (by omega), e0, Option.bind_some, fn147, Option.bind_some, e1, Option.bind_some, fn147, Option.bind_some, e2, Option.bind_some, fn147, Option.bind_some, fn151_88, fn151_96, fn151_96, q_w32_id (z := (m : Int) + 1) (by omega) (by omega), ← m_s1]
    (repeat' split) <;> exact ih (m + 1) f _ _ (by omega) (by omega)
theorem c_near {x y z u : Int} {h : q_F} {S : m_St} (hI : c_I h S) (hm : m_I S) : ∃ v, fn151 13 x y z u h = some v := by
  have r := (m_R0_ok hm.1.1).2.1
  exact c_nearl hI.1.2.2.1 r (S.w 4).toNat 0 q_fu (-1) 0 (by omega) (by have := q_fu_ge; omega)
theorem c_nearest {x y z : Int} {h : q_F} {S : m_St} (hI : c_I h S) (hm : m_I S) : ∃ v, fn192 x y z h = some v := by
  obtain ⟨v, e⟩ := c_near (x := x) (y := y) (z := z) (u := 0) hI hm
  exact ⟨v, by rw [fn192, e, Option.bind_some]⟩
theorem c_nordl {i : Int} {h : q_F} {S : m_St} (hI : c_I h S) (hm : m_I S) : ∀ (d : Nat) (k : Int) (f : Nat) (u b : Int), 0 ≤ k → k + d = i → i ≤ 16 → d < f → c_E (fn193_76 f i u b k h) h S (fun k => k = 1 ∨ k = 5) := by
  intro d
  induction d with
  | zero =>
    intro k f u b hk hd h16 hf
    obtain ⟨f, rfl⟩ : ∃ f', f = f' + 1 := ⟨f - 1, by omega⟩
    rw [fn193_76, if_pos (by omega)]; exact c_E_i hI (Or.inl rfl)
  | succ d ih =>
    intro k f u b hk hd h16 hf
    obtain ⟨f, rfl⟩ : ∃ f', f = f' + 1 := ⟨f - 1, by omega⟩
    obtain ⟨v0, e0⟩ := c_T148 13 b 0 h
    obtain ⟨v1, e1⟩ := c_T148 13 b 1 h
    obtain ⟨v2, e2⟩ := c_T148 13 b 2 h
    obtain ⟨v, e⟩ := c_near (x := v0) (y := v1) (z := v2) (u := q_ior u (q_ishl 1 b)) hI hm
    rw [fn193_76, if_neg (by omega), e0, Option.bind_some, e1, Option.bind_some, e2, Option.bind_some, e, Option.bind_some, q_w32_id (by omega) (by omega)]
    exact ih (k + 1) f _ _ (by omega) (by omega) h16 (by omega)
theorem c_nord {i : Int} {h : q_F} {S : m_St} (hI : c_I h S) (hm : m_I S) : c_E (fn193 i h) h S (fun k => k = 1 ∨ k = 5) := by
  have r := (m_R0_ok hm.1.1).2.1
  have e4 : h 13 1 = S.w 4 := hI.1.2.2.1
  unfold fn193 fn193_18
  split
  · exact c_E_i hI (Or.inr rfl)
  · split
    · obtain ⟨v, e⟩ := c_near (x := h 7 12) (y := h 9 12) (z := h 11 12) (u := 0) hI hm
      rw [e, Option.bind_some]
      exact c_nordl hI hm i.toNat 0 q_fu _ _ (by omega) (by omega) (by omega) (by have := q_fu_ge; omega)
    · exact c_E_i hI (Or.inr rfl)
theorem c_Ld_m {h : q_F} {S : m_St} {m : Int} (hm : m_I S) (P : c_Plan h S.w) (h0 : 0 ≤ m) (h1 : m < S.w 4) : ∃ l, fn79 m h = some l ∧ 0 ≤ l ∧ l ≤ 2000 := by
  have ok := m_R0_ok hm.1.1
  have r := ok.2.1
  obtain ⟨n, rfl⟩ : ∃ k : Nat, m = k := ⟨m.toNat, by omega⟩
  have l := m_l_r ok (m := n) (by omega)
  exact ⟨_, c_lead (P.1.2 n (by omega)).1 (by omega), l.1, l.2.1⟩
theorem c_moveC {m v : Int} {h : q_F} {S : m_St} (hI : c_I h S) (hm : m_I S) : c_E (fn191 m v h) h S (fun k => k = 1 ∨ k = 2 ∨ k = 3) := by
  unfold fn191 fn191_15
  refine c_moveQ hI (fun m0 m1 => ?_) (c_E_i hI (Or.inr (Or.inr rfl)))
  dsimp only
  rw [if_pos rfl]
  split
  · exact c_E_i hI (Or.inr (Or.inl rfl))
  · split
    · refine c_planQ hI hm fun g I P L => ?_
      obtain ⟨l, e, l0, l1⟩ := c_Ld_m hm P m0 m1
      have key : ∃ x, fn88 m v g = some x := by
        obtain ⟨a1, b1⟩ := c_ent_t 130 16 m g
        obtain ⟨a2, b2⟩ := c_ent_t 131 16 m g
        obtain ⟨a3, b3⟩ := c_ent_t 134 17 m g
        obtain ⟨a4, b4⟩ := c_ent_t 134 17 (q_w32 (m + 1)) g
        obtain ⟨a5, b5⟩ := c_T76 e l1 2000 0 q_fu 0 (by omega) (by omega) (by omega) (by have := q_fu_ge; omega)
        obtain ⟨a6, b6⟩ := c_T77 (x := a5) e l1 2000 0 q_fu 0 (by omega) (by omega) (by omega) (by have := q_fu_ge; omega)
        obtain ⟨a7, b7⟩ := c_ent_t 132 16 m g
        unfold fn88
        rw [e, Option.bind_some, b1, Option.bind_some, b2, Option.bind_some, fn92, b3, Option.bind_some, Option.bind_some, fn94, b4, Option.bind_some, Option.bind_some, fn77, fn76, b5, Option.bind_some, Option.bind_some, b6, Option.bind_some, b7, Option.bind_some]
        (repeat' split) <;> exact ⟨_, rfl⟩
      obtain ⟨x, ex⟩ := key
      dsimp only
      rw [ex, Option.bind_some]; exact c_E_i I (Or.inl rfl)
    · exact c_E_i hI (Or.inr (Or.inl rfl))
theorem c_speed {m k : Int} {h : q_F} {S : m_St} (hI : c_I h S) (hm : m_I S) : c_E (fn216 m k h) h S (fun k => k = 1 ∨ k = 3 ∨ k = 5) := by
  unfold fn216 fn216_23
  refine c_moveQ hI (fun m0 m1 => ?_) (c_E_i hI (Or.inr (Or.inl rfl)))
  dsimp only
  rw [if_pos rfl]
  refine c_planQ hI hm fun g I P L => ?_
  obtain ⟨l, e⟩ := c_T79 m g
  obtain ⟨x, e2⟩ := c_T93 m k g
  dsimp only
  rw [e, Option.bind_some, e2, Option.bind_some]
  (repeat' split) <;> first | exact c_E_i I (Or.inl rfl) | exact c_E_i I (Or.inr (Or.inr rfl))
theorem c_steps169 (l k : Int) (h : q_F) : fn169 l k h = some (if 0 ≤ k ∧ k ≤ l then 0 else 2, 0, h) := by
  unfold fn169 fn169_9
  by_cases c1 : k < 0
  · rw [if_pos c1, if_neg (by omega)]
  · rw [if_neg c1]
    by_cases c2 : k ≤ l
    · rw [if_pos c2, if_pos (by omega)]
    · rw [if_neg c2, if_neg (by omega)]
theorem c_behind {m a k : Int} {h : q_F} {S : m_St} (hI : c_I h S) (hm : m_I S) : c_E (fn217 m a k h) h S (fun k => k = 1 ∨ k = 2 ∨ k = 3) := by
  unfold fn217
  refine c_moveQ hI (fun m0 m1 => ?_) (c_E_i hI (Or.inr (Or.inr rfl)))
  dsimp only
  rw [if_pos rfl]
  refine c_axisQ (fun a0 a1 => ?_) (c_E_i hI (Or.inr (Or.inr rfl)))
  dsimp only
  rw [if_pos rfl]
  refine c_planQ hI hm fun g I P L => ?_
  obtain ⟨l, e⟩ := c_T79 m g
  obtain ⟨x, e2⟩ := c_T83 m a k g
  dsimp only
  rw [e, Option.bind_some, c_steps169, Option.bind_some]
  by_cases c : 0 ≤ k ∧ k ≤ l
  · rw [if_pos c]; dsimp only; rw [if_pos rfl, e2, Option.bind_some]; exact c_E_i I (Or.inl rfl)
  · rw [if_neg c]; dsimp only; rw [if_neg (by decide), if_pos rfl]; exact c_E_i I (Or.inr (Or.inl rfl))
theorem c_pointAt {m a k : Int} {h : q_F} {S : m_St} (hI : c_I h S) (hm : m_I S) : c_E (fn196 m a k h) h S (fun k => k = 1 ∨ k = 2 ∨ k = 3) := by
  unfold fn196
  refine c_moveQ hI (fun m0 m1 => ?_) (c_E_i hI (Or.inr (Or.inr rfl)))
  dsimp only
  rw [if_pos rfl]
  refine c_axisQ (fun a0 a1 => ?_) (c_E_i hI (Or.inr (Or.inr rfl)))
  dsimp only
  rw [if_pos rfl]
  refine c_planQ hI hm fun g I P L => ?_
  obtain ⟨l, e⟩ := c_T79 m g
  obtain ⟨x, e2⟩ := c_T87 m a k g
  dsimp only
  rw [e, Option.bind_some, c_steps169, Option.bind_some]
  by_cases c : 0 ≤ k ∧ k ≤ l
  · rw [if_pos c]; dsimp only; rw [if_pos rfl, e2, Option.bind_some]; exact c_E_i I (Or.inl rfl)
  · rw [if_neg c]; dsimp only; rw [if_neg (by decide), if_pos rfl]; exact c_E_i I (Or.inr (Or.inl rfl))
theorem c_ramp {m v : Int} {h : q_F} {S : m_St} (hI : c_I h S) (hm : m_I S) : c_E (fn202 m v h) h S (fun k => k = 1 ∨ k = 3) := by
  unfold fn202
  refine c_moveQ hI (fun m0 m1 => ?_) (c_E_i hI (Or.inr rfl))
  dsimp only
  rw [if_pos rfl]
  refine c_planQ hI hm fun g I P L => ?_
  obtain ⟨l, e, l0, l1⟩ := c_Ld_m hm P m0 m1
  obtain ⟨x, e2⟩ := c_T70 (x := v) e l1 2000 1 q_fu 0 (by omega) (by omega) (by omega) (by have := q_fu_ge; omega)
  dsimp only
  rw [fn70, e2, Option.bind_some]; exact c_E_i I (Or.inl rfl)
theorem c_T81 {m : Int} {h : q_F} : ∀ (d a f : Nat) (x y : Int), a + d = 3 → d < f → ∃ v, fn81_8 6 h f m x y a = some v := by
  intro d
  induction d with
  | zero =>
    intro a f x y ha hf
    obtain ⟨f, rfl⟩ : ∃ f', f = f' + 1 := ⟨f - 1, by omega⟩
    exact ⟨x, by rw [fn81_8, if_pos (by omega)]⟩
  | succ d ih =>
    intro a f x y ha hf
    obtain ⟨f, rfl⟩ : ∃ f', f = f' + 1 := ⟨f - 1, by omega⟩
    obtain ⟨v, e⟩ := c_T73 m a h
    obtain ⟨l, e2⟩ := c_T79 m h
    obtain ⟨q, e3⟩ := c_T201 (q_w32 (h (q_axn 6 (a : Int)) 2 * l)) (qx_ab v) h
    rw [fn81_8, if_neg (by omega), e, Option.bind_some, e2, Option.bind_some, e3, Option.bind_some, fn81_64, fn81_71, fn81_71, q_w32_id (z := (a : Int) + 1) (by omega) (by omega), ← m_s1]
    (repeat' split) <;> exact ih (a + 1) f _ _ (by omega) (by omega)
theorem c_slowest {m : Int} {h : q_F} {S : m_St} (hI : c_I h S) (hm : m_I S) : c_E (fn215 m h) h S (fun k => k = 1 ∨ k = 3) := by
  unfold fn215
  refine c_moveQ hI (fun m0 m1 => ?_) (c_E_i hI (Or.inr rfl))
  dsimp only
  rw [if_pos rfl]
  refine c_planQ hI hm fun g I P L => ?_
  obtain ⟨x, e2⟩ := c_T81 (m := m) (h := g) 3 0 q_fu (-1) 0 (by omega) (by have := q_fu_ge; omega)
  have e3 : fn81 6 m g = some x := e2
  dsimp only
  rw [e3, Option.bind_some]; exact c_E_i I (Or.inl rfl)
theorem c_travell {a : Int} {h : q_F} {S : m_St} (hI : c_I h S) (L : c_Ld h) : ∀ (d m f : Nat) (u : Int), m + d = (h 125 9).toNat → d < f → c_E (fn224_15 f a u m h) h S (fun k => k = 1 ∨ k = 3) := by
  obtain ⟨l1, l2, -⟩ := L
  intro d
  induction d with
  | zero =>
    intro m f u hd hf
    obtain ⟨f, rfl⟩ : ∃ f', f = f' + 1 := ⟨f - 1, by omega⟩
    rw [fn224_15, if_pos (by omega)]; exact c_E_i hI (Or.inl rfl)
  | succ d ih =>
    intro m f u hd hf
    obtain ⟨f, rfl⟩ : ∃ f', f = f' + 1 := ⟨f - 1, by omega⟩
    obtain ⟨v, e⟩ := c_T73 m a h
    rw [fn224_15, if_neg (by omega), e, Option.bind_some, q_w32_id (z := (m : Int) + 1) (by omega) (by omega), ← m_s1]
    exact ih (m + 1) f _ (by omega) (by omega)
theorem c_travel {a : Int} {h : q_F} {S : m_St} (hI : c_I h S) (hm : m_I S) : c_E (fn224 a h) h S (fun k => k = 1 ∨ k = 3) := by
  unfold fn224
  refine c_axisQ (fun a0 a1 => ?_) (c_E_i hI (Or.inr rfl))
  dsimp only
  rw [if_pos rfl]
  refine c_planQ hI hm fun g I P L => ?_
  exact c_travell I L (g 125 9).toNat 0 q_fu 0 (by omega) (by have := q_fu_ge; have := L.2.1; omega)
theorem c_turnsl {a : Int} {h : q_F} {S : m_St} (hI : c_I h S) (L : c_Ld h) : ∀ (d m f : Nat) (u : Int), m + d = (h 125 9).toNat → d < f → c_E (fn227_15 f a u m h) h S (fun k => k = 1 ∨ k = 3) := by
  obtain ⟨l1, l2, -⟩ := L
  intro d
  induction d with
  | zero =>
    intro m f u hd hf
    obtain ⟨f, rfl⟩ : ∃ f', f = f' + 1 := ⟨f - 1, by omega⟩
    rw [fn227_15, if_pos (by omega)]; exact c_E_i hI (Or.inl rfl)
  | succ d ih =>
    intro m f u hd hf
    obtain ⟨f, rfl⟩ : ∃ f', f = f' + 1 := ⟨f - 1, by omega⟩
    obtain ⟨v, e⟩ := c_T100 m a h
    rw [fn227_15, if_neg (by omega), e, Option.bind_some, fn227_40, fn227_40, q_w32_id (z := (m : Int) + 1) (by omega) (by omega), ← m_s1]
    split <;> exact ih (m + 1) f _ (by omega) (by omega)
theorem c_turnsA {a : Int} {h : q_F} {S : m_St} (hI : c_I h S) (hm : m_I S) : c_E (fn227 a h) h S (fun k => k = 1 ∨ k = 3) := by
  unfold fn227
  refine c_axisQ (fun a0 a1 => ?_) (c_E_i hI (Or.inr rfl))
  dsimp only
  rw [if_pos rfl]
  refine c_planQ hI hm fun g I P L => ?_
  exact c_turnsl I L (g 125 9).toNat 0 q_fu 0 (by omega) (by have := q_fu_ge; have := L.2.1; omega)
theorem c_lasts {m : Int} {h : q_F} {S : m_St} (hI : c_I h S) (hm : m_I S) : c_E (fn185 m h) h S (fun k => k = 1 ∨ k = 3) := by
  have r := (m_R0_ok hm.1.1).2.1
  unfold fn185
  refine c_moveQ hI (fun m0 m1 => ?_) (c_E_i hI (Or.inr rfl))
  dsimp only
  rw [if_pos rfl]
  refine c_planQ hI hm fun g I P L => ?_
  obtain ⟨x, e2⟩ := c_T99f (x := m) L (by omega)
  dsimp only
  rw [e2, Option.bind_some]; exact c_E_i I (Or.inl rfl)
theorem c_T129 (a : Int) (h : q_F) (o : Nat) : ∃ v, fn129 6 o a h = some v := by
  unfold fn129
  split
  · exact ⟨_, rfl⟩
  · obtain ⟨v, e⟩ := c_T148 o (q_w32 (h o 1 - 1)) a h
    rw [e, Option.bind_some]; exact ⟨_, rfl⟩
theorem c_wherel {a : Int} {h : q_F} {S : m_St} {Q : Nat → Prop} (hI : c_I h S) (L : c_Ld h) (h1 : Q 1) : ∀ (d m f : Nat) (t : Int), m + d = (h 125 9).toNat → d < f → c_E (fn230_37 f a t m h) h S Q := by
  obtain ⟨l1, l2, l3⟩ := L
  intro d
  induction d with
  | zero =>
    intro m f t hd hf
    obtain ⟨f, rfl⟩ : ∃ f', f = f' + 1 := ⟨f - 1, by omega⟩
    obtain ⟨v, e⟩ := c_T129 a h 13
    rw [fn230_37, if_pos (by omega), e, Option.bind_some]; exact c_E_i hI h1
  | succ d ih =>
    intro m f t hd hf
    obtain ⟨f, rfl⟩ : ∃ f', f = f' + 1 := ⟨f - 1, by omega⟩
    obtain ⟨l, e1, e2, e3⟩ := l3 m (by omega)
    obtain ⟨x, ex⟩ := c_T71 m h
    obtain ⟨y, ey⟩ := c_T96 e1 e3
    rw [fn230_37, if_neg (by omega), ex, Option.bind_some, ey, Option.bind_some]
    split
    · rw [q_w32_id (z := (m : Int) + 1) (by omega) (by omega), ← m_s1]
      exact ih (m + 1) f _ (by omega) (by omega)
    · obtain ⟨z, ez⟩ := c_T97 e1 e3 2000 0 q_fu (q_w64 (t - x)) (by omega) (by omega) (by omega) (by have := q_fu_ge; omega)
      obtain ⟨w, ew⟩ := c_T87 m a z h
      rw [Option.bind_some, fn97, ez, Option.bind_some, ew, Option.bind_some]; exact c_E_i hI h1
theorem c_where {a t : Int} {h : q_F} {S : m_St} (hI : c_I h S) (hm : m_I S) : c_E (fn230 a t h) h S (fun k => k = 1 ∨ k = 2 ∨ k = 3 ∨ k = 4) := by
  unfold fn230
  refine c_axisQ (fun a0 a1 => ?_) (c_E_i hI (Or.inr (Or.inr (Or.inl rfl))))
  dsimp only
  rw [if_pos rfl]
  split
  · refine c_homedQ ?_ (c_E_i hI (Or.inr (Or.inr (Or.inr rfl))))
    dsimp only
    rw [if_pos rfl]
    refine c_planQ hI hm fun g I P L => ?_
    exact c_wherel I L (Or.inl rfl) (g 125 9).toNat 0 q_fu t (by omega) (by have := q_fu_ge; have := L.2.1; omega)
  · exact c_E_i hI (Or.inr (Or.inl rfl))
