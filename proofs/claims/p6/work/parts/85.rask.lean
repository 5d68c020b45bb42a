/-! Part 85: the reference's questions end. -/
theorem r_W_i {v : Int} {h : q_F} {S : m_St} (hI : r_I h S) : r_W (some (v, h)) h S := ⟨v, h, rfl, hI, r_F_r⟩
theorem r_W_T {v : Int} {h g : q_F} {S : m_St} (hI : r_I h S) (T : r_T h g) : r_W (some (v, g)) h S := ⟨v, g, rfl, r_I_T hI T, r_T_F T⟩
theorem r_axisQ {a : Int} {h : q_F} {S : m_St} {K : Int × q_F → Option (Int × q_F)} (hI : r_I h S) (hF : 0 ≤ a → a ≤ 2 → ∀ g, r_I g S → r_T h g → r_W (K (0, g)) g S) (hG : ∀ g, r_I g S → r_W (K (1, g)) g S) : r_W ((fn298 a h).bind K) h S := by
  obtain ⟨h0, t1, t2⟩ := r_noAxis a h
  rw [t1, Option.bind_some]
  by_cases ca : 0 ≤ a ∧ a ≤ 2
  · rw [if_pos ca]
    exact r_W_t (r_T_F t2) (hF ca.1 ca.2 h0 (r_I_T hI t2) t2)
  · rw [if_neg ca]
    exact r_W_t (r_T_F t2) (hG h0 (r_I_T hI t2))
theorem r_moveQ {m : Int} {h : q_F} {S : m_St} {K : Int × q_F → Option (Int × q_F)} (hI : r_I h S) (hm : m_I S) (hF : 0 ≤ m → m < S.w 4 → ∀ g, r_I g S → r_T h g → r_W (K (0, g)) g S) (hG : ∀ g, r_I g S → r_W (K (1, g)) g S) : r_W ((fn299 m h).bind K) h S := by
  obtain ⟨h0, t1, t2⟩ := r_noMove (h := h) m (by rw [hI.1]; exact (m_R0_ok hm.1.1).2.1)
  rw [hI.1] at t1
  rw [t1, Option.bind_some]
  by_cases ca : 0 ≤ m ∧ m < S.w 4
  · rw [if_pos ca]
    exact r_W_t (r_T_F t2) (hF ca.1 ca.2 h0 (r_I_T hI t2) t2)
  · rw [if_neg ca]
    exact r_W_t (r_T_F t2) (hG h0 (r_I_T hI t2))
theorem r_failQ {c code : Int} {h : q_F} {S : m_St} {K : Int × q_F → Option (Int × q_F)} (hI : r_I h S) (hF : ∀ g, r_I g S → r_T h g → r_W (K (c, g)) g S) : r_W ((fn258 c code h).bind K) h S := by
  obtain ⟨h0, t1, t2⟩ := r_fails c code h
  rw [t1, Option.bind_some]
  exact r_W_t (r_T_F t2) (hF h0 (r_I_T hI t2) t2)
theorem r_homedQ {a code : Int} {h : q_F} {S : m_St} {K : Int × q_F → Option (Int × q_F)} (ha : 0 ≤ a ∧ a ≤ 2) (hI : r_I h S) (hF : ∀ g, r_I g S → r_T h g → r_W (K (0, g)) g S) (hG : ∀ g, r_I g S → r_W (K (1, g)) g S) : r_W ((fn302 a code h).bind K) h S := by
  unfold fn302 fn302_20
  rw [q_w32_id (z := 41 + a) (by omega) (by omega), if_pos (by omega)]
  split
  · obtain ⟨h0, t1, t2⟩ := r_fails 1 code h
    rw [t1, Option.bind_some, Option.bind_some]
    exact r_W_t (r_T_F t2) (hG h0 (r_I_T hI t2))
  · obtain ⟨h0, t1, t2⟩ := r_fails 0 code h
    rw [t1, Option.bind_some, Option.bind_some]
    exact r_W_t (r_T_F t2) (hF h0 (r_I_T hI t2) t2)
theorem r_ofE {z : Int} {h : q_F} (h0 : 0 ≤ z ∧ z < 122) : ∃ v, fn303 z h = some v := ⟨_, fn303_i h0.1 h0.2⟩
theorem r_rngE (v a b : Int) (h : q_F) : ∃ z, fn267 v a b h = some z := ⟨_, r_rng v a b h⟩
theorem r_g7 {h : q_F} {S : m_St} (hI : r_I h S) {f : Option (Int × q_F)} (g : r_I (q_ud h 139 7 0) S → r_W f (q_ud h 139 7 0) S) : r_W f h S :=
  have hT : r_T h (q_ud h 139 7 0) := r_T_u r_T_r
  r_W_t (r_T_F hT) (g (r_I_T hI hT))
theorem r_account {a v : Int} {h : q_F} {S : m_St} (hI : r_I h S) : r_W (fn234 a v h) h S := by
  unfold fn234
  refine r_axisQ hI (fun a0 a1 g I _ => ?_) (fun g I => r_W_i I)
  dsimp only
  rw [if_pos rfl]
  rw [r_rng, Option.bind_some, fn234_26, fn234_26]
  by_cases c : 0 ≤ v ∧ v ≤ 5
  · rw [if_pos c, if_neg (by decide)]
    refine r_failQ I fun g I _ => ?_
    dsimp only
    rw [if_pos rfl]
    rw [q_w32_id (z := 3 * v) (by omega) (by omega), q_w32_id (z := 56 + 3 * v) (by omega) (by omega), q_w32_id (z := 56 + 3 * v + a) (by omega) (by omega), fn303_i (by omega) (by omega), Option.bind_some]
    exact r_W_i I
  · rw [if_neg c, if_pos rfl]
    exact r_failQ I fun g I _ => r_W_i I
theorem r_axisC {a v : Int} {h : q_F} {S : m_St} (hI : r_I h S) : r_W (fn239 a v h) h S := by
  unfold fn239
  refine r_axisQ hI (fun a0 a1 g I _ => ?_) (fun g I => r_W_i I)
  dsimp only
  rw [if_pos rfl]
  rw [r_rng, Option.bind_some, fn239_26, fn239_26]
  by_cases c : 0 ≤ v ∧ v ≤ 12
  · rw [if_pos c, if_neg (by decide)]
    refine r_failQ I fun g I _ => ?_
    dsimp only
    rw [if_pos rfl]
    rw [q_w32_id (z := 3 * v) (by omega) (by omega), q_w32_id (z := 8 + 3 * v) (by omega) (by omega), q_w32_id (z := 8 + 3 * v + a) (by omega) (by omega), fn303_i (by omega) (by omega), Option.bind_some]
    exact r_W_i I
  · rw [if_neg c, if_pos rfl]
    exact r_failQ I fun g I _ => r_W_i I
theorem r_count {v : Int} {h : q_F} {S : m_St} (hI : r_I h S) (hm : m_I S) : r_W (fn250 v h) h S := by
  unfold fn250
  rw [m_let, r_rng, Option.bind_some, fn250_23, fn250_23]
  refine r_g7 hI fun I => ?_
  by_cases c : 0 ≤ v ∧ v ≤ 6
  · rw [if_pos c, if_neg (by decide)]
    refine r_failQ I fun g I _ => ?_
    dsimp only
    rw [if_pos rfl]
    split
    · rw [r_homed I hm, Option.bind_some]; exact r_W_i I
    · split
      · exact r_W_i I
      · rw [fn303_i (by omega) (by omega), Option.bind_some]; exact r_W_i I
  · rw [if_neg c, if_pos rfl]
    exact r_failQ I fun g I _ => r_W_i I
theorem r_coordinate {a : Int} {h : q_F} {S : m_St} (hI : r_I h S) : r_W (fn248 a h) h S := by
  unfold fn248 fn248_17
  refine r_axisQ hI (fun a0 a1 g I _ => ?_) (fun g I => r_W_i I)
  dsimp only
  rw [if_pos rfl]
  refine r_homedQ ⟨a0, a1⟩ I (fun g I _ => ?_) (fun g I => r_W_i I)
  dsimp only
  rw [if_pos rfl]
  rw [q_w32_id (z := 47 + a) (by omega) (by omega), fn303_i (by omega) (by omega), Option.bind_some]
  exact r_W_i I
theorem r_errOf {a : Int} (h : q_F) (ha : 0 ≤ a ∧ a ≤ 2) : ∃ v, fn256 a h = some v := by
  unfold fn256
  rw [q_w32_id (z := 26 + a) (by omega) (by omega), q_w32_id (z := 50 + a) (by omega) (by omega), q_w32_id (z := 47 + a) (by omega) (by omega), fn303_i (by omega) (by omega), Option.bind_some, fn303_i (by omega) (by omega), Option.bind_some, fn303_i (by omega) (by omega), Option.bind_some]
  exact ⟨_, rfl⟩
theorem r_errorC {a : Int} {h : q_F} {S : m_St} (hI : r_I h S) : r_W (fn254 a h) h S := by
  unfold fn254 fn254_17
  refine r_axisQ hI (fun a0 a1 g I _ => ?_) (fun g I => r_W_i I)
  dsimp only
  rw [if_pos rfl]
  refine r_homedQ ⟨a0, a1⟩ I (fun g I _ => ?_) (fun g I => r_W_i I)
  dsimp only
  rw [if_pos rfl]
  obtain ⟨v, e⟩ := r_errOf g ⟨a0, a1⟩
  rw [e, Option.bind_some]
  exact r_W_i I
theorem r_readsC {a : Int} {h : q_F} {S : m_St} (hI : r_I h S) : r_W (fn319 a h) h S := by
  unfold fn319
  refine r_axisQ hI (fun a0 a1 g I _ => ?_) (fun g I => r_W_i I)
  dsimp only
  rw [if_pos rfl]
  obtain ⟨n, hn, rfl⟩ := m_ax_n ⟨a0, a1⟩
  rw [fn318_m hn, Option.bind_some]
  split <;> exact r_W_i I
theorem r_time {h : q_F} {S : m_St} (hI : r_I h S) : r_W (fn352 h) h S := by
  unfold fn352; rw [m_let]; exact r_g7 hI fun I => r_W_i I
theorem r_errCode {h : q_F} {S : m_St} (hI : r_I h S) : r_W (fn255 h) h S := by
  unfold fn255; rw [m_let]; exact r_g7 hI fun I => r_W_i I
theorem r_errOff {h : q_F} {S : m_St} (hI : r_I h S) : r_W (fn257 h) h S := by
  unfold fn257; rw [m_let]; exact r_g7 hI fun I => r_W_i I
theorem r_outByte {v : Int} {h : q_F} {S : m_St} (hI : r_I h S) (ho : 0 ≤ h 139 27 ∧ h 139 27 ≤ 300) : r_W (fn304 v h) h S := by
  unfold fn304
  rw [m_let, q_ud_n (show ¬ (139 = 139 ∧ 27 = 7) by omega), q_w32_id (by omega) (by omega), r_rng, Option.bind_some]
  refine r_g7 hI fun I => ?_
  by_cases c : 0 ≤ v ∧ v ≤ h 139 27 - 1
  · rw [if_pos c, if_neg (by decide), if_pos (by omega)]; exact r_W_i I
  · rw [if_neg c, if_pos rfl]; exact r_W_i I
theorem r_pairs {h : q_F} {S : m_St} (hI : r_I h S) (hm : m_I S) : r_W (fn344 h) h S := by
  unfold fn344
  rw [m_let]
  refine r_g7 hI fun I => ?_
  obtain ⟨h', a, b, c⟩ := r_sc I hm
  rw [a, Option.bind_some]
  exact ⟨_, h', rfl, b, c⟩
theorem r_slack {a v : Int} {h : q_F} {S : m_St} (hI : r_I h S) : r_W (fn334 a v h) h S := by
  unfold fn334
  refine r_axisQ hI (fun a0 a1 g I _ => ?_) (fun g I => r_W_i I)
  dsimp only
  rw [if_pos rfl]
  have key : ∀ p q, r_W (fn334_36 a v p q g) g S := fun p q => by
    unfold fn334_36
    split
    · exact r_W_i I
    · split
      · rw [q_w32_id (z := 29 + a) (by omega) (by omega), fn303_i (by omega) (by omega), Option.bind_some]; exact r_W_i I
      · rw [q_w32_id (z := 11 + a) (by omega) (by omega), fn303_i (by omega) (by omega), Option.bind_some, q_w32_id (z := 29 + a) (by omega) (by omega), fn303_i (by omega) (by omega), Option.bind_some]; exact r_W_i I
  rw [q_w32_id (z := 26 + a) (by omega) (by omega), if_pos (by omega)]
  split
  · exact key _ _
  · rw [q_w32_id (z := 8 + a) (by omega) (by omega), if_pos (by omega)]; exact key _ _
theorem r_noPart {m a : Int} {h : q_F} {S : m_St} {K : Int × q_F → Option (Int × q_F)} (hI : r_I h S) (hm : m_I S) (hF : 0 ≤ m → m < S.w 4 → 0 ≤ a → a ≤ 2 → ∀ g, r_I g S → r_W (K (0, g)) g S) (hG : ∀ g, r_I g S → r_W (K (1, g)) g S) : r_W ((fn300 m a h).bind K) h S := by
  unfold fn300 fn300_16
  obtain ⟨h0, t1, t2⟩ := r_noMove (h := h) m (by rw [hI.1]; exact (m_R0_ok hm.1.1).2.1)
  rw [hI.1] at t1
  rw [t1, Option.bind_some]
  by_cases cm : 0 ≤ m ∧ m < S.w 4
  · rw [if_pos cm]; dsimp only; rw [if_pos rfl]
    obtain ⟨h1, u1, u2⟩ := r_noAxis a h0
    have T := r_T_t t2 u2
    rw [u1, Option.bind_some]
    by_cases ca : 0 ≤ a ∧ a ≤ 2
    · rw [if_pos ca]; dsimp only; rw [if_pos rfl, Option.bind_some]
      exact r_W_t (r_T_F T) (hF cm.1 cm.2 ca.1 ca.2 h1 (r_I_T hI T))
    · rw [if_neg ca]; dsimp only; rw [if_neg (by decide), Option.bind_some]
      exact r_W_t (r_T_F T) (hG h1 (r_I_T hI T))
  · rw [if_neg cm]; dsimp only; rw [if_neg (by decide), Option.bind_some]
    exact r_W_t (r_T_F t2) (hG h0 (r_I_T hI t2))
theorem r_target {m a : Int} {h : q_F} {S : m_St} (hI : r_I h S) (hm : m_I S) : r_W (fn350 m a h) h S := by
  have r := (m_R0_ok hm.1.1).2.1
  unfold fn350
  refine r_noPart hI hm (fun m0 m1 a0 a1 g I => ?_) (fun g I => r_W_i I)
  dsimp only
  rw [if_pos rfl]
  rw [q_w32_id (z := 3 * m) (by omega) (by omega), q_w32_id (z := 74 + 3 * m) (by omega) (by omega), q_w32_id (z := 74 + 3 * m + a) (by omega) (by omega), fn303_i (by omega) (by omega), Option.bind_some]
  exact r_W_i I
theorem r_boundl {a u : Int} {h : q_F} {S : m_St} (ha : 0 ≤ a ∧ a ≤ 2) (hI : r_I h S) (hm : m_I S) : ∀ (d m f : Nat) (b : Int), m + d = (S.w 4).toNat + 1 → d < f → ∃ v, fn244_31 f a u b m h = some (v, h) := by
  have r := (m_R0_ok hm.1.1).2.1
  intro d
  induction d with
  | zero =>
    intro m f b hd hf
    obtain ⟨f, rfl⟩ : ∃ f', f = f' + 1 := ⟨f - 1, by omega⟩
    exact ⟨b, by rw [fn244_31, hI.1, if_pos (by omega)]⟩
  | succ d ih =>
    intro m f b hd hf
    obtain ⟨f, rfl⟩ : ∃ f', f = f' + 1 := ⟨f - 1, by omega⟩
    rw [fn244_31, hI.1, if_neg (by omega), fn240_i hI.1 (m_R0_ok hm.1.1) (by omega) (by omega) ha.1 (by omega), Option.bind_some, Option.bind_some, fn244_73, fn244_73, q_w32_id (z := (m : Int) + 1) (by omega) (by omega), ← m_s1]
    split
    · exact ih (m + 1) f _ (by omega) (by omega)
    · exact ih (m + 1) f _ (by omega) (by omega)
theorem r_bound {a u : Int} {h : q_F} {S : m_St} (hI : r_I h S) (hm : m_I S) : r_W (fn244 a u h) h S := by
  unfold fn244
  refine r_axisQ hI (fun a0 a1 g I _ => ?_) (fun g I => r_W_i I)
  dsimp only
  rw [if_pos rfl]
  refine r_homedQ ⟨a0, a1⟩ I (fun g I _ => ?_) (fun g I => r_W_i I)
  dsimp only
  rw [if_pos rfl]
  have r := (m_R0_ok hm.1.1).2.1
  rw [q_w32_id (z := 47 + a) (by omega) (by omega), fn303_i (by omega) (by omega), Option.bind_some]
  obtain ⟨v, e⟩ := r_boundl (u := u) ⟨a0, a1⟩ I hm (S.w 4).toNat 1 q_fu (q_w32 (g 140 (47 + a).toNat)) (by omega) (by have := q_fu_ge; omega)
  exact ⟨v, g, e, I, r_F_r⟩
theorem r_farE (a b c : Int) (h : q_F) : ∃ v, fn260 a b c h = some v := by
  unfold fn260 fn260_18; (repeat' split) <;> exact ⟨_, rfl⟩
theorem r_nearl {x y z u : Int} {h : q_F} {S : m_St} (hI : r_I h S) (hm : m_I S) : ∀ (d m f : Nat) (b e : Int), m + d = (S.w 4).toNat → d < f → ((b = -1 ∨ (0 ≤ b ∧ b < S.w 4))) → ∃ v, fn296_9 h f x y z u b e m = some v ∧ (v = -1 ∨ (0 ≤ v ∧ v < S.w 4)) := by
  have r := (m_R0_ok hm.1.1).2.1
  intro d
  induction d with
  | zero =>
    intro m f b e hd hf hb
    obtain ⟨f, rfl⟩ : ∃ f', f = f' + 1 := ⟨f - 1, by omega⟩
    exact ⟨b, by rw [fn296_9, hI.1, if_pos (by omega)], hb⟩
  | succ d ih =>
    intro m f b e hd hf hb
    obtain ⟨f, rfl⟩ : ∃ f', f = f' + 1 := ⟨f - 1, by omega⟩
    rw [fn296_9, hI.1, if_neg (by omega), q_w32_id (z := 3 * (m : Int)) (by omega) (by omega), q_w32_id (z := 74 + 3 * (m : Int)) (by omega) (by omega), q_w32_id (z := 74 + 3 * (m : Int) + 1) (by omega) (by omega), q_w32_id (z := 74 + 3 * (m : Int) + 2) (by omega) (by omega), if_pos (show 0 ≤ 74 + 3 * (m : Int) ∧ 74 + 3 * (m : Int) < 122 by omega)]
    obtain ⟨v0, e0⟩ := r_farE 0 x (S.w (74 + 3 * (m : Int)).toNat) h
    rw [e0, Option.bind_some, if_pos (show 0 ≤ 74 + 3 * (m : Int) + 1 ∧ 74 + 3 * (m : Int) + 1 < 122 by omega)]
    obtain ⟨v1, e1⟩ := r_farE v0 y (S.w (74 + 3 * (m : Int) + 1).toNat) h
    rw [e1, Option.bind_some, if_pos (show 0 ≤ 74 + 3 * (m : Int) + 2 ∧ 74 + 3 * (m : Int) + 2 < 122 by omega)]
    obtain ⟨v2, e2⟩ := r_farE v1 z (S.w (74 + 3 * (m : Int) + 2).toNat) h
    rw [e2, Option.bind_some, fn296_103, fn296_111, fn296_111, q_w32_id (z := (m : Int) + 1) (by omega) (by omega), ← m_s1]
    have k1 := ih (m + 1) f b e (by omega) (by omega) hb
    have k2 := ih (m + 1) f m v2 (by omega) (by omega) (Or.inr (by omega))
    (repeat' split) <;> first | exact k1 | exact k2
theorem r_near {x y z u : Int} {h : q_F} {S : m_St} (hI : r_I h S) (hm : m_I S) : ∃ v, fn296 x y z u h = some v ∧ (v = -1 ∨ (0 ≤ v ∧ v < S.w 4)) := by
  have r := (m_R0_ok hm.1.1).2.1
  exact r_nearl hI hm (S.w 4).toNat 0 q_fu (-1) 0 (by omega) (by have := q_fu_ge; omega) (Or.inl rfl)
theorem r_nearest {x y z : Int} {h : q_F} {S : m_St} (hI : r_I h S) (hm : m_I S) : r_W (fn295 x y z h) h S := by
  unfold fn295
  rw [m_let]
  refine r_g7 hI fun I => ?_
  obtain ⟨v, e, -⟩ := r_near (x := x) (y := y) (z := z) (u := 0) I hm
  rw [e, Option.bind_some]; exact r_W_i I
