section -- [85.rask]
/-! Part 85: the reference's questions end. -/
theorem r_W_i {v : Int} {h : q_F} {S : m_St} (hI : r_I h S) : r_W (some (v, h)) h S := ⟨v, h, rfl, hI, r_F_r⟩
theorem r_W_T {v : Int} {h g : q_F} {S : m_St} (hI : r_I h S) (T : r_T h g) : r_W (some (v, g)) h S := ⟨v, g, rfl, r_I_T hI T, r_T_F T⟩
theorem r_axisQ {a : Int} {h : q_F} {S : m_St} {K : Int × q_F → Option (Int × q_F)} (hI : r_I h S) (hF : 0 ≤ a → a ≤ 2 → ∀ g, r_I g S → r_T h g → r_W (K (0, g)) g S) (hG : ∀ g, r_I g S → r_W (K (1, g)) g S) : r_W ((fn298 a h).bind K) h S := by
  obtain ⟨h0, t1, t2⟩ := r_noAxis a h
  rw [t1, Option.bind_some]
  by_cases ca : 0 ≤ a ∧ a ≤ 2
  · rw [if_pos ca]
    exact r_W_t (r_T_F t2) (hF ca.1 ca.2 h0 (r_I_T hI t2) t2)
  · rw [if_neg ca]
    exact r_W_t (r_T_F t2) (hG h0 (r_I_T hI t2))
theorem r_moveQ {m : Int} {h : q_F} {S : m_St} {K : Int × q_F → Option (Int × q_F)} (hI : r_I h S) (hm : m_I S) (hF : 0 ≤ m → m < S.w 4 → ∀ g, r_I g S → r_T h g → r_W (K (0, g)) g S) (hG : ∀ g, r_I g S → r_W (K (1, g)) g S) : r_W ((fn299 m h).bind K) h S := by
  obtain ⟨h0, t1, t2⟩ := r_noMove (h := h) m (by rw [hI.1]; exact (m_R0_ok hm.1.1).2.1)
  rw [hI.1] at t1
  rw [t1, Option.bind_some]
  by_cases ca : 0 ≤ m ∧ m < S.w 4
  · rw [if_pos ca]
    exact r_W_t (r_T_F t2) (hF ca.1 ca.2 h0 (r_I_T hI t2) t2)
  · rw [if_neg ca]
    exact r_W_t (r_T_F t2) (hG h0 (r_I_T hI t2))
theorem r_failQ {c code : Int} {h : q_F} {S : m_St} {K : Int × q_F → Option (Int × q_F)} (hI : r_I h S) (hF : ∀ g, r_I g S → r_T h g → r_W (K (c, g)) g S) : r_W ((fn258 c code h).bind K) h S := by
  obtain ⟨h0, t1, t2⟩ := r_fails c code h
  rw [t1, Option.bind_some]
  exact r_W_t (r_T_F t2) (hF h0 (r_I_T hI t2) t2)
theorem r_homedQ {a code : Int} {h : q_F} {S : m_St} {K : Int × q_F → Option (Int × q_F)} (ha : 0 ≤ a ∧ a ≤ 2) (hI : r_I h S) (hF : ∀ g, r_I g S → r_T h g → r_W (K (0, g)) g S) (hG : ∀ g, r_I g S → r_W (K (1, g)) g S) : r_W ((fn302 a code h).bind K) h S := by
  unfold fn302 fn302_20
  rw [q_w32_id (z := 41 + a) (by omega) (by omega), if_pos (by omega)]
  split
  · obtain ⟨h0, t1, t2⟩ := r_fails 1 code h
    rw [t1, Option.bind_some, Option.bind_some]
    exact r_W_t (r_T_F t2) (hG h0 (r_I_T hI t2))
  · obtain ⟨h0, t1, t2⟩ := r_fails 0 code h
    rw [t1, Option.bind_some, Option.bind_some]
    exact r_W_t (r_T_F t2) (hF h0 (r_I_T hI t2) t2)
theorem r_ofE {z : Int} {h : q_F} (h0 : 0 ≤ z ∧ z < 122) : ∃ v, fn303 z h = some v := ⟨_, fn303_i h0.1 h0.2⟩
theorem r_rngE (v a b : Int) (h : q_F) : ∃ z, fn267 v a b h = some z := ⟨_, r_rng v a b h⟩
theorem r_g7 {h : q_F} {S : m_St} (hI : r_I h S) {f : Option (Int × q_F)} (g : r_I (q_ud h 139 7 0) S → r_W f (q_ud h 139 7 0) S) : r_W f h S :=
  have hT : r_T h (q_ud h 139 7 0) := r_T_u r_T_r
  r_W_t (r_T_F hT) (g (r_I_T hI hT))
theorem r_account {a v : Int} {h : q_F} {S : m_St} (hI : r_I h S) : r_W (fn234 a v h) h S := by
  unfold fn234
  refine r_axisQ hI (fun a0 a1 g I _ => ?_) (fun g I => r_W_i I)
  dsimp only
  rw [if_pos rfl]
  rw [r_rng, Option.bind_some, fn234_26, fn234_26]
  by_cases c : 0 ≤ v ∧ v ≤ 5
  · rw [if_pos c, if_neg (by decide)]
    refine r_failQ I fun g I _ => ?_
    dsimp only
    rw [if_pos rfl]
    rw [q_w32_id (z := 3 * v) (by omega) (by omega), q_w32_id (z := 56 + 3 * v) (by omega) (by omega), q_w32_id (z := 56 + 3 * v + a) (by omega) (by omega), fn303_i (by omega) (by omega), Option.bind_some]
    exact r_W_i I
  · rw [if_neg c, if_pos rfl]
    exact r_failQ I fun g I _ => r_W_i I
theorem r_axisC {a v : Int} {h : q_F} {S : m_St} (hI : r_I h S) : r_W (fn239 a v h) h S := by
  unfold fn239
  refine r_axisQ hI (fun a0 a1 g I _ => ?_) (fun g I => r_W_i I)
  dsimp only
  rw [if_pos rfl]
  rw [r_rng, Option.bind_some, fn239_26, fn239_26]
  by_cases c : 0 ≤ v ∧ v ≤ 12
  · rw [if_pos c, if_neg (by decide)]
    refine r_failQ I fun g I _ => ?_
    dsimp only
    rw [if_pos rfl]
    rw [q_w32_id (z := 3 * v) (by omega) (by omega), q_w32_id (z := 8 + 3 * v) (by omega) (by omega), q_w32_id (z := 8 + 3 * v + a) (by omega) (by omega), fn303_i (by omega) (by omega), Option.bind_some]
    exact r_W_i I
  · rw [if_neg c, if_pos rfl]
    exact r_failQ I fun g I _ => r_W_i I
theorem r_count {v : Int} {h : q_F} {S : m_St} (hI : r_I h S) (hm : m_I S) : r_W (fn250 v h) h S := by
  unfold fn250
  rw [m_let, r_rng, Option.bind_some, fn250_23, fn250_23]
  refine r_g7 hI fun I => ?_
  by_cases c : 0 ≤ v ∧ v ≤ 6
  · rw [if_pos c, if_neg (by decide)]
    refine r_failQ I fun g I _ => ?_
    dsimp only
    rw [if_pos rfl]
    split
    · rw [r_homed I hm, Option.bind_some]; exact r_W_i I
    · split
      · exact r_W_i I
      · rw [fn303_i (by omega) (by omega), Option.bind_some]; exact r_W_i I
  · rw [if_neg c, if_pos rfl]
    exact r_failQ I fun g I _ => r_W_i I
theorem r_coordinate {a : Int} {h : q_F} {S : m_St} (hI : r_I h S) : r_W (fn248 a h) h S := by
  unfold fn248 fn248_17
  refine r_axisQ hI (fun a0 a1 g I _ => ?_) (fun g I => r_W_i I)
  dsimp only
  rw [if_pos rfl]
  refine r_homedQ ⟨a0, a1⟩ I (fun g I _ => ?_) (fun g I => r_W_i I)
  dsimp only
  rw [if_pos rfl]
  rw [q_w32_id (z := 47 + a) (by omega) (by omega), fn303_i (by omega) (by omega), Option.bind_some]
  exact r_W_i I
theorem r_errOf {a : Int} (h : q_F) (ha : 0 ≤ a ∧ a ≤ 2) : ∃ v, fn256 a h = some v := by
  unfold fn256
  rw [q_w32_id (z := 26 + a) (by omega) (by omega), q_w32_id (z := 50 + a) (by omega) (by omega), q_w32_id (z := 47 + a) (by omega) (by omega), fn303_i (by omega) (by omega), Option.bind_some, fn303_i (by omega) (by omega), Option.bind_some, fn303_i (by omega) (by omega), Option.bind_some]
  exact ⟨_, rfl⟩
theorem r_errorC {a : Int} {h : q_F} {S : m_St} (hI : r_I h S) : r_W (fn254 a h) h S := by
  unfold fn254 fn254_17
  refine r_axisQ hI (fun a0 a1 g I _ => ?_) (fun g I => r_W_i I)
  dsimp only
  rw [if_pos rfl]
  refine r_homedQ ⟨a0, a1⟩ I (fun g I _ => ?_) (fun g I => r_W_i I)
  dsimp only
  rw [if_pos rfl]
  obtain ⟨v, e⟩ := r_errOf g ⟨a0, a1⟩
  rw [e, Option.bind_some]
  exact r_W_i I
theorem r_readsC {a : Int} {h : q_F} {S : m_St} (hI : r_I h S) : r_W (fn319 a h) h S := by
  unfold fn319
  refine r_axisQ hI (fun a0 a1 g I _ => ?_) (fun g I => r_W_i I)
  dsimp only
  rw [if_pos rfl]
  obtain ⟨n, hn, rfl⟩ := m_ax_n ⟨a0, a1⟩
  rw [fn318_m hn, Option.bind_some]
  split <;> exact r_W_i I
theorem r_time {h : q_F} {S : m_St} (hI : r_I h S) : r_W (fn352 h) h S := by
  unfold fn352; rw [m_let]; exact r_g7 hI fun I => r_W_i I
theorem r_errCode {h : q_F} {S : m_St} (hI : r_I h S) : r_W (fn255 h) h S := by
  unfold fn255; rw [m_let]; exact r_g7 hI fun I => r_W_i I
theorem r_errOff {h : q_F} {S : m_St} (hI : r_I h S) : r_W (fn257 h) h S := by
  unfold fn257; rw [m_let]; exact r_g7 hI fun I => r_W_i I
theorem r_outByte {v : Int} {h : q_F} {S : m_St} (hI : r_I h S) (ho : 0 ≤ h 139 27 ∧ h 139 27 ≤ 300) : r_W (fn304 v h) h S := by
  unfold fn304
  rw [m_let, q_ud_n (show ¬ (139 = 139 ∧ 27 = 7) by omega), q_w32_id (by omega) (by omega), r_rng, Option.bind_some]
  refine r_g7 hI fun I => ?_
  by_cases c : 0 ≤ v ∧ v ≤ h 139 27 - 1
  · rw [if_pos c, if_neg (by decide), if_pos (by omega)]; exact r_W_i I
  · rw [if_neg c, if_pos rfl]; exact r_W_i I
theorem r_pairs {h : q_F} {S : m_St} (hI : r_I h S) (hm : m_I S) : r_W (fn344 h) h S := by
  unfold fn344
  rw [m_let]
  refine r_g7 hI fun I => ?_
  obtain ⟨h', a, b, c⟩ := r_sc I hm
  rw [a, Option.bind_some]
  exact ⟨_, h', rfl, b, c⟩
theorem r_slack {a v : Int} {h : q_F} {S : m_St} (hI : r_I h S) : r_W (fn334 a v h) h S := by
  unfold fn334
  refine r_axisQ hI (fun a0 a1 g I _ => ?_) (fun g I => r_W_i I)
  dsimp only
  rw [if_pos rfl]
  have key : ∀ p q, r_W (fn334_36 a v p q g) g S := fun p q => by
    unfold fn334_36
    split
    · exact r_W_i I
    · split
      · rw [q_w32_id (z := 29 + a) (by omega) (by omega), fn303_i (by omega) (by omega), Option.bind_some]; exact r_W_i I
      · rw [q_w32_id (z := 11 + a) (by omega) (by omega), fn303_i (by omega) (by omega), Option.bind_some, q_w32_id (z := 29 + a) (by omega) (by omega), fn303_i (by omega) (by omega), Option.bind_some]; exact r_W_i I
  rw [q_w32_id (z := 26 + a) (by omega) (by omega), if_pos (by omega)]
  split
  · exact key _ _
  · rw [q_w32_id (z := 8 + a) (by omega) (by omega), if_pos (by omega)]; exact key _ _
theorem r_noPart {m a : Int} {h : q_F} {S : m_St} {K : Int × q_F → Option (Int × q_F)} (hI : r_I h S) (hm : m_I S) (hF : 0 ≤ m → m < S.w 4 → 0 ≤ a → a ≤ 2 → ∀ g, r_I g S → r_W (K (0, g)) g S) (hG : ∀ g, r_I g S → r_W (K (1, g)) g S) : r_W ((fn300 m a h).bind K) h S := by
  unfold fn300 fn300_16
  obtain ⟨h0, t1, t2⟩ := r_noMove (h := h) m (by rw [hI.1]; exact (m_R0_ok hm.1.1).2.1)
  rw [hI.1] at t1
  rw [t1, Option.bind_some]
  by_cases cm : 0 ≤ m ∧ m < S.w 4
  · rw [if_pos cm]; dsimp only; rw [if_pos rfl]
    obtain ⟨h1, u1, u2⟩ := r_noAxis a h0
    have T := r_T_t t2 u2
    rw [u1, Option.bind_some]
    by_cases ca : 0 ≤ a ∧ a ≤ 2
    · rw [if_pos ca]; dsimp only; rw [if_pos rfl, Option.bind_some]
      exact r_W_t (r_T_F T) (hF cm.1 cm.2 ca.1 ca.2 h1 (r_I_T hI T))
    · rw [if_neg ca]; dsimp only; rw [if_neg (by decide), Option.bind_some]
      exact r_W_t (r_T_F T) (hG h1 (r_I_T hI T))
  · rw [if_neg cm]; dsimp only; rw [if_neg (by decide), Option.bind_some]
    exact r_W_t (r_T_F t2) (hG h0 (r_I_T hI t2))
theorem r_target {m a : Int} {h : q_F} {S : m_St} (hI : r_I h S) (hm : m_I S) : r_W (fn350 m a h) h S := by
  have r := (m_R0_ok hm.1.1).2.1
  unfold fn350
  refine r_noPart hI hm (fun m0 m1 a0 a1 g I => ?_) (fun g I => r_W_i I)
  dsimp only
  rw [if_pos rfl]
  rw [q_w32_id (z := 3 * m) (by omega) (by omega), q_w32_id (z := 74 + 3 * m) (by omega) (by omega), q_w32_id (z := 74 + 3 * m + a) (by omega) (by omega), fn303_i (by omega) (by omega), Option.bind_some]
  exact r_W_i I
theorem r_boundl {a u : Int} {h : q_F} {S : m_St} (ha : 0 ≤ a ∧ a ≤ 2) (hI : r_I h S) (hm : m_I S) : ∀ (d m f : Nat) (b : Int), m + d = (S.w 4).toNat + 1 → d < f → ∃ v, fn244_31 f a u b m h = some (v, h) := by
  have r := (m_R0_ok hm.1.1).2.1
  intro d
  induction d with
  | zero =>
    intro m f b hd hf
    obtain ⟨f, rfl⟩ : ∃ f', f = f' + 1 := ⟨f - 1, by omega⟩
    exact ⟨b, by rw [fn244_31, hI.1, if_pos (by omega)]⟩
  | succ d ih =>
    intro m f b hd hf
    obtain ⟨f, rfl⟩ : ∃ f', f = f' + 1 := ⟨f - 1, by omega⟩
    rw [fn244_31, hI.1, if_neg (by omega), fn240_i hI.1 (m_R0_ok hm.1.1) (by omega) (by omega) ha.1 (by omega), Option.bind_some, Option.bind_some, fn244_73, fn244_73, q_w32_id (z := (m : Int) + 1) (by omega) (by omega), ← m_s1]
    split
    · exact ih (m + 1) f _ (by omega) (by omega)
    · exact ih (m + 1) f _ (by omega) (by omega)
theorem r_bound {a u : Int} {h : q_F} {S : m_St} (hI : r_I h S) (hm : m_I S) : r_W (fn244 a u h) h S := by
  unfold fn244
  refine r_axisQ hI (fun a0 a1 g I _ => ?_) (fun g I => r_W_i I)
  dsimp only
  rw [if_pos rfl]
  refine r_homedQ ⟨a0, a1⟩ I (fun g I _ => ?_) (fun g I => r_W_i I)
  dsimp only
  rw [if_pos rfl]
  have r := (m_R0_ok hm.1.1).2.1
  rw [q_w32_id (z := 47 + a) (by omega) (by omega), fn303_i (by omega) (by omega), Option.bind_some]
  obtain ⟨v, e⟩ := r_boundl (u := u) ⟨a0, a1⟩ I hm (S.w 4).toNat 1 q_fu (q_w32 (g 140 (47 + a).toNat)) (by omega) (by have := q_fu_ge; omega)
  exact ⟨v, g, e, I, r_F_r⟩
theorem r_farE (a b c : Int) (h : q_F) : ∃ v, fn260 a b c h = some v := by
  unfold fn260 fn260_18; (repeat' split) <;> exact ⟨_, rfl⟩
theorem r_nearl {x y z u : Int} {h : q_F} {S : m_St} (hI : r_I h S) (hm : m_I S) : ∀ (d m f : Nat) (b e : Int), m + d = (S.w 4).toNat → d < f → ((b = -1 ∨ (0 ≤ b ∧ b < S.w 4))) → ∃ v, fn296_9 h f x y z u b e m = some v ∧ (v = -1 ∨ (0 ≤ v ∧ v < S.w 4)) := by
  have r := (m_R0_ok hm.1.1).2.1
  intro d
  induction d with
  | zero =>
    intro m f b e hd hf hb
    obtain ⟨f, rfl⟩ : ∃ f', f = f' + 1 := ⟨f - 1, by omega⟩
    exact ⟨b, by rw [fn296_9, hI.1, if_pos (by omega)], hb⟩
  | succ d ih =>
    intro m f b e hd hf hb
    obtain ⟨f, rfl⟩ : ∃ f', f = f' + 1 := ⟨f - 1, by omega⟩
    rw [fn296_9, hI.1, if_neg (by omega), q_w32_id (z := 3 * (m : Int)) (by omega) (by omega), q_w32_id (z := 74 + 3 * (m : Int)) (by omega) (by omega), q_w32_id (z := 74 + 3 * (m : Int) + 1) (by omega) (by omega), q_w32_id (z := 74 + 3 * (m : Int) + 2) (by omega) (by omega), if_pos (show 0 ≤ 74 + 3 * (m : Int) ∧ 74 + 3 * (m : Int) < 122 by omega)]
    obtain ⟨v0, e0⟩ := r_farE 0 x (S.w (74 + 3 * (m : Int)).toNat) h
    rw [e0, Option.bind_some, if_pos (show 0 ≤ 74 + 3 * (m : Int) + 1 ∧ 74 + 3 * (m : Int) + 1 < 122 by omega)]
    obtain ⟨v1, e1⟩ := r_farE v0 y (S.w (74 + 3 * (m : Int) + 1).toNat) h
    rw [e1, Option.bind_some, if_pos (show 0 ≤ 74 + 3 * (m : Int) + 2 ∧ 74 + 3 * (m : Int) + 2 < 122 by omega)]
    obtain ⟨v2, e2⟩ := r_farE v1 z (S.w (74 + 3 * (m : Int) + 2).toNat) h
    rw [e2, Option.bind_some, fn296_103, fn296_111, fn296_111, q_w32_id (z := (m : Int) + 1) (by omega) (by omega), ← m_s1]
    have k1 := ih (m + 1) f b e (by omega) (by omega) hb
    have k2 := ih (m + 1) f m v2 (by omega) (by omega) (Or.inr (by omega))
    (repeat' split) <;> first | exact k1 | exact k2
theorem r_near {x y z u : Int} {h : q_F} {S : m_St} (hI : r_I h S) (hm : m_I S) : ∃ v, fn296 x y z u h = some v ∧ (v = -1 ∨ (0 ≤ v ∧ v < S.w 4)) := by
  have r := (m_R0_ok hm.1.1).2.1
  exact r_nearl hI hm (S.w 4).toNat 0 q_fu (-1) 0 (by omega) (by have := q_fu_ge; omega) (Or.inl rfl)
theorem r_nearest {x y z : Int} {h : q_F} {S : m_St} (hI : r_I h S) (hm : m_I S) : r_W (fn295 x y z h) h S := by
  unfold fn295
  rw [m_let]
  refine r_g7 hI fun I => ?_
  obtain ⟨v, e, -⟩ := r_near (x := x) (y := y) (z := z) (u := 0) I hm
  rw [e, Option.bind_some]; exact r_W_i I
end -- [85.rask]
section -- [86.rask]
/-! Part 86: the reference's questions of the plan end. -/
theorem m_Plan_k {h h' : q_F} {p : Nat → Int} (hP : m_Plan h p) (e : ∀ k, 145 ≤ k → k ≤ 149 → h' k = h k) : m_Plan h' p :=
  ⟨fun m hm => by rw [e 145 (by omega) (by omega), e 146 (by omega) (by omega), e 147 (by omega) (by omega), e 148 (by omega) (by omega)]; exact hP.1 m hm, fun m hm h0 => by rw [e 149 (by omega) (by omega)]; exact hP.2 m hm h0⟩
theorem r_planQ {h : q_F} {S : m_St} {K : Int × q_F → Option (Int × q_F)} (hI : r_I h S) (hm : m_I S) (hF : ∀ g, r_I g S → m_Plan g S.w → r_W (K (0, g)) g S) : r_W ((fn278 h).bind K) h S := by
  obtain ⟨h', g1, g2, g3, g4, g5⟩ := r_plan hI hm
  rw [g1, Option.bind_some]
  exact r_W_t g5 (hF h' g4 g2)
theorem r_fastl {h : q_F} {S : m_St} {m : Nat} (hm : m_I S) (hP : m_Plan h S.w) (h4 : (m : Int) < S.w 4) : ∀ (d k f : Nat) (u : Int), (k : Int) + d = m_l S.w m → d < f → ∃ v, fn262_4 h f m u k = some v := by
  have ok := m_R0_ok hm.1.1
  have r := ok.2.1
  have l := m_l_r ok (m := m) (by omega)
  have e := (hP.1 m (by omega)).2.1
  intro d
  induction d with
  | zero =>
    intro k f u hd hf
    obtain ⟨f, rfl⟩ : ∃ f', f = f' + 1 := ⟨f - 1, by omega⟩
    exact ⟨u, by rw [fn262_4, if_pos (by omega), Int.toNat_natCast, e, if_pos (by omega)]⟩
  | succ d ih =>
    intro k f u hd hf
    obtain ⟨f, rfl⟩ : ∃ f', f = f' + 1 := ⟨f - 1, by omega⟩
    rw [fn262_4, if_pos (by omega), Int.toNat_natCast, e, if_neg (by omega), fn338_m ok hm.1.2 hP h4 (by omega) (by omega), Option.bind_some, q_w32_id (by omega) (by omega), ← m_s1]
    exact ih (k + 1) f _ (by omega) (by omega)
theorem r_fast {h : q_F} {S : m_St} {m : Nat} (hm : m_I S) (hP : m_Plan h S.w) (h4 : (m : Int) < S.w 4) : ∃ v, fn262 m h = some v := by
  have ok := m_R0_ok hm.1.1
  have r := ok.2.1
  have l := m_l_r ok (m := m) (by omega)
  exact r_fastl hm hP h4 (m_l S.w m).toNat 0 q_fu 0 (by omega) (by have := q_fu_ge; omega)
theorem r_fastsl {h : q_F} {S : m_St} {m : Nat} {x : Int} (hm : m_I S) (hP : m_Plan h S.w) (h4 : (m : Int) < S.w 4) : ∀ (d k f : Nat) (u : Int), (k : Int) + d = m_l S.w m → d < f → ∃ v, fn261_11 h f m x u k = some v := by
  have ok := m_R0_ok hm.1.1
  have r := ok.2.1
  have l := m_l_r ok (m := m) (by omega)
  have e := (hP.1 m (by omega)).2.1
  intro d
  induction d with
  | zero =>
    intro k f u hd hf
    obtain ⟨f, rfl⟩ : ∃ f', f = f' + 1 := ⟨f - 1, by omega⟩
    exact ⟨u, by rw [fn261_11, if_pos (by omega), Int.toNat_natCast, e, if_pos (by omega)]⟩
  | succ d ih =>
    intro k f u hd hf
    obtain ⟨f, rfl⟩ : ∃ f', f = f' + 1 := ⟨f - 1, by omega⟩
    rw [fn261_11, if_pos (by omega), Int.toNat_natCast, e, if_neg (by omega), fn338_m ok hm.1.2 hP h4 (by omega) (by omega), Option.bind_some, fn261_39, fn261_39, q_w32_id (z := (k : Int) + 1) (by omega) (by omega), ← m_s1]
    split <;> exact ih (k + 1) f _ (by omega) (by omega)
theorem r_fasts {h : q_F} {S : m_St} {m : Nat} (hm : m_I S) (hP : m_Plan h S.w) (h4 : (m : Int) < S.w 4) : ∃ v, fn261 m h = some v := by
  have ok := m_R0_ok hm.1.1
  have r := ok.2.1
  have l := m_l_r ok (m := m) (by omega)
  obtain ⟨x, e⟩ := r_fast hm hP h4
  rw [fn261, e, Option.bind_some]
  exact r_fastsl hm hP h4 (m_l S.w m).toNat 0 q_fu 0 (by omega) (by have := q_fu_ge; omega)
theorem r_moveC {m v : Int} {h : q_F} {S : m_St} (hI : r_I h S) (hm : m_I S) : r_W (fn294 m v h) h S := by
  have ok := m_R0_ok hm.1.1
  have r := ok.2.1
  unfold fn294
  refine r_moveQ hI hm (fun m0 m1 g I _ => ?_) (fun g I => r_W_i I)
  dsimp only
  rw [if_pos rfl, r_rng, Option.bind_some, fn294_26, fn294_26]
  by_cases c : 0 ≤ v ∧ v ≤ 7
  · rw [if_pos c, if_neg (by decide)]
    refine r_failQ I fun g I _ => ?_
    dsimp only
    rw [if_pos rfl]
    refine r_planQ I hm fun g I P => ?_
    dsimp only
    obtain ⟨k, rfl⟩ : ∃ k : Nat, m = k := ⟨m.toNat, by omega⟩
    rw [if_pos (show 0 ≤ (k : Int) ∧ (k : Int) < 16 by omega), if_pos (show 0 ≤ (k : Int) ∧ (k : Int) < 16 by omega), if_pos (show 0 ≤ (k : Int) ∧ (k : Int) < 16 by omega), if_pos (show 0 ≤ (k : Int) ∧ (k : Int) < 17 by omega), q_w32_id (z := (k : Int) + 1) (by omega) (by omega), if_pos (show 0 ≤ (k : Int) + 1 ∧ (k : Int) + 1 < 17 by omega)]
    obtain ⟨a, ea⟩ := r_fast hm P m1
    obtain ⟨b, eb⟩ := r_fasts hm P m1
    rw [ea, eb, fn272_m I.1 ok m1 P.1, Option.bind_some, Option.bind_some, Option.bind_some]
    (repeat' split) <;> exact r_W_i I
  · rw [if_neg c, if_pos rfl]
    exact r_failQ I fun g I _ => r_W_i I
theorem r_speed {m k : Int} {h : q_F} {S : m_St} (hI : r_I h S) (hm : m_I S) : r_W (fn337 m k h) h S := by
  have ok := m_R0_ok hm.1.1
  have r := ok.2.1
  unfold fn337
  refine r_moveQ hI hm (fun m0 m1 g I _ => ?_) (fun g I => r_W_i I)
  dsimp only
  rw [if_pos rfl]
  refine r_planQ I hm fun g I P => ?_
  dsimp only
  obtain ⟨n, rfl⟩ : ∃ k : Nat, m = k := ⟨m.toNat, by omega⟩
  have l := m_l_r ok (m := n) (by omega)
  rw [if_pos (show 0 ≤ (n : Int) ∧ (n : Int) < 16 by omega), Int.toNat_natCast, (P.1 n (by omega)).2.1, q_w32_id (z := m_l S.w n - 1) (by omega) (by omega), r_rng, Option.bind_some, fn337_38, fn337_38]
  by_cases c : 0 ≤ k ∧ k ≤ m_l S.w n - 1
  · rw [if_pos c, if_neg (by decide)]
    refine r_failQ I fun g' I' T => ?_
    dsimp only
    rw [if_pos rfl, fn338_m ok hm.1.2 (m_Plan_k P fun k k1 k2 => r_T_row T (by omega)) m1 (by omega) (by omega), Option.bind_some]
    exact r_W_i I'
  · rw [if_neg c, if_pos rfl]
    exact r_failQ I fun g I _ => r_W_i I
theorem r_noSteps {m a k : Int} {h : q_F} {S : m_St} {K : Int × q_F → Option (Int × q_F)} (hI : r_I h S) (hm : m_I S) (hF : ∀ n : Nat, m = n → m < S.w 4 → 0 ≤ a → a ≤ 2 → 0 ≤ k → k ≤ m_l S.w n → ∀ g, r_I g S → m_Plan g S.w → r_W (K (0, g)) g S) (hG : ∀ g, r_I g S → r_W (K (1, g)) g S) : r_W ((fn301 m a k h).bind K) h S := by
  have ok := m_R0_ok hm.1.1
  have r := ok.2.1
  have key : ∃ c g, fn301 m a k h = some (c, g) ∧ r_I g S ∧ r_F h g ∧ (c = 1 ∨ (c = 0 ∧ m_Plan g S.w ∧ ∃ n : Nat, m = n ∧ m < S.w 4 ∧ 0 ≤ a ∧ a ≤ 2 ∧ 0 ≤ k ∧ k ≤ m_l S.w n)) := by
    unfold fn301 fn300 fn300_16
    obtain ⟨h0, t1, t2⟩ := r_noMove (h := h) m (by rw [hI.1]; exact r)
    rw [hI.1] at t1
    rw [t1, Option.bind_some]
    by_cases cm : 0 ≤ m ∧ m < S.w 4
    · rw [if_pos cm]; dsimp only; rw [if_pos rfl]
      obtain ⟨h1, u1, u2⟩ := r_noAxis a h0
      have T := r_T_t t2 u2
      rw [u1, Option.bind_some]
      by_cases ca : 0 ≤ a ∧ a ≤ 2
      · rw [if_pos ca]; dsimp only; rw [if_pos rfl, Option.bind_some]; dsimp only; rw [if_pos rfl]
        obtain ⟨h', g1, g2, g3, g4, g5⟩ := r_plan (r_I_T hI T) hm
        obtain ⟨n, rfl⟩ : ∃ k : Nat, m = k := ⟨m.toNat, by omega⟩
        rw [g1, Option.bind_some]; dsimp only
        rw [if_pos (show 0 ≤ (n : Int) ∧ (n : Int) < 16 by omega), Int.toNat_natCast, (g2.1 n (by omega)).2.1, r_rng, Option.bind_some, fn301_37, fn301_37]
        by_cases c : 0 ≤ k ∧ k ≤ m_l S.w n
        · rw [if_pos c, if_neg (by decide)]
          obtain ⟨h2, v1, v2⟩ := r_fails 0 2 h'
          rw [v1, Option.bind_some]
          exact ⟨0, h2, rfl, r_I_T g4 v2, r_F_t (r_T_F T) (r_F_t g5 (r_T_F v2)), Or.inr ⟨rfl, m_Plan_k g2 fun k k1 k2 => r_T_row v2 (by omega), n, rfl, cm.2, ca.1, ca.2, c.1, c.2⟩⟩
        · rw [if_neg c, if_pos rfl]
          obtain ⟨h2, v1, v2⟩ := r_fails 1 2 h'
          rw [v1, Option.bind_some]
          exact ⟨1, h2, rfl, r_I_T g4 v2, r_F_t (r_T_F T) (r_F_t g5 (r_T_F v2)), Or.inl rfl⟩
      · rw [if_neg ca]; dsimp only; rw [if_neg (by decide), Option.bind_some]; dsimp only; rw [if_neg (by decide)]
        exact ⟨1, h1, rfl, r_I_T hI T, r_T_F T, Or.inl rfl⟩
    · rw [if_neg cm]; dsimp only; rw [if_neg (by decide), Option.bind_some]; dsimp only; rw [if_neg (by decide)]
      exact ⟨1, h0, rfl, r_I_T hI t2, r_T_F t2, Or.inl rfl⟩
  obtain ⟨c, g, e, I, F, h9⟩ := key
  rw [e, Option.bind_some]
  rcases h9 with rfl | ⟨rfl, P, n, e1, e2, e3, e4, e5, e6⟩
  · exact r_W_t F (hG g I)
  · exact r_W_t F (hF n e1 e2 e3 e4 e5 e6 g I P)
theorem r_behind {m a k : Int} {h : q_F} {S : m_St} (hI : r_I h S) (hm : m_I S) : r_W (fn341 m a k h) h S := by
  unfold fn341
  refine r_noSteps hI hm (fun n e m1 a0 a1 k0 k1 g I P => ?_) (fun g I => r_W_i I)
  subst e
  obtain ⟨b, hb, rfl⟩ := m_ax_n ⟨a0, a1⟩
  dsimp only
  rw [if_pos rfl, fn286_m (m_R0_ok hm.1.1) hm.1.2 P.1 m1 hb k0 k1, Option.bind_some]
  exact r_W_i I
theorem r_pointAt {m a k : Int} {h : q_F} {S : m_St} (hI : r_I h S) (hm : m_I S) : r_W (fn306 m a k h) h S := by
  have ok := m_R0_ok hm.1.1
  have r := ok.2.1
  unfold fn306
  refine r_noSteps hI hm (fun n e m1 a0 a1 k0 k1 g I P => ?_) (fun g I => r_W_i I)
  subst e
  obtain ⟨b, hb, rfl⟩ := m_ax_n ⟨a0, a1⟩
  dsimp only
  rw [if_pos rfl, fn240_i I.1 ok (by omega) (by omega) (by omega) (by omega), Option.bind_some, q_w32_id (z := 3 * (n : Int)) (by omega) (by omega), q_w32_id (z := 3 * (n : Int) + b) (by omega) (by omega), if_pos (by omega), fn333_m, Option.bind_some, fn286_m ok hm.1.2 P.1 m1 hb k0 k1, Option.bind_some]
  exact r_W_i I
theorem r_rampl {h : q_F} {S : m_St} {m : Nat} {x : Int} (hm : m_I S) (hP : m_Plan h S.w) (h4 : (m : Int) < S.w 4) : ∀ (d k f : Nat) (u : Int), 1 ≤ k → m_l S.w m ≤ (k : Int) + d → d < f → (k : Int) ≤ 3000 → ∃ v, fn313_19 f m x u k h = some (v, h) := by
  have ok := m_R0_ok hm.1.1
  have r := ok.2.1
  have l := m_l_r ok (m := m) (by omega)
  have e := (hP.1 m (by omega)).2.1
  intro d
  induction d with
  | zero =>
    intro k f u h1 hd hf hk
    obtain ⟨f, rfl⟩ : ∃ f', f = f' + 1 := ⟨f - 1, by omega⟩
    exact ⟨u, by rw [fn313_19, if_pos (by omega), Int.toNat_natCast, e, if_pos (by omega)]⟩
  | succ d ih =>
    intro k f u h1 hd hf hk
    obtain ⟨f, rfl⟩ : ∃ f', f = f' + 1 := ⟨f - 1, by omega⟩
    by_cases c : m_l S.w m ≤ k
    · exact ⟨u, by rw [fn313_19, if_pos (by omega), Int.toNat_natCast, e, if_pos c]⟩
    · have k1 : ∀ u, ∃ v, fn313_19 f m x u ((k + 1 : Nat) : Int) h = some (v, h) := fun u => ih (k + 1) f u (by omega) (by omega) (by omega) (by omega)
      have k2 : ∀ p q, ∃ v, fn313_73 (fn313_19 f) m x k p q h = some (v, h) := fun p q => by rw [fn313_73, q_w32_id (z := (k : Int) + 1) (by omega) (by omega), ← m_s1]; exact k1 _
      have k3 : ∀ z p, ∃ v, fn313_59 (fn313_19 f) m x k z p h = some (v, h) := fun z p => by
        unfold fn313_59 fn313_72 fn313_68
        (repeat' split) <;> exact k2 _ _
      rw [fn313_19, if_pos (by omega), Int.toNat_natCast, e, if_neg c, fn338_m ok hm.1.2 hP h4 (by omega) (by omega), Option.bind_some, q_w32_id (z := (k : Int) - 1) (by omega) (by omega), fn338_m ok hm.1.2 hP h4 (by omega) (by omega), Option.bind_some]
      unfold fn313_68
      (repeat' split) <;> first | exact k3 _ _ | exact k2 _ _
theorem r_ramp {m v : Int} {h : q_F} {S : m_St} (hI : r_I h S) (hm : m_I S) : r_W (fn313 m v h) h S := by
  have ok := m_R0_ok hm.1.1
  have r := ok.2.1
  unfold fn313
  refine r_moveQ hI hm (fun m0 m1 g I _ => ?_) (fun g I => r_W_i I)
  dsimp only
  rw [if_pos rfl]
  refine r_planQ I hm fun g I P => ?_
  obtain ⟨n, rfl⟩ : ∃ k : Nat, m = k := ⟨m.toNat, by omega⟩
  have l := m_l_r ok (m := n) (by omega)
  obtain ⟨x, e⟩ := r_rampl (x := v) hm P m1 (m_l S.w n).toNat 1 q_fu 0 (by omega) (by omega) (by have := q_fu_ge; omega) (by omega)
  exact ⟨x, g, e, I, r_F_r⟩
theorem r_travell {h : q_F} {S : m_St} {a : Nat} (ha : a < 3) (hI : r_I h S) (hm : m_I S) (hP : m_Plan h S.w) : ∀ (d m f : Nat) (u : Int), m + d = (S.w 4).toNat → d < f → ∃ v, fn356_18 f a u m h = some (v, h) := by
  have ok := m_R0_ok hm.1.1
  have r := ok.2.1
  intro d
  induction d with
  | zero =>
    intro m f u hd hf
    obtain ⟨f, rfl⟩ : ∃ f', f = f' + 1 := ⟨f - 1, by omega⟩
    exact ⟨u, by rw [fn356_18, hI.1, if_pos (by omega)]⟩
  | succ d ih =>
    intro m f u hd hf
    obtain ⟨f, rfl⟩ : ∃ f', f = f' + 1 := ⟨f - 1, by omega⟩
    have dd := m_d_r ok (m := m) (by omega) ha
    rw [fn356_18, hI.1, if_neg (by omega), q_w32_id (z := 3 * (m : Int)) (by omega) (by omega), q_w32_id (z := 3 * (m : Int) + a) (by omega) (by omega), if_pos (by omega), show (3 * (m : Int) + a).toNat = 3 * m + a by omega, (hP.1 m (by omega)).1 a ha, fn236_i (by omega) (by omega), Option.bind_some, q_w32_id (z := (m : Int) + 1) (by omega) (by omega), ← m_s1]
    exact ih (m + 1) f _ (by omega) (by omega)
theorem r_travel {a : Int} {h : q_F} {S : m_St} (hI : r_I h S) (hm : m_I S) : r_W (fn356 a h) h S := by
  have r := (m_R0_ok hm.1.1).2.1
  unfold fn356
  refine r_axisQ hI (fun a0 a1 g I _ => ?_) (fun g I => r_W_i I)
  dsimp only
  rw [if_pos rfl]
  refine r_planQ I hm fun g I P => ?_
  obtain ⟨n, hn, rfl⟩ := m_ax_n ⟨a0, a1⟩
  obtain ⟨x, e⟩ := r_travell hn I hm P (S.w 4).toNat 0 q_fu 0 (by omega) (by have := q_fu_ge; omega)
  exact ⟨x, g, e, I, r_F_r⟩
theorem r_turnsl {h : q_F} {S : m_St} {a : Nat} (ha : a < 3) (hI : r_I h S) (hm : m_I S) (hP : m_Plan h S.w) : ∀ (d m f : Nat) (b u : Int), m + d = (S.w 4).toNat → d < f → ∃ v, fn359_28 f a b u m h = some (v, h) := by
  have ok := m_R0_ok hm.1.1
  have r := ok.2.1
  intro d
  induction d with
  | zero =>
    intro m f b u hd hf
    obtain ⟨f, rfl⟩ : ∃ f', f = f' + 1 := ⟨f - 1, by omega⟩
    exact ⟨u, by rw [fn359_28, hI.1, if_pos (by omega)]⟩
  | succ d ih =>
    intro m f b u hd hf
    obtain ⟨f, rfl⟩ : ∃ f', f = f' + 1 := ⟨f - 1, by omega⟩
    rw [fn359_28, hI.1, if_neg (by omega), q_w32_id (z := 3 * (m : Int)) (by omega) (by omega), q_w32_id (z := 3 * (m : Int) + a) (by omega) (by omega), if_pos (by omega), fn333_m, Option.bind_some, fn359_77, fn359_77, q_w32_id (z := (m : Int) + 1) (by omega) (by omega), ← m_s1]
    (repeat' split) <;> exact ih (m + 1) f _ _ (by omega) (by omega)
theorem r_turns {a : Int} {h : q_F} {S : m_St} (hI : r_I h S) (hm : m_I S) : r_W (fn359 a h) h S := by
  have r := (m_R0_ok hm.1.1).2.1
  unfold fn359
  refine r_axisQ hI (fun a0 a1 g I _ => ?_) (fun g I => r_W_i I)
  dsimp only
  rw [if_pos rfl]
  refine r_planQ I hm fun g I P => ?_
  dsimp only
  obtain ⟨n, hn, rfl⟩ := m_ax_n ⟨a0, a1⟩
  rw [q_w32_id (z := 44 + (n : Int)) (by omega) (by omega), fn303_i (by omega) (by omega), Option.bind_some]
  obtain ⟨x, e⟩ := r_turnsl hn I hm P (S.w 4).toNat 0 q_fu (q_w32 (g 140 (44 + (n : Int)).toNat)) 0 (by omega) (by have := q_fu_ge; omega)
  exact ⟨x, g, e, I, r_F_r⟩
/-- an axis that limits a move -/
theorem m_lim {w : Nat → Int} {m : Nat} (hv : m_mv w m) (ok : m_ok w) (hm : m < 16) : ∃ a, a < 3 ∧ m_d w m a ≠ 0 ∧ q_idv (w (14 + a) * m_l w m) (m_abs (m_d w m a)) = m_c w 14 m := by
  have P : ∀ (a : Nat) (c : Int), a < 3 → (c = -1 ∨ ∃ b, b < 3 ∧ m_d w m b ≠ 0 ∧ q_idv (w (14 + b) * m_l w m) (m_abs (m_d w m b)) = c) → (m_cf w 14 m a c = -1 ∧ c = -1 ∧ m_d w m a = 0) ∨ ∃ b, b < 3 ∧ m_d w m b ≠ 0 ∧ q_idv (w (14 + b) * m_l w m) (m_abs (m_d w m b)) = m_cf w 14 m a c := by
    intro a c ha hc
    unfold m_cf
    by_cases z : m_abs (m_d w m a) = 0
    · rw [if_pos z]
      rcases hc with rfl | hc
      · exact Or.inl ⟨rfl, rfl, m_abs_z.mp z⟩
      · exact Or.inr hc
    · rw [if_neg z]
      have self : ∃ b, b < 3 ∧ m_d w m b ≠ 0 ∧ q_idv (w (14 + b) * m_l w m) (m_abs (m_d w m b)) = q_idv (w (14 + a) * m_l w m) (m_abs (m_d w m a)) := ⟨a, ha, fun h9 => z (m_abs_z.mpr h9), rfl⟩
      by_cases c1 : c = -1
      · rw [if_pos c1]; exact Or.inr self
      · rw [if_neg c1]
        unfold qx_mn
        split
        · exact Or.inr (hc.resolve_left c1)
        · exact Or.inr self
  have p0 := P 0 (-1) (by omega) (Or.inl rfl)
  have p1 := P 1 (m_cf w 14 m 0 (-1)) (by omega) (by rcases p0 with p | p; exact Or.inl p.1; exact Or.inr p)
  have p2 := P 2 (m_cf w 14 m 1 (m_cf w 14 m 0 (-1))) (by omega) (by rcases p1 with p | p; exact Or.inl p.1; exact Or.inr p)
  rcases p2 with ⟨q1, q2, q3⟩ | p2
  · have r1 := m_c_r ok hm hv (kk := 14) (k := 5000) (fun a ha => by have := ok.2.2.1 a ha; omega) (by omega)
    have : m_c w 14 m = -1 := q1
    omega
  · exact p2
theorem r_slowestl {h : q_F} {S : m_St} {m b : Nat} (hI : r_I h S) (hm : m_I S) (hP : m_Plan h S.w) (h4 : (m : Int) < S.w 4) (hb : b < 3) (hd : m_d S.w m b ≠ 0) (he : q_idv (S.w (14 + b) * m_l S.w m) (m_abs (m_d S.w m b)) = m_c S.w 14 m) : ∀ (d a f : Nat), a + d = b → d < f → ∃ v, fn336_16 f m a h = some (v, h) := by
  have ok := m_R0_ok hm.1.1
  have r := ok.2.1
  have l := m_l_r ok (m := m) (by omega)
  have step : ∀ a f, a < 3 → (m_d S.w m a ≠ 0 ∧ q_idv (S.w (14 + a) * m_l S.w m) (m_abs (m_d S.w m a)) = m_c S.w 14 m → fn336_16 (f + 1) m a h = some ((a : Int), h)) ∧ (fn336_16 (f + 1) m a h = some ((a : Int), h) ∨ fn336_16 (f + 1) m a h = fn336_16 f m ((a + 1 : Nat) : Int) h) := fun a f ha => by
    have dd := m_d_r ok (m := m) (by omega) ha
    have o := ok.2.2.1 a ha
    have pr := m_mulr (x := S.w (14 + a)) (l := m_l S.w m) (a := 5000) (b := 2000) (by omega) (by omega) (by omega) (by omega)
    obtain ⟨p1, p2, p3, -⟩ := hP.1 m (by omega)
    rw [fn336_16, q_w32_id (z := 3 * (m : Int)) (by omega) (by omega), q_w32_id (z := 3 * (m : Int) + a) (by omega) (by omega), if_pos (by omega), show (3 * (m : Int) + a).toNat = 3 * m + a by omega, p1 a ha, fn336_67, q_w32_id (z := (a : Int) + 1) (by omega) (by omega), ← m_s1]
    by_cases z : m_d S.w m a = 0
    · rw [if_pos z]; exact ⟨fun h9 => absurd z h9.1, Or.inr rfl⟩
    · have za : m_abs (m_d S.w m a) ≠ 0 := fun h9 => z (m_abs_z.mp h9)
      rw [if_neg z, q_w32_id (z := 14 + (a : Int)) (by omega) (by omega), r_of (v := S.w (14 + a)) (by omega) (by omega) (by rw [hI.1, show (14 + (a : Int)).toNat = 14 + a by omega]) (by omega), Option.bind_some, if_pos (show 0 ≤ (m : Int) ∧ (m : Int) < 16 by omega), if_pos (by omega), fn236_i (by omega) (by omega), Option.bind_some, if_pos za, if_pos (show 0 ≤ (m : Int) ∧ (m : Int) < 16 by omega), Int.toNat_natCast, p2, p3, q_w32_id (z := S.w (14 + a) * m_l S.w m) (by omega) (by omega)]
      by_cases e : q_idv (S.w (14 + a) * m_l S.w m) (m_abs (m_d S.w m a)) = m_c S.w 14 m
      · rw [if_pos e]; exact ⟨fun _ => rfl, Or.inl rfl⟩
      · rw [if_neg e]; exact ⟨fun h9 => absurd h9.2 e, Or.inr rfl⟩
  intro d
  induction d with
  | zero =>
    intro a f ha hf
    obtain ⟨f, rfl⟩ : ∃ f', f = f' + 1 := ⟨f - 1, by omega⟩
    obtain rfl : a = b := by omega
    exact ⟨_, (step a f hb).1 ⟨hd, he⟩⟩
  | succ d ih =>
    intro a f ha hf
    obtain ⟨f, rfl⟩ : ∃ f', f = f' + 1 := ⟨f - 1, by omega⟩
    rcases (step a f (by omega)).2 with e | e
    · exact ⟨_, e⟩
    · rw [e]; exact ih (a + 1) f (by omega) (by omega)
theorem r_slowest {m : Int} {h : q_F} {S : m_St} (hI : r_I h S) (hm : m_I S) : r_W (fn336 m h) h S := by
  have ok := m_R0_ok hm.1.1
  have r := ok.2.1
  unfold fn336
  refine r_moveQ hI hm (fun m0 m1 g I _ => ?_) (fun g I => r_W_i I)
  dsimp only
  rw [if_pos rfl]
  refine r_planQ I hm fun g I P => ?_
  obtain ⟨n, rfl⟩ : ∃ k : Nat, m = k := ⟨m.toNat, by omega⟩
  obtain ⟨b, b1, b2, b3⟩ := m_lim (hm.1.2 n m1) ok (by omega)
  obtain ⟨x, e⟩ := r_slowestl I hm P m1 b1 b2 b3 b 0 q_fu (by omega) (by have := q_fu_ge; omega)
  exact ⟨x, g, e, I, r_F_r⟩
end -- [86.rask]
section -- [87.rthink]
/-! Part 87: what the reference goes through in thought. -/
theorem m_mk_hi {p : Nat → Int} {n : Nat} : ∀ (d m : Nat) (w : Nat → Int), m + d = n → 0 ≤ w 4 ∧ w 4 ≤ 16 → ∀ j, 122 ≤ j → (m_mk p n d m w).2 j = w j := by
  intro d
  induction d with
  | zero =>
    intro m w hm h4 j hj
    unfold m_mk m_fin
    dsimp only
    rw [m_u_n (by omega)]; unfold m_cp; rw [if_neg (by omega)]
  | succ d ih =>
    intro m w hm h4 j hj
    have f := m_mm_fr (p := p) (m := m) w
    have fj := f j (by unfold m_dy; omega)
    unfold m_mk
    split
    · unfold m_stops
      dsimp only
      rw [m_u_n (by omega), m_u_n (by omega), m_u_n (by omega), m_u_n (by omega), m_u_n (by omega)]; exact fj
    · have c : ∀ i, 50 ≤ i ∨ i < 47 → m_co m (m_mm p m w).2 i = (m_mm p m w).2 i := fun i hi => by unfold m_co; rw [m_u_n (by omega), m_u_n (by omega), m_u_n (by omega)]
      rw [ih (m + 1) _ (by omega) (by rw [c 4 (by omega), f 4 (by unfold m_dy; omega)]; exact h4) j hj, c j (by omega)]; exact fj
theorem m_run_hi {w : Nat → Int} {n : Nat} (h4 : 0 ≤ w 4 ∧ w 4 ≤ 16) {j : Nat} (hj : 122 ≤ j) : (m_run n w).2 j = w j := m_mk_hi n 0 w (by omega) h4 j hj
/-- the row as it is in thought, the true one aside -/
def r_A (g : q_F) (S : m_St) (u : Nat → Int) : Prop := g 140 = u ∧ (∀ j, j < 122 → g 142 j = S.w j) ∧ (∀ j, 122 ≤ j → u j = S.w j) ∧ (g 139 5 = (S.n : Int) ∧ ∀ k, k < S.n → ∀ j, j < 122 → g 144 (122 * k + j) = S.P k j) ∧ (g 139 6 = S.sv ∧ (S.sv ≠ 0 → ∀ j, j < 122 → g 143 j = S.ws j))
theorem r_A_b {h : q_F} {S : m_St} (hI : r_I h S) : ∃ g, fn241 h = some (0, g) ∧ r_A g S S.w ∧ r_F h g := by
  refine ⟨_, r_begins, ⟨?_, fun j hj => ?_, fun _ _ => rfl, ⟨?_, ?_⟩, ?_, ?_⟩, r_F_sr (by omega)⟩
  · rw [m_sr_n (by omega)]; exact hI.1
  · rw [m_sr_s]; unfold m_cp; rw [if_pos (by omega), hI.1]; congr 1; omega
  · rw [m_sr_n (by omega)]; exact hI.2.1.1
  · rw [m_sr_n (by omega)]; exact hI.2.1.2
  · rw [m_sr_n (by omega)]; exact hI.2.2.1
  · rw [m_sr_n (by omega)]; exact hI.2.2.2
theorem r_A_e {g : q_F} {S : m_St} {u : Nat → Int} (hA : r_A g S u) : ∃ g', fn253 g = some (0, g') ∧ r_I g' S ∧ r_F g g' := by
  obtain ⟨a1, a2, a3, ⟨a4, a5⟩, a6, a7⟩ := hA
  refine ⟨_, r_ends (w := S.w) a2 (fun j hj => by rw [a1]; exact a3 j hj), ⟨m_sr_s _ _ _, ⟨?_, ?_⟩, ?_, ?_⟩, r_F_sr (by omega)⟩
  · rw [m_sr_n (by omega)]; exact a4
  · rw [m_sr_n (by omega)]; exact a5
  · rw [m_sr_n (by omega)]; exact a6
  · rw [m_sr_n (by omega)]; exact a7
theorem r_A_sr {g : q_F} {S : m_St} {u u' : Nat → Int} (hA : r_A g S u) (hi : ∀ j, 122 ≤ j → u' j = u j) : r_A (m_sr g 140 u') S u' ∧ r_F g (m_sr g 140 u') := by
  obtain ⟨a1, a2, a3, ⟨a4, a5⟩, a6, a7⟩ := hA
  refine ⟨⟨m_sr_s _ _ _, ?_, fun j hj => (hi j hj).trans (a3 j hj), ⟨?_, ?_⟩, ?_, ?_⟩, r_F_sr (by omega)⟩
  · rw [m_sr_n (by omega)]; exact a2
  · rw [m_sr_n (by omega)]; exact a4
  · rw [m_sr_n (by omega)]; exact a5
  · rw [m_sr_n (by omega)]; exact a6
  · rw [m_sr_n (by omega)]; exact a7
theorem r_A_fq {g g' : q_F} {S : m_St} {u u' : Nat → Int} (hA : r_A g S u) (f : m_fq g g') (e : g' 140 = u') (hi : ∀ j, 122 ≤ j → u' j = u j) : r_A g' S u' ∧ r_F g g' := by
  obtain ⟨a1, a2, a3, ⟨a4, a5⟩, a6, a7⟩ := hA
  refine ⟨⟨e, ?_, fun j hj => (hi j hj).trans (a3 j hj), ⟨?_, ?_⟩, ?_, ?_⟩, r_F_fq f⟩
  · rw [f 142 (by omega) (by omega)]; exact a2
  · rw [f 139 (by omega) (by omega)]; exact a4
  · rw [f 144 (by omega) (by omega)]; exact a5
  · rw [f 139 (by omega) (by omega)]; exact a6
  · rw [f 143 (by omega) (by omega)]; exact a7
/-- the first moves made in thought -/
theorem r_think {g : q_F} {S : m_St} {u : Nat → Int} {n : Nat} (hA : r_A g S u) (ok : m_ok u) (nn : m_nn u) (hn : (n : Int) ≤ u 4) : ∃ v g' u', fn351 n g = some (v, g') ∧ r_A g' S u' ∧ r_F g g' := by
  have ok1 : m_ok (m_u u 2 0) := m_u_ok ok (by omega)
  have nn1 : m_nn (m_u u 2 0) := m_nn_u nn (by omega)
  obtain ⟨A1, F1⟩ := r_A_sr (u' := m_u u 2 0) hA (fun j hj => m_u_n (by omega))
  obtain ⟨h', b1, b2, b3⟩ := fn287_m A1.1 ok1 nn1 (n := n) (by rw [m_u_n (by omega)]; exact hn)
  obtain ⟨A2, F2⟩ := r_A_fq A1 b3 b2 (fun j hj => m_run_hi ok1.2.1 hj)
  unfold fn351
  rw [m_let, m_ud_sr, hA.1, b1, Option.bind_some]
  split
  · exact ⟨_, h', _, rfl, A2, r_F_t F1 F2⟩
  · exact ⟨_, h', _, rfl, A2, r_F_t F1 F2⟩
theorem r_timeOf {h : q_F} {S : m_St} {n : Nat} (hI : r_I h S) (hm : m_I S) (hn : (n : Int) ≤ S.w 4) : r_W (fn353 n h) h S := by
  obtain ⟨g, a1, a2, a3⟩ := r_A_b hI
  obtain ⟨v, g1, u, b1, b2, b3⟩ := r_think a2 (m_R0_ok hm.1.1) hm.1.2 hn
  obtain ⟨g2, d1, d2, d3⟩ := r_A_e b2
  unfold fn353
  rw [a1, Option.bind_some, b1, Option.bind_some, d1, Option.bind_some]
  exact ⟨_, g2, rfl, d2, r_F_t a3 (r_F_t b3 d3)⟩
theorem r_lasts {m : Int} {h : q_F} {S : m_St} (hI : r_I h S) (hm : m_I S) : r_W (fn276 m h) h S := by
  have r := (m_R0_ok hm.1.1).2.1
  unfold fn276
  refine r_moveQ hI hm (fun m0 m1 g I _ => ?_) (fun g I => r_W_i I)
  dsimp only
  rw [if_pos rfl]
  obtain ⟨n, rfl⟩ : ∃ k : Nat, m = k := ⟨m.toNat, by omega⟩
  rw [q_w32_id (by omega) (by omega), ← m_s1]
  exact r_W_e (r_timeOf I hm (by omega))
theorem r_of4 {g : q_F} {u : Nat → Int} (e : g 140 = u) (h4 : 0 ≤ u 4 ∧ u 4 ≤ 16) : fn303 4 g = some (u 4) := r_of (by omega) (by omega) (by rw [e]; rfl) (by omega)
theorem r_queueTime {h : q_F} {S : m_St} (hI : r_I h S) (hm : m_I S) : r_W (fn311 h) h S := by
  have r := (m_R0_ok hm.1.1).2.1
  unfold fn311
  rw [m_let]
  refine r_g7 hI fun I => ?_
  rw [r_of4 I.1 r, Option.bind_some, show S.w 4 = ((S.w 4).toNat : Int) by omega]
  exact r_W_e (r_timeOf I hm (by omega))
theorem r_A_w {g : q_F} {S : m_St} {u : Nat → Int} (v : Int) (hA : r_A g S u) : r_W ((fn253 g).bind fun x => some (v, x.2)) g S := by
  obtain ⟨g2, d1, d2, d3⟩ := r_A_e hA
  rw [d1, Option.bind_some]
  exact ⟨_, g2, rfl, d2, d3⟩
/-- the whole queue made in thought, something looked up, all laid back -/
theorem r_thoughtQ {h : q_F} {S : m_St} {K : Int × q_F → Option (Int × q_F)} (hI : r_I h S) (hm : m_I S) (hK : ∀ v g u, r_A g S u → r_W (K (v, g)) g S) : r_W ((fn241 h).bind fun x3 => (fn303 4 x3.2).bind fun x4 => (fn351 x4 x3.2).bind K) h S := by
  have r := (m_R0_ok hm.1.1).2.1
  obtain ⟨g, a1, a2, a3⟩ := r_A_b hI
  obtain ⟨v, g1, u, b1, b2, b3⟩ := r_think (n := (S.w 4).toNat) a2 (m_R0_ok hm.1.1) hm.1.2 (by omega)
  rw [a1, Option.bind_some]
  dsimp only
  rw [r_of4 a2.1 r, Option.bind_some, show S.w 4 = ((S.w 4).toNat : Int) by omega, b1, Option.bind_some]
  exact r_W_t (r_F_t a3 b3) (hK v g1 u b2)
theorem r_trueB {a : Int} {h : q_F} {S : m_St} (hI : r_I h S) (hm : m_I S) : r_W (fn357 a h) h S := by
  unfold fn357
  refine r_axisQ hI (fun a0 a1 g I _ => ?_) (fun g I => r_W_i I)
  dsimp only
  rw [if_pos rfl]
  refine r_thoughtQ I hm fun v g u A => ?_
  dsimp only
  rw [q_w32_id (z := 26 + a) (by omega) (by omega), fn303_i (by omega) (by omega), Option.bind_some, fn357_42, fn357_42]
  split <;> exact r_A_w _ A
theorem r_wErr {a : Int} {h : q_F} {S : m_St} (hI : r_I h S) (hm : m_I S) : r_W (fn363 a h) h S := by
  unfold fn363
  refine r_axisQ hI (fun a0 a1 g I _ => ?_) (fun g I => r_W_i I)
  dsimp only
  rw [if_pos rfl]
  refine r_homedQ ⟨a0, a1⟩ I (fun g I _ => ?_) (fun g I => r_W_i I)
  dsimp only
  rw [if_pos rfl]
  refine r_thoughtQ I hm fun v g u A => ?_
  dsimp only
  obtain ⟨x, e⟩ := r_errOf g ⟨a0, a1⟩
  rw [e, Option.bind_some, fn363_48, fn363_48]
  split <;> exact r_A_w _ A
theorem r_lostM (h : q_F) : ∃ v, fn284 h = some v := by
  unfold fn284
  rw [fn303_i (by omega) (by omega), Option.bind_some, fn303_i (by omega) (by omega), Option.bind_some, fn303_i (by omega) (by omega), Option.bind_some]
  exact ⟨_, rfl⟩
theorem r_wLose {h : q_F} {S : m_St} (hI : r_I h S) (hm : m_I S) : r_W (fn365 h) h S := by
  unfold fn365
  rw [m_let]
  refine r_g7 hI fun I => ?_
  obtain ⟨x, e⟩ := r_lostM (q_ud h 139 7 0)
  rw [e, Option.bind_some]
  refine r_thoughtQ I hm fun v g u A => ?_
  dsimp only
  obtain ⟨y, e⟩ := r_lostM g
  rw [e, Option.bind_some, fn365_40, fn365_40]
  split <;> exact r_A_w _ A
theorem m_home_hi {w : Nat → Int} {a : Nat} (ha : a < 3) {j : Nat} (hj : 122 ≤ j) : (m_home a w).2 j = w j := by
  have f : ∀ c d t w, (m_seek a c d t w).2 j = w j := fun c d t w => m_seek_fr ha c d t w j (by unfold m_dy; omega)
  unfold m_home
  dsimp only
  split
  · unfold m_hf; dsimp only; rw [m_u_n (by omega), m_u_n (by omega), f, m_u_n (by omega)]
  · split
    · unfold m_hf; dsimp only; rw [m_u_n (by omega), m_u_n (by omega), f, f, m_u_n (by omega)]
    · unfold m_ho; dsimp only; rw [m_u_n (by omega), m_u_n (by omega), m_u_n (by omega), m_u_n (by omega), f, f, m_u_n (by omega)]
theorem r_wHome {a : Int} {h : q_F} {S : m_St} (hI : r_I h S) (hm : m_I S) : r_W (fn364 a h) h S := by
  unfold fn364
  refine r_axisQ hI (fun a0 a1 g I _ => ?_) (fun g I => r_W_i I)
  dsimp only
  rw [if_pos rfl]
  obtain ⟨n, hn, rfl⟩ := m_ax_n ⟨a0, a1⟩
  obtain ⟨g1, x1, x2, x3⟩ := r_A_b I
  rw [x1, Option.bind_some]
  dsimp only
  rw [fn266_m hn (by rw [x2.1]; exact m_R0_ok hm.1.1), Option.bind_some, x2.1]
  obtain ⟨A, F⟩ := r_A_sr (u' := (m_home n S.w).2) x2 (fun j hj => m_home_hi hn hj)
  exact r_W_t (r_F_t x3 F) (r_A_w _ A)
theorem r_stTime {x y z : Int} {h : q_F} {S : m_St} (hI : r_I h S) (hm : m_I S) : r_W (fn345 x y z h) h S := by
  unfold fn345
  rw [m_let]
  refine r_g7 hI fun I => ?_
  rw [r_point x y z I, Option.bind_some, fn345_21, fn345_21]
  by_cases cp : m_point x y z S.w
  · rw [if_pos cp, if_neg (by decide)]
    refine r_failQ I fun g I _ => ?_
    dsimp only
    rw [if_pos rfl, r_homed I hm, Option.bind_some, fn345_42, fn345_42]
    split
    · refine r_failQ I fun g I _ => ?_
      dsimp only
      rw [if_pos rfl]
      have p := m_pt_r hm cp
      obtain ⟨g1, x1, x2, x3⟩ := r_A_b I
      rw [x1, Option.bind_some, m_let]
      dsimp only
      have R1 : m_R0 (m_u S.w 4 0) := m_R0_v hm.1.1 (m_pv_4 (by omega)) (by omega)
      obtain ⟨A1, F1⟩ := r_A_sr (u' := m_u S.w 4 0) x2 (fun j hj => m_u_n (by omega))
      have e4 : m_u S.w 4 0 4 = 0 := m_u_s _ _ _
      have R2 : m_R0 (m_put 0 x y z (m_u S.w 4 0)) := m_R0_put R1 (by omega) (by omega) p.1 p.2.1 p.2.2
      have pt : fn308 0 x y z (m_sr g1 140 (m_u S.w 4 0)) = some (0, m_sr (m_sr g1 140 (m_u S.w 4 0)) 140 (m_put 0 x y z (m_u S.w 4 0))) := r_putT (i := 0) (m_sr_s _ _ _) (by omega) (by omega)
      obtain ⟨A2, F2⟩ := r_A_sr (u' := m_put 0 x y z (m_u S.w 4 0)) A1 (fun j hj => m_put_hi hj (by omega) (by omega))
      have F := r_F_t x3 (r_F_t F1 F2)
      rw [m_ud_sr, x2.1, pt, Option.bind_some]
      dsimp only
      obtain ⟨q, q1, q2⟩ := r_nw A2.1 (m_R0_ok R2)
      rw [q1, Option.bind_some]
      rcases q2 with ⟨rfl, nn⟩ | ⟨rfl, nn⟩
      · rw [if_pos rfl]
        have e1 : m_put 0 x y z (m_u S.w 4 0) 4 = 0 + 1 := by unfold m_put; rw [m_u_s, m_u_s]
        obtain ⟨v, g3, u3, b1, b2, b3⟩ := r_think (n := 1) A2 (m_R0_ok R2) nn (by rw [e1]; omega)
        rw [show (1 : Int) = ((1 : Nat) : Int) from rfl, b1, Option.bind_some, fn345_86]
        exact r_W_t (r_F_t F b3) (r_A_w _ b2)
      · rw [if_neg (by decide), fn345_86]
        exact r_W_t F (r_A_w _ A2)
    · exact r_failQ I fun g I _ => r_W_i I
  · rw [if_neg cp, if_pos rfl]
    exact r_failQ I fun g I _ => r_W_i I
-- the best first target
theorem m_tko_beg {u : Nat → Int} {m k a : Nat} (hk : k ≤ m) (ha : a < 3) : m_beg (m_tko m u) k a = m_beg u k a := by
  unfold m_beg
  split
  · exact m_tko_lo (by omega) (by omega)
  · unfold m_tko; rw [m_u_n (by omega)]; unfold m_cp; rw [if_neg (by omega)]
theorem r_lv1 {K2 : Int → q_F → Option (Int × q_F)} {h : q_F} {w : Nat → Int} {m : Nat} (hw : h 140 = w) (ok : m_ok w) (hm : m < 16) :
    (m_mv w m → fn280_18 K2 q_fu m 1 0 h = fn280_71 K2 ((m + 1 : Nat) : Int) h) ∧ (¬ m_mv w m → fn280_18 K2 q_fu m 1 0 h = (fn349 m h).bind fun x4 => fn280_71 K2 m x4.2) := by
  obtain ⟨n, e⟩ := m_fu3
  have st : ∀ (a f : Nat) (x : Int), a < 3 → (x = 0 ∨ x = 1) → fn280_18 K2 (f + 1) m x a h = fn280_18 K2 f m (if x = 0 then 0 else if m_beg w m a = m_beg w (m + 1) a then 1 else 0) ((a + 1 : Nat) : Int) h := fun a f x ha hx => by
    rw [fn280_18, if_neg (by omega)]
    rcases hx with rfl | rfl
    · rw [if_pos rfl, if_pos rfl, fn280_48, fn280_49, q_w32_id (by omega) (by omega), ← m_s1]
    · rw [if_neg (by decide), if_neg (by decide), fn240_i hw ok (by omega) (by omega) (by omega) (by omega), Option.bind_some, q_w32_id (z := (m : Int) + 1) (by omega) (by omega), fn240_i hw ok (by omega) (by omega) (by omega) (by omega), Option.bind_some, m_tn1, Int.toNat_natCast, Int.toNat_natCast, fn280_48, fn280_49, fn280_49, q_w32_id (z := (a : Int) + 1) (by omega) (by omega), ← m_s1]
      split <;> rfl
  rw [e]
  have g0 := st 0 (n + 1 + 1 + 1) 1 (by omega) (Or.inr rfl)
  rw [if_neg (by decide)] at g0
  have z0 : (if m_beg w m 0 = m_beg w (m + 1) 0 then (1 : Int) else 0) = 0 ∨ (if m_beg w m 0 = m_beg w (m + 1) 0 then (1 : Int) else 0) = 1 := by split <;> simp
  rw [st (0 + 1) (n + 1 + 1) _ (by omega) z0] at g0
  have z1 : ∀ x : Int, (if x = 0 then (0 : Int) else if m_beg w m (0 + 1) = m_beg w (m + 1) (0 + 1) then 1 else 0) = 0 ∨ (if x = 0 then (0 : Int) else if m_beg w m (0 + 1) = m_beg w (m + 1) (0 + 1) then 1 else 0) = 1 := fun x => by (repeat' split) <;> simp
  rw [st (0 + 1 + 1) (n + 1) _ (by omega) (z1 _), m_nest] at g0
  have en : ∀ x : Int, fn280_18 K2 (n + 1) m x ((0 + 1 + 1 + 1 : Nat) : Int) h = if x = 0 then fn280_71 K2 ((m + 1 : Nat) : Int) h else (fn349 m h).bind fun x4 => fn280_71 K2 m x4.2 := fun x => by
    rw [fn280_18, if_pos (by omega), q_w32_id (by omega) (by omega), ← m_s1]
  rw [en] at g0
  rw [m_mv_beg]
  refine ⟨fun hv => g0.trans ?_, fun hv => g0.trans ?_⟩
  · rw [if_neg hv, if_pos rfl]
  · rw [if_pos (Decidable.not_not.mp hv), if_neg (show ¬ (1 : Int) = 0 by decide)]
theorem r_leaves {S : m_St} : ∀ (d m f : Nat) (h : q_F) (u : Nat → Int), m + d = (u 4).toNat → d < f → r_A h S u → m_R0 u → (∀ k, k < m → m_mv u k) → ∃ h' u', fn280_2 f m h = some (0, h') ∧ r_A h' S u' ∧ r_F h h' ∧ m_R0 u' ∧ m_nn u' := by
  intro d
  induction d with
  | zero =>
    intro m f h u hd hf hA R hk
    obtain ⟨f, rfl⟩ : ∃ f', f = f' + 1 := ⟨f - 1, by omega⟩
    have r := (m_R0_ok R).2.1
    exact ⟨h, u, by rw [fn280_2, hA.1, if_pos (by omega)], hA, r_F_r, R, fun k hk2 => hk k (by omega)⟩
  | succ d ih =>
    intro m f h u hd hf hA R hk
    obtain ⟨f, rfl⟩ : ∃ f', f = f' + 1 := ⟨f - 1, by omega⟩
    have r := (m_R0_ok R).2.1
    rw [fn280_2, hA.1, if_neg (by omega)]
    obtain ⟨g1, g2⟩ := r_lv1 (K2 := fn280_2 f) (m := m) hA.1 (m_R0_ok R) (by omega)
    by_cases hv : m_mv u m
    · rw [g1 hv, fn280_71]
      exact ih (m + 1) f h u (by omega) (by omega) hA R (fun k hk2 => by
        by_cases e : k = m
        · subst e; exact hv
        · exact hk k (by omega))
    · rw [g2 hv, r_tko hA.1 r (by omega), Option.bind_some, fn280_71]
      obtain ⟨A, F⟩ := r_A_sr (u' := m_tko m u) hA (fun j hj => m_tko_hi hj r (by omega))
      have e4 : m_tko m u 4 = u 4 - 1 := by unfold m_tko; rw [m_u_s]
      obtain ⟨h', u', b1, b2, b3, b4⟩ := ih m f (m_sr h 140 (m_tko m u)) (m_tko m u) (by rw [e4]; omega) (by omega) A (m_R0_tko R (by omega)) (fun k hk2 => by
        have := hk k hk2
        unfold m_mv m_d at this ⊢
        rw [m_tko_beg (by omega) (by omega), m_tko_beg (by omega) (by omega), m_tko_beg (by omega) (by omega), m_tko_beg (by omega) (by omega), m_tko_beg (by omega) (by omega), m_tko_beg (by omega) (by omega)]
        exact this)
      exact ⟨h', u', b1, b2, r_F_t F b3, b4⟩
theorem r_timeFirst {h : q_F} {S : m_St} {m : Nat} (hI : r_I h S) (hm : m_I S) (h4 : (m : Int) < S.w 4) : r_W (fn354 m h) h S := by
  have ok := m_R0_ok hm.1.1
  have r := ok.2.1
  have t := ok.2.2.2
  obtain ⟨g, a1, a2, a3⟩ := r_A_b hI
  unfold fn354
  rw [a1, Option.bind_some]
  dsimp only
  rw [q_w32_id (z := 3 * (m : Int)) (by omega) (by omega), q_w32_id (z := 74 + 3 * (m : Int)) (by omega) (by omega), q_w32_id (z := 74 + 3 * (m : Int) + 1) (by omega) (by omega), q_w32_id (z := 74 + 3 * (m : Int) + 2) (by omega) (by omega)]
  have t0 := t (74 + 3 * m) (by omega) (by omega)
  have t1 := t (74 + 3 * m + 1) (by omega) (by omega)
  have t2 := t (74 + 3 * m + 2) (by omega) (by omega)
  rw [r_of (v := S.w (74 + 3 * m)) (by omega) (by omega) (by rw [a2.1, show (74 + 3 * (m : Int)).toNat = 74 + 3 * m by omega]) (by omega), Option.bind_some, r_of (v := S.w (74 + 3 * m + 1)) (by omega) (by omega) (by rw [a2.1, show (74 + 3 * (m : Int) + 1).toNat = 74 + 3 * m + 1 by omega]) (by omega), Option.bind_some, r_of (v := S.w (74 + 3 * m + 2)) (by omega) (by omega) (by rw [a2.1, show (74 + 3 * (m : Int) + 2).toNat = 74 + 3 * m + 2 by omega]) (by omega), Option.bind_some, r_tko a2.1 r h4, Option.bind_some]
  dsimp only
  obtain ⟨A1, F1⟩ := r_A_sr (u' := m_tko m S.w) a2 (fun j hj => m_tko_hi hj r h4)
  have e4 : m_tko m S.w 4 = S.w 4 - 1 := by unfold m_tko; rw [m_u_s]
  have R1 := m_R0_tko hm.1.1 h4
  rw [show (0 : Int) = ((0 : Nat) : Int) from rfl, r_putT (i := 0) A1.1 (by omega) (by omega), Option.bind_some]
  obtain ⟨A2, F2⟩ := r_A_sr (u' := m_put 0 (S.w (74 + 3 * m)) (S.w (74 + 3 * m + 1)) (S.w (74 + 3 * m + 2)) (m_tko m S.w)) A1 (fun j hj => m_put_hi hj (by omega) (by omega))
  have R2 := m_R0_put (i := 0) R1 (by omega) (by omega) t0 t1 t2
  have e5 : m_put 0 (S.w (74 + 3 * m)) (S.w (74 + 3 * m + 1)) (S.w (74 + 3 * m + 2)) (m_tko m S.w) 4 = S.w 4 - 1 + 1 := by unfold m_put; rw [m_u_s, e4]
  obtain ⟨h3, u3, d1, d2, d3, d4, d5⟩ := r_leaves (S := S) (S.w 4).toNat 0 q_fu _ _ (by rw [e5]; omega) (by have := q_fu_ge; omega) A2 R2 (fun k hk => absurd hk (Nat.not_lt_zero k))
  have e6 : fn280 (m_sr (m_sr g 140 (m_tko m S.w)) 140 (m_put 0 (S.w (74 + 3 * m)) (S.w (74 + 3 * m + 1)) (S.w (74 + 3 * m + 2)) (m_tko m S.w))) = some (0, h3) := d1
  dsimp only
  rw [e6, Option.bind_some]
  dsimp only
  have r3 := (m_R0_ok d4).2.1
  rw [r_of4 d2.1 r3, Option.bind_some]
  obtain ⟨v, g4, u4, k1, k2, k3⟩ := r_think (n := (u3 4).toNat) d2 (m_R0_ok d4) d5 (by omega)
  rw [show (((u3 4).toNat : Nat) : Int) = u3 4 by omega] at k1
  rw [k1, Option.bind_some]
  exact r_W_t (r_F_t a3 (r_F_t F1 (r_F_t F2 (r_F_t d3 k3)))) (r_A_w _ k2)
theorem r_bestFl {S : m_St} (hm : m_I S) : ∀ (d m f : Nat) (b e : Int) (h : q_F), m + d = (S.w 4).toNat → d < f → r_I h S → r_W (fn242_12 f b e m h) h S := by
  have r := (m_R0_ok hm.1.1).2.1
  intro d
  induction d with
  | zero =>
    intro m f b e h hd hf hI
    obtain ⟨f, rfl⟩ : ∃ f', f = f' + 1 := ⟨f - 1, by omega⟩
    rw [fn242_12, hI.1, if_pos (by omega)]; exact r_W_i hI
  | succ d ih =>
    intro m f b e h hd hf hI
    obtain ⟨f, rfl⟩ : ∃ f', f = f' + 1 := ⟨f - 1, by omega⟩
    rw [fn242_12, hI.1, if_neg (by omega)]
    obtain ⟨v, g, a1, a2, a3⟩ := r_timeFirst (m := m) hI hm (by omega)
    rw [a1, Option.bind_some, fn242_48, fn242_54, fn242_54, q_w32_id (z := (m : Int) + 1) (by omega) (by omega), ← m_s1]
    (repeat' split) <;> exact r_W_t a3 (ih (m + 1) f _ _ g (by omega) (by omega) a2)
theorem r_bestF {h : q_F} {S : m_St} (hI : r_I h S) (hm : m_I S) : r_W (fn242 h) h S := by
  have r := (m_R0_ok hm.1.1).2.1
  unfold fn242
  rw [m_let]
  refine r_g7 hI fun I => ?_
  exact r_bestFl hm (S.w 4).toNat 0 q_fu (-1) 0 _ (by omega) (by have := q_fu_ge; omega) I
theorem r_bestSl {S : m_St} (hm : m_I S) : ∀ (d k f : Nat) (b e : Int) (h : q_F), k + d = 21 → 1 ≤ k → d < f → r_I h S → r_W (fn243_39 f b e (50 * (k : Int)) h) h S := by
  have r := (m_R0_ok hm.1.1).2.1
  intro d
  induction d with
  | zero =>
    intro k f b e h hd h1 hf hI
    obtain ⟨f, rfl⟩ : ∃ f', f = f' + 1 := ⟨f - 1, by omega⟩
    rw [fn243_39, if_pos (by omega)]; exact r_W_i hI
  | succ d ih =>
    intro k f b e h hd h1 hf hI
    obtain ⟨f, rfl⟩ : ∃ f', f = f' + 1 := ⟨f - 1, by omega⟩
    obtain ⟨g, a1, a2, a3⟩ := r_A_b hI
    have R1 : m_R0 (m_u S.w 0 (50 * (k : Int))) := m_R0_v hm.1.1 (m_pv_0 (by omega)) (by omega)
    have nn1 : m_nn (m_u S.w 0 (50 * (k : Int))) := m_nn_u hm.1.2 (by omega)
    have e4 : m_u S.w 0 (50 * (k : Int)) 4 = S.w 4 := m_u_n (by omega)
    obtain ⟨A1, F1⟩ := r_A_sr (u' := m_u S.w 0 (50 * (k : Int))) a2 (fun j hj => m_u_n (by omega))
    obtain ⟨v, g4, u4, k1, k2, k3⟩ := r_think (n := (S.w 4).toNat) A1 (m_R0_ok R1) nn1 (by omega)
    obtain ⟨g5, q1, q2, q3⟩ := r_A_e k2
    have F := r_F_t a3 (r_F_t F1 (r_F_t k3 q3))
    rw [fn243_39, if_neg (by omega), a1, Option.bind_some, m_let]
    dsimp only
    rw [m_ud_sr, a2.1, r_of4 A1.1 (by omega), Option.bind_some, e4, show S.w 4 = ((S.w 4).toNat : Int) by omega, k1, Option.bind_some]
    dsimp only
    rw [q1, Option.bind_some, fn243_90, fn243_96, fn243_96, q_w32_id (z := 50 * (k : Int) + 50) (by omega) (by omega), show 50 * (k : Int) + 50 = 50 * ((k + 1 : Nat) : Int) by omega]
    (repeat' split) <;> exact r_W_t F (ih (k + 1) f _ _ g5 (by omega) (by omega) (by omega) q2)
theorem r_bestS {h : q_F} {S : m_St} (hI : r_I h S) (hm : m_I S) : r_W (fn243 h) h S := by
  unfold fn243
  rw [m_let, fn243_22, fn243_22]
  refine r_g7 hI fun I => ?_
  split
  · exact r_failQ I fun g I _ => r_W_i I
  · refine r_failQ I fun g I _ => ?_
    dsimp only
    rw [if_pos rfl]
    exact r_bestSl hm 20 1 q_fu (-1) 0 g (by omega) (by omega) (by have := q_fu_ge; omega) I
end -- [87.rthink]
section -- [88.rask]
/-! Part 88: the reference: where an axis is, the nearest order, printing, the input. -/
-- where an axis is
theorem r_passl {S : m_St} {m : Nat} (hm : m_I S) (h4 : (m : Int) < S.w 4) : ∀ (d a f : Nat) (h : q_F), a + d = 3 → d < f → r_I h S → m_Plan h S.w → ∃ h', fn305_2 f m a h = some (0, h') ∧ r_I h' S ∧ m_Plan h' S.w ∧ r_F h h' := by
  have ok := m_R0_ok hm.1.1
  have r := ok.2.1
  intro d
  induction d with
  | zero =>
    intro a f h ha hf hI hP
    obtain ⟨f, rfl⟩ : ∃ f', f = f' + 1 := ⟨f - 1, by omega⟩
    exact ⟨h, by rw [fn305_2, if_pos (by omega)], hI, hP, r_F_r⟩
  | succ d ih =>
    intro a f h ha hf hI hP
    obtain ⟨f, rfl⟩ : ∃ f', f = f' + 1 := ⟨f - 1, by omega⟩
    have sub : ∀ g, r_I g S → m_Plan g S.w → r_F h g → ∃ h', fn305_79 (fn305_2 f) m a g = some (0, h') ∧ r_I h' S ∧ m_Plan h' S.w ∧ r_F h h' := fun g I P F => by
      obtain ⟨h', x1, x2, x3, x4⟩ := ih (a + 1) f g (by omega) (by omega) I P
      exact ⟨h', by rw [fn305_79, q_w32_id (by omega) (by omega), ← m_s1, x1], x2, x3, r_F_t F x4⟩
    have sub2 : ∀ x g, r_I g S → m_Plan g S.w → r_F h g → ∃ h', fn305_72 (fn305_2 f) m a x g = some (0, h') ∧ r_I h' S ∧ m_Plan h' S.w ∧ r_F h h' := fun x g I P F => by
      rw [fn305_72, if_pos (by omega), m_let]
      exact sub _ (r_I_k I (fun k hk => by funext j; rw [q_ud_n (by omega)]) (by rw [q_ud_n (by omega)]) (by rw [q_ud_n (by omega)])) (m_Plan_k P fun k k1 k2 => by funext j; rw [q_ud_n (by omega)]) (r_F_t F ⟨fun k hk => by funext j; rw [q_ud_n (by omega)], fun j hj => by rw [q_ud_n (by omega)]⟩)
    have ok0 := ok.1
    rw [fn305_2, if_neg (by omega), q_w32_id (z := 3 * (m : Int)) (by omega) (by omega), q_w32_id (z := 3 * (m : Int) + a) (by omega) (by omega), if_pos (by omega), fn333_m, Option.bind_some, if_pos (show 0 ≤ (a : Int) ∧ (a : Int) < 3 by omega), q_w32_id (z := 11 + (a : Int)) (by omega) (by omega), fn303_i (by omega) (by omega), Option.bind_some, fn335_m (by rw [hI.1]; omega), Option.bind_some, m_let]
    split
    · exact sub h hI hP r_F_r
    · split
      · exact sub h hI hP r_F_r
      · split
        · exact sub2 _ _ (r_I_k hI (fun k hk => by funext j; rw [q_ud_n (by omega)]) (by rw [q_ud_n (by omega)]) (by rw [q_ud_n (by omega)])) (m_Plan_k hP fun k k1 k2 => by funext j; rw [q_ud_n (by omega)]) (r_F_ud (by omega))
        · exact sub2 _ h hI hP r_F_r
theorem r_wherel {S : m_St} {m a : Nat} {t : Int} {K84 : Int → Int → Int → Int → q_F → Option (Int × q_F)} (hm : m_I S) (h4 : (m : Int) < S.w 4) (ha : a < 3) (hK : ∀ x g, r_I g S → m_Plan g S.w → r_W (K84 a t x ((m + 1 : Nat) : Int) g) g S) : ∀ (d k f : Nat) (x : Int) (h : q_F), (k : Int) + d = m_l S.w m → d < f → r_I h S → m_Plan h S.w → r_W (fn362_106 K84 f a t x m k h) h S := by
  have ok := m_R0_ok hm.1.1
  have r := ok.2.1
  have l := m_l_r ok (m := m) (by omega)
  intro d
  induction d with
  | zero =>
    intro k f x h hd hf hI hP
    obtain ⟨f, rfl⟩ : ∃ f', f = f' + 1 := ⟨f - 1, by omega⟩
    rw [fn362_106, if_pos (by omega), Int.toNat_natCast, (hP.1 m (by omega)).2.1, if_pos (by omega), q_w32_id (by omega) (by omega), ← m_s1]
    exact hK x h hI hP
  | succ d ih =>
    intro k f x h hd hf hI hP
    obtain ⟨f, rfl⟩ : ∃ f', f = f' + 1 := ⟨f - 1, by omega⟩
    rw [fn362_106, if_pos (by omega), Int.toNat_natCast, (hP.1 m (by omega)).2.1, if_neg (by omega), fn275_m ok hm.1.2 hP h4 (by omega) (by omega), Option.bind_some, m_let]
    have I1 : r_I (q_ud h 139 24 (q_w64 (h 139 24 + m_t S.w m k))) S := r_I_k hI (fun k hk => by funext j; rw [q_ud_n (by omega)]) (by rw [q_ud_n (by omega)]) (by rw [q_ud_n (by omega)])
    have P1 : m_Plan (q_ud h 139 24 (q_w64 (h 139 24 + m_t S.w m k))) S.w := m_Plan_k hP fun k k1 k2 => by funext j; rw [q_ud_n (by omega)]
    have F1 : r_F h (q_ud h 139 24 (q_w64 (h 139 24 + m_t S.w m k))) := r_F_ud (by omega)
    generalize q_ud h 139 24 (q_w64 (h 139 24 + m_t S.w m k)) = g at I1 P1 F1 ⊢
    split
    · rw [fn240_i I1.1 ok (by omega) (by omega) (by omega) (by omega), Option.bind_some, q_w32_id (z := 3 * (m : Int)) (by omega) (by omega), q_w32_id (z := 3 * (m : Int) + a) (by omega) (by omega), if_pos (by omega), fn333_m, Option.bind_some, q_w32_id (z := (k : Int) + 1) (by omega) (by omega), fn286_m ok hm.1.2 P1.1 h4 ha (by omega) (by omega), Option.bind_some, ← m_s1]
      exact r_W_t F1 (ih (k + 1) f _ g (by omega) (by omega) I1 P1)
    · exact r_W_t F1 (r_W_i I1)
theorem r_wherem {S : m_St} {a : Nat} {t : Int} (hm : m_I S) (ha : a < 3) : ∀ (d m f : Nat) (x : Int) (h : q_F), m + d = (S.w 4).toNat → d < f → r_I h S → m_Plan h S.w → r_W (fn362_84 f a t x m h) h S := by
  have ok := m_R0_ok hm.1.1
  have r := ok.2.1
  intro d
  induction d with
  | zero =>
    intro m f x h hd hf hI hP
    obtain ⟨f, rfl⟩ : ∃ f', f = f' + 1 := ⟨f - 1, by omega⟩
    rw [fn362_84, hI.1, if_pos (by omega)]; exact r_W_i hI
  | succ d ih =>
    intro m f x h hd hf hI hP
    obtain ⟨f, rfl⟩ : ∃ f', f = f' + 1 := ⟨f - 1, by omega⟩
    have l := m_l_r ok (m := m) (by omega)
    obtain ⟨h1, a1, a2, a3, a4⟩ := r_passl (m := m) hm (by omega) 3 0 q_fu h (by omega) (by have := q_fu_ge; omega) hI hP
    rw [fn362_84, hI.1, if_neg (by omega), fn305, show (0 : Int) = ((0 : Nat) : Int) from rfl, a1, Option.bind_some]
    exact r_W_t a4 (r_wherel hm (by omega) ha (fun x g I P => ih (m + 1) f x g (by omega) (by omega) I P) (m_l S.w m).toNat 0 q_fu x h1 (by omega) (by have := q_fu_ge; omega) a2 a3)
theorem r_wheref {S : m_St} {a : Nat} {t : Int} (hm : m_I S) (ha : a < 3) : ∀ (d k f : Nat) (h : q_F), k + d = 3 → d < f → r_I h S → m_Plan h S.w → r_W (fn362_47 f a t k h) h S := by
  have r := (m_R0_ok hm.1.1).2.1
  intro d
  induction d with
  | zero =>
    intro k f h hd hf hI hP
    obtain ⟨f, rfl⟩ : ∃ f', f = f' + 1 := ⟨f - 1, by omega⟩
    rw [fn362_47, if_pos (by omega), q_w32_id (z := 47 + (a : Int)) (by omega) (by omega), fn303_i (by omega) (by omega), Option.bind_some]
    exact r_wherem hm ha (S.w 4).toNat 0 q_fu _ h (by omega) (by have := q_fu_ge; omega) hI hP
  | succ d ih =>
    intro k f h hd hf hI hP
    obtain ⟨f, rfl⟩ : ∃ f', f = f' + 1 := ⟨f - 1, by omega⟩
    rw [fn362_47, if_neg (by omega), q_w32_id (z := 44 + (k : Int)) (by omega) (by omega), fn303_i (by omega) (by omega), Option.bind_some, if_pos (by omega), m_let, q_w32_id (by omega) (by omega), ← m_s1]
    refine r_W_t ?_ (ih (k + 1) f _ (by omega) (by omega) (r_I_k hI (fun k hk => by funext j; rw [q_ud_n (by omega)]) (by rw [q_ud_n (by omega)]) (by rw [q_ud_n (by omega)])) (m_Plan_k hP fun k k1 k2 => by funext j; rw [q_ud_n (by omega)]))
    exact ⟨fun k hk => by funext j; rw [q_ud_n (by omega)], fun j hj => by rw [q_ud_n (by omega)]⟩
theorem r_where {a t : Int} {h : q_F} {S : m_St} (hI : r_I h S) (hm : m_I S) : r_W (fn362 a t h) h S := by
  unfold fn362
  refine r_axisQ hI (fun a0 a1 g I _ => ?_) (fun g I => r_W_i I)
  dsimp only
  rw [if_pos rfl, fn362_18, fn362_18]
  obtain ⟨n, hn, rfl⟩ := m_ax_n ⟨a0, a1⟩
  split
  · refine r_failQ I fun g I _ => ?_
    dsimp only
    rw [if_pos rfl]
    refine r_homedQ ⟨a0, a1⟩ I (fun g I _ => ?_) (fun g I => r_W_i I)
    dsimp only
    rw [if_pos rfl]
    refine r_planQ I hm fun g I P => ?_
    dsimp only
    rw [m_let]
    exact r_W_t (r_F_ud (by omega)) (r_wheref hm hn 3 0 q_fu _ (by omega) (by have := q_fu_ge; omega) (r_I_k I (fun k hk => by funext j; rw [q_ud_n (by omega)]) (by rw [q_ud_n (by omega)]) (by rw [q_ud_n (by omega)])) (m_Plan_k P fun k k1 k2 => by funext j; rw [q_ud_n (by omega)]))
  · exact r_failQ I fun g I _ => r_W_i I
-- printing
def r_O (g : q_F) (S : m_St) (n : Int) : Prop := r_I g S ∧ g 139 27 = n
/-- what printing leaves alone -/
def r_FO (h h' : q_F) : Prop := (∀ k, k < 139 ∨ k = 150 ∨ 153 ≤ k → h' k = h k) ∧ ∀ j, j = 14 ∨ j = 15 ∨ j = 16 → h' 139 j = h 139 j
theorem r_FO_t {h h1 h2 : q_F} (f : r_FO h h1) (g : r_FO h1 h2) : r_FO h h2 := ⟨fun k hk => (g.1 k hk).trans (f.1 k hk), fun j hj => (g.2 j hj).trans (f.2 j hj)⟩
theorem r_FO_r {h : q_F} : r_FO h h := ⟨fun _ _ => rfl, fun _ _ => rfl⟩
theorem r_write {g : q_F} {S : m_St} {n c : Int} (hO : r_O g S n) (h0 : 0 ≤ n ∧ n < 300) : ∃ g', fn366 c g = some (0, g') ∧ r_O g' S (n + 1) ∧ r_FO g g' := by
  obtain ⟨hI, e⟩ := hO
  rw [fn366, e, if_pos h0, m_let, m_let, q_ud_n (show ¬ (139 = 152 ∧ 27 = n.toNat) by omega), e, q_w32_id (by omega) (by omega)]
  refine ⟨_, rfl, ⟨r_I_k hI (fun k hk => by funext j; rw [q_ud_n (by omega), q_ud_n (by omega)]) (by rw [q_ud_n (by omega), q_ud_n (by omega)]) (by rw [q_ud_n (by omega), q_ud_n (by omega)]), q_ud_s _ _ _ _⟩, fun k hk => by funext j; rw [q_ud_n (by omega), q_ud_n (by omega)], fun j hj => by rw [q_ud_n (by omega), q_ud_n (by omega)]⟩
theorem r_digits {S : m_St} {v : Int} : ∀ (d : Nat) (b : Int) (f : Nat) (g : q_F) (n : Int), d < f → 0 ≤ b ∧ b < 10 ^ d → d ≤ 6 → r_O g S n → 0 ≤ n → n + d ≤ 300 → ∃ g' n', fn367_18 f v b g = some (0, g') ∧ r_O g' S n' ∧ n ≤ n' ∧ n' ≤ n + d ∧ r_FO g g' := by
  intro d
  induction d with
  | zero =>
    intro b f g n hf hb _ hO h0 h1
    obtain ⟨f, rfl⟩ : ∃ f', f = f' + 1 := ⟨f - 1, by omega⟩
    have : (10 : Int) ^ 0 = 1 := rfl
    exact ⟨g, n, by rw [fn367_18, if_pos (by omega)], hO, by omega, by omega, r_FO_r⟩
  | succ d ih =>
    intro b f g n hf hb hd6 hO h0 h1
    obtain ⟨f, rfl⟩ : ∃ f', f = f' + 1 := ⟨f - 1, by omega⟩
    by_cases c : b ≤ 0
    · exact ⟨g, n, by rw [fn367_18, if_pos c], hO, by omega, by omega, r_FO_r⟩
    · have e : (10 : Int) ^ (d + 1) = 10 ^ d * 10 := Int.pow_succ ..
      have big : (10 : Int) ^ d ≤ 100000 := by
        have : d = 0 ∨ d = 1 ∨ d = 2 ∨ d = 3 ∨ d = 4 ∨ d = 5 := by omega
        rcases this with rfl | rfl | rfl | rfl | rfl | rfl <;> decide
      have q : q_idv b 10 = b / 10 := m_idv (by omega) (by omega) (by omega) (by omega)
      obtain ⟨g1, a1, a2, a3⟩ := r_write (c := q_w32 (48 + q_irm (q_idv v b) 10)) hO ⟨h0, by omega⟩
      obtain ⟨g2, n2, b1, b2, b3, b4, b5⟩ := ih (b / 10) f g1 (n + 1) (by omega) (by omega) (by omega) a2 (by omega) (by omega)
      refine ⟨g2, n2, ?_, b2, by omega, by omega, r_FO_t a3 b5⟩
      rw [fn367_18, if_neg c, if_pos (by omega), a1, Option.bind_some, q]
      exact b1
theorem r_number {S : m_St} {v : Int} {g : q_F} {n : Int} (hv : 0 ≤ v ∧ v ≤ 2000) (hO : r_O g S n) (h0 : 0 ≤ n) (h1 : n + 4 ≤ 300) : ∃ g' n', fn367 v g = some (0, g') ∧ r_O g' S n' ∧ n ≤ n' ∧ n' ≤ n + 4 ∧ r_FO g g' := by
  obtain ⟨f, e⟩ := m_fu3
  have q1 : q_idv v 1 = v / 1 := m_idv (by omega) (by omega) (by omega) (by omega)
  have q2 : q_idv v 10 = v / 10 := m_idv (by omega) (by omega) (by omega) (by omega)
  have q3 : q_idv v 100 = v / 100 := m_idv (by omega) (by omega) (by omega) (by omega)
  have q4 : q_idv v 1000 = v / 1000 := m_idv (by omega) (by omega) (by omega) (by omega)
  have fu := q_fu_ge
  have D : ∀ b : Int, 0 ≤ b ∧ b < 10 ^ 4 → ∃ g' n', fn367_18 q_fu v b g = some (0, g') ∧ r_O g' S n' ∧ n ≤ n' ∧ n' ≤ n + 4 ∧ r_FO g g' := fun b hb => r_digits 4 b q_fu g n (by omega) hb (by omega) hO h0 h1
  rw [fn367, e, fn367_2, if_pos (by decide), q1]
  by_cases c1 : v / 1 ≤ 9
  · rw [if_pos c1]; exact D 1 (by decide)
  · rw [if_neg c1, q_w32_id (z := 1 * 10) (by omega) (by omega), show (1 : Int) * 10 = 10 from rfl, fn367_2, if_pos (by decide), q2]
    by_cases c2 : v / 10 ≤ 9
    · rw [if_pos c2]; exact D 10 (by decide)
    · rw [if_neg c2, q_w32_id (z := 10 * 10) (by omega) (by omega), show (10 : Int) * 10 = 100 from rfl, fn367_2, if_pos (by decide), q3]
      by_cases c3 : v / 100 ≤ 9
      · rw [if_pos c3]; exact D 100 (by decide)
      · rw [if_neg c3, q_w32_id (z := 100 * 10) (by omega) (by omega), show (100 : Int) * 10 = 1000 from rfl, fn367_2, if_pos (by decide), q4, if_pos (by omega)]; exact D 1000 (by decide)
theorem r_printa {S : m_St} {m : Nat} {K : Int → q_F → Option (Int × q_F)} (hm : m_I S) (h4 : (m : Int) < S.w 4) : ∀ (d a f : Nat) (g : q_F) (n : Int), a + d = 3 → d < f → r_O g S n → 0 ≤ n → n + 5 * d ≤ 300 → ∃ g' n', fn307_36 K f m a g = K ((m + 1 : Nat) : Int) g' ∧ r_O g' S n' ∧ n ≤ n' ∧ n' ≤ n + 5 * d ∧ r_FO g g' := by
  have ok := m_R0_ok hm.1.1
  have r := ok.2.1
  intro d
  induction d with
  | zero =>
    intro a f g n ha hf hO h0 h1
    obtain ⟨f, rfl⟩ : ∃ f', f = f' + 1 := ⟨f - 1, by omega⟩
    exact ⟨g, n, by rw [fn307_36, if_pos (by omega), q_w32_id (by omega) (by omega), ← m_s1], hO, by omega, by omega, r_FO_r⟩
  | succ d ih =>
    intro a f g n ha hf hO h0 h1
    obtain ⟨f, rfl⟩ : ∃ f', f = f' + 1 := ⟨f - 1, by omega⟩
    have tg := ok.2.2.2 (74 + 3 * m + a) (by omega) (by omega)
    have sub : ∀ (g1 : q_F) (n1 : Int), r_O g1 S n1 → n ≤ n1 → n1 ≤ n + 1 → r_FO g g1 → ∃ g' n', fn307_51 K (fn307_36 K f) m a g1 = K ((m + 1 : Nat) : Int) g' ∧ r_O g' S n' ∧ n ≤ n' ∧ n' ≤ n + 5 * (d + 1 : Nat) ∧ r_FO g g' := fun g1 n1 O1 l1 l2 F1 => by
      obtain ⟨g2, n2, b1, b2, b3, b4, b5⟩ := r_number tg O1 (by omega) (by omega)
      obtain ⟨g3, n3, d1, d2, d3, d4, d5⟩ := ih (a + 1) f g2 n2 (by omega) (by omega) b2 (by omega) (by omega)
      refine ⟨g3, n3, ?_, d2, by omega, by omega, r_FO_t F1 (r_FO_t b5 d5)⟩
      rw [fn307_51, q_w32_id (z := 3 * (m : Int)) (by omega) (by omega), q_w32_id (z := 74 + 3 * (m : Int)) (by omega) (by omega), q_w32_id (z := 74 + 3 * (m : Int) + a) (by omega) (by omega), r_of (v := S.w (74 + 3 * m + a)) (by omega) (by omega) (by rw [O1.1.1, show (74 + 3 * (m : Int) + a).toNat = 74 + 3 * m + a by omega]) (by omega), Option.bind_some, b1, Option.bind_some, q_w32_id (by omega) (by omega), ← m_s1]
      exact d1
    rw [fn307_36, if_neg (by omega)]
    by_cases c : (a : Int) ≤ 0
    · rw [if_pos c]; exact sub g n hO (by omega) (by omega) r_FO_r
    · rw [if_neg c]
      obtain ⟨g1, a1, a2, a3⟩ := r_write (c := 44) hO ⟨h0, by omega⟩
      rw [a1, Option.bind_some]
      exact sub g1 (n + 1) a2 (by omega) (by omega) a3
/-- how printing ends -/
def r_WO (f : Option (Int × q_F)) (h : q_F) (S : m_St) : Prop := ∃ v h', f = some (v, h') ∧ r_I h' S ∧ r_FO h h' ∧ 0 ≤ h' 139 27 ∧ h' 139 27 ≤ 300
theorem r_printm {S : m_St} (hm : m_I S) : ∀ (d m f : Nat) (g : q_F) (n : Int), m + d = (S.w 4).toNat → d < f → r_O g S n → 0 ≤ n → n + 16 * d ≤ 299 → r_WO (fn307_12 f m g) g S := by
  have ok := m_R0_ok hm.1.1
  have r := ok.2.1
  intro d
  induction d with
  | zero =>
    intro m f g n hd hf hO h0 h1
    obtain ⟨f, rfl⟩ : ∃ f', f = f' + 1 := ⟨f - 1, by omega⟩
    rw [fn307_12, hO.1.1, if_pos (by omega), hO.2]
    split
    · obtain ⟨g1, a1, a2, a3⟩ := r_write (c := 46) hO ⟨h0, by omega⟩
      rw [a1, Option.bind_some]
      exact ⟨_, g1, rfl, a2.1, a3, by rw [a2.2]; omega, by rw [a2.2]; omega⟩
    · exact ⟨_, g, rfl, hO.1, r_FO_r, by rw [hO.2]; omega, by rw [hO.2]; omega⟩
  | succ d ih =>
    intro m f g n hd hf hO h0 h1
    obtain ⟨f, rfl⟩ : ∃ f', f = f' + 1 := ⟨f - 1, by omega⟩
    have sub : ∀ (g1 : q_F) (n1 : Int), r_O g1 S n1 → n ≤ n1 → n1 ≤ n + 1 → r_FO g g1 → r_WO (fn307_34 (fn307_12 f) m g1) g S := fun g1 n1 O1 l1 l2 F1 => by
      obtain ⟨g2, n2, b1, b2, b3, b4, b5⟩ := r_printa (m := m) (K := fn307_12 f) hm (by omega) 3 0 q_fu g1 n1 (by omega) (by have := q_fu_ge; omega) O1 (by omega) (by omega)
      obtain ⟨v, h', x1, x2, x3, x4⟩ := ih (m + 1) f g2 n2 (by omega) (by omega) b2 (by omega) (by omega)
      refine ⟨v, h', ?_, x2, r_FO_t F1 (r_FO_t b5 x3), x4⟩
      rw [fn307_34]; exact b1.trans x1
    rw [fn307_12, hO.1.1, if_neg (by omega)]
    by_cases c : (m : Int) ≤ 0
    · rw [if_pos c]; exact sub g n hO (by omega) (by omega) r_FO_r
    · rw [if_neg c]
      obtain ⟨g1, a1, a2, a3⟩ := r_write (c := 32) hO ⟨h0, by omega⟩
      rw [a1, Option.bind_some]
      exact sub g1 (n + 1) a2 (by omega) (by omega) a3
end -- [88.rask]
section -- [89.rask]
/-! Part 89: the reference: the nearest order, printing, the input. -/
theorem r_nordl {S : m_St} {i : Int} {h : q_F} (hI : r_I h S) (hm : m_I S) : ∀ (d : Nat) (k : Int) (f : Nat) (b u : Int), 0 ≤ k → k + d = i → i ≤ 16 → d < f → (b = -1 ∨ (0 ≤ b ∧ b < S.w 4)) → ∃ v, fn297_69 f i b u k h = some (v, h) := by
  have r := (m_R0_ok hm.1.1).2.1
  intro d
  induction d with
  | zero =>
    intro k f b u hk hd h16 hf hb
    obtain ⟨f, rfl⟩ : ∃ f', f = f' + 1 := ⟨f - 1, by omega⟩
    exact ⟨b, by rw [fn297_69, if_pos (by omega)]⟩
  | succ d ih =>
    intro k f b u hk hd h16 hf hb
    obtain ⟨f, rfl⟩ : ∃ f', f = f' + 1 := ⟨f - 1, by omega⟩
    rw [fn297_69, if_neg (by omega), q_w32_id (z := 3 * b) (by omega) (by omega), q_w32_id (z := 74 + 3 * b) (by omega) (by omega), q_w32_id (z := 74 + 3 * b + 1) (by omega) (by omega), q_w32_id (z := 74 + 3 * b + 2) (by omega) (by omega), if_pos (by omega), if_pos (by omega), if_pos (by omega)]
    obtain ⟨v, e1, e2⟩ := r_near (x := h 140 (74 + 3 * b).toNat) (y := h 140 (74 + 3 * b + 1).toNat) (z := h 140 (74 + 3 * b + 2).toNat) (u := q_ior u (q_ishl 1 b)) hI hm
    rw [e1, Option.bind_some, q_w32_id (by omega) (by omega)]
    exact ih (k + 1) f v _ (by omega) (by omega) h16 (by omega) e2
theorem r_nord {i : Int} {h : q_F} {S : m_St} (hI : r_I h S) (hm : m_I S) : r_W (fn297 i h) h S := by
  have r := (m_R0_ok hm.1.1).2.1
  unfold fn297
  rw [m_let, r_rng, Option.bind_some, fn297_28, fn297_28]
  refine r_g7 hI fun I => ?_
  rw [I.1, q_w64_id (by omega) (by omega)]
  by_cases c : 0 ≤ i ∧ i ≤ S.w 4 - 1
  · rw [if_pos c, if_neg (by decide)]
    refine r_failQ I fun g I _ => ?_
    dsimp only
    rw [if_pos rfl]
    obtain ⟨v, e1, e2⟩ := r_near (x := g 140 47) (y := g 140 48) (z := g 140 49) (u := 0) I hm
    rw [e1, Option.bind_some]
    obtain ⟨x, e3⟩ := r_nordl (i := i) I hm i.toNat 0 q_fu v 0 (by omega) (by omega) (by omega) (by have := q_fu_ge; omega) e2
    exact ⟨x, g, e3, I, r_F_r⟩
  · rw [if_neg c, if_pos rfl]
    exact r_failQ I fun g I _ => r_W_i I
theorem r_print {h : q_F} {S : m_St} (hI : r_I h S) (hm : m_I S) : r_WO (fn307 h) h S := by
  have r := (m_R0_ok hm.1.1).2.1
  unfold fn307
  rw [m_let, m_let]
  have I : r_I (q_ud (q_ud h 139 7 0) 139 27 0) S := r_I_k hI (fun k hk => by funext j; rw [q_ud_n (by omega), q_ud_n (by omega)]) (by rw [q_ud_n (by omega), q_ud_n (by omega)]) (by rw [q_ud_n (by omega), q_ud_n (by omega)])
  obtain ⟨v, h', a1, a2, a3, a4⟩ := r_printm hm (S.w 4).toNat 0 q_fu _ 0 (by omega) (by have := q_fu_ge; omega) ⟨I, q_ud_s _ _ _ _⟩ (by omega) (by omega)
  exact ⟨v, h', a1, a2, r_FO_t ⟨fun k hk => by funext j; rw [q_ud_n (by omega), q_ud_n (by omega)], fun j hj => by rw [q_ud_n (by omega), q_ud_n (by omega)]⟩ a3, a4⟩
-- the input
/-- what the input leaves alone -/
def r_FI (h h' : q_F) : Prop := (∀ k, k ≠ 139 → k ≠ 150 → h' k = h k) ∧ ∀ j, j ≠ 7 → j ≠ 14 → h' 139 j = h 139 j
theorem r_FI_r {h : q_F} : r_FI h h := ⟨fun _ _ _ => rfl, fun _ _ _ => rfl⟩
theorem r_FI_t {h h1 h2 : q_F} (f : r_FI h h1) (g : r_FI h1 h2) : r_FI h h2 := ⟨fun k h1 h2 => (g.1 k h1 h2).trans (f.1 k h1 h2), fun j h1 h2 => (g.2 j h1 h2).trans (f.2 j h1 h2)⟩
theorem r_FI_I {h h' : q_F} {S : m_St} (f : r_FI h h') (hI : r_I h S) : r_I h' S := r_I_k hI (fun k hk => f.1 k (by omega) (by omega)) (f.2 5 (by omega) (by omega)) (f.2 6 (by omega) (by omega))
theorem r_wordl {v : Int} : ∀ (d : Nat) (f : Nat) (g : q_F) (n : Int), d ≤ 4 → d < f → g 139 14 = n → 0 ≤ n → n + d ≤ 600 → ∃ g', fn238_3 f v (8 * (d : Int) - 8) g = some (0, g') ∧ g' 139 14 = n + d ∧ r_FI g g' := by
  intro d
  induction d with
  | zero =>
    intro f g n _ hf e h0 h1
    obtain ⟨f, rfl⟩ : ∃ f', f = f' + 1 := ⟨f - 1, by omega⟩
    exact ⟨g, by rw [fn238_3, if_pos (by omega)], by rw [e]; omega, r_FI_r⟩
  | succ d ih =>
    intro f g n hd4 hf e h0 h1
    obtain ⟨f, rfl⟩ : ∃ f', f = f' + 1 := ⟨f - 1, by omega⟩
    rw [fn238_3, if_neg (by omega), e, if_pos (by omega), m_let, m_let, q_ud_n (show ¬ (139 = 150 ∧ 14 = n.toNat) by omega), e, q_w32_id (z := n + 1) (by omega) (by omega), q_w32_id (by omega) (by omega), show 8 * ((d + 1 : Nat) : Int) - 8 + -8 = 8 * (d : Int) - 8 by omega]
    obtain ⟨g', a1, a2, a3⟩ := ih f (q_ud (q_ud g 150 n.toNat (q_ian (q_ishr v (8 * ((d + 1 : Nat) : Int) - 8)) 255)) 139 14 (n + 1)) (n + 1) (by omega) (by omega) (q_ud_s _ _ _ _) (by omega) (by omega)
    refine ⟨g', a1, by rw [a2]; omega, r_FI_t ⟨fun k k1 k2 => by funext j; rw [q_ud_n (by omega), q_ud_n (by omega)], fun j h7 h14 => by rw [q_ud_n (by omega), q_ud_n (by omega)]⟩ a3⟩
theorem r_word {v : Int} {g : q_F} {n : Int} (e : g 139 14 = n) (h0 : 0 ≤ n) (h1 : n + 4 ≤ 600) : ∃ g', fn238 v g = some (0, g') ∧ g' 139 14 = n + 4 ∧ r_FI g g' := by
  have := r_wordl (v := v) 4 q_fu g n (by omega) (by have := q_fu_ge; omega) e h0 (by omega)
  exact this
theorem r_append {a b c d e : Int} {h : q_F} (h0 : 0 ≤ h 139 14 ∧ h 139 14 ≤ 600) : ∃ h', fn237 a b c d e h = some (if h 139 14 ≤ 580 then h 139 14 + 20 else -1, h') ∧ h' 139 14 = (if h 139 14 ≤ 580 then h 139 14 + 20 else h 139 14) ∧ r_FI h h' := by
  have F0 : r_FI h (q_ud h 139 7 0) := ⟨fun k k1 k2 => by funext j; rw [q_ud_n (by omega)], fun j h7 h14 => by rw [q_ud_n (by omega)]⟩
  unfold fn237
  rw [m_let, q_ud_n (show ¬ (139 = 139 ∧ 14 = 7) by omega), q_w32_id (by omega) (by omega)]
  have e0 : q_ud h 139 7 0 139 14 = h 139 14 := q_ud_n (by omega)
  by_cases c1 : h 139 14 ≤ 580
  · rw [if_pos (by omega), if_pos c1, if_pos c1]
    obtain ⟨g1, x1, x2, x3⟩ := r_word (v := a) e0 h0.1 (by omega)
    obtain ⟨g2, y1, y2, y3⟩ := r_word (v := b) x2 (by omega) (by omega)
    obtain ⟨g3, z1, z2, z3⟩ := r_word (v := c) y2 (by omega) (by omega)
    obtain ⟨g4, u1, u2, u3⟩ := r_word (v := d) z2 (by omega) (by omega)
    obtain ⟨g5, w1, w2, w3⟩ := r_word (v := e) u2 (by omega) (by omega)
    have en : g5 139 14 = h 139 14 + 20 := by rw [w2]; omega
    rw [x1, Option.bind_some, y1, Option.bind_some, z1, Option.bind_some, u1, Option.bind_some, w1, Option.bind_some]
    dsimp only
    rw [en]
    exact ⟨g5, rfl, en, r_FI_t F0 (r_FI_t x3 (r_FI_t y3 (r_FI_t z3 (r_FI_t u3 w3))))⟩
  · rw [if_neg (by omega), if_neg c1, if_neg c1]
    exact ⟨_, rfl, e0, F0⟩
theorem r_trunc {v : Int} {h : q_F} (h0 : 0 ≤ h 139 14 ∧ h 139 14 ≤ 600) : ∃ h', fn358 v h = some (if 0 ≤ v ∧ v ≤ h 139 14 then 1 else 0, h') ∧ h' 139 14 = (if 0 ≤ v ∧ v ≤ h 139 14 then v else h 139 14) ∧ r_FI h h' := by
  have F0 : r_FI h (q_ud h 139 7 0) := ⟨fun k k1 k2 => by funext j; rw [q_ud_n (by omega)], fun j h7 h14 => by rw [q_ud_n (by omega)]⟩
  have e0 : q_ud h 139 7 0 139 14 = h 139 14 := q_ud_n (by omega)
  unfold fn358
  rw [m_let, e0, r_rng, Option.bind_some]
  by_cases c : 0 ≤ v ∧ v ≤ h 139 14
  · rw [if_pos c, if_neg (by decide), m_let, if_pos c]
    exact ⟨_, rfl, q_ud_s _ _ _ _, r_FI_t F0 ⟨fun k k1 k2 => by funext j; rw [q_ud_n (by omega)], fun j h7 h14 => by rw [q_ud_n (by omega)]⟩⟩
  · rw [if_neg c, if_pos rfl, if_neg c]
    exact ⟨_, rfl, e0, F0⟩
-- the class's input
def c_FI (h h' : q_F) : Prop := ∀ k, k ≠ 1 → k ≠ 2 → h' k = h k
theorem c_FI_t {h h1 h2 : q_F} (f : c_FI h h1) (g : c_FI h1 h2) : c_FI h h2 := fun k a b => (g k a b).trans (f k a b)
theorem c_byte {v : Int} {g : q_F} {n : Int} (e : g 1 1 = n) (h0 : 0 ≤ n ∧ n < 600) : ∃ g', fn60 1 v g = some (0, g') ∧ g' 1 1 = n + 1 ∧ c_FI g g' := by
  rw [fn60, e, if_neg (by omega), if_neg (by omega), if_pos h0, m_let, m_let, q_ud_n (show ¬ (1 = 1 + 1 ∧ 1 = n.toNat) by omega), e, q_w32_id (by omega) (by omega)]
  exact ⟨_, rfl, q_ud_s _ _ _ _, fun k k1 k2 => by funext j; rw [q_ud_n (by omega), q_ud_n (by omega)]⟩
theorem c_word {v : Int} {g : q_F} {n : Int} (e : g 1 1 = n) (h0 : 0 ≤ n) (h1 : n + 4 ≤ 600) : ∃ g', fn62 1 v g = some (0, g') ∧ g' 1 1 = n + 4 ∧ c_FI g g' := by
  obtain ⟨g1, x1, x2, x3⟩ := c_byte (v := q_iushr v 24) e (by omega)
  obtain ⟨g2, y1, y2, y3⟩ := c_byte (v := q_iushr v 16) x2 (by omega)
  obtain ⟨g3, z1, z2, z3⟩ := c_byte (v := q_iushr v 8) y2 (by omega)
  obtain ⟨g4, u1, u2, u3⟩ := c_byte (v := v) z2 (by omega)
  refine ⟨g4, ?_, by rw [u2]; omega, c_FI_t x3 (c_FI_t y3 (c_FI_t z3 u3))⟩
  rw [fn62, x1, Option.bind_some, y1, Option.bind_some, z1, Option.bind_some, u1, Option.bind_some]
theorem c_append {a b c d e : Int} {h : q_F} (h0 : 0 ≤ h 1 1 ∧ h 1 1 ≤ 600) : ∃ h', fn156 a b c d e h = some (if h 1 1 ≤ 580 then h 1 1 + 20 else -1, h') ∧ h' 1 1 = (if h 1 1 ≤ 580 then h 1 1 + 20 else h 1 1) ∧ c_FI h h' := by
  unfold fn156
  by_cases c1 : h 1 1 ≤ 580
  · rw [if_pos c1, if_pos c1, if_pos c1]
    obtain ⟨g1, x1, x2, x3⟩ := c_word (v := a) (g := h) rfl h0.1 (by omega)
    obtain ⟨g2, y1, y2, y3⟩ := c_word (v := b) x2 (by omega) (by omega)
    obtain ⟨g3, z1, z2, z3⟩ := c_word (v := c) y2 (by omega) (by omega)
    obtain ⟨g4, u1, u2, u3⟩ := c_word (v := d) z2 (by omega) (by omega)
    obtain ⟨g5, w1, w2, w3⟩ := c_word (v := e) u2 (by omega) (by omega)
    have en : g5 1 1 = h 1 1 + 20 := by rw [w2]; omega
    rw [x1, Option.bind_some, y1, Option.bind_some, z1, Option.bind_some, u1, Option.bind_some, w1, Option.bind_some]
    dsimp only
    rw [en]
    exact ⟨g5, rfl, en, c_FI_t x3 (c_FI_t y3 (c_FI_t z3 (c_FI_t u3 w3)))⟩
  · rw [if_neg c1, if_neg c1, if_neg c1]
    exact ⟨h, rfl, rfl, fun _ _ _ => rfl⟩
theorem c_trunc {v : Int} {h : q_F} : ∃ h', fn226 v h = some (if 0 ≤ v ∧ v ≤ h 1 1 then 1 else 0, h') ∧ h' 1 1 = (if 0 ≤ v ∧ v ≤ h 1 1 then v else h 1 1) ∧ c_FI h h' := by
  unfold fn226
  by_cases c : 0 ≤ v ∧ v ≤ h 1 1
  · rw [if_neg (by omega), if_pos c.2, m_let, if_pos c, if_pos c]
    exact ⟨_, rfl, q_ud_s _ _ _ _, fun k k1 k2 => by funext j; rw [q_ud_n (by omega)]⟩
  · rw [if_neg c, if_neg c]
    refine ⟨h, ?_, rfl, fun _ _ _ => rfl⟩
    (repeat' split) <;> first | rfl | omega
end -- [89.rask]
section -- [90.cask]
/-! Part 90: the class's questions of a plan end. -/
theorem c_T79 (m : Int) (h : q_F) : ∃ v, fn79 m h = some v := by
  obtain ⟨v, e⟩ := c_ent_t 129 16 m h
  exact ⟨v, by rw [fn79, e, Option.bind_some]⟩
theorem c_T73 (m a : Int) (h : q_F) : ∃ v, fn73 m a h = some v := by
  unfold fn73
  obtain ⟨v, e⟩ := c_ent_t 127 48 (q_w32 (q_w32 (m * 3) + a)) h
  exact ⟨v, by rw [e, Option.bind_some]⟩
theorem c_T100 (m a : Int) (h : q_F) : ∃ v, fn100 m a h = some v := by
  unfold fn100
  obtain ⟨v, e⟩ := c_ent_t 128 48 (q_w32 (q_w32 (m * 3) + a)) h
  rw [e, Option.bind_some]; split <;> exact ⟨_, rfl⟩
theorem c_T101 (m a : Int) (h : q_F) : ∃ v, fn101 m a h = some v := by
  unfold fn101
  obtain ⟨v, e⟩ := c_ent_t 127 48 (q_w32 (q_w32 (m * 3) + a)) h
  rw [e, Option.bind_some]; split <;> exact ⟨_, rfl⟩
theorem c_T93 (m k : Int) (h : q_F) : ∃ v, fn93 m k h = some v := by
  unfold fn93
  obtain ⟨v1, e1⟩ := c_ent_t 131 16 m h
  obtain ⟨v2, e2⟩ := c_ent_t 134 17 m h
  obtain ⟨v3, e3⟩ := c_ent_t 134 17 (q_w32 (m + 1)) h
  obtain ⟨v4, e4⟩ := c_ent_t 129 16 m h
  obtain ⟨v5, e5⟩ := c_ent_t 130 16 m h
  rw [e1, Option.bind_some, e2, Option.bind_some, e3, Option.bind_some, e4, Option.bind_some, e5, Option.bind_some]
  exact ⟨_, rfl⟩
theorem c_T201 (a b : Int) (h : q_F) : ∃ v, fn201 a b h = some v := by
  unfold fn201
  by_cases c : b = 0
  · rw [if_pos c]; exact ⟨_, rfl⟩
  · rw [if_neg c, if_pos c]; exact ⟨_, rfl⟩
theorem c_T95 (m k : Int) (h : q_F) : ∃ v, fn95 m k h = some v := by
  obtain ⟨v, e⟩ := c_T93 m k h
  obtain ⟨u, e2⟩ := c_T201 1000000 v h
  exact ⟨u, by rw [fn95, e, Option.bind_some, e2, Option.bind_some]⟩
theorem c_T83 (m a k : Int) (h : q_F) : ∃ v, fn83 m a k h = some v := by
  unfold fn83
  obtain ⟨v1, e1⟩ := c_ent_t 129 16 m h
  obtain ⟨v2, e2⟩ := c_ent_t 127 48 (q_w32 (q_w32 (m * 3) + a)) h
  rw [e1, Option.bind_some, e2, Option.bind_some]
  obtain ⟨v3, e3⟩ := c_T201 (q_w32 (q_w32 (q_w32 (2 * k) * qx_ab v2) + v1)) (q_w32 (2 * v1)) h
  rw [e3, Option.bind_some]; exact ⟨_, rfl⟩
theorem c_T87 (m a k : Int) (h : q_F) : ∃ v, fn87 m a k h = some v := by
  unfold fn87
  obtain ⟨v1, e1⟩ := c_ent_t 126 48 (q_w32 (q_w32 (m * 3) + a)) h
  obtain ⟨v2, e2⟩ := c_T101 m a h
  obtain ⟨v3, e3⟩ := c_T83 m a k h
  rw [e1, Option.bind_some, e2, Option.bind_some, e3, Option.bind_some]; exact ⟨_, rfl⟩
theorem c_T71 (m : Int) (h : q_F) : ∃ v, fn71 m h = some v := by
  unfold fn71
  obtain ⟨v1, e1⟩ := c_ent_t 133 16 m h
  obtain ⟨v2, e2⟩ := c_T201 1000000 (h 125 10) h
  rw [e1, Option.bind_some, e2, Option.bind_some]; exact ⟨_, rfl⟩
theorem c_T76 {m l : Int} {h : q_F} (e : fn79 m h = some l) (hl : l ≤ 2000) : ∀ (d : Nat) (k : Int) (f : Nat) (u : Int), 0 ≤ k → l ≤ k + d → k ≤ 3000 → d < f → ∃ v, fn76_4 h f m u k = some v := by
  intro d
  induction d with
  | zero =>
    intro k f u hk hd _ hf
    obtain ⟨f, rfl⟩ : ∃ f', f = f' + 1 := ⟨f - 1, by omega⟩
    exact ⟨u, by rw [fn76_4, e, Option.bind_some, if_pos (by omega)]⟩
  | succ d ih =>
    intro k f u hk hd h3 hf
    obtain ⟨f, rfl⟩ : ∃ f', f = f' + 1 := ⟨f - 1, by omega⟩
    obtain ⟨v, e1⟩ := c_T93 m k h
    rw [fn76_4, e, Option.bind_some]
    by_cases c : l ≤ k
    · rw [if_pos c]; exact ⟨_, rfl⟩
    · rw [if_neg c, e1, Option.bind_some, q_w32_id (by omega) (by omega)]
      exact ih (k + 1) f _ (by omega) (by omega) (by omega) (by omega)
theorem c_T77 {m l x : Int} {h : q_F} (e : fn79 m h = some l) (hl : l ≤ 2000) : ∀ (d : Nat) (k : Int) (f : Nat) (u : Int), 0 ≤ k → l ≤ k + d → k ≤ 3000 → d < f → ∃ v, fn77_11 h f m x u k = some v := by
  intro d
  induction d with
  | zero =>
    intro k f u hk hd _ hf
    obtain ⟨f, rfl⟩ : ∃ f', f = f' + 1 := ⟨f - 1, by omega⟩
    exact ⟨u, by rw [fn77_11, e, Option.bind_some, if_pos (by omega)]⟩
  | succ d ih =>
    intro k f u hk hd h3 hf
    obtain ⟨f, rfl⟩ : ∃ f', f = f' + 1 := ⟨f - 1, by omega⟩
    obtain ⟨v, e1⟩ := c_T93 m k h
    rw [fn77_11, e, Option.bind_some]
    by_cases c : l ≤ k
    · rw [if_pos c]; exact ⟨_, rfl⟩
    · rw [if_neg c, e1, Option.bind_some, fn77_38, fn77_38, q_w32_id (z := k + 1) (by omega) (by omega)]
      split <;> exact ih (k + 1) f _ (by omega) (by omega) (by omega) (by omega)
theorem c_T70 {m l x : Int} {h : q_F} (e : fn79 m h = some l) (hl : l ≤ 2000) : ∀ (d : Nat) (k : Int) (f : Nat) (u : Int), 0 ≤ k → l ≤ k + d → k ≤ 3000 → d < f → ∃ v, fn70_5 h f m x u k = some v := by
  intro d
  induction d with
  | zero =>
    intro k f u hk hd _ hf
    obtain ⟨f, rfl⟩ : ∃ f', f = f' + 1 := ⟨f - 1, by omega⟩
    exact ⟨u, by rw [fn70_5, e, Option.bind_some, if_pos (by omega)]⟩
  | succ d ih =>
    intro k f u hk hd h3 hf
    obtain ⟨f, rfl⟩ : ∃ f', f = f' + 1 := ⟨f - 1, by omega⟩
    obtain ⟨v, e1⟩ := c_T93 m k h
    obtain ⟨v2, e2⟩ := c_T93 m (q_w32 (k - 1)) h
    rw [fn70_5, e, Option.bind_some]
    by_cases c : l ≤ k
    · rw [if_pos c]; exact ⟨_, rfl⟩
    · rw [if_neg c, e1, Option.bind_some, e2, Option.bind_some]
      unfold fn70_56 fn70_52 fn70_57
      rw [q_w32_id (z := k + 1) (by omega) (by omega)]
      (repeat' split) <;> exact ih (k + 1) f _ (by omega) (by omega) (by omega) (by omega)
theorem c_T97 {m l : Int} {h : q_F} (e : fn79 m h = some l) (hl : l ≤ 2000) : ∀ (d : Nat) (k : Int) (f : Nat) (u : Int), 0 ≤ k → l ≤ k + d → k ≤ 3000 → d < f → ∃ v, fn97_6 h f m u k = some v := by
  intro d
  induction d with
  | zero =>
    intro k f u hk hd _ hf
    obtain ⟨f, rfl⟩ : ∃ f', f = f' + 1 := ⟨f - 1, by omega⟩
    exact ⟨k, by rw [fn97_6, e, Option.bind_some, if_pos (by omega)]⟩
  | succ d ih =>
    intro k f u hk hd h3 hf
    obtain ⟨f, rfl⟩ : ∃ f', f = f' + 1 := ⟨f - 1, by omega⟩
    obtain ⟨v, e1⟩ := c_T95 m k h
    rw [fn97_6, e, Option.bind_some]
    by_cases c : l ≤ k
    · rw [if_pos c]; exact ⟨_, rfl⟩
    · rw [if_neg c, e1, Option.bind_some]
      split
      · exact ⟨_, rfl⟩
      · rw [Option.bind_some, q_w32_id (by omega) (by omega)]
        exact ih (k + 1) f _ (by omega) (by omega) (by omega) (by omega)
theorem c_T9699 (a b c d : Int) (h : q_F) : ∃ v, fn96_99 a b c d h = some v := by
  unfold fn96_99
  obtain ⟨v, e⟩ := c_T201 1000000 a h
  rw [e, Option.bind_some]; exact ⟨_, rfl⟩
theorem c_T9660 {m c : Int} {h : q_F} : ∀ (d : Nat) (x y k : Int) (f : Nat), y ≤ 3000 → 0 ≤ x → y ≤ x + d → d < f → ∃ v, fn96_60 h f m c k x y = some v := by
  intro d
  induction d with
  | zero =>
    intro x y k f hy hx hd hf
    obtain ⟨f, rfl⟩ : ∃ f', f = f' + 1 := ⟨f - 1, by omega⟩
    rw [fn96_60, if_pos (by omega)]; exact c_T9699 _ _ _ _ _
  | succ d ih =>
    intro x y k f hy hx hd hf
    obtain ⟨f, rfl⟩ : ∃ f', f = f' + 1 := ⟨f - 1, by omega⟩
    rw [fn96_60]
    by_cases c1 : y ≤ x
    · rw [if_pos c1]; exact c_T9699 _ _ _ _ _
    · obtain ⟨v, e1⟩ := c_T93 m (q_w32 (y - 1)) h
      obtain ⟨u, e2⟩ := c_T95 m (q_w32 (y + -1)) h
      rw [if_neg c1, e1, Option.bind_some]
      split
      · exact c_T9699 _ _ _ _ _
      · rw [e2, Option.bind_some, q_w32_id (z := y + -1) (by omega) (by omega)]
        exact ih x (y + -1) _ f (by omega) hx (by omega) (by omega)
theorem c_T9621 {m c l : Int} {h : q_F} (hl : l ≤ 2000) : ∀ (d : Nat) (x k : Int) (f : Nat), 0 ≤ x → x ≤ 3000 → l ≤ x + d → d < f → ∃ v, fn96_21 h f m c l k x = some v := by
  intro d
  induction d with
  | zero =>
    intro x k f hx _ hd hf
    obtain ⟨f, rfl⟩ : ∃ f', f = f' + 1 := ⟨f - 1, by omega⟩
    rw [fn96_21, if_pos (by omega), fn96_57]; exact c_T9660 2000 x l k q_fu (by omega) hx (by omega) (by have := q_fu_ge; omega)
  | succ d ih =>
    intro x k f hx h3 hd hf
    obtain ⟨f, rfl⟩ : ∃ f', f = f' + 1 := ⟨f - 1, by omega⟩
    have fin : ∃ v, fn96_57 m c l k x h = some v := by rw [fn96_57]; exact c_T9660 2000 x l k q_fu (by omega) hx (by omega) (by have := q_fu_ge; omega)
    obtain ⟨v, e1⟩ := c_T93 m x h
    obtain ⟨u, e2⟩ := c_T95 m x h
    rw [fn96_21]
    by_cases c1 : l ≤ x
    · rw [if_pos c1]; exact fin
    · rw [if_neg c1, e1, Option.bind_some]
      split
      · exact fin
      · rw [e2, Option.bind_some, q_w32_id (z := x + 1) (by omega) (by omega)]
        exact ih (x + 1) _ f (by omega) (by omega) (by omega) (by omega)
theorem c_T96 {m l : Int} {h : q_F} (e : fn79 m h = some l) (hl : l ≤ 2000) : ∃ v, fn96 m h = some v := by
  obtain ⟨v, e1⟩ := c_ent_t 130 16 m h
  rw [fn96, e1, Option.bind_some, e, Option.bind_some]
  exact c_T9621 hl 2000 0 0 q_fu (by omega) (by omega) (by omega) (by have := q_fu_ge; omega)
/-- the plan's leads, as far as it goes -/
def c_Ld (h : q_F) : Prop := 0 ≤ h 125 9 ∧ h 125 9 ≤ 16 ∧ ∀ m : Nat, (m : Int) < h 125 9 → ∃ l, fn79 m h = some l ∧ 0 ≤ l ∧ l ≤ 2000
theorem c_Ld_P {h : q_F} {p : Nat → Int} (ok : m_ok p) (hP : c_Plan h p) : c_Ld h := by
  have r := ok.2.1
  have e := hP.2.2.2.1
  refine ⟨by rw [e]; exact r.1, by rw [e]; exact r.2, fun m hm => ?_⟩
  rw [e] at hm
  have l := m_l_r ok (m := m) (by omega)
  exact ⟨_, c_lead (hP.1.2 m (by omega)).1 (by omega), l.1, l.2.1⟩
theorem c_T99 {h : q_F} {x : Int} (L : c_Ld h) (hx : x ≤ 20) : ∀ (d m f : Nat) (u : Int), (h 125 9).toNat ≤ m + d → d < f → m ≤ 20 → ∃ v, fn99_5 h f x u m = some v := by
  obtain ⟨l1, l2, l3⟩ := L
  intro d
  induction d with
  | zero =>
    intro m f u hd hf hm
    obtain ⟨f, rfl⟩ : ∃ f', f = f' + 1 := ⟨f - 1, by omega⟩
    rw [fn99_5]
    split
    · exact ⟨_, rfl⟩
    · rw [if_pos (by omega)]; exact ⟨_, rfl⟩
  | succ d ih =>
    intro m f u hd hf hm
    obtain ⟨f, rfl⟩ : ∃ f', f = f' + 1 := ⟨f - 1, by omega⟩
    rw [fn99_5]
    split
    · exact ⟨_, rfl⟩
    · by_cases c : h 125 9 ≤ m
      · rw [if_pos c]; exact ⟨_, rfl⟩
      · obtain ⟨l, e1, e2, e3⟩ := l3 m (by omega)
        obtain ⟨a, ea⟩ := c_T71 m h
        obtain ⟨b, eb⟩ := c_T96 e1 e3
        rw [if_neg c, ea, Option.bind_some, eb, Option.bind_some, q_w32_id (z := (m : Int) + 1) (by omega) (by omega), ← m_s1]
        exact ih (m + 1) f _ (by omega) (by omega) (by omega)
theorem c_T99f {h : q_F} {x : Int} (L : c_Ld h) (hx : x ≤ 20) : ∃ v, fn99 x h = some v := c_T99 L hx 16 0 q_fu 0 (by have := L.2.1; omega) (by have := q_fu_ge; omega) (by omega)
theorem c_T102 {h : q_F} (L : c_Ld h) : ∃ v, fn102 h = some v := by
  have := L.1
  have := L.2.1
  obtain ⟨v, e⟩ := c_T99f (x := h 125 9 - 1) L (by omega)
  exact ⟨v, by rw [fn102, q_w32_id (by omega) (by omega), e, Option.bind_some]⟩
-- calls
theorem c_E_i {k : Nat} {v : Int} {h : q_F} {S : m_St} {Q : Nat → Prop} (hI : c_I h S) (hk : Q k) : c_E (some (k, v, h)) h S Q := ⟨k, v, h, rfl, hk, hI, c_F_r⟩
theorem c_E_t {f : Option (Nat × Int × q_F)} {h h1 : q_F} {S : m_St} {Q : Nat → Prop} (F : c_F h h1) (g : c_E f h1 S Q) : c_E f h S Q := by
  obtain ⟨k, v, h', a, b, c, d⟩ := g
  exact ⟨k, v, h', a, b, c, c_F_t F d⟩
/-- a question of an axis -/
theorem c_axisQ {a : Int} {h : q_F} {S : m_St} {Q : Nat → Prop} {K : Nat × Int × q_F → Option (Nat × Int × q_F)} (hF : 0 ≤ a → a ≤ 2 → c_E (K (0, 0, h)) h S Q) (h3 : c_E (K (3, 0, h)) h S Q) : c_E ((fn162 a h).bind K) h S Q := by
  rw [c_axis, Option.bind_some]
  by_cases ca : 0 ≤ a ∧ a ≤ 2
  · rw [if_pos ca]; exact hF ca.1 ca.2
  · rw [if_neg ca]; exact h3
theorem c_moveQ {m : Int} {h : q_F} {S : m_St} {Q : Nat → Prop} {K : Nat × Int × q_F → Option (Nat × Int × q_F)} (hI : c_I h S) (hF : 0 ≤ m → m < S.w 4 → c_E (K (0, 0, h)) h S Q) (h3 : c_E (K (3, 0, h)) h S Q) : c_E ((fn164 m h).bind K) h S Q := by
  rw [c_move m hI, Option.bind_some]
  by_cases ca : 0 ≤ m ∧ m < S.w 4
  · rw [if_pos ca]; exact hF ca.1 ca.2
  · rw [if_neg ca]; exact h3
theorem c_homedQ {a : Int} {h : q_F} {S : m_St} {Q : Nat → Prop} {K : Nat × Int × q_F → Option (Nat × Int × q_F)} (hF : c_E (K (0, 0, h)) h S Q) (h4 : c_E (K (4, 0, h)) h S Q) : c_E ((fn163 a h).bind K) h S Q := by
  unfold fn163
  split
  · rw [Option.bind_some]; exact h4
  · rw [Option.bind_some]; exact hF
theorem c_planQ {h : q_F} {S : m_St} {Q : Nat → Prop} {K : Int × q_F → Option (Nat × Int × q_F)} (hI : c_I h S) (hm : m_I S) (hF : ∀ g, c_I g S → c_Plan g S.w → c_Ld g → c_E (K (0, g)) g S Q) : c_E ((fn195 h).bind K) h S Q := by
  obtain ⟨h', g1, g2, g3, g4⟩ := c_planned hI hm
  rw [g1, Option.bind_some]
  exact c_E_t (c_F_fp g3) (hF h' g4 g2 (c_Ld_P (m_R0_ok hm.1.1) g2))
theorem c_account {a v : Int} {h : q_F} {S : m_St} (hI : c_I h S) : c_E (fn155 a v h) h S (fun k => k = 1 ∨ k = 2 ∨ k = 3) := by
  unfold fn155 fn155_14
  refine c_axisQ (fun a0 a1 => ?_) (c_E_i hI (Or.inr (Or.inr rfl)))
  dsimp only
  rw [if_pos rfl]
  have key : ∃ x, fn44 (q_axn 6 a + 1) v h = some x := by unfold fn44; (repeat' split) <;> exact ⟨_, rfl⟩
  obtain ⟨x, e⟩ := key
  rw [e, Option.bind_some]
  (repeat' split) <;> first | exact c_E_i hI (Or.inl rfl) | exact c_E_i hI (Or.inr (Or.inl rfl))
theorem c_axisC {a v : Int} {h : q_F} {S : m_St} (hI : c_I h S) : c_E (fn157 a v h) h S (fun k => k = 1 ∨ k = 2 ∨ k = 3) := by
  unfold fn157 fn157_15
  refine c_axisQ (fun a0 a1 => ?_) (c_E_i hI (Or.inr (Or.inr rfl)))
  dsimp only
  rw [if_pos rfl]
  have k1 : ∃ x, fn50 (q_axn 6 a) v h = some x := by unfold fn50; (repeat' split) <;> exact ⟨_, rfl⟩
  have k2 : ∃ x, fn45 (q_axn 6 a) v h = some x := by unfold fn45; (repeat' split) <;> exact ⟨_, rfl⟩
  obtain ⟨x, e⟩ := k1
  obtain ⟨y, e2⟩ := k2
  rw [e, Option.bind_some, e2, Option.bind_some]
  (repeat' split) <;> first | exact c_E_i hI (Or.inl rfl) | exact c_E_i hI (Or.inr (Or.inl rfl))
theorem c_coordinate {a : Int} {h : q_F} {S : m_St} (hI : c_I h S) : c_E (fn170 a h) h S (fun k => k = 1 ∨ k = 3 ∨ k = 4) := by
  unfold fn170
  refine c_axisQ (fun a0 a1 => ?_) (c_E_i hI (Or.inr (Or.inl rfl)))
  dsimp only
  rw [if_pos rfl]
  exact c_homedQ (c_E_i hI (Or.inl rfl)) (c_E_i hI (Or.inr (Or.inr rfl)))
theorem c_errorC {a : Int} {h : q_F} {S : m_St} (hI : c_I h S) : c_E (fn176 a h) h S (fun k => k = 1 ∨ k = 3 ∨ k = 4) := by
  unfold fn176 fn47
  refine c_axisQ (fun a0 a1 => ?_) (c_E_i hI (Or.inr (Or.inl rfl)))
  dsimp only
  rw [if_pos rfl]
  exact c_homedQ (c_E_i hI (Or.inl rfl)) (c_E_i hI (Or.inr (Or.inr rfl)))
theorem c_count {v : Int} {h : q_F} {S : m_St} (hI : c_I h S) (hm : m_I S) : c_E (fn171 v h) h S (fun k => k = 1 ∨ k = 2) := by
  unfold fn171
  rw [c_homed hI hm, Option.bind_some]
  (repeat' split) <;> first | exact c_E_i hI (Or.inl rfl) | exact c_E_i hI (Or.inr rfl)
theorem c_readsC {a : Int} {h : q_F} {S : m_St} (hI : c_I h S) : c_E (fn204 a h) h S (fun k => k = 1 ∨ k = 3) := by
  unfold fn204
  have k1 : ∃ x, fn54 (q_axn 6 a) h = some x := by unfold fn54; (repeat' split) <;> exact ⟨_, rfl⟩
  obtain ⟨x, e⟩ := k1
  rw [c_axis, Option.bind_some]
  by_cases ca : 0 ≤ a ∧ a ≤ 2
  · rw [if_pos ca]; dsimp only; rw [if_pos rfl, e, Option.bind_some]; exact c_E_i hI (Or.inl rfl)
  · rw [if_neg ca]; dsimp only; rw [if_neg (by decide), if_pos rfl]; exact c_E_i hI (Or.inr rfl)
theorem c_slackC {a v : Int} {h : q_F} {S : m_St} (hI : c_I h S) : c_E (fn214 a v h) h S (fun k => k = 1 ∨ k = 3) := by
  unfold fn214
  have k1 : ∃ x, fn57 (q_axn 6 a) v h = some x := by unfold fn57; (repeat' split) <;> exact ⟨_, rfl⟩
  obtain ⟨x, e⟩ := k1
  rw [c_axis, Option.bind_some]
  by_cases ca : 0 ≤ a ∧ a ≤ 2
  · rw [if_pos ca]; dsimp only; rw [if_pos rfl, e, Option.bind_some]; exact c_E_i hI (Or.inl rfl)
  · rw [if_neg ca]; dsimp only; rw [if_neg (by decide), if_pos rfl]; exact c_E_i hI (Or.inr rfl)
end -- [90.cask]
section -- [91.cask]
/-! Part 91: the class's questions end, gone on with. -/
theorem c_T148 (o : Nat) (m a : Int) (h : q_F) : ∃ v, fn148 o m a h = some v := by
  unfold fn148
  obtain ⟨v, e⟩ := c_ent_t (o + 1) 48 (q_w32 (q_w32 (m * 3) + a)) h
  exact ⟨v, by rw [e, Option.bind_some]⟩
theorem c_target {m a : Int} {h : q_F} {S : m_St} (hI : c_I h S) : c_E (fn222 m a h) h S (fun k => k = 1 ∨ k = 3) := by
  unfold fn222
  refine c_moveQ hI (fun m0 m1 => ?_) (c_E_i hI (Or.inr rfl))
  dsimp only
  rw [if_pos rfl]
  refine c_axisQ (fun a0 a1 => ?_) (c_E_i hI (Or.inr rfl))
  dsimp only
  obtain ⟨v, e⟩ := c_T148 13 m a h
  rw [if_pos rfl, e, Option.bind_some]
  exact c_E_i hI (Or.inl rfl)
theorem c_W_i {v : Int} {h : q_F} {S : m_St} (hI : c_I h S) : c_W (some (v, h)) h S := ⟨v, h, rfl, hI, c_F_r⟩
theorem c_W_t {f : Option (Int × q_F)} {h h1 : q_F} {S : m_St} (F : c_F h h1) (g : c_W f h1 S) : c_W f h S := by
  obtain ⟨v, h', a, b, c⟩ := g
  exact ⟨v, h', a, b, c_F_t F c⟩
theorem c_planW {h : q_F} {S : m_St} {K : Int × q_F → Option (Int × q_F)} (hI : c_I h S) (hm : m_I S) (hF : ∀ g, c_I g S → c_Plan g S.w → c_Ld g → c_W (K (0, g)) g S) : c_W ((fn195 h).bind K) h S := by
  obtain ⟨h', g1, g2, g3, g4⟩ := c_planned hI hm
  rw [g1, Option.bind_some]
  exact c_W_t (c_F_fp g3) (hF h' g4 g2 (c_Ld_P (m_R0_ok hm.1.1) g2))
theorem c_pairs {h : q_F} {S : m_St} (hI : c_I h S) (hm : m_I S) : c_W (fn218 h) h S := by
  unfold fn218
  refine c_planW hI hm fun g I P L => ?_
  dsimp only
  rw [c_sc (m_R0_ok hm.1.1).2.1 P, Option.bind_some]; exact c_W_i I
theorem c_queueTime {h : q_F} {S : m_St} (hI : c_I h S) (hm : m_I S) : c_W (fn200 h) h S := by
  unfold fn200
  refine c_planW hI hm fun g I P L => ?_
  obtain ⟨v, e⟩ := c_T102 L
  dsimp only
  rw [e, Option.bind_some]; exact c_W_i I
theorem c_boundl {a u : Int} {h : q_F} {S : m_St} {Q : Nat → Prop} (hI : c_I h S) (hm : m_I S) (h1 : Q 1) : ∀ (d m f : Nat) (b : Int), m + d = (S.w 4).toNat → d < f → c_E (fn160_25 f a u b m h) h S Q := by
  have r := (m_R0_ok hm.1.1).2.1
  have e : h 13 1 = S.w 4 := hI.1.2.2.1
  intro d
  induction d with
  | zero =>
    intro m f b hd hf
    obtain ⟨f, rfl⟩ : ∃ f', f = f' + 1 := ⟨f - 1, by omega⟩
    rw [fn160_25, e, if_pos (by omega)]; exact c_E_i hI h1
  | succ d ih =>
    intro m f b hd hf
    obtain ⟨f, rfl⟩ : ∃ f', f = f' + 1 := ⟨f - 1, by omega⟩
    obtain ⟨v, ev⟩ := c_T148 13 m a h
    rw [fn160_25, e, if_neg (by omega), ev, Option.bind_some, fn160_74, fn160_74, q_w32_id (z := (m : Int) + 1) (by omega) (by omega), ← m_s1]
    split <;> exact ih (m + 1) f _ (by omega) (by omega)
theorem c_bound {a u : Int} {h : q_F} {S : m_St} (hI : c_I h S) (hm : m_I S) : c_E (fn160 a u h) h S (fun k => k = 1 ∨ k = 3 ∨ k = 4) := by
  have r := (m_R0_ok hm.1.1).2.1
  unfold fn160
  refine c_axisQ (fun a0 a1 => ?_) (c_E_i hI (Or.inr (Or.inl rfl)))
  dsimp only
  rw [if_pos rfl]
  refine c_homedQ ?_ (c_E_i hI (Or.inr (Or.inr rfl)))
  dsimp only
  rw [if_pos rfl]
  exact c_boundl hI hm (Or.inl rfl) (S.w 4).toNat 0 q_fu _ (by omega) (by have := q_fu_ge; omega)
theorem c_nearl {x y z u : Int} {h : q_F} {n : Int} (e : h 13 1 = n) (hn : 0 ≤ n ∧ n ≤ 16) : ∀ (d m f : Nat) (b l : Int), m + d = n.toNat → d < f → ∃ v, fn151_9 13 h f x y z u b l m = some v := by
  intro d
  induction d with
  | zero =>
    intro m f b l hd hf
    obtain ⟨f, rfl⟩ : ∃ f', f = f' + 1 := ⟨f - 1, by omega⟩
    exact ⟨b, by rw [fn151_9, e, if_pos (by omega)]⟩
  | succ d ih =>
    intro m f b l hd hf
    obtain ⟨f, rfl⟩ : ∃ f', f = f' + 1 := ⟨f - 1, by omega⟩
    obtain ⟨v0, e0⟩ := c_T148 13 m 0 h
    obtain ⟨v1, e1⟩ := c_T148 13 m 1 h
    obtain ⟨v2, e2⟩ := c_T148 13 m 2 h
    rw [fn151_9, e, if_neg (by omega), e0, Option.bind_some, fn147, Option.bind_some, e1, Option.bind_some, fn147, Option.bind_some, e2, Option.bind_some, fn147, Option.bind_some, fn151_88, fn151_96, fn151_96, q_w32_id (z := (m : Int) + 1) (by omega) (by omega), ← m_s1]
    (repeat' split) <;> exact ih (m + 1) f _ _ (by omega) (by omega)
theorem c_near {x y z u : Int} {h : q_F} {S : m_St} (hI : c_I h S) (hm : m_I S) : ∃ v, fn151 13 x y z u h = some v := by
  have r := (m_R0_ok hm.1.1).2.1
  exact c_nearl hI.1.2.2.1 r (S.w 4).toNat 0 q_fu (-1) 0 (by omega) (by have := q_fu_ge; omega)
theorem c_nearest {x y z : Int} {h : q_F} {S : m_St} (hI : c_I h S) (hm : m_I S) : ∃ v, fn192 x y z h = some v := by
  obtain ⟨v, e⟩ := c_near (x := x) (y := y) (z := z) (u := 0) hI hm
  exact ⟨v, by rw [fn192, e, Option.bind_some]⟩
theorem c_nordl {i : Int} {h : q_F} {S : m_St} (hI : c_I h S) (hm : m_I S) : ∀ (d : Nat) (k : Int) (f : Nat) (u b : Int), 0 ≤ k → k + d = i → i ≤ 16 → d < f → c_E (fn193_76 f i u b k h) h S (fun k => k = 1 ∨ k = 5) := by
  intro d
  induction d with
  | zero =>
    intro k f u b hk hd h16 hf
    obtain ⟨f, rfl⟩ : ∃ f', f = f' + 1 := ⟨f - 1, by omega⟩
    rw [fn193_76, if_pos (by omega)]; exact c_E_i hI (Or.inl rfl)
  | succ d ih =>
    intro k f u b hk hd h16 hf
    obtain ⟨f, rfl⟩ : ∃ f', f = f' + 1 := ⟨f - 1, by omega⟩
    obtain ⟨v0, e0⟩ := c_T148 13 b 0 h
    obtain ⟨v1, e1⟩ := c_T148 13 b 1 h
    obtain ⟨v2, e2⟩ := c_T148 13 b 2 h
    obtain ⟨v, e⟩ := c_near (x := v0) (y := v1) (z := v2) (u := q_ior u (q_ishl 1 b)) hI hm
    rw [fn193_76, if_neg (by omega), e0, Option.bind_some, e1, Option.bind_some, e2, Option.bind_some, e, Option.bind_some, q_w32_id (by omega) (by omega)]
    exact ih (k + 1) f _ _ (by omega) (by omega) h16 (by omega)
theorem c_nord {i : Int} {h : q_F} {S : m_St} (hI : c_I h S) (hm : m_I S) : c_E (fn193 i h) h S (fun k => k = 1 ∨ k = 5) := by
  have r := (m_R0_ok hm.1.1).2.1
  have e4 : h 13 1 = S.w 4 := hI.1.2.2.1
  unfold fn193 fn193_18
  split
  · exact c_E_i hI (Or.inr rfl)
  · split
    · obtain ⟨v, e⟩ := c_near (x := h 7 12) (y := h 9 12) (z := h 11 12) (u := 0) hI hm
      rw [e, Option.bind_some]
      exact c_nordl hI hm i.toNat 0 q_fu _ _ (by omega) (by omega) (by omega) (by have := q_fu_ge; omega)
    · exact c_E_i hI (Or.inr rfl)
theorem c_Ld_m {h : q_F} {S : m_St} {m : Int} (hm : m_I S) (P : c_Plan h S.w) (h0 : 0 ≤ m) (h1 : m < S.w 4) : ∃ l, fn79 m h = some l ∧ 0 ≤ l ∧ l ≤ 2000 := by
  have ok := m_R0_ok hm.1.1
  have r := ok.2.1
  obtain ⟨n, rfl⟩ : ∃ k : Nat, m = k := ⟨m.toNat, by omega⟩
  have l := m_l_r ok (m := n) (by omega)
  exact ⟨_, c_lead (P.1.2 n (by omega)).1 (by omega), l.1, l.2.1⟩
theorem c_moveC {m v : Int} {h : q_F} {S : m_St} (hI : c_I h S) (hm : m_I S) : c_E (fn191 m v h) h S (fun k => k = 1 ∨ k = 2 ∨ k = 3) := by
  unfold fn191 fn191_15
  refine c_moveQ hI (fun m0 m1 => ?_) (c_E_i hI (Or.inr (Or.inr rfl)))
  dsimp only
  rw [if_pos rfl]
  split
  · exact c_E_i hI (Or.inr (Or.inl rfl))
  · split
    · refine c_planQ hI hm fun g I P L => ?_
      obtain ⟨l, e, l0, l1⟩ := c_Ld_m hm P m0 m1
      have key : ∃ x, fn88 m v g = some x := by
        obtain ⟨a1, b1⟩ := c_ent_t 130 16 m g
        obtain ⟨a2, b2⟩ := c_ent_t 131 16 m g
        obtain ⟨a3, b3⟩ := c_ent_t 134 17 m g
        obtain ⟨a4, b4⟩ := c_ent_t 134 17 (q_w32 (m + 1)) g
        obtain ⟨a5, b5⟩ := c_T76 e l1 2000 0 q_fu 0 (by omega) (by omega) (by omega) (by have := q_fu_ge; omega)
        obtain ⟨a6, b6⟩ := c_T77 (x := a5) e l1 2000 0 q_fu 0 (by omega) (by omega) (by omega) (by have := q_fu_ge; omega)
        obtain ⟨a7, b7⟩ := c_ent_t 132 16 m g
        unfold fn88
        rw [e, Option.bind_some, b1, Option.bind_some, b2, Option.bind_some, fn92, b3, Option.bind_some, Option.bind_some, fn94, b4, Option.bind_some, Option.bind_some, fn77, fn76, b5, Option.bind_some, Option.bind_some, b6, Option.bind_some, b7, Option.bind_some]
        (repeat' split) <;> exact ⟨_, rfl⟩
      obtain ⟨x, ex⟩ := key
      dsimp only
      rw [ex, Option.bind_some]; exact c_E_i I (Or.inl rfl)
    · exact c_E_i hI (Or.inr (Or.inl rfl))
theorem c_speed {m k : Int} {h : q_F} {S : m_St} (hI : c_I h S) (hm : m_I S) : c_E (fn216 m k h) h S (fun k => k = 1 ∨ k = 3 ∨ k = 5) := by
  unfold fn216 fn216_23
  refine c_moveQ hI (fun m0 m1 => ?_) (c_E_i hI (Or.inr (Or.inl rfl)))
  dsimp only
  rw [if_pos rfl]
  refine c_planQ hI hm fun g I P L => ?_
  obtain ⟨l, e⟩ := c_T79 m g
  obtain ⟨x, e2⟩ := c_T93 m k g
  dsimp only
  rw [e, Option.bind_some, e2, Option.bind_some]
  (repeat' split) <;> first | exact c_E_i I (Or.inl rfl) | exact c_E_i I (Or.inr (Or.inr rfl))
theorem c_steps169 (l k : Int) (h : q_F) : fn169 l k h = some (if 0 ≤ k ∧ k ≤ l then 0 else 2, 0, h) := by
  unfold fn169 fn169_9
  by_cases c1 : k < 0
  · rw [if_pos c1, if_neg (by omega)]
  · rw [if_neg c1]
    by_cases c2 : k ≤ l
    · rw [if_pos c2, if_pos (by omega)]
    · rw [if_neg c2, if_neg (by omega)]
theorem c_behind {m a k : Int} {h : q_F} {S : m_St} (hI : c_I h S) (hm : m_I S) : c_E (fn217 m a k h) h S (fun k => k = 1 ∨ k = 2 ∨ k = 3) := by
  unfold fn217
  refine c_moveQ hI (fun m0 m1 => ?_) (c_E_i hI (Or.inr (Or.inr rfl)))
  dsimp only
  rw [if_pos rfl]
  refine c_axisQ (fun a0 a1 => ?_) (c_E_i hI (Or.inr (Or.inr rfl)))
  dsimp only
  rw [if_pos rfl]
  refine c_planQ hI hm fun g I P L => ?_
  obtain ⟨l, e⟩ := c_T79 m g
  obtain ⟨x, e2⟩ := c_T83 m a k g
  dsimp only
  rw [e, Option.bind_some, c_steps169, Option.bind_some]
  by_cases c : 0 ≤ k ∧ k ≤ l
  · rw [if_pos c]; dsimp only; rw [if_pos rfl, e2, Option.bind_some]; exact c_E_i I (Or.inl rfl)
  · rw [if_neg c]; dsimp only; rw [if_neg (by decide), if_pos rfl]; exact c_E_i I (Or.inr (Or.inl rfl))
theorem c_pointAt {m a k : Int} {h : q_F} {S : m_St} (hI : c_I h S) (hm : m_I S) : c_E (fn196 m a k h) h S (fun k => k = 1 ∨ k = 2 ∨ k = 3) := by
  unfold fn196
  refine c_moveQ hI (fun m0 m1 => ?_) (c_E_i hI (Or.inr (Or.inr rfl)))
  dsimp only
  rw [if_pos rfl]
  refine c_axisQ (fun a0 a1 => ?_) (c_E_i hI (Or.inr (Or.inr rfl)))
  dsimp only
  rw [if_pos rfl]
  refine c_planQ hI hm fun g I P L => ?_
  obtain ⟨l, e⟩ := c_T79 m g
  obtain ⟨x, e2⟩ := c_T87 m a k g
  dsimp only
  rw [e, Option.bind_some, c_steps169, Option.bind_some]
  by_cases c : 0 ≤ k ∧ k ≤ l
  · rw [if_pos c]; dsimp only; rw [if_pos rfl, e2, Option.bind_some]; exact c_E_i I (Or.inl rfl)
  · rw [if_neg c]; dsimp only; rw [if_neg (by decide), if_pos rfl]; exact c_E_i I (Or.inr (Or.inl rfl))
theorem c_ramp {m v : Int} {h : q_F} {S : m_St} (hI : c_I h S) (hm : m_I S) : c_E (fn202 m v h) h S (fun k => k = 1 ∨ k = 3) := by
  unfold fn202
  refine c_moveQ hI (fun m0 m1 => ?_) (c_E_i hI (Or.inr rfl))
  dsimp only
  rw [if_pos rfl]
  refine c_planQ hI hm fun g I P L => ?_
  obtain ⟨l, e, l0, l1⟩ := c_Ld_m hm P m0 m1
  obtain ⟨x, e2⟩ := c_T70 (x := v) e l1 2000 1 q_fu 0 (by omega) (by omega) (by omega) (by have := q_fu_ge; omega)
  dsimp only
  rw [fn70, e2, Option.bind_some]; exact c_E_i I (Or.inl rfl)
theorem c_T81 {m : Int} {h : q_F} : ∀ (d a f : Nat) (x y : Int), a + d = 3 → d < f → ∃ v, fn81_8 6 h f m x y a = some v := by
  intro d
  induction d with
  | zero =>
    intro a f x y ha hf
    obtain ⟨f, rfl⟩ : ∃ f', f = f' + 1 := ⟨f - 1, by omega⟩
    exact ⟨x, by rw [fn81_8, if_pos (by omega)]⟩
  | succ d ih =>
    intro a f x y ha hf
    obtain ⟨f, rfl⟩ : ∃ f', f = f' + 1 := ⟨f - 1, by omega⟩
    obtain ⟨v, e⟩ := c_T73 m a h
    obtain ⟨l, e2⟩ := c_T79 m h
    obtain ⟨q, e3⟩ := c_T201 (q_w32 (h (q_axn 6 (a : Int)) 2 * l)) (qx_ab v) h
    rw [fn81_8, if_neg (by omega), e, Option.bind_some, e2, Option.bind_some, e3, Option.bind_some, fn81_64, fn81_71, fn81_71, q_w32_id (z := (a : Int) + 1) (by omega) (by omega), ← m_s1]
    (repeat' split) <;> exact ih (a + 1) f _ _ (by omega) (by omega)
theorem c_slowest {m : Int} {h : q_F} {S : m_St} (hI : c_I h S) (hm : m_I S) : c_E (fn215 m h) h S (fun k => k = 1 ∨ k = 3) := by
  unfold fn215
  refine c_moveQ hI (fun m0 m1 => ?_) (c_E_i hI (Or.inr rfl))
  dsimp only
  rw [if_pos rfl]
  refine c_planQ hI hm fun g I P L => ?_
  obtain ⟨x, e2⟩ := c_T81 (m := m) (h := g) 3 0 q_fu (-1) 0 (by omega) (by have := q_fu_ge; omega)
  have e3 : fn81 6 m g = some x := e2
  dsimp only
  rw [e3, Option.bind_some]; exact c_E_i I (Or.inl rfl)
theorem c_travell {a : Int} {h : q_F} {S : m_St} (hI : c_I h S) (L : c_Ld h) : ∀ (d m f : Nat) (u : Int), m + d = (h 125 9).toNat → d < f → c_E (fn224_15 f a u m h) h S (fun k => k = 1 ∨ k = 3) := by
  obtain ⟨l1, l2, -⟩ := L
  intro d
  induction d with
  | zero =>
    intro m f u hd hf
    obtain ⟨f, rfl⟩ : ∃ f', f = f' + 1 := ⟨f - 1, by omega⟩
    rw [fn224_15, if_pos (by omega)]; exact c_E_i hI (Or.inl rfl)
  | succ d ih =>
    intro m f u hd hf
    obtain ⟨f, rfl⟩ : ∃ f', f = f' + 1 := ⟨f - 1, by omega⟩
    obtain ⟨v, e⟩ := c_T73 m a h
    rw [fn224_15, if_neg (by omega), e, Option.bind_some, q_w32_id (z := (m : Int) + 1) (by omega) (by omega), ← m_s1]
    exact ih (m + 1) f _ (by omega) (by omega)
theorem c_travel {a : Int} {h : q_F} {S : m_St} (hI : c_I h S) (hm : m_I S) : c_E (fn224 a h) h S (fun k => k = 1 ∨ k = 3) := by
  unfold fn224
  refine c_axisQ (fun a0 a1 => ?_) (c_E_i hI (Or.inr rfl))
  dsimp only
  rw [if_pos rfl]
  refine c_planQ hI hm fun g I P L => ?_
  exact c_travell I L (g 125 9).toNat 0 q_fu 0 (by omega) (by have := q_fu_ge; have := L.2.1; omega)
theorem c_turnsl {a : Int} {h : q_F} {S : m_St} (hI : c_I h S) (L : c_Ld h) : ∀ (d m f : Nat) (u : Int), m + d = (h 125 9).toNat → d < f → c_E (fn227_15 f a u m h) h S (fun k => k = 1 ∨ k = 3) := by
  obtain ⟨l1, l2, -⟩ := L
  intro d
  induction d with
  | zero =>
    intro m f u hd hf
    obtain ⟨f, rfl⟩ : ∃ f', f = f' + 1 := ⟨f - 1, by omega⟩
    rw [fn227_15, if_pos (by omega)]; exact c_E_i hI (Or.inl rfl)
  | succ d ih =>
    intro m f u hd hf
    obtain ⟨f, rfl⟩ : ∃ f', f = f' + 1 := ⟨f - 1, by omega⟩
    obtain ⟨v, e⟩ := c_T100 m a h
    rw [fn227_15, if_neg (by omega), e, Option.bind_some, fn227_40, fn227_40, q_w32_id (z := (m : Int) + 1) (by omega) (by omega), ← m_s1]
    split <;> exact ih (m + 1) f _ (by omega) (by omega)
theorem c_turnsA {a : Int} {h : q_F} {S : m_St} (hI : c_I h S) (hm : m_I S) : c_E (fn227 a h) h S (fun k => k = 1 ∨ k = 3) := by
  unfold fn227
  refine c_axisQ (fun a0 a1 => ?_) (c_E_i hI (Or.inr rfl))
  dsimp only
  rw [if_pos rfl]
  refine c_planQ hI hm fun g I P L => ?_
  exact c_turnsl I L (g 125 9).toNat 0 q_fu 0 (by omega) (by have := q_fu_ge; have := L.2.1; omega)
theorem c_lasts {m : Int} {h : q_F} {S : m_St} (hI : c_I h S) (hm : m_I S) : c_E (fn185 m h) h S (fun k => k = 1 ∨ k = 3) := by
  have r := (m_R0_ok hm.1.1).2.1
  unfold fn185
  refine c_moveQ hI (fun m0 m1 => ?_) (c_E_i hI (Or.inr rfl))
  dsimp only
  rw [if_pos rfl]
  refine c_planQ hI hm fun g I P L => ?_
  obtain ⟨x, e2⟩ := c_T99f (x := m) L (by omega)
  dsimp only
  rw [e2, Option.bind_some]; exact c_E_i I (Or.inl rfl)
theorem c_T129 (a : Int) (h : q_F) (o : Nat) : ∃ v, fn129 6 o a h = some v := by
  unfold fn129
  split
  · exact ⟨_, rfl⟩
  · obtain ⟨v, e⟩ := c_T148 o (q_w32 (h o 1 - 1)) a h
    rw [e, Option.bind_some]; exact ⟨_, rfl⟩
theorem c_wherel {a : Int} {h : q_F} {S : m_St} {Q : Nat → Prop} (hI : c_I h S) (L : c_Ld h) (h1 : Q 1) : ∀ (d m f : Nat) (t : Int), m + d = (h 125 9).toNat → d < f → c_E (fn230_37 f a t m h) h S Q := by
  obtain ⟨l1, l2, l3⟩ := L
  intro d
  induction d with
  | zero =>
    intro m f t hd hf
    obtain ⟨f, rfl⟩ : ∃ f', f = f' + 1 := ⟨f - 1, by omega⟩
    obtain ⟨v, e⟩ := c_T129 a h 13
    rw [fn230_37, if_pos (by omega), e, Option.bind_some]; exact c_E_i hI h1
  | succ d ih =>
    intro m f t hd hf
    obtain ⟨f, rfl⟩ : ∃ f', f = f' + 1 := ⟨f - 1, by omega⟩
    obtain ⟨l, e1, e2, e3⟩ := l3 m (by omega)
    obtain ⟨x, ex⟩ := c_T71 m h
    obtain ⟨y, ey⟩ := c_T96 e1 e3
    rw [fn230_37, if_neg (by omega), ex, Option.bind_some, ey, Option.bind_some]
    split
    · rw [q_w32_id (z := (m : Int) + 1) (by omega) (by omega), ← m_s1]
      exact ih (m + 1) f _ (by omega) (by omega)
    · obtain ⟨z, ez⟩ := c_T97 e1 e3 2000 0 q_fu (q_w64 (t - x)) (by omega) (by omega) (by omega) (by have := q_fu_ge; omega)
      obtain ⟨w, ew⟩ := c_T87 m a z h
      rw [Option.bind_some, fn97, ez, Option.bind_some, ew, Option.bind_some]; exact c_E_i hI h1
theorem c_where {a t : Int} {h : q_F} {S : m_St} (hI : c_I h S) (hm : m_I S) : c_E (fn230 a t h) h S (fun k => k = 1 ∨ k = 2 ∨ k = 3 ∨ k = 4) := by
  unfold fn230
  refine c_axisQ (fun a0 a1 => ?_) (c_E_i hI (Or.inr (Or.inr (Or.inl rfl))))
  dsimp only
  rw [if_pos rfl]
  split
  · refine c_homedQ ?_ (c_E_i hI (Or.inr (Or.inr (Or.inr rfl))))
    dsimp only
    rw [if_pos rfl]
    refine c_planQ hI hm fun g I P L => ?_
    exact c_wherel I L (Or.inl rfl) (g 125 9).toNat 0 q_fu t (by omega) (by have := q_fu_ge; have := L.2.1; omega)
  · exact c_E_i hI (Or.inr (Or.inl rfl))
end -- [91.cask]
section -- [92.cthink]
/-! Part 92: what the class goes through in thought; printing. -/
theorem c_F_24 {h h' : q_F} (f : c_ft 24 h h') : c_F h h' := fun k hk => f k (by omega)
theorem c_I_24 {h h' : q_F} {S : m_St} (hI : c_I h S) (hn : S.n ≤ 10) (f : c_ft 24 h h') : c_I h' S := c_I_k hI hn (fun k hk => f k (by omega)) (by rw [f 0 (by omega)])
theorem c_fore {h : q_F} {S : m_St} (hI : c_I h S) (hm : m_I S) : ∃ h', fn179 h = some (0, h') ∧ c_I h' S ∧ c_F h h' := by
  have ok := m_R0_ok hm.1.1
  have r := ok.2.1
  obtain ⟨h1, a1, a2, a3⟩ := c_copy (t := 24) (t1 := 6) (by omega) hI.1 r
  have f2 : c_ft 24 h (q_ud h1 24 6 0) := c_ft_u a3 (by omega) (by omega)
  have tb : c_tb (q_ud h1 24 6 0) 24 (m_u S.w 2 0) := c_tb_u (j := 6) (by omega) a2
  have I2 := c_I_24 hI hm.2.1.1 f2
  obtain ⟨h3, b1, b2, b3, b4⟩ := c_planned I2 hm
  have tb3 : c_tb h3 24 (m_u S.w 2 0) := c_tb_k tb fun k k1 k2 => b3 k (by omega)
  have e4 : h3 13 1 = S.w 4 := b4.1.2.2.1
  obtain ⟨h4, d1, d2, d3, d4⟩ := c_mk (t := 24) (n := (S.w 4).toNat) (p := S.w) (by omega) ok hm.1.2 (by omega) (S.w 4).toNat 0 q_fu h3 (m_u S.w 2 0) (by omega) (by have := q_fu_ge; omega) ⟨tb3, b2, m_a3_u hm.1.1.2 (by omega), ⟨m_ok_row (m_u_ok ok (by omega)), m_u_n (by omega)⟩, Or.inl (m_u_s _ _ _)⟩ ⟨by rw [m_u_n (by omega)]; exact ok.1, fun a ha => by rw [m_u_n (by omega)]; unfold m_beg; rw [if_pos rfl], fun j hj => m_u_n (by omega)⟩
  refine ⟨h4, ?_, c_I_24 b4 hm.2.1.1 d3, c_F_t (c_F_24 f2) (c_F_t (c_F_fp b3) (c_F_24 d3))⟩
  rw [fn179, a1, Option.bind_some, m_let, b1, Option.bind_some]
  dsimp only
  rw [e4, show S.w 4 = ((S.w 4).toNat : Int) by omega]
  have d5 : fn138 24 ((S.w 4).toNat : Int) h3 = some ((m_mk S.w (S.w 4).toNat (S.w 4).toNat 0 (m_u S.w 2 0)).1, h4) := d1
  rw [d5, Option.bind_some]
theorem c_trueB {a : Int} {h : q_F} {S : m_St} (hI : c_I h S) (hm : m_I S) : c_E (fn225 a h) h S (fun k => k = 1 ∨ k = 3) := by
  unfold fn225
  refine c_axisQ (fun a0 a1 => ?_) (c_E_i hI (Or.inr rfl))
  obtain ⟨h', x1, x2, x3⟩ := c_fore hI hm
  dsimp only
  rw [if_pos rfl, x1, Option.bind_some]
  exact c_E_t x3 (c_E_i x2 (Or.inl rfl))
theorem c_wErr {a : Int} {h : q_F} {S : m_St} (hI : c_I h S) (hm : m_I S) : c_E (fn231 a h) h S (fun k => k = 1 ∨ k = 3 ∨ k = 4) := by
  unfold fn231
  refine c_axisQ (fun a0 a1 => ?_) (c_E_i hI (Or.inr (Or.inl rfl)))
  dsimp only
  rw [if_pos rfl]
  refine c_homedQ ?_ (c_E_i hI (Or.inr (Or.inr rfl)))
  obtain ⟨h', x1, x2, x3⟩ := c_fore hI hm
  dsimp only
  rw [if_pos rfl, x1, Option.bind_some, fn47, Option.bind_some]
  exact c_E_t x3 (c_E_i x2 (Or.inl rfl))
theorem c_wLose {h : q_F} {S : m_St} (hI : c_I h S) (hm : m_I S) : c_W (fn233 h) h S := by
  obtain ⟨h', x1, x2, x3⟩ := c_fore hI hm
  unfold fn233
  rw [fn136, Option.bind_some, x1, Option.bind_some, fn136, Option.bind_some]
  exact ⟨_, h', rfl, x2, x3⟩
theorem q_T24 : q_isT 24 := by unfold q_isT; decide
theorem c_wHome {a : Int} {h : q_F} {S : m_St} (hI : c_I h S) (hm : m_I S) (h5 : q_r64 (S.w 5)) : c_E (fn232 a h) h S (fun k => k = 1 ∨ k = 3) := by
  have ok := m_R0_ok hm.1.1
  unfold fn232
  refine c_axisQ (fun a0 a1 => ?_) (c_E_i hI (Or.inr rfl))
  obtain ⟨n, hn, rfl⟩ := m_ax_n ⟨a0, a1⟩
  obtain ⟨h1, x1, x2, x3⟩ := c_copy (t := 24) (t1 := 6) (by omega) hI.1 ok.2.1
  obtain ⟨h2, b1, b2, b3, b4⟩ := c_home q_T24 hn x2 ok hm.1.1.2 h5
  dsimp only
  rw [if_pos rfl, x1, Option.bind_some, b1, Option.bind_some]
  exact c_E_t (c_F_24 (c_ft_t x3 b3)) (c_E_i (c_I_24 hI hm.2.1.1 (c_ft_t x3 b3)) (Or.inl rfl))
/-- a path laid beside a row -/
theorem c_src_p {h : q_F} {S : m_St} {p : Nat → Int} (hI : c_I h S) (hp : c_pt h 135 p) (e : ∀ j, 1 ≤ j → j < 74 → j ≠ 4 → p j = S.w j) : c_src h 6 135 p := by
  obtain ⟨s1, s2, -, -⟩ := c_src_tb hI.1
  refine ⟨fun a ha => ?_, ?_, hp.1, hp.2⟩
  · obtain ⟨x1, x2, x3, x4, x5⟩ := s1 a ha
    refine ⟨?_, ?_, ?_, ?_, ?_⟩
    · rw [x1, e _ (by omega) (by omega) (by omega)]
    · rw [x2, e _ (by omega) (by omega) (by omega)]
    · rw [x3, e _ (by omega) (by omega) (by omega)]
    · rw [x4, e _ (by omega) (by omega) (by omega)]
    · rw [x5, e _ (by omega) (by omega) (by omega)]
  · rw [s2, e 1 (by omega) (by omega) (by omega)]
theorem c_I_fp {h h' : q_F} {S : m_St} (hI : c_I h S) (hn : S.n ≤ 10) (f : c_fp h h') : c_I h' S := c_I_k hI hn (fun k hk => f k (by omega)) (by rw [f 0 (by omega)])
/-- a path's plan and its time -/
theorem c_ptime {h : q_F} {S : m_St} {p : Nat → Int} (hI : c_I h S) (hm : m_I S) (hp : c_pt h 135 p) (e : ∀ j, j < 74 → j ≠ 4 → p j = S.w j) (R : m_R0 p) (nn : m_nn p) : ∃ h' v, fn84 6 135 (h 6 4) h = some (0, h') ∧ fn102 h' = some v ∧ c_I h' S ∧ c_F h h' ∧ ∀ k, k < 125 ∨ 134 < k → h' k = h k := by
  have e0 : h 6 4 = p 0 := by rw [e 0 (by omega) (by omega)]; exact hI.1.2.1.1
  obtain ⟨h', g1, g2, g3⟩ := c_make (t := 6) (g := 135) (by omega) (by omega) (m_R0_ok R) nn (c_src_p hI hp fun j h1 h2 h3 => e j h2 h3)
  obtain ⟨v, ev⟩ := c_T102 (c_Ld_P (m_R0_ok R) g2)
  exact ⟨h', v, by rw [e0]; exact g1, ev, c_I_fp hI hm.2.1.1 g3, c_F_fp g3, g3⟩
theorem c_clearP {h : q_F} {w : Nat → Int} (h4 : w 4 = 0) : c_pt (q_ud h 135 1 0) 135 w := ⟨by rw [q_ud_s]; exact h4.symm, fun j hj => by rw [h4] at hj; exact absurd hj (by omega)⟩
theorem c_stTime {x y z : Int} {h : q_F} {S : m_St} (hI : c_I h S) (hm : m_I S) : c_E (fn219 x y z h) h S (fun k => k = 1 ∨ k = 2 ∨ k = 4) := by
  unfold fn219
  rw [c_point x y z hI, Option.bind_some]
  by_cases cp : m_point x y z S.w
  · rw [if_pos cp]; dsimp only; rw [if_pos rfl, fn161, c_homed hI hm, Option.bind_some]
    by_cases c3 : 3 ≤ S.w 41 + S.w 42 + S.w 43
    · rw [if_pos c3, Option.bind_some]; dsimp only; rw [if_pos rfl, fn143, m_let, Option.bind_some]
      dsimp only
      have p := m_pt_r hm cp
      have R1 : m_R0 (m_u S.w 4 0) := m_R0_v hm.1.1 (m_pv_4 (by omega)) (by omega)
      have e4 : m_u S.w 4 0 4 = 0 := m_u_s _ _ _
      have R2 : m_R0 (m_put 0 x y z (m_u S.w 4 0)) := m_R0_put R1 (by omega) (by omega) p.1 p.2.1 p.2.2
      have f1 : c_fo 135 h (q_ud h 135 1 0) := c_fo_u c_fo_r (Or.inl rfl)
      obtain ⟨h2, b1, b2, b3⟩ := c_pput (i := 0) (x := x) (y := y) (z := z) (c_clearP (h := h) e4) (by omega) (by omega)
      have f := c_fo_t f1 b3
      have I2 := c_I_path hI hm.2.1.1 f
      have ep : ∀ j, j < 74 → j ≠ 4 → m_put 0 x y z (m_u S.w 4 0) j = S.w j := fun j h1 h2 => by rw [m_put_lo h1 h2, m_u_n h2]
      have r2 := (m_R0_ok R2).2.1
      have b0 : fn150 135 0 x y z (q_ud h 135 1 0) = some (0, h2) := b1
      rw [b0, Option.bind_some]
      dsimp only
      obtain ⟨q, q1, q2⟩ := c_nw (t := 6) b2 r2 (fun a ha => by rw [ep _ (by omega) (by omega)]; exact (I2.1.1 a ha).1 12 (by omega))
      rw [q1, Option.bind_some]
      rcases q2 with ⟨rfl, nn⟩ | ⟨rfl, nn⟩
      · obtain ⟨h3, v, d1, d2, d3, d4, -⟩ := c_ptime I2 hm b2 ep R2 nn
        rw [if_pos rfl, d1, Option.bind_some, d2, Option.bind_some]
        exact c_E_t (c_F_t (c_F_path f) d4) (c_E_i d3 (Or.inl rfl))
      · rw [if_neg (by decide)]
        exact c_E_t (c_F_path f) (c_E_i I2 (Or.inl rfl))
    · rw [if_neg c3, Option.bind_some]; dsimp only; rw [if_neg (by decide), if_pos rfl]
      exact c_E_i hI (Or.inr (Or.inr rfl))
  · rw [if_neg cp]; dsimp only; rw [if_neg (by decide), if_pos rfl]
    exact c_E_i hI (Or.inr (Or.inl rfl))
/-- the path as it grows -/
def c_Pa (h : q_F) (S : m_St) (n : Nat) : Prop := ∃ p, c_pt h 135 p ∧ (∀ j, j < 74 → j ≠ 4 → p j = S.w j) ∧ m_R0 p ∧ m_nn p ∧ p 4 ≤ n
theorem c_end {h : q_F} {S : m_St} {p : Nat → Int} {a : Nat} (ha : a < 3) (hI : c_I h S) (hp : c_pt h 135 p) (e : ∀ j, j < 74 → j ≠ 4 → p j = S.w j) (r : 0 ≤ p 4 ∧ p 4 ≤ 16) : fn129 6 135 a h = some (m_beg p (p 4).toNat a) := by
  unfold fn129
  rw [hp.1]
  by_cases c : p 4 ≤ 0
  · rw [if_pos c, q_axn_e ha, (hI.1.1 a ha).1 12 (by omega), show (p 4).toNat = 0 by omega]
    unfold m_beg
    rw [if_pos rfl, e _ (by omega) (by omega)]; rfl
  · rw [if_neg c, q_w32_id (by omega) (by omega), show p 4 - 1 = (((p 4).toNat - 1 : Nat) : Int) by omega, c_pget hp r.2 (by omega) ha, Option.bind_some, show (p 4).toNat - 1 + 1 = (p 4).toNat by omega]
theorem c_addl {h : q_F} {S : m_St} {p : Nat → Int} {m : Nat} (hI : c_I h S) (hm : m_I S) (h4 : (m : Int) < S.w 4) (hp : c_pt h 135 p) (e : ∀ j, j < 74 → j ≠ 4 → p j = S.w j) (r : 0 ≤ p 4 ∧ p 4 ≤ 16) (a f : Nat) (x : Int) (ha : a < 3) (hx : x = 0 ∨ x = 1) :
    fn123_5 6 135 (f + 1) m x a h = fn123_5 6 135 f m (if x = 0 then 0 else if m_beg p (p 4).toNat a = m_beg S.w (m + 1) a then 1 else 0) ((a + 1 : Nat) : Int) h := by
  have r2 := (m_R0_ok hm.1.1).2.1
  have hp2 : c_pt h 13 S.w := ⟨hI.1.2.2.1, hI.1.2.2.2⟩
  rw [fn123_5, if_neg (by omega), fn123_39, fn123_40, fn123_40, q_w32_id (z := (a : Int) + 1) (by omega) (by omega), ← m_s1]
  rcases hx with rfl | rfl
  · rw [if_pos rfl, if_pos rfl]
  · rw [if_neg (by decide), if_neg (by decide), c_end ha hI hp e r, Option.bind_some, show 6 + 7 = 13 from rfl, c_pget hp2 r2.2 h4 ha, Option.bind_some]
    split <;> rfl
theorem c_add {h : q_F} {S : m_St} {m n : Nat} (hI : c_I h S) (hm : m_I S) (h4 : (m : Int) < S.w 4) (hP : c_Pa h S n) (hn : n < 16) : ∃ h', fn123 6 135 m h = some (0, h') ∧ c_I h' S ∧ c_F h h' ∧ c_Pa h' S (n + 1) := by
  obtain ⟨p, hp, e, R, nn, pn⟩ := hP
  have ok := m_R0_ok hm.1.1
  have r2 := ok.2.1
  have r := (m_R0_ok R).2.1
  obtain ⟨k, ek⟩ := m_fu3
  have g0 := c_addl hI hm h4 hp e r 0 (k + 1 + 1 + 1) 1 (by omega) (Or.inr rfl)
  rw [if_neg (by decide)] at g0
  have z0 : (if m_beg p (p 4).toNat 0 = m_beg S.w (m + 1) 0 then (1 : Int) else 0) = 0 ∨ (if m_beg p (p 4).toNat 0 = m_beg S.w (m + 1) 0 then (1 : Int) else 0) = 1 := by split <;> simp
  rw [c_addl hI hm h4 hp e r (0 + 1) (k + 1 + 1) _ (by omega) z0] at g0
  have z1 : ∀ x : Int, (if x = 0 then (0 : Int) else if m_beg p (p 4).toNat (0 + 1) = m_beg S.w (m + 1) (0 + 1) then 1 else 0) = 0 ∨ (if x = 0 then (0 : Int) else if m_beg p (p 4).toNat (0 + 1) = m_beg S.w (m + 1) (0 + 1) then 1 else 0) = 1 := fun x => by (repeat' split) <;> simp
  rw [c_addl hI hm h4 hp e r (0 + 1 + 1) (k + 1) _ (by omega) (z1 _), m_nest] at g0
  have g1 : fn123 6 135 m h = fn123_5 6 135 (k + 1) m (if m_beg p (p 4).toNat 0 = m_beg S.w (m + 1) 0 ∧ m_beg p (p 4).toNat (0 + 1) = m_beg S.w (m + 1) (0 + 1) ∧ m_beg p (p 4).toNat (0 + 1 + 1) = m_beg S.w (m + 1) (0 + 1 + 1) then 1 else 0) ((0 + 1 + 1 + 1 : Nat) : Int) h := by
    rw [fn123, ek]; exact g0
  rw [g1, fn123_5, if_pos (by omega)]
  have hp2 : c_pt h 13 S.w := ⟨hI.1.2.2.1, hI.1.2.2.2⟩
  by_cases same : m_beg p (p 4).toNat 0 = m_beg S.w (m + 1) 0 ∧ m_beg p (p 4).toNat (0 + 1) = m_beg S.w (m + 1) (0 + 1) ∧ m_beg p (p 4).toNat (0 + 1 + 1) = m_beg S.w (m + 1) (0 + 1 + 1)
  · rw [if_pos same, if_neg (by decide)]
    exact ⟨h, rfl, hI, c_F_r, p, hp, e, R, nn, by omega⟩
  · have t0 := m_beg_r ok (m := m + 1) (a := 0) (by omega) (by omega)
    have t1 := m_beg_r ok (m := m + 1) (a := 1) (by omega) (by omega)
    have t2 := m_beg_r ok (m := m + 1) (a := 2) (by omega) (by omega)
    have c0 : fn148 13 m 0 h = some (m_beg S.w (m + 1) 0) := c_pget (a := 0) hp2 r2.2 h4 (by omega)
    have c1 : fn148 13 m 1 h = some (m_beg S.w (m + 1) 1) := c_pget (a := 1) hp2 r2.2 h4 (by omega)
    have c2 : fn148 13 m 2 h = some (m_beg S.w (m + 1) 2) := c_pget (a := 2) hp2 r2.2 h4 (by omega)
    rw [if_neg same, if_pos rfl, show 6 + 7 = 13 from rfl, c0, Option.bind_some, c1, Option.bind_some, c2, Option.bind_some]
    obtain ⟨h', b1, b2, b3⟩ := c_pput (i := (p 4).toNat) (x := m_beg S.w (m + 1) 0) (y := m_beg S.w (m + 1) 1) (z := m_beg S.w (m + 1) 2) hp (by omega) (by omega)
    rw [show (((p 4).toNat : Nat) : Int) = p 4 by omega] at b1
    have e4 : m_put (p 4).toNat (m_beg S.w (m + 1) 0) (m_beg S.w (m + 1) 1) (m_beg S.w (m + 1) 2) p 4 = p 4 + 1 := by unfold m_put; rw [m_u_s]
    rw [hp.1, b1, Option.bind_some]
    refine ⟨h', rfl, c_I_path hI hm.2.1.1 b3, c_F_path b3, _, b2, fun j h1 h2 => by rw [m_put_lo h1 h2, e j h1 h2], m_R0_put R (by omega) (by omega) t0 t1 t2, fun i hi => ?_, by rw [e4]; omega⟩
    rw [e4] at hi
    have lo : ∀ q a, q ≤ (p 4).toNat → a < 3 → m_beg (m_put (p 4).toNat (m_beg S.w (m + 1) 0) (m_beg S.w (m + 1) 1) (m_beg S.w (m + 1) 2) p) q a = m_beg p q a := fun q a hq ha => by
      unfold m_beg
      split
      · exact m_put_lo (by omega) (by omega)
      · unfold m_put; rw [m_u_n (by omega), m_u_n (by omega), m_u_n (by omega), m_u_n (by omega)]; unfold m_cp; rw [if_neg (by omega)]
    by_cases ei : i < (p 4).toNat
    · have := nn i (by omega)
      unfold m_mv m_d at this ⊢
      rw [lo _ _ (by omega) (by omega), lo _ _ (by omega) (by omega), lo _ _ (by omega) (by omega), lo _ _ (by omega) (by omega), lo _ _ (by omega) (by omega), lo _ _ (by omega) (by omega)]
      exact this
    · obtain rfl : i = (p 4).toNat := by omega
      have hi0 : m_beg (m_put (p 4).toNat (m_beg S.w (m + 1) 0) (m_beg S.w (m + 1) 1) (m_beg S.w (m + 1) 2) p) ((p 4).toNat + 1) 0 = m_beg S.w (m + 1) 0 := by
        rw [show m_beg (m_put (p 4).toNat (m_beg S.w (m + 1) 0) (m_beg S.w (m + 1) 1) (m_beg S.w (m + 1) 2) p) ((p 4).toNat + 1) 0 = m_put (p 4).toNat (m_beg S.w (m + 1) 0) (m_beg S.w (m + 1) 1) (m_beg S.w (m + 1) 2) p (74 + 3 * (p 4).toNat) by unfold m_beg; rw [if_neg (by omega)]; rfl]
        unfold m_put; rw [m_u_n (by omega), m_u_n (by omega), m_u_n (by omega), m_u_s]
      have hi1 : m_beg (m_put (p 4).toNat (m_beg S.w (m + 1) 0) (m_beg S.w (m + 1) 1) (m_beg S.w (m + 1) 2) p) ((p 4).toNat + 1) 1 = m_beg S.w (m + 1) 1 := by
        rw [show m_beg (m_put (p 4).toNat (m_beg S.w (m + 1) 0) (m_beg S.w (m + 1) 1) (m_beg S.w (m + 1) 2) p) ((p 4).toNat + 1) 1 = m_put (p 4).toNat (m_beg S.w (m + 1) 0) (m_beg S.w (m + 1) 1) (m_beg S.w (m + 1) 2) p (74 + 3 * (p 4).toNat + 1) by unfold m_beg; rw [if_neg (by omega)]; rfl]
        unfold m_put; rw [m_u_n (by omega), m_u_n (by omega), m_u_s]
      have hi2 : m_beg (m_put (p 4).toNat (m_beg S.w (m + 1) 0) (m_beg S.w (m + 1) 1) (m_beg S.w (m + 1) 2) p) ((p 4).toNat + 1) 2 = m_beg S.w (m + 1) 2 := by
        rw [show m_beg (m_put (p 4).toNat (m_beg S.w (m + 1) 0) (m_beg S.w (m + 1) 1) (m_beg S.w (m + 1) 2) p) ((p 4).toNat + 1) 2 = m_put (p 4).toNat (m_beg S.w (m + 1) 0) (m_beg S.w (m + 1) 1) (m_beg S.w (m + 1) 2) p (74 + 3 * (p 4).toNat + 2) by unfold m_beg; rw [if_neg (by omega)]; rfl]
        unfold m_put; rw [m_u_n (by omega), m_u_s]
      rw [m_mv_beg, hi0, hi1, hi2, lo _ _ (by omega) (by omega), lo _ _ (by omega) (by omega), lo _ _ (by omega) (by omega)]
      exact same
theorem c_arrl {S : m_St} {x : Int} (hm : m_I S) : ∀ (d m f n : Nat) (h : q_F), m + d = (S.w 4).toNat → d < f → c_I h S → c_Pa h S n → n + d ≤ 16 + (if 0 ≤ x ∧ (m : Int) ≤ x ∧ x < S.w 4 then 1 else 0) → ∃ h' n', fn124_12 6 135 f x m h = some (0, h') ∧ c_I h' S ∧ c_F h h' ∧ c_Pa h' S n' := by
  have r := (m_R0_ok hm.1.1).2.1
  intro d
  induction d with
  | zero =>
    intro m f n h hd hf hI hP hn
    obtain ⟨f, rfl⟩ : ∃ f', f = f' + 1 := ⟨f - 1, by omega⟩
    exact ⟨h, n, by rw [fn124_12, show 6 + 7 = 13 from rfl, hI.1.2.2.1, if_pos (by omega)], hI, c_F_r, hP⟩
  | succ d ih =>
    intro m f n h hd hf hI hP hn
    obtain ⟨f, rfl⟩ : ∃ f', f = f' + 1 := ⟨f - 1, by omega⟩
    rw [fn124_12, show 6 + 7 = 13 from rfl, hI.1.2.2.1, if_neg (by omega), fn124_34, q_w32_id (z := (m : Int) + 1) (by omega) (by omega), ← m_s1]
    by_cases c : (m : Int) = x
    · rw [if_pos c]
      exact ih (m + 1) f n h (by omega) (by omega) hI hP (by split at hn <;> split <;> omega)
    · rw [if_neg c]
      obtain ⟨h1, a1, a2, a3, a4⟩ := c_add (m := m) hI hm (by omega) hP (by split at hn <;> omega)
      obtain ⟨h2, n2, b1, b2, b3, b4⟩ := ih (m + 1) f (n + 1) h1 (by omega) (by omega) a2 a4 (by split at hn <;> split <;> omega)
      exact ⟨h2, n2, by rw [a1, Option.bind_some, fn124_34, q_w32_id (z := (m : Int) + 1) (by omega) (by omega), ← m_s1, b1], b2, c_F_t a3 b3, b4⟩
theorem c_arr {h : q_F} {S : m_St} {x : Nat} (hI : c_I h S) (hm : m_I S) (hx : (x : Int) < S.w 4) : ∃ h' n', fn124 6 135 x h = some (0, h') ∧ c_I h' S ∧ c_F h h' ∧ c_Pa h' S n' := by
  have r := (m_R0_ok hm.1.1).2.1
  have e4 : m_u S.w 4 0 4 = 0 := m_u_s _ _ _
  have f1 : c_fo 135 h (q_ud h 135 1 0) := c_fo_u c_fo_r (Or.inl rfl)
  have P0 : c_Pa (q_ud h 135 1 0) S 0 := ⟨m_u S.w 4 0, c_clearP e4, fun j h1 h2 => m_u_n h2, m_R0_v hm.1.1 (m_pv_4 (by omega)) (by omega), m_nn_0 e4, by rw [e4]; omega⟩
  obtain ⟨h1, a1, a2, a3, a4⟩ := c_add (m := x) (c_I_path hI hm.2.1.1 f1) hm hx P0 (by omega)
  obtain ⟨h2, n2, b1, b2, b3, b4⟩ := c_arrl (x := x) hm (S.w 4).toNat 0 q_fu 1 h1 (by omega) (by have := q_fu_ge; omega) a2 a4 (by rw [if_pos (by omega)]; omega)
  refine ⟨h2, n2, ?_, b2, c_F_t (c_F_path f1) (c_F_t a3 b3), b4⟩
  rw [fn124, fn143, m_let, Option.bind_some]
  dsimp only
  rw [a1, Option.bind_some]
  exact b1
theorem c_bestFl {S : m_St} (hm : m_I S) : ∀ (d m f : Nat) (b l : Int) (h : q_F), m + d = (S.w 4).toNat → d < f → c_I h S → c_W (fn158_7 f b l m h) h S := by
  have r := (m_R0_ok hm.1.1).2.1
  intro d
  induction d with
  | zero =>
    intro m f b l h hd hf hI
    obtain ⟨f, rfl⟩ : ∃ f', f = f' + 1 := ⟨f - 1, by omega⟩
    rw [fn158_7, hI.1.2.2.1, if_pos (by omega)]; exact c_W_i hI
  | succ d ih =>
    intro m f b l h hd hf hI
    obtain ⟨f, rfl⟩ : ∃ f', f = f' + 1 := ⟨f - 1, by omega⟩
    obtain ⟨h1, n1, a1, a2, a3, p, hp, e, R, nn, -⟩ := c_arr (x := m) hI hm (by omega)
    obtain ⟨h3, v, d1, d2, d3, d4, -⟩ := c_ptime a2 hm hp e R nn
    rw [fn158_7, hI.1.2.2.1, if_neg (by omega), a1, Option.bind_some]
    dsimp only
    rw [d1, Option.bind_some]
    dsimp only
    rw [d2, Option.bind_some, fn158_77, fn158_83, fn158_83, q_w32_id (z := (m : Int) + 1) (by omega) (by omega), ← m_s1]
    (repeat' split) <;> exact c_W_t (c_F_t a3 d4) (ih (m + 1) f _ _ h3 (by omega) (by omega) d3)
theorem c_bestF {h : q_F} {S : m_St} (hI : c_I h S) (hm : m_I S) : c_W (fn158 h) h S := by
  have r := (m_R0_ok hm.1.1).2.1
  exact c_bestFl hm (S.w 4).toNat 0 q_fu (-1) 0 h (by omega) (by have := q_fu_ge; omega) hI
theorem c_bestSl {S : m_St} (hm : m_I S) : ∀ (d k f : Nat) (b l : Int) (h : q_F), k + d = 21 → 1 ≤ k → d < f → c_I h S → c_E (fn159_31 f b l (50 * (k : Int)) h) h S (fun k => k = 1 ∨ k = 5) := by
  have r := (m_R0_ok hm.1.1).2.1
  intro d
  induction d with
  | zero =>
    intro k f b l h hd h1 hf hI
    obtain ⟨f, rfl⟩ : ∃ f', f = f' + 1 := ⟨f - 1, by omega⟩
    rw [fn159_31, if_pos (by omega)]; exact c_E_i hI (Or.inl rfl)
  | succ d ih =>
    intro k f b l h hd h1 hf hI
    obtain ⟨f, rfl⟩ : ∃ f', f = f' + 1 := ⟨f - 1, by omega⟩
    have R1 : m_R0 (m_u S.w 0 (50 * (k : Int))) := m_R0_v hm.1.1 (m_pv_0 (by omega)) (by omega)
    have nn1 : m_nn (m_u S.w 0 (50 * (k : Int))) := m_nn_u hm.1.2 (by omega)
    obtain ⟨s1, s2, s3, s4⟩ := c_src_tb hI.1
    have src : c_src h 6 13 (m_u S.w 0 (50 * (k : Int))) := by
      refine ⟨fun a ha => ?_, ?_, ?_, fun j hj => ?_⟩
      · rw [m_u_n (by omega), m_u_n (by omega), m_u_n (by omega), m_u_n (by omega), m_u_n (by omega)]; exact s1 a ha
      · rw [m_u_n (by omega)]; exact s2
      · rw [m_u_n (by omega)]; exact s3
      · rw [m_u_n (by omega)] at hj
        rw [m_u_n (by omega)]; exact s4 j hj
    obtain ⟨h', g1, g2, g3⟩ := c_make (t := 6) (g := 13) (by omega) (by omega) (m_R0_ok R1) nn1 src
    obtain ⟨v, ev⟩ := c_T102 (c_Ld_P (m_R0_ok R1) g2)
    rw [m_u_s] at g1
    rw [fn159_31, if_neg (by omega), g1, Option.bind_some]
    dsimp only
    rw [ev, Option.bind_some, fn159_79, fn159_85, fn159_85, q_w32_id (z := 50 * (k : Int) + 50) (by omega) (by omega), show 50 * (k : Int) + 50 = 50 * ((k + 1 : Nat) : Int) by omega]
    (repeat' split) <;> exact c_E_t (c_F_fp g3) (ih (k + 1) f _ _ h' (by omega) (by omega) (by omega) (c_I_fp hI hm.2.1.1 g3))
theorem c_bestS {h : q_F} {S : m_St} (hI : c_I h S) (hm : m_I S) : c_E (fn159 h) h S (fun k => k = 1 ∨ k = 5) := by
  unfold fn159
  split
  · exact c_E_i hI (Or.inr rfl)
  · exact c_bestSl hm 20 1 q_fu 0 0 h (by omega) (by omega) (by have := q_fu_ge; omega) hI
end -- [92.cthink]
section -- [93.cprint]
/-! Part 93: the class prints. -/
theorem c_T60 (v : Int) (h : q_F) : ∃ h', fn60 137 v h = some (0, h') ∧ c_fo 137 h h' := by
  unfold fn60
  split
  · exact ⟨h, rfl, c_fo_r⟩
  · split
    · exact ⟨h, rfl, c_fo_r⟩
    · rw [if_pos (by omega)]
      exact ⟨_, rfl, c_fo_u (c_fo_u c_fo_r (Or.inr rfl)) (Or.inl rfl)⟩
theorem c_T61l (v : Int) : ∀ (d f : Nat) (u : Int) (h : q_F), d < f → u < 10 ^ d → d ≤ 4 → ∃ h', fn61_4 137 f v u h = some (0, h') ∧ c_fo 137 h h' := by
  intro d
  induction d with
  | zero =>
    intro f u h hf hu _
    obtain ⟨f, rfl⟩ : ∃ f', f = f' + 1 := ⟨f - 1, by omega⟩
    have : (10 : Int) ^ 0 = 1 := rfl
    exact ⟨h, by rw [fn61_4, if_pos (by omega)], c_fo_r⟩
  | succ d ih =>
    intro f u h hf hu hd
    obtain ⟨f, rfl⟩ : ∃ f', f = f' + 1 := ⟨f - 1, by omega⟩
    have e : (10 : Int) ^ (d + 1) = 10 ^ d * 10 := Int.pow_succ ..
    have big : (10 : Int) ^ d ≤ 1000 := by
      have : d = 0 ∨ d = 1 ∨ d = 2 ∨ d = 3 := by omega
      rcases this with rfl | rfl | rfl | rfl <;> decide
    rw [fn61_4]
    by_cases c : u < 1
    · rw [if_pos c]; exact ⟨h, rfl, c_fo_r⟩
    · rw [if_neg c]
      have q : q_idv u 10 = u / 10 := m_idv (by omega) (by omega) (by omega) (by omega)
      have k34 : ∀ g, c_fo 137 h g → ∃ h', fn61_34 137 (fn61_4 137 f) v u g = some (0, h') ∧ c_fo 137 h h' := fun g F => by
        obtain ⟨h', a, b⟩ := ih f (u / 10) g (by omega) (by omega) (by omega)
        exact ⟨h', by rw [fn61_34, q, a], c_fo_t F b⟩
      have k19 : ∃ h', fn61_19 137 (fn61_4 137 f) v u h = some (0, h') ∧ c_fo 137 h h' := by
        obtain ⟨x, ex⟩ := c_T201 v u h
        obtain ⟨g, eg, fg⟩ := c_T60 (q_w32 (48 + q_irm x 10)) h
        rw [fn61_19, ex, Option.bind_some, eg, Option.bind_some]
        exact k34 g fg
      (repeat' split) <;> first | exact k19 | exact k34 h c_fo_r
theorem c_T61 (v : Int) (h : q_F) : ∃ h', fn61 137 v h = some (0, h') ∧ c_fo 137 h h' := c_T61l v 4 q_fu 1000 h (by have := q_fu_ge; omega) (by decide) (by omega)
theorem c_I_out {h h' : q_F} {S : m_St} (hI : c_I h S) (hn : S.n ≤ 10) (f : c_fo 137 h h') : c_I h' S := c_I_k hI hn (fun k hk => f k (by omega) (by omega)) (by rw [f 0 (by omega) (by omega)])
theorem c_F_out {h h' : q_F} (f : c_fo 137 h h') : c_F h h' := fun k hk => f k (by omega) (by omega)
theorem c_printm {S : m_St} (hm : m_I S) : ∀ (d m f : Nat) (h : q_F), m + d = (S.w 4).toNat → d < f → c_I h S → c_W (fn197_34 f m h) h S := by
  have r := (m_R0_ok hm.1.1).2.1
  intro d
  induction d with
  | zero =>
    intro m f h hd hf hI
    obtain ⟨f, rfl⟩ : ∃ f', f = f' + 1 := ⟨f - 1, by omega⟩
    rw [fn197_34, hI.1.2.2.1, if_pos (by omega)]; exact c_W_i hI
  | succ d ih =>
    intro m f h hd hf hI
    obtain ⟨f, rfl⟩ : ∃ f', f = f' + 1 := ⟨f - 1, by omega⟩
    have sub : ∀ g, c_fo 137 h g → c_W (fn197_55 (fn197_34 f) m g) h S := fun g F => by
      obtain ⟨v0, e0⟩ := c_T148 13 m 0 g
      obtain ⟨g1, a1, a2⟩ := c_T61 v0 g
      obtain ⟨g2, b1, b2⟩ := c_T60 44 g1
      obtain ⟨v1, e1⟩ := c_T148 13 m 1 g2
      obtain ⟨g3, d1, d2⟩ := c_T61 v1 g2
      obtain ⟨g4, k1, k2⟩ := c_T60 44 g3
      obtain ⟨v2, e2⟩ := c_T148 13 m 2 g4
      obtain ⟨g5, l1, l2⟩ := c_T61 v2 g4
      rw [fn197_55, e0, Option.bind_some, a1, Option.bind_some]
      dsimp only
      rw [b1, Option.bind_some]
      dsimp only
      rw [e1, Option.bind_some, d1, Option.bind_some]
      dsimp only
      rw [k1, Option.bind_some]
      dsimp only
      rw [e2, Option.bind_some, l1, Option.bind_some, q_w32_id (z := (m : Int) + 1) (by omega) (by omega), ← m_s1]
      have F5 := c_fo_t F (c_fo_t a2 (c_fo_t b2 (c_fo_t d2 (c_fo_t k2 l2))))
      exact c_W_t (c_F_out F5) (ih (m + 1) f g5 (by omega) (by omega) (c_I_out hI hm.2.1.1 F5))
    rw [fn197_34, hI.1.2.2.1, if_neg (by omega)]
    split
    · exact sub h c_fo_r
    · obtain ⟨g, eg, fg⟩ := c_T60 32 h
      rw [eg, Option.bind_some]; exact sub g fg
theorem c_print {h : q_F} {S : m_St} (hI : c_I h S) (hm : m_I S) : c_W (fn197 h) h S := by
  have r := (m_R0_ok hm.1.1).2.1
  have F1 : c_fo 137 h (q_ud h 137 1 0) := c_fo_u c_fo_r (Or.inl rfl)
  have key : ∀ g, c_fo 137 h g → c_W (fn197_32 g) h S := fun g F => by
    rw [fn197_32]
    exact c_W_t (c_F_out F) (c_printm hm (S.w 4).toNat 0 q_fu g (by omega) (by have := q_fu_ge; omega) (c_I_out hI hm.2.1.1 F))
  unfold fn197
  rw [m_let]
  split
  · obtain ⟨g, eg, fg⟩ := c_T60 46 (q_ud h 137 1 0)
    rw [eg, Option.bind_some]; exact key g (c_fo_t F1 fg)
  · exact key _ F1
theorem c_outByte (v : Int) (h : q_F) : ∃ x, fn194 v h = some x := by
  unfold fn194 fn63
  (repeat' split) <;> first | exact ⟨_, rfl⟩ | (exfalso; omega)
theorem c_time (h : q_F) : ∃ x, fn223 h = some x := ⟨_, rfl⟩
theorem c_errCode (h : q_F) : ∃ x, fn177 h = some x := ⟨_, rfl⟩
theorem c_errOff (h : q_F) : ∃ x, fn178 h = some x := ⟨_, rfl⟩
end -- [93.cprint]
