/-! Part 86: the reference's questions of the plan end. -/
theorem m_Plan_k {h h' : q_F} {p : Nat → Int} (hP : m_Plan h p) (e : ∀ k, 145 ≤ k → k ≤ 149 → h' k = h k) : m_Plan h' p :=
  ⟨fun m hm => by rw [e 145 (by omega) (by omega), e 146 (by omega) (by omega), e 147 (by omega) (by omega), e 148 (by omega) (by omega)]; exact hP.1 m hm, fun m hm h0 => by rw [e 149 (by omega) (by omega)]; exact hP.2 m hm h0⟩
theorem r_planQ {h : q_F} {S : m_St} {K : Int × q_F → Option (Int × q_F)} (hI : r_I h S) (hm : m_I S) (hF : ∀ g, r_I g S → m_Plan g S.w → r_W (K (0, g)) g S) : r_W ((fn278 h).bind K) h S := by
  obtain ⟨h', g1, g2, g3, g4, g5⟩ := r_plan hI hm
  rw [g1, Option.bind_some]
  exact r_W_t g5 (hF h' g4 g2)
theorem r_fastl {h : q_F} {S : m_St} {m : Nat} (hm : m_I S) (hP : m_Plan h S.w) (h4 : (m : Int) < S.w 4) : ∀ (d k f : Nat) (u : Int), (k : Int) + d = m_l S.w m → d < f → ∃ v, fn262_4 h f m u k = some v := by
  have ok := m_R0_ok hm.1.1
  have r := ok.2.1
  have l := m_l_r ok (m := m) (by omega)
  have e := (hP.1 m (by omega)).2.1
  intro d
  induction d with
  | zero =>
    intro k f u hd hf
    obtain ⟨f, rfl⟩ : ∃ f', f = f' + 1 := ⟨f - 1, by omega⟩
    exact ⟨u, by rw [fn262_4, if_pos (by omega), Int.toNat_natCast, e, if_pos (by omega)]⟩
  | succ d ih =>
    intro k f u hd hf
    obtain ⟨f, rfl⟩ : ∃ f', f = f' + 1 := ⟨f - 1, by omega⟩
    rw [fn262_4, if_pos (by omega), Int.toNat_natCast, e, if_neg (by omega), fn338_m ok hm.1.2 hP h4 (by omega) (by omega), Option.bind_some, q_w32_id (by omega) (by omega), ← m_s1]
    exact ih (k + 1) f _ (by omega) (by omega)
theorem r_fast {h : q_F} {S : m_St} {m : Nat} (hm : m_I S) (hP : m_Plan h S.w) (h4 : (m : Int) < S.w 4) : ∃ v, fn262 m h = some v := by
  have ok := m_R0_ok hm.1.1
  have r := ok.2.1
  have l := m_l_r ok (m := m) (by omega)
  exact r_fastl hm hP h4 (m_l S.w m).toNat 0 q_fu 0 (by omega) (by have := q_fu_ge; omega)
theorem r_fastsl {h : q_F} {S : m_St} {m : Nat} {x : Int} (hm : m_I S) (hP : m_Plan h S.w) (h4 : (m : Int) < S.w 4) : ∀ (d k f : Nat) (u : Int), (k : Int) + d = m_l S.w m → d < f → ∃ v, fn261_11 h f m x u k = some v := by
  have ok := m_R0_ok hm.1.1
  have r := ok.2.1
  have l := m_l_r ok (m := m) (by omega)
  have e := (hP.1 m (by omega)).2.1
  intro d
  induction d with
  | zero =>
    intro k f u hd hf
    obtain ⟨f, rfl⟩ : ∃ f', f = f' + 1 := ⟨f - 1, by omega⟩
    exact ⟨u, by rw [fn261_11, if_pos (by omega), Int.toNat_natCast, e, if_pos (by omega)]⟩
  | succ d ih =>
    intro k f u hd hf
    obtain ⟨f, rfl⟩ : ∃ f', f = f' + 1 := ⟨f - 1, by omega⟩
    rw [fn261_11, if_pos (by omega), Int.toNat_natCast, e, if_neg (by omega), fn338_m ok hm.1.2 hP h4 (by omega) (by omega), Option.bind_some, fn261_39, fn261_39, q_w32_id (z := (k : Int) + 1) (by omega) (by omega), ← m_s1]
    split <;> exact ih (k + 1) f _ (by omega) (by omega)
theorem r_fasts {h : q_F} {S : m_St} {m : Nat} (hm : m_I S) (hP : m_Plan h S.w) (h4 : (m : Int) < S.w 4) : ∃ v, fn261 m h = some v := by
  have ok := m_R0_ok hm.1.1
  have r := ok.2.1
  have l := m_l_r ok (m := m) (by omega)
  obtain ⟨x, e⟩ := r_fast hm hP h4
  rw [fn261, e, Option.bind_some]
  exact r_fastsl hm hP h4 (m_l S.w m).toNat 0 q_fu 0 (by omega) (by have := q_fu_ge; omega)
theorem r_moveC {m v : Int} {h : q_F} {S : m_St} (hI : r_I h S) (hm : m_I S) : r_W (fn294 m v h) h S := by
  have ok := m_R0_ok hm.1.1
  have r := ok.2.1
  unfold fn294
  refine r_moveQ hI hm (fun m0 m1 g I _ => ?_) (fun g I => r_W_i I)
  dsimp only
  rw [if_pos rfl, r_rng, Option.bind_some, fn294_26, fn294_26]
  by_cases c : 0 ≤ v ∧ v ≤ 7
  · rw [if_pos c, if_neg (by decide)]
    refine r_failQ I fun g I _ => ?_
    dsimp only
    rw [if_pos rfl]
    refine r_planQ I hm fun g I P => ?_
    dsimp only
    obtain ⟨k, rfl⟩ : ∃ k : Nat, m = k := ⟨m.toNat, by omega⟩
    rw [if_pos (show 0 ≤ (k : Int) ∧ (k : Int) < 16 by omega), if_pos (show 0 ≤ (k : Int) ∧ (k : Int) < 16 by omega), if_pos (show 0 ≤ (k : Int) ∧ (k : Int) < 16 by omega), if_pos (show 0 ≤ (k : Int) ∧ (k : Int) < 17 by omega), q_w32_id (z := (k : Int) + 1) (by omega) (by omega), if_pos (show 0 ≤ (k : Int) + 1 ∧ (k : Int) + 1 < 17 by omega)]
    obtain ⟨a, ea⟩ := r_fast hm P m1
    obtain ⟨b, eb⟩ := r_fasts hm P m1
    rw [ea, eb, fn272_m I.1 ok m1 P.1, Option.bind_some, Option.bind_some, Option.bind_some]
    (repeat' split) <;> exact r_W_i I
  · rw [if_neg c, if_pos rfl]
    exact r_failQ I fun g I _ => r_W_i I
theorem r_speed {m k : Int} {h : q_F} {S : m_St} (hI : r_I h S) (hm : m_I S) : r_W (fn337 m k h) h S := by
  have ok := m_R0_ok hm.1.1
  have r := ok.2.1
  unfold fn337
  refine r_moveQ hI hm (fun m0 m1 g I _ => ?_) (fun g I => r_W_i I)
  dsimp only
  rw [if_pos rfl]
  refine r_planQ I hm fun g I P => ?_
  dsimp only
  obtain ⟨n, rfl⟩ : ∃ k : Nat, m = k := ⟨m.toNat, by omega⟩
  have l := m_l_r ok (m := n) (by omega)
  rw [if_pos (show 0 ≤ (n : Int) ∧ (n : Int) < 16 by omega), Int.toNat_natCast, (P.1 n (by omega)).2.1, q_w32_id (z := m_l S.w n - 1) (by omega) (by omega), r_rng, Option.bind_some, fn337_38, fn337_38]
  by_cases c : 0 ≤ k ∧ k ≤ m_l S.w n - 1
  · rw [if_pos c, if_neg (by decide)]
    refine r_failQ I fun g' I' T => ?_
    dsimp only
    rw [if_pos rfl, fn338_m ok hm.1.2 (m_Plan_k P fun k k1 k2 => r_T_row T (by omega)) m1 (by omega) (by omega), Option.bind_some]
    exact r_W_i I'
  · rw [if_neg c, if_pos rfl]
    exact r_failQ I fun g I _ => r_W_i I
theorem r_noSteps {m a k : Int} {h : q_F} {S : m_St} {K : Int × q_F → Option (Int × q_F)} (hI : r_I h S) (hm : m_I S) (hF : ∀ n : Nat, m = n → m < S.w 4 → 0 ≤ a → a ≤ 2 → 0 ≤ k → k ≤ m_l S.w n → ∀ g, r_I g S → m_Plan g S.w → r_W (K (0, g)) g S) (hG : ∀ g, r_I g S → r_W (K (1, g)) g S) : r_W ((fn301 m a k h).bind K) h S := by
  have ok := m_R0_ok hm.1.1
  have r := ok.2.1
  have key : ∃ c g, fn301 m a k h = some (c, g) ∧ r_I g S ∧ r_F h g ∧ (c = 1 ∨ (c = 0 ∧ m_Plan g S.w ∧ ∃ n : Nat, m = n ∧ m < S.w 4 ∧ 0 ≤ a ∧ a ≤ 2 ∧ 0 ≤ k ∧ k ≤ m_l S.w n)) := by
    unfold fn301 fn300 fn300_16
    obtain ⟨h0, t1, t2⟩ := r_noMove (h := h) m (by rw [hI.1]; exact r)
    rw [hI.1] at t1
    rw [t1, Option.bind_some]
    by_cases cm : 0 ≤ m ∧ m < S.w 4
    · rw [if_pos cm]; dsimp only; rw [if_pos rfl]
      obtain ⟨h1, u1, u2⟩ := r_noAxis a h0
      have T := r_T_t t2 u2
      rw [u1, Option.bind_some]
      by_cases ca : 0 ≤ a ∧ a ≤ 2
      · rw [if_pos ca]; dsimp only; rw [if_pos rfl, Option.bind_some]; dsimp only; rw [if_pos rfl]
        obtain ⟨h', g1, g2, g3, g4, g5⟩ := r_plan (r_I_T hI T) hm
        obtain ⟨n, rfl⟩ : ∃ k : Nat, m = k := ⟨m.toNat, by omega⟩
        rw [g1, Option.bind_some]; dsimp only
        rw [if_pos (show 0 ≤ (n : Int) ∧ (n : Int) < 16 by omega), Int.toNat_natCast, (g2.1 n (by omega)).2.1, r_rng, Option.bind_some, fn301_37, fn301_37]
        by_cases c : 0 ≤ k ∧ k ≤ m_l S.w n
        · rw [if_pos c, if_neg (by decide)]
          obtain ⟨h2, v1, v2⟩ := r_fails 0 2 h'
          rw [v1, Option.bind_some]
          exact ⟨0, h2, rfl, r_I_T g4 v2, r_F_t (r_T_F T) (r_F_t g5 (r_T_F v2)), Or.inr ⟨rfl, m_Plan_k g2 fun k k1 k2 => r_T_row v2 (by omega), n, rfl, cm.2, ca.1, ca.2, c.1, c.2⟩⟩
        · rw [if_neg c, if_pos rfl]
          obtain ⟨h2, v1, v2⟩ := r_fails 1 2 h'
          rw [v1, Option.bind_some]
          exact ⟨1, h2, rfl, r_I_T g4 v2, r_F_t (r_T_F T) (r_F_t g5 (r_T_F v2)), Or.inl rfl⟩
      · rw [if_neg ca]; dsimp only; rw [if_neg (by decide), Option.bind_some]; dsimp only; rw [if_neg (by decide)]
        exact ⟨1, h1, rfl, r_I_T hI T, r_T_F T, Or.inl rfl⟩
    · rw [if_neg cm]; dsimp only; rw [if_neg (by decide), Option.bind_some]; dsimp only; rw [if_neg (by decide)]
      exact ⟨1, h0, rfl, r_I_T hI t2, r_T_F t2, Or.inl rfl⟩
  obtain ⟨c, g, e, I, F, h9⟩ := key
  rw [e, Option.bind_some]
  rcases h9 with rfl | ⟨rfl, P, n, e1, e2, e3, e4, e5, e6⟩
  · exact r_W_t F (hG g I)
  · exact r_W_t F (hF n e1 e2 e3 e4 e5 e6 g I P)
theorem r_behind {m a k : Int} {h : q_F} {S : m_St} (hI : r_I h S) (hm : m_I S) : r_W (fn341 m a k h) h S := by
  unfold fn341
  refine r_noSteps hI hm (fun n e m1 a0 a1 k0 k1 g I P => ?_) (fun g I => r_W_i I)
  subst e
  obtain ⟨b, hb, rfl⟩ := m_ax_n ⟨a0, a1⟩
  dsimp only
  rw [if_pos rfl, fn286_m (m_R0_ok hm.1.1) hm.1.2 P.1 m1 hb k0 k1, Option.bind_some]
  exact r_W_i I
theorem r_pointAt {m a k : Int} {h : q_F} {S : m_St} (hI : r_I h S) (hm : m_I S) : r_W (fn306 m a k h) h S := by
  have ok := m_R0_ok hm.1.1
  have r := ok.2.1
  unfold fn306
  refine r_noSteps hI hm (fun n e m1 a0 a1 k0 k1 g I P => ?_) (fun g I => r_W_i I)
  subst e
  obtain ⟨b, hb, rfl⟩ := m_ax_n ⟨a0, a1⟩
  dsimp only
  rw [if_pos rfl, fn240_i I.1 ok (by omega) (by omega) (by omega) (by omega), Option.bind_some, q_w32_id (z := 3 * (n : Int)) (by omega) (by omega), q_w32_id (z := 3 * (n : Int) + b) (by omega) (by omega), if_pos (by omega), fn333_m, Option.bind_some, fn286_m ok hm.1.2 P.1 m1 hb k0 k1, Option.bind_some]
  exact r_W_i I
theorem r_rampl {h : q_F} {S : m_St} {m : Nat} {x : Int} (hm : m_I S) (hP : m_Plan h S.w) (h4 : (m : Int) < S.w 4) : ∀ (d k f : Nat) (u : Int), 1 ≤ k → m_l S.w m ≤ (k : Int) + d → d < f → (k : Int) ≤ 3000 → ∃ v, fn313_19 f m x u k h = some (v, h) := by
  have ok := m_R0_ok hm.1.1
  have r := ok.2.1
  have l := m_l_r ok (m := m) (by omega)
  have e := (hP.1 m (by omega)).2.1
  intro d
  induction d with
  | zero =>
    intro k f u h1 hd hf hk
    obtain ⟨f, rfl⟩ : ∃ f', f = f' + 1 := ⟨f - 1, by omega⟩
    exact ⟨u, by rw [fn313_19, if_pos (by omega), Int.toNat_natCast, e, if_pos (by omega)]⟩
  | succ d ih =>
    intro k f u h1 hd hf hk
    obtain ⟨f, rfl⟩ : ∃ f', f = f' + 1 := ⟨f - 1, by omega⟩
    by_cases c : m_l S.w m ≤ k
    · exact ⟨u, by rw [fn313_19, if_pos (by omega), Int.toNat_natCast, e, if_pos c]⟩
    · have k1 : ∀ u, ∃ v, fn313_19 f m x u ((k + 1 : Nat) : Int) h = some (v, h) := fun u => ih (k + 1) f u (by omega) (by omega) (by omega) (by omega)
      have k2 : ∀ p q, ∃ v, fn313_73 (fn313_19 f) m x k p q h = some (v, h) := fun p q => by rw [fn313_73, q_w32_id (z := (k : Int) + 1) (by omega) (by omega), ← m_s1]; exact k1 _
      have k3 : ∀ z p, ∃ v, fn313_59 (fn313_19 f) m x k z p h = some (v, h) := fun z p => by
        unfold fn313_59 fn313_72 fn313_68
        (repeat' split) <;> exact k2 _ _
      rw [fn313_19, if_pos (by omega), Int.toNat_natCast, e, if_neg c, fn338_m ok hm.1.2 hP h4 (by omega) (by omega), Option.bind_some, q_w32_id (z := (k : Int) - 1) (by omega) (by omega), fn338_m ok hm.1.2 hP h4 (by omega) (by omega), Option.bind_some]
      unfold fn313_68
      (repeat' split) <;> first | exact k3 _ _ | exact k2 _ _
theorem r_ramp {m v : Int} {h : q_F} {S : m_St} (hI : r_I h S) (hm : m_I S) : r_W (fn313 m v h) h S := by
  have ok := m_R0_ok hm.1.1
  have r := ok.2.1
  unfold fn313
  refine r_moveQ hI hm (fun m0 m1 g I _ => ?_) (fun g I => r_W_i I)
  dsimp only
  rw [if_pos rfl]
  refine r_planQ I hm fun g I P => ?_
  obtain ⟨n, rfl⟩ : ∃ k : Nat, m = k := ⟨m.toNat, by omega⟩
  have l := m_l_r ok (m := n) (by omega)
  obtain ⟨x, e⟩ := r_rampl (x := v) hm P m1 (m_l S.w n).toNat 1 q_fu 0 (by omega) (by omega) (by have := q_fu_ge; omega) (by omega)
  exact ⟨x, g, e, I, r_F_r⟩
theorem r_travell {h : q_F} {S : m_St} {a : Nat} (ha : a < 3) (hI : r_I h S) (hm : m_I S) (hP : m_Plan h S.w) : ∀ (d m f : Nat) (u : Int), m + d = (S.w 4).toNat → d < f → ∃ v, fn356_18 f a u m h = some (v, h) := by
  have ok := m_R0_ok hm.1.1
  have r := ok.2.1
  intro d
  induction d with
  | zero =>
    intro m f u hd hf
    obtain ⟨f, rfl⟩ : ∃ f', f = f' + 1 := ⟨f - 1, by omega⟩
    exact ⟨u, by rw [fn356_18, hI.1, if_pos (by omega)]⟩
  | succ d ih =>
    intro m f u hd hf
    obtain ⟨f, rfl⟩ : ∃ f', f = f' + 1 := ⟨f - 1, by omega⟩
    have dd := m_d_r ok (m := m) (by omega) ha
    rw [fn356_18, hI.1, if_neg (by omega), q_w32_id (z := 3 * (m : Int)) (by omega) (by omega), q_w32_id (z := 3 * (m : Int) + a) (by omega) (by omega), if_pos (by omega), show (3 * (m : Int) + a).toNat = 3 * m + a by omega, (hP.1 m (by omega)).1 a ha, fn236_i (by omega) (by omega), Option.bind_some, q_w32_id (z := (m : Int) + 1) (by omega) (by omega), ← m_s1]
    exact ih (m + 1) f _ (by omega) (by omega)
theorem r_travel {a : Int} {h : q_F} {S : m_St} (hI : r_I h S) (hm : m_I S) : r_W (fn356 a h) h S := by
  have r := (m_R0_ok hm.1.1).2.1
  unfold fn356
  refine r_axisQ hI (fun a0 a1 g I _ => ?_) (fun g I => r_W_i I)
  dsimp only
  rw [if_pos rfl]
  refine r_planQ I hm fun g I P => ?_
  obtain ⟨n, hn, rfl⟩ := m_ax_n ⟨a0, a1⟩
  obtain ⟨x, e⟩ := r_travell hn I hm P (S.w 4).toNat 0 q_fu 0 (by omega) (by have := q_fu_ge; omega)
  exact ⟨x, g, e, I, r_F_r⟩
theorem r_turnsl {h : q_F} {S : m_St} {a : Nat} (ha : a < 3) (hI : r_I h S) (hm : m_I S) (hP : m_Plan h S.w) : ∀ (d m f : Nat) (b u : Int), m + d = (S.w 4).toNat → d < f → ∃ v, fn359_28 f a b u m h = some (v, h) := by
  have ok := m_R0_ok hm.1.1
  have r := ok.2.1
  intro d
  induction d with
  | zero =>
    intro m f b u hd hf
    obtain ⟨f, rfl⟩ : ∃ f', f = f' + 1 := ⟨f - 1, by omega⟩
    exact ⟨u, by rw [fn359_28, hI.1, if_pos (by omega)]⟩
  | succ d ih =>
    intro m f b u hd hf
    obtain ⟨f, rfl⟩ : ∃ f', f = f' + 1 := ⟨f - 1, by omega⟩
    rw [fn359_28, hI.1, if_neg (by omega), q_w32_id (z := 3 * (m : Int)) (by omega) (by omega), q_w32_id (z := 3 * (m : Int) + a) (by omega) (by omega), if_pos (by omega), fn333_m, Option.bind_some, fn359_77, fn359_77, q_w32_id (z := (m : Int) + 1) (by omega) (by omega), ← m_s1]
    (repeat' split) <;> exact ih (m + 1) f _ _ (by omega) (by omega)
theorem r_turns {a : Int} {h : q_F} {S : m_St} (hI : r_I h S) (hm : m_I S) : r_W (fn359 a h) h S := by
  have r := (m_R0_ok hm.1.1).2.1
  unfold fn359
  refine r_axisQ hI (fun a0 a1 g I _ => ?_) (fun g I => r_W_i I)
  dsimp only
  rw [if_pos rfl]
  refine r_planQ I hm fun g I P => ?_
  dsimp only
  obtain ⟨n, hn, rfl⟩ := m_ax_n ⟨a0, a1⟩
  rw [q_w32_id (z := 44 + (n : Int)) (by omega) (by omega), fn303_i (by omega) (by omega), Option.bind_some]
  obtain ⟨x, e⟩ := r_turnsl hn I hm P (S.w 4).toNat 0 q_fu (q_w32 (g 140 (44 + (n : Int)).toNat)) 0 (by omega) (by have := q_fu_ge; omega)
  exact ⟨x, g, e, I, r_F_r⟩
/-- an axis that limits a move -/
theorem m_lim {w : Nat → Int} {m : Nat} (hv : m_mv w m) (ok : m_ok w) (hm : m < 16) : ∃ a, a < 3 ∧ m_d w m a ≠ 0 ∧ q_idv (w (14 + a) * m_l w m) (m_abs (m_d w m a)) = m_c w 14 m := by
  have P : ∀ (a : Nat) (c : Int), a < 3 → (c = -1 ∨ ∃ b, b < 3 ∧ m_d w m b ≠ 0 ∧ q_idv (w (14 + b) * m_l w m) (m_abs (m_d w m b)) = c) → (m_cf w 14 m a c = -1 ∧ c = -1 ∧ m_d w m a = 0) ∨ ∃ b, b < 3 ∧ m_d w m b ≠ 0 ∧ q_idv (w (14 + b) * m_l w m) (m_abs (m_d w m b)) = m_cf w 14 m a c := by
    intro a c ha hc
    unfold m_cf
    by_cases z : m_abs (m_d w m a) = 0
    · rw [if_pos z]
      rcases hc with rfl | hc
      · exact Or.inl ⟨rfl, rfl, m_abs_z.mp z⟩
      · exact Or.inr hc
    · rw [if_neg z]
      have self : ∃ b, b < 3 ∧ m_d w m b ≠ 0 ∧ q_idv (w (14 + b) * m_l w m) (m_abs (m_d w m b)) = q_idv (w (14 + a) * m_l w m) (m_abs (m_d w m a)) := ⟨a, ha, fun h9 => z (m_abs_z.mpr h9), rfl⟩
      by_cases c1 : c = -1
      · rw [if_pos c1]; exact Or.inr self
      · rw [if_neg c1]
        unfold qx_mn
        split
        · exact Or.inr (hc.resolve_left c1)
        · exact Or.inr self
  have p0 := P 0 (-1) (by omega) (Or.inl rfl)
  have p1 := P 1 (m_cf w 14 m 0 (-1)) (by omega) (by rcases p0 with p | p; exact Or.inl p.1; exact Or.inr p)
  have p2 := P 2 (m_cf w 14 m 1 (m_cf w 14 m 0 (-1))) (by omega) (by rcases p1 with p | p; exact Or.inl p.1; exact Or.inr p)
  rcases p2 with ⟨q1, q2, q3⟩ | p2
  · have r1 := m_c_r ok hm hv (kk := 14) (k := 5000) (fun a ha => by have := ok.2.2.1 a ha; omega) (by omega)
    have : m_c w 14 m = -1 := q1
    omega
  · exact p2
theorem r_slowestl {h : q_F} {S : m_St} {m b : Nat} (hI : r_I h S) (hm : m_I S) (hP : m_Plan h S.w) (h4 : (m : Int) < S.w 4) (hb : b < 3) (hd : m_d S.w m b ≠ 0) (he : q_idv (S.w (14 + b) * m_l S.w m) (m_abs (m_d S.w m b)) = m_c S.w 14 m) : ∀ (d a f : Nat), a + d = b → d < f → ∃ v, fn336_16 f m a h = some (v, h) := by
  have ok := m_R0_ok hm.1.1
  have r := ok.2.1
  have l := m_l_r ok (m := m) (by omega)
  have step : ∀ a f, a < 3 → (m_d S.w m a ≠ 0 ∧ q_idv (S.w (14 + a) * m_l S.w m) (m_abs (m_d S.w m a)) = m_c S.w 14 m → fn336_16 (f + 1) m a h = some ((a : Int), h)) ∧ (fn336_16 (f + 1) m a h = some ((a : Int), h) ∨ fn336_16 (f + 1) m a h = fn336_16 f m ((a + 1 : Nat) : Int) h) := fun a f ha => by
    have dd := m_d_r ok (m := m) (by omega) ha
    have o := ok.2.2.1 a ha
    have pr := m_mulr (x := S.w (14 + a)) (l := m_l S.w m) (a := 5000) (b := 2000) (by omega) (by omega) (by omega) (by omega)
    obtain ⟨p1, p2, p3, -⟩ := hP.1 m (by omega)
    rw [fn336_16, q_w32_id (z := 3 * (m : Int)) (by omega) (by omega), q_w32_id (z := 3 * (m : Int) + a) (by omega) (by omega), if_pos (by omega), show (3 * (m : Int) + a).toNat = 3 * m + a by omega, p1 a ha, fn336_67, q_w32_id (z := (a : Int) + 1) (by omega) (by omega), ← m_s1]
    by_cases z : m_d S.w m a = 0
    · rw [if_pos z]; exact ⟨fun h9 => absurd z h9.1, Or.inr rfl⟩
    · have za : m_abs (m_d S.w m a) ≠ 0 := fun h9 => z (m_abs_z.mp h9)
      rw [if_neg z, q_w32_id (z := 14 + (a : Int)) (by omega) (by omega), r_of (v := S.w (14 + a)) (by omega) (by omega) (by rw [hI.1, show (14 + (a : Int)).toNat = 14 + a by omega]) (by omega), Option.bind_some, if_pos (show 0 ≤ (m : Int) ∧ (m : Int) < 16 by omega), if_pos (by omega), fn236_i (by omega) (by omega), Option.bind_some, if_pos za, if_pos (show 0 ≤ (m : Int) ∧ (m : Int) < 16 by omega), Int.toNat_natCast, p2, p3, q_w32_id (z := S.w (14 + a) * m_l S.w m) (by omega) (by omega)]
      by_cases e : q_idv (S.w (14 + a) * m_l S.w m) (m_abs (m_d S.w m a)) = m_c S.w 14 m
      · rw [if_pos e]; exact ⟨fun _ => rfl, Or.inl rfl⟩
      · rw [if_neg e]; exact ⟨fun h9 => absurd h9.2 e, Or.inr rfl⟩
  intro d
  induction d with
  | zero =>
    intro a f ha hf
    obtain ⟨f, rfl⟩ : ∃ f', f = f' + 1 := ⟨f - 1, by omega⟩
    obtain rfl : a = b := by omega
    exact ⟨_, (step a f hb).1 ⟨hd, he⟩⟩
  | succ d ih =>
    intro a f ha hf
    obtain ⟨f, rfl⟩ : ∃ f', f = f' + 1 := ⟨f - 1, by omega⟩
    rcases (step a f (by omega)).2 with e | e
    · exact ⟨_, e⟩
    · rw [e]; exact ih (a + 1) f (by omega) (by omega)
theorem r_slowest {m : Int} {h : q_F} {S : m_St} (hI : r_I h S) (hm : m_I S) : r_W (fn336 m h) h S := by
  have ok := m_R0_ok hm.1.1
  have r := ok.2.1
  unfold fn336
  refine r_moveQ hI hm (fun m0 m1 g I _ => ?_) (fun g I => r_W_i I)
  dsimp only
  rw [if_pos rfl]
  refine r_planQ I hm fun g I P => ?_
  obtain ⟨n, rfl⟩ : ∃ k : Nat, m = k := ⟨m.toNat, by omega⟩
  obtain ⟨b, b1, b2, b3⟩ := m_lim (hm.1.2 n m1) ok (by omega)
  obtain ⟨x, e⟩ := r_slowestl I hm P m1 b1 b2 b3 b 0 q_fu (by omega) (by have := q_fu_ge; omega)
  exact ⟨x, g, e, I, r_F_r⟩
