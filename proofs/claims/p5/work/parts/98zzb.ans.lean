/-! Part 98zzb: rampSteps, slowest. -/
theorem a_rampl {S : m_St} {g p : q_F} {m : Nat} {u : Int} (hm : m_I S) (P : c_Plan g S.w) (Q : m_Plan p S.w) (h4 : (m : Int) < S.w 4) : ∀ (d k f1 f2 : Nat) (t : Int), 1 ≤ k → (k : Int) + d = m_l S.w m → d < f1 → d < f2 → ∃ v, fn70_5 g f1 m u t k = some v ∧ fn313_19 f2 m u t k p = some (v, p) := by
  have ok := m_R0_ok hm.1.1
  have r := ok.2.1
  have l := m_l_r ok (m := m) (by omega)
  have e := (Q.1 m (by omega)).2.1
  intro d
  induction d with
  | zero =>
    intro k f1 f2 t k1 hd h1 h2
    obtain ⟨f1, rfl⟩ : ∃ f', f1 = f' + 1 := ⟨f1 - 1, by omega⟩
    obtain ⟨f2, rfl⟩ : ∃ f', f2 = f' + 1 := ⟨f2 - 1, by omega⟩
    exact ⟨t, by rw [fn70_5, a_79 hm P h4, Option.bind_some, if_pos (by omega)], by rw [fn313_19, if_pos (by omega), Int.toNat_natCast, e, if_pos (by omega)]⟩
  | succ d ih =>
    intro k f1 f2 t k1 hd h1 h2
    obtain ⟨f1, rfl⟩ : ∃ f', f1 = f' + 1 := ⟨f1 - 1, by omega⟩
    obtain ⟨f2, rfl⟩ : ∃ f', f2 = f' + 1 := ⟨f2 - 1, by omega⟩
    have nx : ∀ t, ∃ v, fn70_5 g f1 m u t ((k : Int) + 1) = some v ∧ fn313_19 f2 m u t ((k : Int) + 1) p = some (v, p) := fun t => by
      rw [← m_s1]; exact ih (k + 1) f1 f2 t (by omega) (by omega) (by omega) (by omega)
    have E1 : fn70_5 g (f1 + 1) m u t k = if u = 0 then (if 0 ≤ q_w32 (m_sp S.w m k - m_sp S.w m ((k : Int) - 1)) then fn70_5 g f1 m u (q_w32 (t + 0)) ((k : Int) + 1) else fn70_5 g f1 m u (q_w32 (t + 1)) ((k : Int) + 1)) else (if q_w32 (m_sp S.w m k - m_sp S.w m ((k : Int) - 1)) ≤ 0 then fn70_5 g f1 m u (q_w32 (t + 0)) ((k : Int) + 1) else fn70_5 g f1 m u (q_w32 (t + 1)) ((k : Int) + 1)) := by
      rw [fn70_5, a_79 hm P h4, Option.bind_some, if_neg (by omega), c_sp ok hm.1.2 P h4 (by omega) (by omega), Option.bind_some, q_w32_id (z := (k : Int) - 1) (by omega) (by omega), c_sp ok hm.1.2 P h4 (by omega) (by omega), Option.bind_some]
      simp only [fn70_56, fn70_52, fn70_57]
      rw [q_w32_id (z := (k : Int) + 1) (by omega) (by omega)]
    have E2 : fn313_19 (f2 + 1) m u t k p = if u = 0 then (if u = 0 then (if 0 ≤ q_w32 (m_sp S.w m k - m_sp S.w m ((k : Int) - 1)) then fn313_19 f2 m u (q_w32 (t + 0)) ((k : Int) + 1) p else fn313_19 f2 m u (q_w32 (t + 1)) ((k : Int) + 1) p) else fn313_19 f2 m u (q_w32 (t + 0)) ((k : Int) + 1) p) else (if 0 < q_w32 (m_sp S.w m k - m_sp S.w m ((k : Int) - 1)) then fn313_19 f2 m u (q_w32 (t + 1)) ((k : Int) + 1) p else (if u = 0 then (if 0 ≤ q_w32 (m_sp S.w m k - m_sp S.w m ((k : Int) - 1)) then fn313_19 f2 m u (q_w32 (t + 0)) ((k : Int) + 1) p else fn313_19 f2 m u (q_w32 (t + 1)) ((k : Int) + 1) p) else fn313_19 f2 m u (q_w32 (t + 0)) ((k : Int) + 1) p)) := by
      rw [fn313_19, if_pos (by omega), Int.toNat_natCast, e, if_neg (by omega), fn338_m ok hm.1.2 Q h4 (by omega) (by omega), Option.bind_some, q_w32_id (z := (k : Int) - 1) (by omega) (by omega), fn338_m ok hm.1.2 Q h4 (by omega) (by omega), Option.bind_some]
      simp only [fn313_59, fn313_68, fn313_72, fn313_73]
      rw [q_w32_id (z := (k : Int) + 1) (by omega) (by omega)]
    rw [E1, E2]
    generalize q_w32 (m_sp S.w m k - m_sp S.w m ((k : Int) - 1)) = D
    by_cases cu : u = 0
    · by_cases c : 0 ≤ D
      · simp only [if_pos cu, if_pos c]; exact nx _
      · simp only [if_pos cu, if_neg c]; exact nx _
    · by_cases c : D ≤ 0
      · simp only [if_neg cu, if_pos c, if_neg (show ¬ 0 < D by omega)]; exact nx _
      · simp only [if_neg cu, if_neg c, if_pos (show 0 < D by omega)]; exact nx _
theorem a_p34 {m u : Int} {h h1 h2 : q_F} {S S1 : m_St} {v1 v2 : Int} (J : j_T S S h) (J1 : j_T S1 S h1) (e1 : fn21 m u h = some (v1, h1)) (e2 : fn313 m u h1 = some (v2, h2)) : a_Q h2 v1 v2 := by
  have hm := J1.2.1.1
  have f := (a_F (r_ramp J1.2.1.2 hm) e2).1 153 (by omega)
  have ok := m_R0_ok hm.1.1
  have r := ok.2.1
  have g0 := a_g0 J1.2.1.2
  unfold fn313 at e2
  unfold fn21 fn202 at e1
  rw [a_299 J1.2.1.2 hm, Option.bind_some] at e2
  rw [c_move m J.1.2, Option.bind_some] at e1
  dsimp only at e1 e2
  by_cases c : 0 ≤ m ∧ m < S.w 4
  · obtain ⟨n, rfl⟩ : ∃ k : Nat, m = (k : Int) := ⟨m.toNat, by omega⟩
    obtain ⟨g, a1, P, a3, a4⟩ := c_planned J.1.2 J.1.1
    obtain ⟨p, b1, Q, b3, b4⟩ := a_plan g0 hm
    have l := m_l_r ok (m := n) (by omega)
    have l1 := m_l_1 ok (m := n) (by omega) (hm.1.2 n c.2)
    obtain ⟨v, x1, x2⟩ := a_rampl (u := u) hm P Q c.2 (m_l S.w n - 1).toNat 1 q_fu q_fu 0 (by omega) (by omega) (by have := q_fu_ge; omega) (by have := q_fu_ge; omega)
    have x1' : fn70_5 g q_fu n u 0 1 = some v := x1
    have x2' : fn313_19 q_fu n u 0 1 p = some (v, p) := x2
    rw [if_pos c, if_pos rfl, a1, Option.bind_some] at e1
    dsimp only at e1
    rw [fn70, x1', Option.bind_some, Option.bind_some] at e1
    dsimp only at e1
    rw [if_pos rfl, m_let] at e1
    rw [if_pos c, if_pos c, if_pos rfl, b1, Option.bind_some] at e2
    dsimp only at e2
    rw [x2'] at e2
    exact a_ok e1 e2 (by rw [b3]; exact q_ud_s _ _ _ _) f
  · rw [if_neg c, if_neg (show ¬ (3 : Nat) = 0 by decide), if_pos rfl, Option.bind_some] at e1
    dsimp only at e1
    rw [if_neg (show ¬ (3 : Nat) = 1 by decide), if_pos rfl] at e1
    rw [if_neg c, if_neg c, if_neg (show ¬ (1 : Int) = 0 by decide)] at e2
    exact a_er e1 e2 (q_ud_s _ _ _ _) (by decide)
/-- what an axis allows of a move -/
noncomputable def a_q (w : Nat → Int) (m a : Nat) : Int := q_idv (w (14 + a) * m_l w m) (m_abs (m_d w m a))
theorem a_q_r {w : Nat → Int} {m a : Nat} (ok : m_ok w) (hm : m < 16) (ha : a < 3) (z : m_d w m a ≠ 0) : 0 ≤ a_q w m a := by
  have o := ok.2.2.1 a ha
  exact (m_q_r ok hm ha (kk := 14) (by omega) (by omega) (fun h9 => z (m_abs_z.mp h9))).1
theorem a_cf {w : Nat → Int} {m b : Nat} {c : Int} (ok : m_ok w) (hm : m < 16) (hb : b < 3) (hc : c = -1 ∨ 0 ≤ c) : (m_cf w 14 m b c = -1 ∨ 0 ≤ m_cf w 14 m b c) ∧ (m_d w m b ≠ 0 → m_cf w 14 m b c ≤ a_q w m b ∧ 0 ≤ m_cf w 14 m b c) ∧ (0 ≤ c → m_cf w 14 m b c ≤ c ∧ 0 ≤ m_cf w 14 m b c) := by
  unfold m_cf
  by_cases z : m_abs (m_d w m b) = 0
  · rw [if_pos z]
    exact ⟨hc, fun h9 => absurd (m_abs_z.mp z) h9, fun h9 => ⟨by omega, h9⟩⟩
  · have q := a_q_r ok hm hb (fun h9 => z (m_abs_z.mpr h9))
    rw [if_neg z]
    show ((if c = -1 then a_q w m b else qx_mn c (a_q w m b)) = -1 ∨ 0 ≤ (if c = -1 then a_q w m b else qx_mn c (a_q w m b))) ∧ (m_d w m b ≠ 0 → (if c = -1 then a_q w m b else qx_mn c (a_q w m b)) ≤ a_q w m b ∧ 0 ≤ (if c = -1 then a_q w m b else qx_mn c (a_q w m b))) ∧ (0 ≤ c → (if c = -1 then a_q w m b else qx_mn c (a_q w m b)) ≤ c ∧ 0 ≤ (if c = -1 then a_q w m b else qx_mn c (a_q w m b)))
    by_cases c1 : c = -1
    · rw [if_pos c1]
      exact ⟨Or.inr q, fun _ => ⟨by omega, q⟩, fun h9 => by omega⟩
    · rw [if_neg c1]
      have k : qx_mn c (a_q w m b) ≤ c ∧ qx_mn c (a_q w m b) ≤ a_q w m b ∧ 0 ≤ qx_mn c (a_q w m b) := by
        unfold qx_mn; split <;> omega
      exact ⟨Or.inr k.2.2, fun _ => ⟨k.2.1, k.2.2⟩, fun h9 => ⟨k.1, k.2.2⟩⟩
theorem a_mc {w : Nat → Int} {m a : Nat} (ok : m_ok w) (hm : m < 16) (ha : a < 3) (z : m_d w m a ≠ 0) : m_c w 14 m ≤ a_q w m a := by
  have f0 := a_cf ok hm (show 0 < 3 by omega) (c := -1) (Or.inl rfl)
  have f1 := a_cf ok hm (show 1 < 3 by omega) f0.1
  have f2 := a_cf ok hm (show 2 < 3 by omega) f1.1
  have e : m_c w 14 m = m_cf w 14 m 2 (m_cf w 14 m 1 (m_cf w 14 m 0 (-1))) := rfl
  rw [e]
  rcases m_c3 ha with rfl | rfl | rfl
  · have := f0.2.1 z
    have := f1.2.2 (by omega)
    have := f2.2.2 (by omega)
    omega
  · have := f1.2.1 z
    have := f2.2.2 (by omega)
    omega
  · exact (f2.2.1 z).1
/-- the class looks for the slowest axis -/
theorem a_slowc {S : m_St} {g : q_F} {m : Nat} (hm : m_I S) (I : c_I g S) (P : c_Plan g S.w) (h4 : (m : Int) < S.w 4) : ∀ (d a f : Nat) (t x : Int), a + d = 3 → d < f → ((t = -1 ∧ ∀ c, c < a → m_d S.w m c = 0) ∨ ∃ b : Nat, t = b ∧ b < a ∧ m_d S.w m b ≠ 0 ∧ x = a_q S.w m b ∧ (∀ c, c < a → m_d S.w m c ≠ 0 → a_q S.w m b ≤ a_q S.w m c) ∧ ∀ c, c < b → m_d S.w m c ≠ 0 → a_q S.w m b < a_q S.w m c) →
    ∃ v : Int, fn81_8 6 g f m t x a = some v ∧ ((v = -1 ∧ ∀ c, c < 3 → m_d S.w m c = 0) ∨ ∃ b : Nat, v = b ∧ b < 3 ∧ m_d S.w m b ≠ 0 ∧ (∀ c, c < 3 → m_d S.w m c ≠ 0 → a_q S.w m b ≤ a_q S.w m c) ∧ ∀ c, c < b → m_d S.w m c ≠ 0 → a_q S.w m b < a_q S.w m c) := by
  have ok := m_R0_ok hm.1.1
  have r := ok.2.1
  have l := m_l_r ok (m := m) (by omega)
  intro d
  induction d with
  | zero =>
    intro a f t x ha hf H
    obtain ⟨f, rfl⟩ : ∃ f', f = f' + 1 := ⟨f - 1, by omega⟩
    obtain rfl : a = 3 := by omega
    refine ⟨t, by rw [fn81_8, if_pos (by omega)], ?_⟩
    rcases H with H | ⟨b, b1, b2, b3, b4, b5, b6⟩
    · exact Or.inl H
    · exact Or.inr ⟨b, b1, b2, b3, b5, b6⟩
  | succ d ih =>
    intro a f t x ha hf H
    obtain ⟨f, rfl⟩ : ∃ f', f = f' + 1 := ⟨f - 1, by omega⟩
    have a3 : a < 3 := by omega
    have dd := m_d_r ok (m := m) (by omega) a3
    have o := ok.2.2.1 a a3
    have pr := m_mulr (x := S.w (14 + a)) (l := m_l S.w m) (a := 5000) (b := 2000) (by omega) (by omega) (by omega) (by omega)
    have x2 : g (q_axn 6 (a : Int)) 2 = S.w (14 + a) := (a_ax I a3).1 2 (by omega)
    have ab := m_abs_0 (m_d S.w m a)
    rw [fn81_8, if_neg (by omega), c_dis ok P h4 a3, Option.bind_some, a_79 hm P h4, Option.bind_some, x2, q_w32_id (z := S.w (14 + a) * m_l S.w m) (by omega) (by omega), c_abs (by omega) (by omega)]
    have nx : ∀ (t x : Int), ((t = -1 ∧ ∀ c, c < a + 1 → m_d S.w m c = 0) ∨ ∃ b : Nat, t = b ∧ b < a + 1 ∧ m_d S.w m b ≠ 0 ∧ x = a_q S.w m b ∧ (∀ c, c < a + 1 → m_d S.w m c ≠ 0 → a_q S.w m b ≤ a_q S.w m c) ∧ ∀ c, c < b → m_d S.w m c ≠ 0 → a_q S.w m b < a_q S.w m c) →
      ∃ v : Int, fn81_71 6 (fn81_8 6 g f) m t x a g = some v ∧ ((v = -1 ∧ ∀ c, c < 3 → m_d S.w m c = 0) ∨ ∃ b : Nat, v = b ∧ b < 3 ∧ m_d S.w m b ≠ 0 ∧ (∀ c, c < 3 → m_d S.w m c ≠ 0 → a_q S.w m b ≤ a_q S.w m c) ∧ ∀ c, c < b → m_d S.w m c ≠ 0 → a_q S.w m b < a_q S.w m c) := fun t x H => by
      rw [fn81_71, q_w32_id (z := (a : Int) + 1) (by omega) (by omega), ← m_s1]
      exact ih (a + 1) f t x (by omega) (by omega) H
    by_cases z : m_d S.w m a = 0
    · have z0 : m_abs (m_d S.w m a) = 0 := m_abs_z.mpr z
      rw [z0, show fn201 (S.w (14 + a) * m_l S.w m) 0 g = some 0 by rw [fn201, if_pos rfl], Option.bind_some, if_pos (by omega)]
      refine nx t x ?_
      rcases H with ⟨H1, H2⟩ | ⟨b, b1, b2, b3, b4, b5, b6⟩
      · refine Or.inl ⟨H1, fun c hc => ?_⟩
        by_cases e : c = a
        · rw [e]; exact z
        · exact H2 c (by omega)
      · refine Or.inr ⟨b, b1, by omega, b3, b4, fun c hc hz => ?_, b6⟩
        by_cases e : c = a
        · rw [e] at hz; exact absurd z hz
        · exact b5 c (by omega) hz
    · have z0 : m_abs (m_d S.w m a) ≠ 0 := fun h9 => z (m_abs_z.mp h9)
      rw [c_quo z0, Option.bind_some, if_neg (by omega), show q_idv (S.w (14 + a) * m_l S.w m) (m_abs (m_d S.w m a)) = a_q S.w m a from rfl]
      have take : (∀ c, c < a → m_d S.w m c ≠ 0 → a_q S.w m a < a_q S.w m c) → ∃ v : Int, fn81_71 6 (fn81_8 6 g f) m a (a_q S.w m a) a g = some v ∧ ((v = -1 ∧ ∀ c, c < 3 → m_d S.w m c = 0) ∨ ∃ b : Nat, v = b ∧ b < 3 ∧ m_d S.w m b ≠ 0 ∧ (∀ c, c < 3 → m_d S.w m c ≠ 0 → a_q S.w m b ≤ a_q S.w m c) ∧ ∀ c, c < b → m_d S.w m c ≠ 0 → a_q S.w m b < a_q S.w m c) := fun H => by
        refine nx a (a_q S.w m a) (Or.inr ⟨a, rfl, by omega, z, rfl, fun c hc hz => ?_, H⟩)
        by_cases e : c = a
        · rw [e]; exact Int.le_refl _
        · exact Int.le_of_lt (H c (by omega) hz)
      rcases H with ⟨H1, H2⟩ | ⟨b, b1, b2, b3, b4, b5, b6⟩
      · rw [if_pos (by omega), fn81_64]
        exact take fun c hc hz => absurd (H2 c hc) hz
      · rw [if_neg (by omega)]
        by_cases c : x ≤ a_q S.w m a
        · rw [if_pos c]
          refine nx t x (Or.inr ⟨b, b1, by omega, b3, b4, fun c' hc hz => ?_, b6⟩)
          by_cases e : c' = a
          · rw [e]; omega
          · exact b5 c' (by omega) hz
        · rw [if_neg c, fn81_64]
          exact take fun c' hc hz => by have := b5 c' hc hz; omega
/-- the reference looks for it -/
theorem a_slowr {S : m_St} {h : q_F} {m b : Nat} (hI : r_I h S) (hm : m_I S) (hP : m_Plan h S.w) (h4 : (m : Int) < S.w 4) (hb : b < 3) (hd : m_d S.w m b ≠ 0) (he : a_q S.w m b = m_c S.w 14 m) (hn : ∀ c, c < b → m_d S.w m c ≠ 0 → a_q S.w m c ≠ m_c S.w 14 m) : ∀ (d a f : Nat), a + d = b → d < f → fn336_16 f m a h = some ((b : Int), h) := by
  have ok := m_R0_ok hm.1.1
  have r := ok.2.1
  have l := m_l_r ok (m := m) (by omega)
  have step : ∀ a f, a < 3 → (m_d S.w m a ≠ 0 ∧ a_q S.w m a = m_c S.w 14 m → fn336_16 (f + 1) m a h = some ((a : Int), h)) ∧ (¬ (m_d S.w m a ≠ 0 ∧ a_q S.w m a = m_c S.w 14 m) → fn336_16 (f + 1) m a h = fn336_16 f m ((a + 1 : Nat) : Int) h) := fun a f ha => by
    have dd := m_d_r ok (m := m) (by omega) ha
    have o := ok.2.2.1 a ha
    have pr := m_mulr (x := S.w (14 + a)) (l := m_l S.w m) (a := 5000) (b := 2000) (by omega) (by omega) (by omega) (by omega)
    obtain ⟨p1, p2, p3, -⟩ := hP.1 m (by omega)
    rw [fn336_16, q_w32_id (z := 3 * (m : Int)) (by omega) (by omega), q_w32_id (z := 3 * (m : Int) + a) (by omega) (by omega), if_pos (by omega), show (3 * (m : Int) + a).toNat = 3 * m + a by omega, p1 a ha, fn336_67, q_w32_id (z := (a : Int) + 1) (by omega) (by omega), ← m_s1]
    by_cases z : m_d S.w m a = 0
    · rw [if_pos z]; exact ⟨fun h9 => absurd z h9.1, fun _ => rfl⟩
    · have za : m_abs (m_d S.w m a) ≠ 0 := fun h9 => z (m_abs_z.mp h9)
      rw [if_neg z, q_w32_id (z := 14 + (a : Int)) (by omega) (by omega), r_of (v := S.w (14 + a)) (by omega) (by omega) (by rw [hI.1, show (14 + (a : Int)).toNat = 14 + a by omega]) (by omega), Option.bind_some, if_pos (show 0 ≤ (m : Int) ∧ (m : Int) < 16 by omega), if_pos (by omega), fn236_i (by omega) (by omega), Option.bind_some, if_pos za, if_pos (show 0 ≤ (m : Int) ∧ (m : Int) < 16 by omega), Int.toNat_natCast, p2, p3, q_w32_id (z := S.w (14 + a) * m_l S.w m) (by omega) (by omega), show q_idv (S.w (14 + a) * m_l S.w m) (m_abs (m_d S.w m a)) = a_q S.w m a from rfl]
      by_cases e : a_q S.w m a = m_c S.w 14 m
      · rw [if_pos e]; exact ⟨fun _ => rfl, fun h9 => absurd ⟨z, e⟩ h9⟩
      · rw [if_neg e]; exact ⟨fun h9 => absurd h9.2 e, fun _ => rfl⟩
  intro d
  induction d with
  | zero =>
    intro a f ha hf
    obtain ⟨f, rfl⟩ : ∃ f', f = f' + 1 := ⟨f - 1, by omega⟩
    obtain rfl : a = b := by omega
    exact (step a f hb).1 ⟨hd, he⟩
  | succ d ih =>
    intro a f ha hf
    obtain ⟨f, rfl⟩ : ∃ f', f = f' + 1 := ⟨f - 1, by omega⟩
    rw [(step a f (by omega)).2 (fun h9 => hn a (by omega) h9.1 h9.2)]
    exact ih (a + 1) f (by omega) (by omega)
theorem a_p35 {m : Int} {h h1 h2 : q_F} {S S1 : m_St} {v1 v2 : Int} (J : j_T S S h) (J1 : j_T S1 S h1) (e1 : fn28 m h = some (v1, h1)) (e2 : fn336 m h1 = some (v2, h2)) : a_Q h2 v1 v2 := by
  have hm := J1.2.1.1
  have f := (a_F (r_slowest J1.2.1.2 hm) e2).1 153 (by omega)
  have ok := m_R0_ok hm.1.1
  have r := ok.2.1
  have g0 := a_g0 J1.2.1.2
  unfold fn336 at e2
  unfold fn28 fn215 at e1
  rw [a_299 J1.2.1.2 hm, Option.bind_some] at e2
  rw [c_move m J.1.2, Option.bind_some] at e1
  dsimp only at e1 e2
  by_cases c : 0 ≤ m ∧ m < S.w 4
  · obtain ⟨n, rfl⟩ : ∃ k : Nat, m = (k : Int) := ⟨m.toNat, by omega⟩
    obtain ⟨g, a1, P, a3, a4⟩ := c_planned J.1.2 J.1.1
    obtain ⟨p, b1, Q, b3, b4⟩ := a_plan g0 hm
    obtain ⟨v, x1, H⟩ := a_slowc hm a4 P c.2 3 0 q_fu (-1) 0 (by omega) (by have := q_fu_ge; omega) (Or.inl ⟨rfl, fun c hc => by omega⟩)
    have x1' : fn81_8 6 g q_fu n (-1) 0 0 = some v := x1
    obtain ⟨b', k1, k2, k3⟩ := m_lim (hm.1.2 n c.2) ok (show n < 16 by omega)
    rcases H with ⟨-, H2⟩ | ⟨b, y1, y2, y3, y4, y5⟩
    · exact absurd (H2 b' k1) k2
    · have z1 := y4 b' k1 k2
      have z2 := a_mc ok (show n < 16 by omega) y2 y3
      have k3' : a_q S.w n b' = m_c S.w 14 n := k3
      have z3 : a_q S.w n b = m_c S.w 14 n := by omega
      have x2 := a_slowr b4 hm Q c.2 y2 y3 z3 (fun c' hc hz => by have := y5 c' hc hz; omega) b 0 q_fu (by omega) (by have := q_fu_ge; omega)
      have x2' : fn336_16 q_fu n 0 p = some ((b : Int), p) := x2
      rw [if_pos c, if_pos rfl, a1, Option.bind_some] at e1
      dsimp only at e1
      rw [fn81, x1', Option.bind_some, Option.bind_some, y1] at e1
      dsimp only at e1
      rw [if_pos rfl, m_let] at e1
      rw [if_pos c, if_pos c, if_pos rfl, b1, Option.bind_some] at e2
      dsimp only at e2
      rw [x2'] at e2
      exact a_ok e1 e2 (by rw [b3]; exact q_ud_s _ _ _ _) f
  · rw [if_neg c, if_neg (show ¬ (3 : Nat) = 0 by decide), if_pos rfl, Option.bind_some] at e1
    dsimp only at e1
    rw [if_neg (show ¬ (3 : Nat) = 1 by decide), if_pos rfl] at e1
    rw [if_neg c, if_neg c, if_neg (show ¬ (1 : Int) = 0 by decide)] at e2
    exact a_er e1 e2 (q_ud_s _ _ _ _) (by decide)
