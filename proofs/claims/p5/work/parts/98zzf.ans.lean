/-! Part 98zzf: the class's times; queueTime, lastsUntil. -/
theorem a_t_q {p : Nat → Int} (ok : m_ok p) (nn : m_nn p) {m : Nat} {k : Int} (hm : (m : Int) < p 4) (h0 : 0 ≤ k) (h1 : k < m_l p m) : q_idv 1000000 (m_sp p m k) = m_t p m k ∧ 0 ≤ m_t p m k ∧ m_t p m k ≤ 1000000 := by
  have s := m_sp_r ok nn hm h0 h1
  have t := a_ldv_r s.1 s.2
  have e : m_t p m k = q_ldv 1000000 (m_sp p m k) := rfl
  exact ⟨by rw [e, m_idv (by omega) (by omega) (by omega) (by omega), m_ldv (by omega) (by omega) (by omega) (by omega)], by omega, by omega⟩
theorem a_95 {g : q_F} {p : Nat → Int} (ok : m_ok p) (nn : m_nn p) (P : c_Plan g p) {m : Nat} {k : Int} (hm : (m : Int) < p 4) (h0 : 0 ≤ k) (h1 : k < m_l p m) : fn95 m k g = some (m_t p m k) := by
  have s := m_sp_r ok nn hm h0 h1
  rw [fn95, c_sp ok nn P hm h0 h1, Option.bind_some, c_quo (by omega), Option.bind_some, (a_t_q ok nn hm h0 h1).1]
theorem a_ts_s {p : Nat → Int} {m : Nat} : ∀ (n : Nat) (k : Int), a_ts p m k (n + 1) = a_ts p m k n + m_t p m (k + n) := by
  intro n
  induction n with
  | zero => intro k; rw [a_ts, a_ts, a_ts, show k + ((0 : Nat) : Int) = k by omega]; omega
  | succ n ih => intro k; rw [a_ts, ih (k + 1), a_ts, show k + 1 + (n : Int) = k + ((n + 1 : Nat) : Int) by omega]; omega
/-- between two steps at the cruise's speed all go at it -/
theorem a_cru {p : Nat → Int} (ok : m_ok p) (nn : m_nn p) {m : Nat} {a b k : Int} (hm : (m : Int) < p 4) (h1 : a ≤ k) (h2 : k ≤ b) (ha : m_c p 14 m ≤ m_sp p m a) (hb : m_c p 14 m ≤ m_sp p m b) : m_sp p m k = m_c p 14 m := by
  have r := ok.2.1
  have g := m_gain_r ok (m := m) (by omega) (nn m hm)
  have m1 : m_c p 17 m * a ≤ m_c p 17 m * k := Int.mul_le_mul_of_nonneg_left h1 (by omega)
  have m2 : m_c p 17 m * (m_l p m - 1 - b) ≤ m_c p 17 m * (m_l p m - 1 - k) := Int.mul_le_mul_of_nonneg_left (by omega) (by omega)
  unfold m_sp qx_mn at ha hb ⊢
  revert ha hb
  generalize m_c p 17 m * a = A at *
  generalize m_c p 17 m * k = K at *
  generalize m_c p 17 m * (m_l p m - 1 - b) = B at *
  generalize m_c p 17 m * (m_l p m - 1 - k) = L at *
  generalize m_c p 17 m * b = B2 at *
  generalize m_c p 17 m * (m_l p m - 1 - a) = A2 at *
  intro ha hb
  (repeat' split at ha) <;> (repeat' split at hb) <;> (repeat' split) <;> omega
theorem a_ts_c {p : Nat → Int} {m : Nat} {C : Int} : ∀ (n : Nat) (k : Int), (∀ i : Int, k ≤ i → i < k + n → m_sp p m i = C) → a_ts p m k n = n * q_ldv 1000000 C := by
  intro n
  induction n with
  | zero => intro k _; rw [a_ts, show ((0 : Nat) : Int) = 0 from rfl, Int.zero_mul]
  | succ n ih =>
    intro k h
    have e : m_t p m k = q_ldv 1000000 (m_sp p m k) := rfl
    rw [a_ts, ih (k + 1) (fun i h1 h2 => h i (by omega) (by omega)), e, h k (by omega) (by omega), m_s1, Int.add_mul]; omega
theorem a_99 {g : q_F} {C t u6 u7 : Int} (hC : 1 ≤ C ∧ C ≤ 5000) (hu : 0 ≤ u7 - u6 ∧ u7 - u6 ≤ 2000) (ht : 0 ≤ t ∧ t ≤ 2000000000) : fn96_99 C t u6 u7 g = some (t + (u7 - u6) * q_ldv 1000000 C) := by
  have q := a_ldv_r hC.1 hC.2
  have e : q_idv 1000000 C = q_ldv 1000000 C := by rw [m_idv (by omega) (by omega) (by omega) (by omega), m_ldv (by omega) (by omega) (by omega) (by omega)]
  have pr := m_mulr (x := u7 - u6) (l := q_ldv 1000000 C) (a := 2000) (b := 1000000) hu.1 hu.2 q.1 q.2
  rw [fn96_99, c_quo (by omega), Option.bind_some, e, q_w32_id (by omega) (by omega), q_w64_id (z := (u7 - u6) * q_ldv 1000000 C) (by omega) (by omega), q_w64_id (by omega) (by omega)]
theorem a_60 {g : q_F} {p : Nat → Int} (ok : m_ok p) (nn : m_nn p) (P : c_Plan g p) {m a : Nat} (hm : (m : Int) < p 4) (ha : (a : Int) < m_l p m → m_c p 14 m ≤ m_sp p m a) : ∀ (e f : Nat) (t : Int), e < f → (a : Int) + e ≤ m_l p m → 0 ≤ t → t + 1000000 * e ≤ 2000000000 → fn96_60 g f m (m_c p 14 m) t a ((a + e : Nat) : Int) = some (t + a_ts p m a e) := by
  have r := ok.2.1
  have l := m_l_r ok (m := m) (by omega)
  have C := m_cru_r ok (m := m) (by omega) (nn m hm)
  intro e
  induction e with
  | zero =>
    intro f t hf hl t0 t1
    obtain ⟨f, rfl⟩ : ∃ f', f = f' + 1 := ⟨f - 1, by omega⟩
    rw [fn96_60, if_pos (by omega), a_99 C (by omega) (by omega), a_ts, show ((a + 0 : Nat) : Int) - (a : Int) = 0 by omega, Int.zero_mul]
  | succ e ih =>
    intro f t hf hl t0 t1
    obtain ⟨f, rfl⟩ : ∃ f', f = f' + 1 := ⟨f - 1, by omega⟩
    have hk : ((a + (e + 1) : Nat) : Int) - 1 = ((a + e : Nat) : Int) := by omega
    have hk2 : ((a + (e + 1) : Nat) : Int) + -1 = ((a + e : Nat) : Int) := by omega
    have tt := a_t_q ok nn (k := ((a + e : Nat) : Int)) hm (by omega) (by omega)
    rw [fn96_60, if_neg (by omega), q_w32_id (z := ((a + (e + 1) : Nat) : Int) - 1) (by omega) (by omega), q_w32_id (z := ((a + (e + 1) : Nat) : Int) + -1) (by omega) (by omega), hk, hk2, c_sp ok nn P hm (by omega) (by omega), Option.bind_some]
    by_cases c : m_c p 14 m ≤ m_sp p m ((a + e : Nat) : Int)
    · rw [if_pos c, a_99 C (by omega) (by omega), a_ts_c (C := m_c p 14 m) (e + 1) a (fun i h1 h2 => a_cru ok nn (a := a) (b := ((a + e : Nat) : Int)) hm h1 (by omega) (ha (by omega)) c), show ((a + (e + 1) : Nat) : Int) - (a : Int) = ((e + 1 : Nat) : Int) by omega]
    · rw [if_neg c, a_95 ok nn P hm (by omega) (by omega), Option.bind_some, q_w64_id (by omega) (by omega), ih f _ (by omega) (by omega) (by omega) (by omega), a_ts_s, show (a : Int) + (e : Int) = ((a + e : Nat) : Int) by omega]
      congr 1; omega
theorem a_21 {g : q_F} {p : Nat → Int} (ok : m_ok p) (nn : m_nn p) (P : c_Plan g p) {m : Nat} (hm : (m : Int) < p 4) : ∀ (d k f : Nat) (t : Int), (k : Int) + d = m_l p m → d < f → 0 ≤ t → t + 1000000 * d ≤ 2000000000 → fn96_21 g f m (m_c p 14 m) (m_l p m) t k = some (t + a_ts p m k d) := by
  have r := ok.2.1
  have l := m_l_r ok (m := m) (by omega)
  intro d
  induction d with
  | zero =>
    intro k f t hk hf t0 t1
    obtain ⟨f, rfl⟩ : ∃ f', f = f' + 1 := ⟨f - 1, by omega⟩
    have x := a_60 (a := k) ok nn P hm (fun h9 => by omega) 0 q_fu t (by have := q_fu_ge; omega) (by omega) t0 (by omega)
    rw [show ((k + 0 : Nat) : Int) = m_l p m by omega] at x
    rw [fn96_21, if_pos (by omega), fn96_57]; exact x
  | succ d ih =>
    intro k f t hk hf t0 t1
    obtain ⟨f, rfl⟩ : ∃ f', f = f' + 1 := ⟨f - 1, by omega⟩
    have tt := a_t_q ok nn (k := (k : Int)) hm (by omega) (by omega)
    rw [fn96_21, if_neg (by omega), c_sp ok nn P hm (by omega) (by omega), Option.bind_some]
    by_cases c : m_c p 14 m ≤ m_sp p m k
    · have x := a_60 (a := k) ok nn P hm (fun _ => c) (d + 1) q_fu t (by have := q_fu_ge; omega) (by omega) t0 t1
      rw [show ((k + (d + 1) : Nat) : Int) = m_l p m by omega] at x
      rw [if_pos c, fn96_57]; exact x
    · rw [if_neg c, a_95 ok nn P hm (by omega) (by omega), Option.bind_some, q_w64_id (by omega) (by omega), q_w32_id (z := (k : Int) + 1) (by omega) (by omega), ← m_s1, ih (k + 1) f _ (by omega) (by omega) (by omega) (by omega), a_ts, m_s1]
      congr 1; omega
theorem a_96 {g : q_F} {p : Nat → Int} (ok : m_ok p) (nn : m_nn p) (P : c_Plan g p) {m : Nat} (hm : (m : Int) < p 4) : fn96 m g = some (a_ts p m 0 (m_l p m).toNat) := by
  have r := ok.2.1
  have l := m_l_r ok (m := m) (by omega)
  obtain ⟨p2, p3, -, -⟩ := P.1.2 m (by omega)
  have x := a_21 ok nn P hm (m_l p m).toNat 0 q_fu 0 (by omega) (by have := q_fu_ge; omega) (by omega) (by omega)
  rw [Int.zero_add] at x
  have x' : fn96_21 g q_fu m (m_c p 14 m) (m_l p m) 0 0 = some (a_ts p m 0 (m_l p m).toNat) := x
  rw [fn96, c_ent (by omega) (by omega), Option.bind_some, Int.toNat_natCast, p3, c_lead p2 (by omega), Option.bind_some, x']
theorem a_71 {g : q_F} {p : Nat → Int} (ok : m_ok p) (P : c_Plan g p) {m : Nat} (hm : (m : Int) < p 4) : fn71 m g = some (m_cmp p m * q_ldv 1000000 (p 0)) ∧ 0 ≤ m_cmp p m * q_ldv 1000000 (p 0) ∧ m_cmp p m * q_ldv 1000000 (p 0) ≤ 60000000 := by
  have r := ok.2.1
  have z0 := ok.1
  have t := a_ldv_r (z := p 0) (by omega) (by omega)
  have s0 := m_st_r ok (m := m) (show 0 < 3 by omega)
  have s1 := m_st_r ok (m := m) (show 1 < 3 by omega)
  have s2 := m_st_r ok (m := m) (show 2 < 3 by omega)
  have c : 0 ≤ m_cmp p m ∧ m_cmp p m ≤ 60 := by unfold m_cmp; split <;> omega
  have pr := m_mulr (x := m_cmp p m) (l := q_ldv 1000000 (p 0)) (a := 60) (b := 1000000) c.1 c.2 t.1 t.2
  have e : q_idv 1000000 (p 0) = q_ldv 1000000 (p 0) := by rw [m_idv (by omega) (by omega) (by omega) (by omega), m_ldv (by omega) (by omega) (by omega) (by omega)]
  refine ⟨?_, pr.1, by omega⟩
  rw [fn71, c_ent (by omega) (by omega), Option.bind_some, Int.toNat_natCast, (P.1.2 m (by omega)).2.2.2, P.2.2.2.2, c_quo (by omega), Option.bind_some, e, q_w64_id (by omega) (by omega)]
theorem a_995 {g : q_F} {p : Nat → Int} {u : Int} (ok : m_ok p) (nn : m_nn p) (P : c_Plan g p) (hu : u < p 4) : ∀ (d k f : Nat) (t : Int), (k : Int) + d = u + 1 → d < f → 0 ≤ t → t + 2060000000 * d ≤ 40000000000 → fn99_5 g f u t k = some (t + a_TT p k d) := by
  have r := ok.2.1
  intro d
  induction d with
  | zero =>
    intro k f t hk hf t0 t1
    obtain ⟨f, rfl⟩ : ∃ f', f = f' + 1 := ⟨f - 1, by omega⟩
    rw [fn99_5, if_pos (by omega), a_TT, Int.add_zero]
  | succ d ih =>
    intro k f t hk hf t0 t1
    obtain ⟨f, rfl⟩ : ∃ f', f = f' + 1 := ⟨f - 1, by omega⟩
    have x := a_71 ok P (m := k) (by omega)
    have tm := a_tm_r ok nn (m := k) (by omega)
    have e : m_cmp p k * q_ldv 1000000 (p 0) + a_ts p k 0 (m_l p k).toNat = a_tm p k := rfl
    rw [fn99_5, if_neg (by omega), P.2.2.2.1, if_neg (by omega), x.1, Option.bind_some, a_96 ok nn P (by omega), Option.bind_some, e, q_w64_id (z := a_tm p k) (by omega) (by omega), q_w64_id (by omega) (by omega), q_w32_id (z := (k : Int) + 1) (by omega) (by omega), ← m_s1, ih (k + 1) f _ (by omega) (by omega) (by omega) (by omega), a_TT]
    congr 1; omega
theorem a_999 {g : q_F} {p : Nat → Int} {n : Nat} (ok : m_ok p) (nn : m_nn p) (P : c_Plan g p) (hn : (n : Int) ≤ p 4) : fn99 ((n : Int) - 1) g = some (a_TT p 0 n) := by
  have r := ok.2.1
  have x := a_995 (u := (n : Int) - 1) ok nn P (by omega) n 0 q_fu 0 (by omega) (by have := q_fu_ge; omega) (by omega) (by omega)
  rw [Int.zero_add] at x
  rw [fn99]; exact x
/-- the reference's time of the first moves -/
theorem a_353 {h : q_F} {S : m_St} {n : Nat} (hI : r_I h S) (hm : m_I S) (hn : (n : Int) ≤ S.w 4) : ∃ g, fn353 n h = some (a_TT S.w 0 n, g) ∧ g 139 7 = h 139 7 ∧ r_I g S := by
  obtain ⟨g1, a1, a2, a3⟩ := a_A_b hI
  obtain ⟨g2, w2, -, b2, b3, b4⟩ := a_think (n := n) a2 hm hn
  obtain ⟨g3, d1, d2, d3⟩ := a_A_e b3
  refine ⟨g3, ?_, d3.trans (b4.trans a3), d2⟩
  rw [fn353, a1, Option.bind_some, b2, Option.bind_some, d1, Option.bind_some]
theorem a_p48 {h h1 h2 : q_F} {S S1 : m_St} {v1 v2 : Int} (J : j_T S S h) (J1 : j_T S1 S h1) (e1 : fn200 h = some (v1, h1)) (e2 : fn311 h1 = some (v2, h2)) : v1 = v2 := by
  have hm := J1.2.1.1
  have ok := m_R0_ok hm.1.1
  have r := ok.2.1
  have g0 := a_g0 J1.2.1.2
  obtain ⟨g, a1, P, -, -⟩ := c_planned J.1.2 J.1.1
  obtain ⟨g3, b1, -, -⟩ := a_353 (n := (S.w 4).toNat) g0 hm (by omega)
  have x := a_999 (n := (S.w 4).toNat) ok hm.1.2 P (by omega)
  rw [show ((S.w 4).toNat : Int) = S.w 4 by omega] at b1 x
  rw [fn200, a1, Option.bind_some] at e1
  dsimp only at e1
  rw [fn102, P.2.2.2.1, q_w32_id (z := S.w 4 - 1) (by omega) (by omega), x, Option.bind_some, Option.bind_some] at e1
  rw [fn311, m_let, r_of4 g0.1 r, Option.bind_some, b1, Option.bind_some] at e2
  have d1 := congrArg Prod.fst (Option.some.inj e1)
  have d2 := congrArg Prod.fst (Option.some.inj e2)
  exact d1.symm.trans d2
theorem a_p40 {m : Int} {h h1 h2 : q_F} {S S1 : m_St} {v1 v2 : Int} (J : j_T S S h) (J1 : j_T S1 S h1) (e1 : fn13 m h = some (v1, h1)) (e2 : fn276 m h1 = some (v2, h2)) : a_Q h2 v1 v2 := by
  have hm := J1.2.1.1
  have f := (a_F (r_lasts J1.2.1.2 hm) e2).1 153 (by omega)
  have ok := m_R0_ok hm.1.1
  have r := ok.2.1
  have g0 := a_g0 J1.2.1.2
  unfold fn276 at e2
  unfold fn13 fn185 at e1
  rw [a_299 J1.2.1.2 hm, Option.bind_some] at e2
  rw [c_move m J.1.2, Option.bind_some] at e1
  dsimp only at e1 e2
  by_cases c : 0 ≤ m ∧ m < S.w 4
  · obtain ⟨n, rfl⟩ : ∃ k : Nat, m = (k : Int) := ⟨m.toNat, by omega⟩
    obtain ⟨g, a1, P, -, -⟩ := c_planned J.1.2 J.1.1
    obtain ⟨g3, b1, b2, -⟩ := a_353 (n := n + 1) g0 hm (by omega)
    have x := a_999 (n := n + 1) ok hm.1.2 P (by omega)
    rw [show ((n + 1 : Nat) : Int) - 1 = (n : Int) by omega] at x
    rw [if_pos c, if_pos rfl, a1, Option.bind_some] at e1
    dsimp only at e1
    rw [x, Option.bind_some, Option.bind_some] at e1
    dsimp only at e1
    rw [if_pos rfl, m_let] at e1
    rw [if_pos c, if_pos c, if_pos rfl, q_w32_id (z := (n : Int) + 1) (by omega) (by omega), ← m_s1, b1, Option.bind_some] at e2
    exact a_ok e1 e2 (b2.trans (q_ud_s _ _ _ _)) f
  · rw [if_neg c, if_neg (show ¬ (3 : Nat) = 0 by decide), if_pos rfl, Option.bind_some] at e1
    dsimp only at e1
    rw [if_neg (show ¬ (3 : Nat) = 1 by decide), if_pos rfl] at e1
    rw [if_neg c, if_neg c, if_neg (show ¬ (1 : Int) = 0 by decide)] at e2
    exact a_er e1 e2 (q_ud_s _ _ _ _) (by decide)
