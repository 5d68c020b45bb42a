/-! Part 98i: the reference's questions that answer doubles and floats end. -/
theorem r_line {m : Int} {h : q_F} {S : m_St} (hI : r_I h S) (hm : m_I S) : r_W (fn281 m h) h S := by
  unfold fn281
  refine r_moveQ hI hm (fun m0 m1 g I _ => ?_) (fun g I => r_W_i I)
  dsimp only
  rw [if_pos rfl]
  refine r_planQ I hm fun g I P => ?_
  obtain ⟨n, rfl⟩ : ∃ k : Nat, m = k := ⟨m.toNat, by omega⟩
  obtain ⟨x, e, -⟩ := r_len (m_R0_ok hm.1.1) P.1 m1
  dsimp only
  rw [e, Option.bind_some]; exact r_W_i I
theorem r_qlenl {h : q_F} {S : m_St} (hI : r_I h S) (hm : m_I S) (P : m_Plan h S.w) : ∀ (d m f : Nat) (u : Int), m + d = (S.w 4).toNat → d < f → g_P u → r_W (fn310_13 f u m h) h S := by
  have r := (m_R0_ok hm.1.1).2.1
  intro d
  induction d with
  | zero =>
    intro m f u hd hf hu
    obtain ⟨f, rfl⟩ : ∃ f', f = f' + 1 := ⟨f - 1, by omega⟩
    rw [fn310_13, hI.1, if_pos (by omega)]; exact r_W_i hI
  | succ d ih =>
    intro m f u hd hf hu
    obtain ⟨f, rfl⟩ : ∃ f', f = f' + 1 := ⟨f - 1, by omega⟩
    obtain ⟨x, e, hx⟩ := r_len (m := m) (m_R0_ok hm.1.1) P.1 (by omega)
    have A := g_da hu hx
    rw [fn310_13, hI.1, if_neg (by omega), e, Option.bind_some, if_pos A.1, q_w32_id (by omega) (by omega), ← m_s1]
    exact ih (m + 1) f _ (by omega) (by omega) A.2
theorem r_qlen {h : q_F} {S : m_St} (hI : r_I h S) (hm : m_I S) : r_W (fn310 h) h S := by
  have r := (m_R0_ok hm.1.1).2.1
  unfold fn310
  rw [m_let]
  refine r_g7 hI fun I => ?_
  refine r_planQ I hm fun g I P => ?_
  exact r_qlenl I hm P (S.w 4).toNat 0 q_fu 0 (by omega) (by have := q_fu_ge; omega) (by unfold g_P; omega)
theorem m_t_r {p : Nat → Int} (ok : m_ok p) (nn : m_nn p) {m : Nat} {k : Int} (hm : (m : Int) < p 4) (h0 : 0 ≤ k) (h1 : k < m_l p m) : 1 ≤ m_t p m k ∧ m_t p m k ≤ 1000000 := by
  have s := m_sp_r ok nn hm h0 h1
  unfold m_t
  rw [m_ldv (by omega) (by omega) (by omega) (by omega)]
  exact ⟨by rw [Int.le_ediv_iff_mul_le (by omega)]; omega, Int.ediv_le_self _ (by omega)⟩
theorem r_mspl {h : q_F} {S : m_St} {m : Nat} (hI : r_I h S) (hm : m_I S) (P : m_Plan h S.w) (h4 : (m : Int) < S.w 4) : ∀ (d k f : Nat) (u : Int), (k : Int) + d = m_l S.w m → d < f → (k : Int) ≤ u → u ≤ 1000000 * (k : Int) → r_W (fn293_19 f m u k h) h S := by
  have ok := m_R0_ok hm.1.1
  have r := ok.2.1
  have l := m_l_r ok (m := m) (by omega)
  have l1 := m_l_1 ok (m := m) (by omega) (hm.1.2 m h4)
  have e := (P.1 m (by omega)).2.1
  intro d
  induction d with
  | zero =>
    intro k f u hd hf u0 u1
    obtain ⟨f, rfl⟩ : ∃ f', f = f' + 1 := ⟨f - 1, by omega⟩
    rw [fn293_19, if_pos (by omega), Int.toNat_natCast, e, if_pos (by omega), if_pos (by omega), if_pos (g_ll (q_wr64 _) (by unfold q_r64; omega) (by omega))]
    exact r_W_i hI
  | succ d ih =>
    intro k f u hd hf u0 u1
    obtain ⟨f, rfl⟩ : ∃ f', f = f' + 1 := ⟨f - 1, by omega⟩
    have t := m_t_r ok hm.1.2 (m := m) (k := (k : Int)) h4 (by omega) (by omega)
    rw [fn293_19, if_pos (by omega), Int.toNat_natCast, e, if_neg (by omega), fn275_m ok hm.1.2 P h4 (by omega) (by omega), Option.bind_some, q_w64_id (by omega) (by omega), q_w32_id (by omega) (by omega), ← m_s1]
    exact ih (k + 1) f _ (by omega) (by omega) (by omega) (by omega)
theorem r_msp {m : Int} {h : q_F} {S : m_St} (hI : r_I h S) (hm : m_I S) : r_W (fn293 m h) h S := by
  have ok := m_R0_ok hm.1.1
  have r := ok.2.1
  unfold fn293
  refine r_moveQ hI hm (fun m0 m1 g I _ => ?_) (fun g I => r_W_i I)
  dsimp only
  rw [if_pos rfl]
  refine r_planQ I hm fun g I P => ?_
  obtain ⟨n, rfl⟩ : ∃ k : Nat, m = k := ⟨m.toNat, by omega⟩
  have l := m_l_r ok (m := n) (by omega)
  exact r_mspl I hm P m1 (m_l S.w n).toNat 0 q_fu 0 (by omega) (by have := q_fu_ge; omega) (by omega) (by omega)
theorem r_mdur {h : q_F} {S : m_St} (hI : r_I h S) (h6 : q_r64 (S.w 6)) (h7 : q_r64 (S.w 7)) : r_W (fn292 h) h S := by
  unfold fn292
  rw [m_let]
  refine r_g7 hI fun I => ?_
  rw [I.1]
  by_cases c : S.w 7 = 0
  · rw [if_pos c]; exact r_W_i I
  · rw [if_neg c, if_pos (g_ll h6 h7 c)]; exact r_W_i I
theorem r_lost2 {a : Int} {h : q_F} {S : m_St} (hI : r_I h S) : r_W (fn285 a h) h S := by
  unfold fn285
  refine r_axisQ hI (fun a0 a1 g I _ => ?_) (fun g I => r_W_i I)
  dsimp only
  rw [if_pos rfl, q_w32_id (z := 56 + a) (by omega) (by omega), fn303_i (by omega) (by omega), Option.bind_some, q_w32_id (z := 59 + a) (by omega) (by omega), fn303_i (by omega) (by omega), Option.bind_some]
  split
  · exact r_W_i I
  · rename_i c
    rw [q_w32_id (z := 35 + a) (by omega) (by omega), fn303_i (by omega) (by omega), Option.bind_some, if_pos (g_ff (q_wr _) (q_wr _) c).1]
    exact r_W_i I
theorem r_devk {h : q_F} {p : Nat → Int} (ok : m_ok p) (nn : m_nn p) (hP : m_Plan h p) {m k : Nat} {K18 : Int → Int → Int → q_F → Option (Int × q_F)} (hm : (m : Int) < p 4) (hk : (k : Int) ≤ m_l p m) (hK : ∀ u, g_V u → ∃ v, K18 m u ((k + 1 : Nat) : Int) h = some (v, h)) : ∀ (d a f : Nat) (u : Int), g_V u → a + d = 3 → d < f → ∃ v, fn251_31 K18 f m u k a h = some (v, h) := by
  have h16 := ok.2.1
  have l := m_l_r ok (m := m) (by omega)
  have l1 := m_l_1 ok (m := m) (by omega) (nn m hm)
  intro d
  induction d with
  | zero =>
    intro a f u hu ha hf
    obtain ⟨f, rfl⟩ : ∃ f', f = f' + 1 := ⟨f - 1, by omega⟩
    rw [fn251_31, if_pos (by omega), q_w32_id (by omega) (by omega), ← m_s1]
    exact hK u hu
  | succ d ih =>
    intro a f u hu ha hf
    obtain ⟨f, rfl⟩ : ∃ f', f = f' + 1 := ⟨f - 1, by omega⟩
    have ha3 : a < 3 := by omega
    have dd := m_d_r ok (m := m) (by omega) ha3
    have G := g_ff (i := q_w32 ((k : Int) * m_abs (m_d p m a))) (j := m_l p m) (q_wr _) (by unfold q_r32; omega) (by omega)
    have W0 := G.2 _ (m_made_r ok nn hm ha3 (by omega) hk)
    rw [fn251_31, if_neg (by omega), fn286_m ok nn hP.1 hm ha3 (by omega) hk, Option.bind_some, q_w32_id (z := 3 * (m : Int)) (by omega) (by omega), q_w32_id (z := 3 * (m : Int) + a) (by omega) (by omega), if_pos (by omega), show (3 * (m : Int) + a).toNat = 3 * m + a by omega, (hP.1 m (by omega)).1 a ha3, fn236_i (by omega) (by omega), Option.bind_some, if_pos (show 0 ≤ (m : Int) ∧ (m : Int) < 16 by omega), Int.toNat_natCast, (hP.1 m (by omega)).2.1, if_pos G.1, if_pos W0, fn251_90, fn251_90, q_w32_id (z := (a : Int) + 1) (by omega) (by omega), ← m_s1]
    split
    · rw [if_pos ⟨hu, g_Vof W0⟩]
      exact ih (a + 1) f _ (g_V_mx hu (g_Vof W0)) (by omega) (by omega)
    · rw [if_pos ⟨hu, g_V_neg (g_Vof W0)⟩]
      exact ih (a + 1) f _ (g_V_mx hu (g_V_neg (g_Vof W0))) (by omega) (by omega)
theorem r_devl {h : q_F} {p : Nat → Int} (ok : m_ok p) (nn : m_nn p) (hP : m_Plan h p) {m : Nat} (hm : (m : Int) < p 4) : ∀ (d k f : Nat) (u : Int), g_V u → (k : Int) + d = m_l p m + 1 → d < f → ∃ v, fn251_18 f m u k h = some (v, h) := by
  have h16 := ok.2.1
  have l := m_l_r ok (m := m) (by omega)
  intro d
  induction d with
  | zero =>
    intro k f u hu hd hf
    obtain ⟨f, rfl⟩ : ∃ f', f = f' + 1 := ⟨f - 1, by omega⟩
    exact ⟨u, by rw [fn251_18, if_pos (by omega), Int.toNat_natCast, (hP.1 m (by omega)).2.1, if_pos (by omega)]⟩
  | succ d ih =>
    intro k f u hu hd hf
    obtain ⟨f, rfl⟩ : ∃ f', f = f' + 1 := ⟨f - 1, by omega⟩
    rw [fn251_18, if_pos (by omega), Int.toNat_natCast, (hP.1 m (by omega)).2.1, if_neg (by omega)]
    exact r_devk ok nn hP hm (by omega) (fun u hu => ih (k + 1) f u hu (by omega) (by omega)) 3 0 q_fu u hu (by omega) (by have := q_fu_ge; omega)
theorem r_dev {m : Int} {h : q_F} {S : m_St} (hI : r_I h S) (hm : m_I S) : r_W (fn251 m h) h S := by
  have ok := m_R0_ok hm.1.1
  have r := ok.2.1
  unfold fn251
  refine r_moveQ hI hm (fun m0 m1 g I _ => ?_) (fun g I => r_W_i I)
  dsimp only
  rw [if_pos rfl]
  refine r_planQ I hm fun g I P => ?_
  obtain ⟨n, rfl⟩ : ∃ k : Nat, m = k := ⟨m.toNat, by omega⟩
  have l := m_l_r ok (m := n) (by omega)
  obtain ⟨x, e⟩ := r_devl ok hm.1.2 P m1 (m_l S.w n + 1).toNat 0 q_fu 0 g_V0 (by omega) (by have := q_fu_ge; omega)
  exact ⟨x, g, e, I, r_F_r⟩
