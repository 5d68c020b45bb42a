/-! Part 87: what the reference goes through in thought. -/
theorem m_mk_hi {p : Nat → Int} {n : Nat} : ∀ (d m : Nat) (w : Nat → Int), m + d = n → 0 ≤ w 4 ∧ w 4 ≤ 16 → ∀ j, 122 ≤ j → (m_mk p n d m w).2 j = w j := by
  intro d
  induction d with
  | zero =>
    intro m w hm h4 j hj
    unfold m_mk m_fin
    dsimp only
    rw [m_u_n (by omega)]; unfold m_cp; rw [if_neg (by omega)]
  | succ d ih =>
    intro m w hm h4 j hj
    have f := m_mm_fr (p := p) (m := m) w
    have fj := f j (by unfold m_dy; omega)
    unfold m_mk
    split
    · unfold m_stops
      dsimp only
      rw [m_u_n (by omega), m_u_n (by omega), m_u_n (by omega), m_u_n (by omega), m_u_n (by omega)]; exact fj
    · have c : ∀ i, 50 ≤ i ∨ i < 47 → m_co m (m_mm p m w).2 i = (m_mm p m w).2 i := fun i hi => by unfold m_co; rw [m_u_n (by omega), m_u_n (by omega), m_u_n (by omega)]
      rw [ih (m + 1) _ (by omega) (by rw [c 4 (by omega), f 4 (by unfold m_dy; omega)]; exact h4) j hj, c j (by omega)]; exact fj
theorem m_run_hi {w : Nat → Int} {n : Nat} (h4 : 0 ≤ w 4 ∧ w 4 ≤ 16) {j : Nat} (hj : 122 ≤ j) : (m_run n w).2 j = w j := m_mk_hi n 0 w (by omega) h4 j hj
/-- the row as it is in thought, the true one aside -/
def r_A (g : q_F) (S : m_St) (u : Nat → Int) : Prop := g 140 = u ∧ (∀ j, j < 122 → g 142 j = S.w j) ∧ (∀ j, 122 ≤ j → u j = S.w j) ∧ (g 139 5 = (S.n : Int) ∧ ∀ k, k < S.n → ∀ j, j < 122 → g 144 (122 * k + j) = S.P k j) ∧ (g 139 6 = S.sv ∧ (S.sv ≠ 0 → ∀ j, j < 122 → g 143 j = S.ws j))
theorem r_A_b {h : q_F} {S : m_St} (hI : r_I h S) : ∃ g, fn241 h = some (0, g) ∧ r_A g S S.w ∧ r_F h g := by
  refine ⟨_, r_begins, ⟨?_, fun j hj => ?_, fun _ _ => rfl, ⟨?_, ?_⟩, ?_, ?_⟩, r_F_sr (by omega)⟩
  · rw [m_sr_n (by omega)]; exact hI.1
  · rw [m_sr_s]; unfold m_cp; rw [if_pos (by omega), hI.1]; congr 1; omega
  · rw [m_sr_n (by omega)]; exact hI.2.1.1
  · rw [m_sr_n (by omega)]; exact hI.2.1.2
  · rw [m_sr_n (by omega)]; exact hI.2.2.1
  · rw [m_sr_n (by omega)]; exact hI.2.2.2
theorem r_A_e {g : q_F} {S : m_St} {u : Nat → Int} (hA : r_A g S u) : ∃ g', fn253 g = some (0, g') ∧ r_I g' S ∧ r_F g g' := by
  obtain ⟨a1, a2, a3, ⟨a4, a5⟩, a6, a7⟩ := hA
  refine ⟨_, r_ends (w := S.w) a2 (fun j hj => by rw [a1]; exact a3 j hj), ⟨m_sr_s _ _ _, ⟨?_, ?_⟩, ?_, ?_⟩, r_F_sr (by omega)⟩
  · rw [m_sr_n (by omega)]; exact a4
  · rw [m_sr_n (by omega)]; exact a5
  · rw [m_sr_n (by omega)]; exact a6
  · rw [m_sr_n (by omega)]; exact a7
theorem r_A_sr {g : q_F} {S : m_St} {u u' : Nat → Int} (hA : r_A g S u) (hi : ∀ j, 122 ≤ j → u' j = u j) : r_A (m_sr g 140 u') S u' ∧ r_F g (m_sr g 140 u') := by
  obtain ⟨a1, a2, a3, ⟨a4, a5⟩, a6, a7⟩ := hA
  refine ⟨⟨m_sr_s _ _ _, ?_, fun j hj => (hi j hj).trans (a3 j hj), ⟨?_, ?_⟩, ?_, ?_⟩, r_F_sr (by omega)⟩
  · rw [m_sr_n (by omega)]; exact a2
  · rw [m_sr_n (by omega)]; exact a4
  · rw [m_sr_n (by omega)]; exact a5
  · rw [m_sr_n (by omega)]; exact a6
  · rw [m_sr_n (by omega)]; exact a7
theorem r_A_fq {g g' : q_F} {S : m_St} {u u' : Nat → Int} (hA : r_A g S u) (f : m_fq g g') (e : g' 140 = u') (hi : ∀ j, 122 ≤ j → u' j = u j) : r_A g' S u' ∧ r_F g g' := by
  obtain ⟨a1, a2, a3, ⟨a4, a5⟩, a6, a7⟩ := hA
  refine ⟨⟨e, ?_, fun j hj => (hi j hj).trans (a3 j hj), ⟨?_, ?_⟩, ?_, ?_⟩, r_F_fq f⟩
  · rw [f 142 (by omega) (by omega)]; exact a2
  · rw [f 139 (by omega) (by omega)]; exact a4
  · rw [f 144 (by omega) (by omega)]; exact a5
  · rw [f 139 (by omega) (by omega)]; exact a6
  · rw [f 143 (by omega) (by omega)]; exact a7
/-- the first moves made in thought -/
theorem r_think {g : q_F} {S : m_St} {u : Nat → Int} {n : Nat} (hA : r_A g S u) (ok : m_ok u) (nn : m_nn u) (hn : (n : Int) ≤ u 4) : ∃ v g' u', fn351 n g = some (v, g') ∧ r_A g' S u' ∧ r_F g g' := by
  have ok1 : m_ok (m_u u 2 0) := m_u_ok ok (by omega)
  have nn1 : m_nn (m_u u 2 0) := m_nn_u nn (by omega)
  obtain ⟨A1, F1⟩ := r_A_sr (u' := m_u u 2 0) hA (fun j hj => m_u_n (by omega))
  obtain ⟨h', b1, b2, b3⟩ := fn287_m A1.1 ok1 nn1 (n := n) (by rw [m_u_n (by omega)]; exact hn)
  obtain ⟨A2, F2⟩ := r_A_fq A1 b3 b2 (fun j hj => m_run_hi ok1.2.1 hj)
  unfold fn351
  rw [m_let, m_ud_sr, hA.1, b1, Option.bind_some]
  split
  · exact ⟨_, h', _, rfl, A2, r_F_t F1 F2⟩
  · exact ⟨_, h', _, rfl, A2, r_F_t F1 F2⟩
theorem r_timeOf {h : q_F} {S : m_St} {n : Nat} (hI : r_I h S) (hm : m_I S) (hn : (n : Int) ≤ S.w 4) : r_W (fn353 n h) h S := by
  obtain ⟨g, a1, a2, a3⟩ := r_A_b hI
  obtain ⟨v, g1, u, b1, b2, b3⟩ := r_think a2 (m_R0_ok hm.1.1) hm.1.2 hn
  obtain ⟨g2, d1, d2, d3⟩ := r_A_e b2
  unfold fn353
  rw [a1, Option.bind_some, b1, Option.bind_some, d1, Option.bind_some]
  exact ⟨_, g2, rfl, d2, r_F_t a3 (r_F_t b3 d3)⟩
theorem r_lasts {m : Int} {h : q_F} {S : m_St} (hI : r_I h S) (hm : m_I S) : r_W (fn276 m h) h S := by
  have r := (m_R0_ok hm.1.1).2.1
  unfold fn276
  refine r_moveQ hI hm (fun m0 m1 g I _ => ?_) (fun g I => r_W_i I)
  dsimp only
  rw [if_pos rfl]
  obtain ⟨n, rfl⟩ : ∃ k : Nat, m = k := ⟨m.toNat, by omega⟩
  rw [q_w32_id (by omega) (by omega), ← m_s1]
  exact r_W_e (r_timeOf I hm (by omega))
theorem r_of4 {g : q_F} {u : Nat → Int} (e : g 140 = u) (h4 : 0 ≤ u 4 ∧ u 4 ≤ 16) : fn303 4 g = some (u 4) := r_of (by omega) (by omega) (by rw [e]; rfl) (by omega)
theorem r_queueTime {h : q_F} {S : m_St} (hI : r_I h S) (hm : m_I S) : r_W (fn311 h) h S := by
  have r := (m_R0_ok hm.1.1).2.1
  unfold fn311
  rw [m_let]
  refine r_g7 hI fun I => ?_
  rw [r_of4 I.1 r, Option.bind_some, show S.w 4 = ((S.w 4).toNat : Int) by omega]
  exact r_W_e (r_timeOf I hm (by omega))
theorem r_A_w {g : q_F} {S : m_St} {u : Nat → Int} (v : Int) (hA : r_A g S u) : r_W ((fn253 g).bind fun x => some (v, x.2)) g S := by
  obtain ⟨g2, d1, d2, d3⟩ := r_A_e hA
  rw [d1, Option.bind_some]
  exact ⟨_, g2, rfl, d2, d3⟩
/-- the whole queue made in thought, something looked up, all laid back -/
theorem r_thoughtQ {h : q_F} {S : m_St} {K : Int × q_F → Option (Int × q_F)} (hI : r_I h S) (hm : m_I S) (hK : ∀ v g u, r_A g S u → r_W (K (v, g)) g S) : r_W ((fn241 h).bind fun x3 => (fn303 4 x3.2).bind fun x4 => (fn351 x4 x3.2).bind K) h S := by
  have r := (m_R0_ok hm.1.1).2.1
  obtain ⟨g, a1, a2, a3⟩ := r_A_b hI
  obtain ⟨v, g1, u, b1, b2, b3⟩ := r_think (n := (S.w 4).toNat) a2 (m_R0_ok hm.1.1) hm.1.2 (by omega)
  rw [a1, Option.bind_some]
  dsimp only
  rw [r_of4 a2.1 r, Option.bind_some, show S.w 4 = ((S.w 4).toNat : Int) by omega, b1, Option.bind_some]
  exact r_W_t (r_F_t a3 b3) (hK v g1 u b2)
theorem r_trueB {a : Int} {h : q_F} {S : m_St} (hI : r_I h S) (hm : m_I S) : r_W (fn357 a h) h S := by
  unfold fn357
  refine r_axisQ hI (fun a0 a1 g I _ => ?_) (fun g I => r_W_i I)
  dsimp only
  rw [if_pos rfl]
  refine r_thoughtQ I hm fun v g u A => ?_
  dsimp only
  rw [q_w32_id (z := 26 + a) (by omega) (by omega), fn303_i (by omega) (by omega), Option.bind_some, fn357_42, fn357_42]
  split <;> exact r_A_w _ A
theorem r_wErr {a : Int} {h : q_F} {S : m_St} (hI : r_I h S) (hm : m_I S) : r_W (fn363 a h) h S := by
  unfold fn363
  refine r_axisQ hI (fun a0 a1 g I _ => ?_) (fun g I => r_W_i I)
  dsimp only
  rw [if_pos rfl]
  refine r_homedQ ⟨a0, a1⟩ I (fun g I _ => ?_) (fun g I => r_W_i I)
  dsimp only
  rw [if_pos rfl]
  refine r_thoughtQ I hm fun v g u A => ?_
  dsimp only
  obtain ⟨x, e⟩ := r_errOf g ⟨a0, a1⟩
  rw [e, Option.bind_some, fn363_48, fn363_48]
  split <;> exact r_A_w _ A
theorem r_lostM (h : q_F) : ∃ v, fn284 h = some v := by
  unfold fn284
  rw [fn303_i (by omega) (by omega), Option.bind_some, fn303_i (by omega) (by omega), Option.bind_some, fn303_i (by omega) (by omega), Option.bind_some]
  exact ⟨_, rfl⟩
theorem r_wLose {h : q_F} {S : m_St} (hI : r_I h S) (hm : m_I S) : r_W (fn365 h) h S := by
  unfold fn365
  rw [m_let]
  refine r_g7 hI fun I => ?_
  obtain ⟨x, e⟩ := r_lostM (q_ud h 139 7 0)
  rw [e, Option.bind_some]
  refine r_thoughtQ I hm fun v g u A => ?_
  dsimp only
  obtain ⟨y, e⟩ := r_lostM g
  rw [e, Option.bind_some, fn365_40, fn365_40]
  split <;> exact r_A_w _ A
theorem m_home_hi {w : Nat → Int} {a : Nat} (ha : a < 3) {j : Nat} (hj : 122 ≤ j) : (m_home a w).2 j = w j := by
  have f : ∀ c d t w, (m_seek a c d t w).2 j = w j := fun c d t w => m_seek_fr ha c d t w j (by unfold m_dy; omega)
  unfold m_home
  dsimp only
  split
  · unfold m_hf; dsimp only; rw [m_u_n (by omega), m_u_n (by omega), f, m_u_n (by omega)]
  · split
    · unfold m_hf; dsimp only; rw [m_u_n (by omega), m_u_n (by omega), f, f, m_u_n (by omega)]
    · unfold m_ho; dsimp only; rw [m_u_n (by omega), m_u_n (by omega), m_u_n (by omega), m_u_n (by omega), f, f, m_u_n (by omega)]
theorem r_wHome {a : Int} {h : q_F} {S : m_St} (hI : r_I h S) (hm : m_I S) : r_W (fn364 a h) h S := by
  unfold fn364
  refine r_axisQ hI (fun a0 a1 g I _ => ?_) (fun g I => r_W_i I)
  dsimp only
  rw [if_pos rfl]
  obtain ⟨n, hn, rfl⟩ := m_ax_n ⟨a0, a1⟩
  obtain ⟨g1, x1, x2, x3⟩ := r_A_b I
  rw [x1, Option.bind_some]
  dsimp only
  rw [fn266_m hn (by rw [x2.1]; exact m_R0_ok hm.1.1), Option.bind_some, x2.1]
  obtain ⟨A, F⟩ := r_A_sr (u' := (m_home n S.w).2) x2 (fun j hj => m_home_hi hn hj)
  exact r_W_t (r_F_t x3 F) (r_A_w _ A)
theorem r_stTime {x y z : Int} {h : q_F} {S : m_St} (hI : r_I h S) (hm : m_I S) : r_W (fn345 x y z h) h S := by
  unfold fn345
  rw [m_let]
  refine r_g7 hI fun I => ?_
  rw [r_point x y z I, Option.bind_some, fn345_21, fn345_21]
  by_cases cp : m_point x y z S.w
  · rw [if_pos cp, if_neg (by decide)]
    refine r_failQ I fun g I _ => ?_
    dsimp only
    rw [if_pos rfl, r_homed I hm, Option.bind_some, fn345_42, fn345_42]
    split
    · refine r_failQ I fun g I _ => ?_
      dsimp only
      rw [if_pos rfl]
      have p := m_pt_r hm cp
      obtain ⟨g1, x1, x2, x3⟩ := r_A_b I
      rw [x1, Option.bind_some, m_let]
      dsimp only
      have R1 : m_R0 (m_u S.w 4 0) := m_R0_v hm.1.1 (m_pv_4 (by omega)) (by omega)
      obtain ⟨A1, F1⟩ := r_A_sr (u' := m_u S.w 4 0) x2 (fun j hj => m_u_n (by omega))
      have e4 : m_u S.w 4 0 4 = 0 := m_u_s _ _ _
      have R2 : m_R0 (m_put 0 x y z (m_u S.w 4 0)) := m_R0_put R1 (by omega) (by omega) p.1 p.2.1 p.2.2
      have pt : fn308 0 x y z (m_sr g1 140 (m_u S.w 4 0)) = some (0, m_sr (m_sr g1 140 (m_u S.w 4 0)) 140 (m_put 0 x y z (m_u S.w 4 0))) := r_putT (i := 0) (m_sr_s _ _ _) (by omega) (by omega)
      obtain ⟨A2, F2⟩ := r_A_sr (u' := m_put 0 x y z (m_u S.w 4 0)) A1 (fun j hj => m_put_hi hj (by omega) (by omega))
      have F := r_F_t x3 (r_F_t F1 F2)
      rw [m_ud_sr, x2.1, pt, Option.bind_some]
      dsimp only
      obtain ⟨q, q1, q2⟩ := r_nw A2.1 (m_R0_ok R2)
      rw [q1, Option.bind_some]
      rcases q2 with ⟨rfl, nn⟩ | ⟨rfl, nn⟩
      · rw [if_pos rfl]
        have e1 : m_put 0 x y z (m_u S.w 4 0) 4 = 0 + 1 := by unfold m_put; rw [m_u_s, m_u_s]
        obtain ⟨v, g3, u3, b1, b2, b3⟩ := r_think (n := 1) A2 (m_R0_ok R2) nn (by rw [e1]; omega)
        rw [show (1 : Int) = ((1 : Nat) : Int) from rfl, b1, Option.bind_some, fn345_86]
        exact r_W_t (r_F_t F b3) (r_A_w _ b2)
      · rw [if_neg (by decide), fn345_86]
        exact r_W_t F (r_A_w _ A2)
    · exact r_failQ I fun g I _ => r_W_i I
  · rw [if_neg cp, if_pos rfl]
    exact r_failQ I fun g I _ => r_W_i I
-- the best first target
theorem m_tko_beg {u : Nat → Int} {m k a : Nat} (hk : k ≤ m) (ha : a < 3) : m_beg (m_tko m u) k a = m_beg u k a := by
  unfold m_beg
  split
  · exact m_tko_lo (by omega) (by omega)
  · unfold m_tko; rw [m_u_n (by omega)]; unfold m_cp; rw [if_neg (by omega)]
theorem r_lv1 {K2 : Int → q_F → Option (Int × q_F)} {h : q_F} {w : Nat → Int} {m : Nat} (hw : h 140 = w) (ok : m_ok w) (hm : m < 16) :
    (m_mv w m → fn280_18 K2 q_fu m 1 0 h = fn280_71 K2 ((m + 1 : Nat) : Int) h) ∧ (¬ m_mv w m → fn280_18 K2 q_fu m 1 0 h = (fn349 m h).bind fun x4 => fn280_71 K2 m x4.2) := by
  obtain ⟨n, e⟩ := m_fu3
  have st : ∀ (a f : Nat) (x : Int), a < 3 → (x = 0 ∨ x = 1) → fn280_18 K2 (f + 1) m x a h = fn280_18 K2 f m (if x = 0 then 0 else if m_beg w m a = m_beg w (m + 1) a then 1 else 0) ((a + 1 : Nat) : Int) h := fun a f x ha hx => by
    rw [fn280_18, if_neg (by omega)]
    rcases hx with rfl | rfl
    · rw [if_pos rfl, if_pos rfl, fn280_48, fn280_49, q_w32_id (by omega) (by omega), ← m_s1]
    · rw [if_neg (by decide), if_neg (by decide), fn240_i hw ok (by omega) (by omega) (by omega) (by omega), Option.bind_some, q_w32_id (z := (m : Int) + 1) (by omega) (by omega), fn240_i hw ok (by omega) (by omega) (by omega) (by omega), Option.bind_some, m_tn1, Int.toNat_natCast, Int.toNat_natCast, fn280_48, fn280_49, fn280_49, q_w32_id (z := (a : Int) + 1) (by omega) (by omega), ← m_s1]
      split <;> rfl
  rw [e]
  have g0 := st 0 (n + 1 + 1 + 1) 1 (by omega) (Or.inr rfl)
  rw [if_neg (by decide)] at g0
  have z0 : (if m_beg w m 0 = m_beg w (m + 1) 0 then (1 : Int) else 0) = 0 ∨ (if m_beg w m 0 = m_beg w (m + 1) 0 then (1 : Int) else 0) = 1 := by split <;> simp
  rw [st (0 + 1) (n + 1 + 1) _ (by omega) z0] at g0
  have z1 : ∀ x : Int, (if x = 0 then (0 : Int) else if m_beg w m (0 + 1) = m_beg w (m + 1) (0 + 1) then 1 else 0) = 0 ∨ (if x = 0 then (0 : Int) else if m_beg w m (0 + 1) = m_beg w (m + 1) (0 + 1) then 1 else 0) = 1 := fun x => by (repeat' split) <;> simp
  rw [st (0 + 1 + 1) (n + 1) _ (by omega) (z1 _), m_nest] at g0
  have en : ∀ x : Int, fn280_18 K2 (n + 1) m x ((0 + 1 + 1 + 1 : Nat) : Int) h = if x = 0 then fn280_71 K2 ((m + 1 : Nat) : Int) h else (fn349 m h).bind fun x4 => fn280_71 K2 m x4.2 := fun x => by
    rw [fn280_18, if_pos (by omega), q_w32_id (by omega) (by omega), ← m_s1]
  rw [en] at g0
  rw [m_mv_beg]
  refine ⟨fun hv => g0.trans ?_, fun hv => g0.trans ?_⟩
  · rw [if_neg hv, if_pos rfl]
  · rw [if_pos (Decidable.not_not.mp hv), if_neg (show ¬ (1 : Int) = 0 by decide)]
theorem r_leaves {S : m_St} : ∀ (d m f : Nat) (h : q_F) (u : Nat → Int), m + d = (u 4).toNat → d < f → r_A h S u → m_R0 u → (∀ k, k < m → m_mv u k) → ∃ h' u', fn280_2 f m h = some (0, h') ∧ r_A h' S u' ∧ r_F h h' ∧ m_R0 u' ∧ m_nn u' := by
  intro d
  induction d with
  | zero =>
    intro m f h u hd hf hA R hk
    obtain ⟨f, rfl⟩ : ∃ f', f = f' + 1 := ⟨f - 1, by omega⟩
    have r := (m_R0_ok R).2.1
    exact ⟨h, u, by rw [fn280_2, hA.1, if_pos (by omega)], hA, r_F_r, R, fun k hk2 => hk k (by omega)⟩
  | succ d ih =>
    intro m f h u hd hf hA R hk
    obtain ⟨f, rfl⟩ : ∃ f', f = f' + 1 := ⟨f - 1, by omega⟩
    have r := (m_R0_ok R).2.1
    rw [fn280_2, hA.1, if_neg (by omega)]
    obtain ⟨g1, g2⟩ := r_lv1 (K2 := fn280_2 f) (m := m) hA.1 (m_R0_ok R) (by omega)
    by_cases hv : m_mv u m
    · rw [g1 hv, fn280_71]
      exact ih (m + 1) f h u (by omega) (by omega) hA R (fun k hk2 => by
        by_cases e : k = m
        · subst e; exact hv
        · exact hk k (by omega))
    · rw [g2 hv, r_tko hA.1 r (by omega), Option.bind_some, fn280_71]
      obtain ⟨A, F⟩ := r_A_sr (u' := m_tko m u) hA (fun j hj => m_tko_hi hj r (by omega))
      have e4 : m_tko m u 4 = u 4 - 1 := by unfold m_tko; rw [m_u_s]
      obtain ⟨h', u', b1, b2, b3, b4⟩ := ih m f (m_sr h 140 (m_tko m u)) (m_tko m u) (by rw [e4]; omega) (by omega) A (m_R0_tko R (by omega)) (fun k hk2 => by
        have := hk k hk2
        unfold m_mv m_d at this ⊢
        rw [m_tko_beg (by omega) (by omega), m_tko_beg (by omega) (by omega), m_tko_beg (by omega) (by omega), m_tko_beg (by omega) (by omega), m_tko_beg (by omega) (by omega), m_tko_beg (by omega) (by omega)]
        exact this)
      exact ⟨h', u', b1, b2, r_F_t F b3, b4⟩
theorem r_timeFirst {h : q_F} {S : m_St} {m : Nat} (hI : r_I h S) (hm : m_I S) (h4 : (m : Int) < S.w 4) : r_W (fn354 m h) h S := by
  have ok := m_R0_ok hm.1.1
  have r := ok.2.1
  have t := ok.2.2.2
  obtain ⟨g, a1, a2, a3⟩ := r_A_b hI
  unfold fn354
  rw [a1, Option.bind_some]
  dsimp only
  rw [q_w32_id (z := 3 * (m : Int)) (by omega) (by omega), q_w32_id (z := 74 + 3 * (m : Int)) (by omega) (by omega), q_w32_id (z := 74 + 3 * (m : Int) + 1) (by omega) (by omega), q_w32_id (z := 74 + 3 * (m : Int) + 2) (by omega) (by omega)]
  have t0 := t (74 + 3 * m) (by omega) (by omega)
  have t1 := t (74 + 3 * m + 1) (by omega) (by omega)
  have t2 := t (74 + 3 * m + 2) (by omega) (by omega)
  rw [r_of (v := S.w (74 + 3 * m)) (by omega) (by omega) (by rw [a2.1, show (74 + 3 * (m : Int)).toNat = 74 + 3 * m by omega]) (by omega), Option.bind_some, r_of (v := S.w (74 + 3 * m + 1)) (by omega) (by omega) (by rw [a2.1, show (74 + 3 * (m : Int) + 1).toNat = 74 + 3 * m + 1 by omega]) (by omega), Option.bind_some, r_of (v := S.w (74 + 3 * m + 2)) (by omega) (by omega) (by rw [a2.1, show (74 + 3 * (m : Int) + 2).toNat = 74 + 3 * m + 2 by omega]) (by omega), Option.bind_some, r_tko a2.1 r h4, Option.bind_some]
  dsimp only
  obtain ⟨A1, F1⟩ := r_A_sr (u' := m_tko m S.w) a2 (fun j hj => m_tko_hi hj r h4)
  have e4 : m_tko m S.w 4 = S.w 4 - 1 := by unfold m_tko; rw [m_u_s]
  have R1 := m_R0_tko hm.1.1 h4
  rw [show (0 : Int) = ((0 : Nat) : Int) from rfl, r_putT (i := 0) A1.1 (by omega) (by omega), Option.bind_some]
  obtain ⟨A2, F2⟩ := r_A_sr (u' := m_put 0 (S.w (74 + 3 * m)) (S.w (74 + 3 * m + 1)) (S.w (74 + 3 * m + 2)) (m_tko m S.w)) A1 (fun j hj => m_put_hi hj (by omega) (by omega))
  have R2 := m_R0_put (i := 0) R1 (by omega) (by omega) t0 t1 t2
  have e5 : m_put 0 (S.w (74 + 3 * m)) (S.w (74 + 3 * m + 1)) (S.w (74 + 3 * m + 2)) (m_tko m S.w) 4 = S.w 4 - 1 + 1 := by unfold m_put; rw [m_u_s, e4]
  obtain ⟨h3, u3, d1, d2, d3, d4, d5⟩ := r_leaves (S := S) (S.w 4).toNat 0 q_fu _ _ (by rw [e5]; omega) (by have := q_fu_ge; omega) A2 R2 (fun k hk => absurd hk (Nat.not_lt_zero k))
  have e6 : fn280 (m_sr (m_sr g 140 (m_tko m S.w)) 140 (m_put 0 (S.w (74 + 3 * m)) (S.w (74 + 3 * m + 1)) (S.w (74 + 3 * m + 2)) (m_tko m S.w))) = some (0, h3) := d1
  dsimp only
  rw [e6, Option.bind_some]
  dsimp only
  have r3 := (m_R0_ok d4).2.1
  rw [r_of4 d2.1 r3, Option.bind_some]
  obtain ⟨v, g4, u4, k1, k2, k3⟩ := r_think (n := (u3 4).toNat) d2 (m_R0_ok d4) d5 (by omega)
  rw [show (((u3 4).toNat : Nat) : Int) = u3 4 by omega] at k1
  rw [k1, Option.bind_some]
  exact r_W_t (r_F_t a3 (r_F_t F1 (r_F_t F2 (r_F_t d3 k3)))) (r_A_w _ k2)
theorem r_bestFl {S : m_St} (hm : m_I S) : ∀ (d m f : Nat) (b e : Int) (h : q_F), m + d = (S.w 4).toNat → d < f → r_I h S → r_W (fn242_12 f b e m h) h S := by
  have r := (m_R0_ok hm.1.1).2.1
  intro d
  induction d with
  | zero =>
    intro m f b e h hd hf hI
    obtain ⟨f, rfl⟩ : ∃ f', f = f' + 1 := ⟨f - 1, by omega⟩
    rw [fn242_12, hI.1, if_pos (by omega)]; exact r_W_i hI
  | succ d ih =>
    intro m f b e h hd hf hI
    obtain ⟨f, rfl⟩ : ∃ f', f = f' + 1 := ⟨f - 1, by omega⟩
    rw [fn242_12, hI.1, if_neg (by omega)]
    obtain ⟨v, g, a1, a2, a3⟩ := r_timeFirst (m := m) hI hm (by omega)
    rw [a1, Option.bind_some, fn242_48, fn242_54, fn242_54, q_w32_id (z := (m : Int) + 1) (by omega) (by omega), ← m_s1]
    (repeat' split) <;> exact r_W_t a3 (ih (m + 1) f _ _ g (by omega) (by omega) a2)
theorem r_bestF {h : q_F} {S : m_St} (hI : r_I h S) (hm : m_I S) : r_W (fn242 h) h S := by
  have r := (m_R0_ok hm.1.1).2.1
  unfold fn242
  rw [m_let]
  refine r_g7 hI fun I => ?_
  exact r_bestFl hm (S.w 4).toNat 0 q_fu (-1) 0 _ (by omega) (by have := q_fu_ge; omega) I
theorem r_bestSl {S : m_St} (hm : m_I S) : ∀ (d k f : Nat) (b e : Int) (h : q_F), k + d = 21 → 1 ≤ k → d < f → r_I h S → r_W (fn243_39 f b e (50 * (k : Int)) h) h S := by
  have r := (m_R0_ok hm.1.1).2.1
  intro d
  induction d with
  | zero =>
    intro k f b e h hd h1 hf hI
    obtain ⟨f, rfl⟩ : ∃ f', f = f' + 1 := ⟨f - 1, by omega⟩
    rw [fn243_39, if_pos (by omega)]; exact r_W_i hI
  | succ d ih =>
    intro k f b e h hd h1 hf hI
    obtain ⟨f, rfl⟩ : ∃ f', f = f' + 1 := ⟨f - 1, by omega⟩
    obtain ⟨g, a1, a2, a3⟩ := r_A_b hI
    have R1 : m_R0 (m_u S.w 0 (50 * (k : Int))) := m_R0_v hm.1.1 (m_pv_0 (by omega)) (by omega)
    have nn1 : m_nn (m_u S.w 0 (50 * (k : Int))) := m_nn_u hm.1.2 (by omega)
    have e4 : m_u S.w 0 (50 * (k : Int)) 4 = S.w 4 := m_u_n (by omega)
    obtain ⟨A1, F1⟩ := r_A_sr (u' := m_u S.w 0 (50 * (k : Int))) a2 (fun j hj => m_u_n (by omega))
    obtain ⟨v, g4, u4, k1, k2, k3⟩ := r_think (n := (S.w 4).toNat) A1 (m_R0_ok R1) nn1 (by omega)
    obtain ⟨g5, q1, q2, q3⟩ := r_A_e k2
    have F := r_F_t a3 (r_F_t F1 (r_F_t k3 q3))
    rw [fn243_39, if_neg (by omega), a1, Option.bind_some, m_let]
    dsimp only
    rw [m_ud_sr, a2.1, r_of4 A1.1 (by omega), Option.bind_some, e4, show S.w 4 = ((S.w 4).toNat : Int) by omega, k1, Option.bind_some]
    dsimp only
    rw [q1, Option.bind_some, fn243_90, fn243_96, fn243_96, q_w32_id (z := 50 * (k : Int) + 50) (by omega) (by omega), show 50 * (k : Int) + 50 = 50 * ((k + 1 : Nat) : Int) by omega]
    (repeat' split) <;> exact r_W_t F (ih (k + 1) f _ _ g5 (by omega) (by omega) (by omega) q2)
theorem r_bestS {h : q_F} {S : m_St} (hI : r_I h S) (hm : m_I S) : r_W (fn243 h) h S := by
  unfold fn243
  rw [m_let, fn243_22, fn243_22]
  refine r_g7 hI fun I => ?_
  split
  · exact r_failQ I fun g I _ => r_W_i I
  · refine r_failQ I fun g I _ => ?_
    dsimp only
    rw [if_pos rfl]
    exact r_bestSl hm 20 1 q_fu (-1) 0 g (by omega) (by omega) (by have := q_fu_ge; omega) I
