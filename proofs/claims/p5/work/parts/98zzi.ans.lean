/-! Part 98zzi: straightTime, bestStart. -/
/-- moves of any path made in thought: the reference -/
theorem a_thinkU {g : q_F} {S : m_St} {u : Nat → Int} {n : Nat} (hA : r_A g S u) (ok : m_ok u) (nn : m_nn u) (hn : (n : Int) ≤ u 4) : ∃ g' w', fn351 n g = some (a_TT u 0 n, g') ∧ r_A g' S w' ∧ g' 139 7 = g 139 7 := by
  have ok1 : m_ok (m_u u 2 0) := m_u_ok ok (by omega)
  have nn1 : m_nn (m_u u 2 0) := m_nn_u nn (by omega)
  obtain ⟨w', x1, x2, x3⟩ := a_mk0 ok nn hn n 0 (m_u u 2 0) (by omega) a_at0
  obtain ⟨A1, F1⟩ := r_A_sr (u' := m_u u 2 0) hA (fun j hj => m_u_n (by omega))
  obtain ⟨h', b1, b2, b3⟩ := fn287_m A1.1 ok1 nn1 (n := n) (by rw [m_u_n (by omega)]; exact hn)
  have e : m_run n (m_u u 2 0) = ((n : Int), w') := by unfold m_run; rw [a_mk2]; exact x1
  rw [e] at b1 b2
  obtain ⟨A2, F2⟩ := r_A_fq (u' := w') A1 b3 b2 (fun j hj => by have := m_run_hi (w := m_u u 2 0) (n := n) ok1.2.1 hj; rw [e] at this; exact this)
  have T := a_TT_r ok nn n 0 (by omega)
  have r := ok.2.1
  refine ⟨h', w', ?_, A2, ?_⟩
  · have v : q_w64 (w' 5 - u 5) = a_TT u 0 n := by
      refine a_cg_v ?_ (by omega) (by omega)
      obtain ⟨c, hc⟩ := x3
      rw [m_u_n (by omega)] at hc
      exact ⟨c, by omega⟩
    unfold fn351
    rw [m_let, m_ud_sr, hA.1, b1, Option.bind_some]
    dsimp only
    rw [if_pos rfl, b2, m_sr_s, m_u_n (show 5 ≠ 2 by decide), v]
  · rw [b3 139 (by omega) (by omega), m_sr_n (by omega)]
theorem a_p49 {x y z : Int} {h h1 h2 : q_F} {S S1 : m_St} {v1 v2 : Int} (J : j_T S S h) (J1 : j_T S1 S h1) (e1 : fn31 x y z h = some (v1, h1)) (e2 : fn345 x y z h1 = some (v2, h2)) : a_Q h2 v1 v2 := by
  have hm := J1.2.1.1
  have hI := J.1.2
  have f := (a_F (r_stTime J1.2.1.2 hm) e2).1 153 (by omega)
  have g0 := a_g0 J1.2.1.2
  unfold fn345 fn345_21 fn345_42 at e2
  unfold fn31 fn219 at e1
  rw [m_let, r_point x y z g0, Option.bind_some] at e2
  rw [c_point x y z hI, Option.bind_some] at e1
  by_cases cp : m_point x y z S.w
  · rw [if_pos cp] at e1
    rw [if_pos cp, if_neg (show ¬ (1 : Int) = 0 by decide), a_2580, Option.bind_some] at e2
    dsimp only at e1 e2
    rw [if_pos rfl, fn161, c_homed hI hm, Option.bind_some] at e1
    rw [if_pos rfl, r_homed g0 hm, Option.bind_some] at e2
    by_cases c3 : 3 ≤ S.w 41 + S.w 42 + S.w 43
    · rw [if_pos c3, Option.bind_some] at e1
      rw [if_pos c3, a_2580, Option.bind_some] at e2
      dsimp only at e1 e2
      rw [if_pos rfl, fn143, m_let, Option.bind_some] at e1
      dsimp only at e1
      have p := m_pt_r hm cp
      have R1 : m_R0 (m_u S.w 4 0) := m_R0_v hm.1.1 (m_pv_4 (by omega)) (by omega)
      have e4 : m_u S.w 4 0 4 = 0 := m_u_s _ _ _
      have R2 : m_R0 (m_put 0 x y z (m_u S.w 4 0)) := m_R0_put R1 (by omega) (by omega) p.1 p.2.1 p.2.2
      have f1 : c_fo 135 h (q_ud h 135 1 0) := c_fo_u c_fo_r (Or.inl rfl)
      obtain ⟨h3, b1, b2, b3⟩ := c_pput (i := 0) (x := x) (y := y) (z := z) (c_clearP (h := h) e4) (by omega) (by omega)
      have I2 := c_I_path hI hm.2.1.1 (c_fo_t f1 b3)
      have ep : ∀ j, j < 74 → j ≠ 4 → m_put 0 x y z (m_u S.w 4 0) j = S.w j := fun j h1 h2 => by rw [m_put_lo h1 h2, m_u_n h2]
      have r2 := (m_R0_ok R2).2.1
      have b0 : fn150 135 0 x y z (q_ud h 135 1 0) = some (0, h3) := b1
      have e5 : m_put 0 x y z (m_u S.w 4 0) 4 = 1 := by unfold m_put; rw [m_u_s, m_u_s]; rfl
      have e0 : h3 6 4 = m_put 0 x y z (m_u S.w 4 0) 0 := by rw [ep 0 (by omega) (by omega)]; exact I2.1.2.1.1
      rw [b0, Option.bind_some] at e1
      dsimp only at e1
      obtain ⟨q, q1, q2⟩ := c_nw (t := 6) b2 r2 (fun a ha => by rw [ep _ (by omega) (by omega)]; exact (I2.1.1 a ha).1 12 (by omega))
      rw [q1, Option.bind_some] at e1
      obtain ⟨g1, x1, x2, x3⟩ := a_A_b g0
      obtain ⟨A1, F1⟩ := r_A_sr (u' := m_u S.w 4 0) x2 (fun j hj => m_u_n (by omega))
      have pt : fn308 0 x y z (m_sr g1 140 (m_u S.w 4 0)) = some (0, m_sr (m_sr g1 140 (m_u S.w 4 0)) 140 (m_put 0 x y z (m_u S.w 4 0))) := r_putT (i := 0) (m_sr_s _ _ _) (by omega) (by omega)
      obtain ⟨A2, F2⟩ := r_A_sr (u' := m_put 0 x y z (m_u S.w 4 0)) A1 (fun j hj => m_put_hi hj (by omega) (by omega))
      obtain ⟨q', q3, q4⟩ := r_nw A2.1 (m_R0_ok R2)
      have z7 : (m_sr (m_sr g1 140 (m_u S.w 4 0)) 140 (m_put 0 x y z (m_u S.w 4 0))) 139 7 = 0 := by
        rw [m_sr_n (by omega), m_sr_n (by omega), x3]; exact q_ud_s _ _ _ _
      rw [if_pos rfl, x1, Option.bind_some] at e2
      dsimp only at e2
      rw [m_let, m_ud_sr, x2.1, pt, Option.bind_some] at e2
      dsimp only at e2
      rw [q3, Option.bind_some] at e2
      rcases q2 with ⟨rfl, nn⟩ | ⟨rfl, nn⟩
      · have e9 : q' = 0 := by
          rcases q4 with ⟨e9, -⟩ | ⟨-, nn'⟩
          · exact e9
          · exact absurd nn nn'
        subst e9
        obtain ⟨h4, d1, P, d3⟩ := c_make (t := 6) (g := 135) (by omega) (by omega) (m_R0_ok R2) nn (c_src_p I2 b2 (fun j h0 h1 h2 => ep j h1 h2))
        rw [← e0] at d1
        have tm := a_999 (n := 1) (m_R0_ok R2) nn P (by omega)
        have tm' : fn99 0 h4 = some (a_TT (m_put 0 x y z (m_u S.w 4 0)) 0 1) := tm
        obtain ⟨g3, u3, k1, k2, k3⟩ := a_thinkU (n := 1) A2 (m_R0_ok R2) nn (by omega)
        have k1' : fn351 1 (m_sr (m_sr g1 140 (m_u S.w 4 0)) 140 (m_put 0 x y z (m_u S.w 4 0))) = some (a_TT (m_put 0 x y z (m_u S.w 4 0)) 0 1, g3) := k1
        obtain ⟨g4, l1, l2, l3⟩ := a_A_e k2
        rw [if_pos rfl, d1, Option.bind_some] at e1
        dsimp only at e1
        rw [fn102, P.2.2.2.1, e5, show q_w32 (1 - 1) = 0 from q_w32_id (by omega) (by omega), tm', Option.bind_some, Option.bind_some, Option.bind_some] at e1
        dsimp only at e1
        rw [if_pos rfl, m_let] at e1
        rw [if_pos rfl, k1', Option.bind_some, fn345_86, l1, Option.bind_some] at e2
        exact a_ok e1 e2 (l3.trans (k3.trans z7)) f
      · have e9 : q' = 1 := by
          rcases q4 with ⟨-, nn'⟩ | ⟨e9, -⟩
          · exact absurd nn' nn
          · exact e9
        subst e9
        obtain ⟨g4, l1, l2, l3⟩ := a_A_e A2
        rw [if_neg (show ¬ (1 : Int) = 0 by decide), Option.bind_some] at e1
        dsimp only at e1
        rw [if_pos rfl, m_let] at e1
        rw [if_neg (show ¬ (1 : Int) = 0 by decide), fn345_86, l1, Option.bind_some] at e2
        exact a_ok e1 e2 (l3.trans z7) f
    · rw [if_neg c3, Option.bind_some] at e1
      dsimp only at e1
      rw [if_neg (show ¬ (4 : Nat) = 0 by decide), if_pos rfl, Option.bind_some] at e1
      dsimp only at e1
      rw [if_neg (show ¬ (4 : Nat) = 1 by decide), if_neg (show ¬ (4 : Nat) = 2 by decide), if_pos rfl] at e1
      rw [if_neg c3, a_2581, Option.bind_some] at e2
      dsimp only at e2
      rw [if_neg (show ¬ (1 : Int) = 0 by decide)] at e2
      exact a_er e1 e2 (q_ud_s _ _ _ _) (by decide)
  · rw [if_neg cp] at e1
    dsimp only at e1
    rw [if_neg (show ¬ (2 : Nat) = 0 by decide), if_pos rfl, Option.bind_some] at e1
    dsimp only at e1
    rw [if_neg (show ¬ (2 : Nat) = 1 by decide), if_pos rfl] at e1
    rw [if_neg cp, if_pos rfl, a_2581, Option.bind_some] at e2
    dsimp only at e2
    rw [if_neg (show ¬ (1 : Int) = 0 by decide)] at e2
    exact a_er e1 e2 (q_ud_s _ _ _ _) (by decide)
theorem a_bstl {S : m_St} (hm : m_I S) : ∀ (d k f1 f2 : Nat) (b b' e : Int) (h g : q_F), k + d = 21 → 1 ≤ k → d < f1 → d < f2 → c_I h S → r_I g S → ((b = 0 ∧ b' = -1) ∨ (b ≠ 0 ∧ b ≠ -1 ∧ b' = b)) → (k = 21 → b' = b) → ∃ v h' g', fn159_31 f1 b e (50 * (k : Int)) h = some (1, v, h') ∧ fn243_39 f2 b' e (50 * (k : Int)) g = some (v, g') ∧ g' 139 7 = g 139 7 := by
  have r := (m_R0_ok hm.1.1).2.1
  intro d
  induction d with
  | zero =>
    intro k f1 f2 b b' e h g hd h1 hf1 hf2 hI hR hb hb2
    obtain ⟨f1, rfl⟩ : ∃ f', f1 = f' + 1 := ⟨f1 - 1, by omega⟩
    obtain ⟨f2, rfl⟩ : ∃ f', f2 = f' + 1 := ⟨f2 - 1, by omega⟩
    exact ⟨b, h, g, by rw [fn159_31, if_pos (by omega)], by rw [fn243_39, if_pos (by omega), hb2 (by omega)], rfl⟩
  | succ d ih =>
    intro k f1 f2 b b' e h g hd h1 hf1 hf2 hI hR hb hb2
    obtain ⟨f1, rfl⟩ : ∃ f', f1 = f' + 1 := ⟨f1 - 1, by omega⟩
    obtain ⟨f2, rfl⟩ : ∃ f', f2 = f' + 1 := ⟨f2 - 1, by omega⟩
    have R1 : m_R0 (m_u S.w 0 (50 * (k : Int))) := m_R0_v hm.1.1 (m_pv_0 (by omega)) (by omega)
    have nn1 : m_nn (m_u S.w 0 (50 * (k : Int))) := m_nn_u hm.1.2 (by omega)
    have e4 : m_u S.w 0 (50 * (k : Int)) 4 = S.w 4 := m_u_n (by omega)
    obtain ⟨s1, s2, s3, s4⟩ := c_src_tb hI.1
    have src : c_src h 6 13 (m_u S.w 0 (50 * (k : Int))) := by
      refine ⟨fun a ha => ?_, ?_, ?_, fun j hj => ?_⟩
      · rw [m_u_n (by omega), m_u_n (by omega), m_u_n (by omega), m_u_n (by omega), m_u_n (by omega)]; exact s1 a ha
      · rw [m_u_n (by omega)]; exact s2
      · rw [m_u_n (by omega)]; exact s3
      · rw [m_u_n (by omega)] at hj
        rw [m_u_n (by omega)]; exact s4 j hj
    obtain ⟨h', g1, P, g3⟩ := c_make (t := 6) (g := 13) (by omega) (by omega) (m_R0_ok R1) nn1 src
    rw [m_u_s] at g1
    have tm := a_999 (n := (S.w 4).toNat) (m_R0_ok R1) nn1 P (by omega)
    rw [show ((S.w 4).toNat : Int) = S.w 4 by omega] at tm
    obtain ⟨k1, a1, a2, a3⟩ := a_A_b hR
    obtain ⟨A1, F1⟩ := r_A_sr (u' := m_u S.w 0 (50 * (k : Int))) a2 (fun j hj => m_u_n (by omega))
    obtain ⟨k4, u4, x1, x2, x3⟩ := a_thinkU (n := (S.w 4).toNat) A1 (m_R0_ok R1) nn1 (by omega)
    rw [show ((S.w 4).toNat : Int) = S.w 4 by omega] at x1
    obtain ⟨k5, y1, y2, y3⟩ := a_A_e x2
    have z7 : k5 139 7 = g 139 7 := y3.trans (x3.trans ((congrFun (m_sr_n (by omega)) 7).trans a3))
    have I' := c_I_fp hI hm.2.1.1 g3
    have kk : 50 * (k : Int) + 50 = 50 * ((k + 1 : Nat) : Int) := by omega
    generalize hT : a_TT (m_u S.w 0 (50 * (k : Int))) 0 (S.w 4).toNat = T at tm x1
    have E1 : fn159_31 (f1 + 1) b e (50 * (k : Int)) h = if b = 0 then fn159_31 f1 (50 * (k : Int)) T (50 * ((k + 1 : Nat) : Int)) h' else if e ≤ T then fn159_31 f1 b e (50 * ((k + 1 : Nat) : Int)) h' else fn159_31 f1 (50 * (k : Int)) T (50 * ((k + 1 : Nat) : Int)) h' := by
      rw [fn159_31, if_neg (by omega), g1, Option.bind_some]
      dsimp only
      rw [fn102, P.2.2.2.1, e4, q_w32_id (z := S.w 4 - 1) (by omega) (by omega), tm, Option.bind_some, Option.bind_some, fn159_79, fn159_85, fn159_85, q_w32_id (z := 50 * (k : Int) + 50) (by omega) (by omega), kk]
    have E2 : fn243_39 (f2 + 1) b' e (50 * (k : Int)) g = if b' = -1 then fn243_39 f2 (50 * (k : Int)) T (50 * ((k + 1 : Nat) : Int)) k5 else if T < e then fn243_39 f2 (50 * (k : Int)) T (50 * ((k + 1 : Nat) : Int)) k5 else fn243_39 f2 b' e (50 * ((k + 1 : Nat) : Int)) k5 := by
      rw [fn243_39, if_neg (by omega), a1, Option.bind_some, m_let]
      dsimp only
      rw [m_ud_sr, a2.1, r_of4 A1.1 (by omega), Option.bind_some, e4, x1, Option.bind_some]
      dsimp only
      rw [y1, Option.bind_some, fn243_90, fn243_96, fn243_96, q_w32_id (z := 50 * (k : Int) + 50) (by omega) (by omega), kk]
    have take := ih (k + 1) f1 f2 (50 * (k : Int)) (50 * (k : Int)) T h' k5 (by omega) (by omega) (by omega) (by omega) I' y2 (Or.inr ⟨by omega, by omega, rfl⟩) (fun _ => rfl)
    rw [z7] at take
    rw [E1, E2]
    rcases hb with ⟨q1, q2⟩ | ⟨q1, q2, q3⟩
    · rw [if_pos q1, if_pos q2]; exact take
    · rw [if_neg q1, if_neg (by omega)]
      by_cases c : e ≤ T
      · rw [if_pos c, if_neg (by omega)]
        have keep := ih (k + 1) f1 f2 b b' e h' k5 (by omega) (by omega) (by omega) (by omega) I' y2 (Or.inr ⟨q1, q2, q3⟩) (fun _ => q3)
        rw [z7] at keep
        exact keep
      · rw [if_neg c, if_pos (by omega)]; exact take
theorem a_p54 {h h1 h2 : q_F} {S S1 : m_St} {v1 v2 : Int} (J : j_T S S h) (J1 : j_T S1 S h1) (e1 : fn2 h = some (v1, h1)) (e2 : fn243 h1 = some (v2, h2)) : a_Q h2 v1 v2 := by
  have hm := J1.2.1.1
  have hI := J.1.2
  have f := (a_F (r_bestS J1.2.1.2 hm) e2).1 153 (by omega)
  have g0 := a_g0 J1.2.1.2
  have e13 : h 13 1 = S.w 4 := hI.1.2.2.1
  unfold fn243 fn243_22 at e2
  unfold fn2 fn159 at e1
  rw [m_let, g0.1] at e2
  rw [e13] at e1
  by_cases c : S.w 4 = 0
  · rw [if_pos c, Option.bind_some] at e1
    dsimp only at e1
    rw [if_neg (show ¬ (5 : Nat) = 1 by decide), if_pos rfl] at e1
    rw [if_pos c, a_2581, Option.bind_some] at e2
    dsimp only at e2
    rw [if_neg (show ¬ (1 : Int) = 0 by decide)] at e2
    exact a_er e1 e2 (q_ud_s _ _ _ _) (by decide)
  · obtain ⟨v, h', g', x1, x2, x3⟩ := a_bstl hm 20 1 q_fu q_fu 0 (-1) 0 h (q_ud h1 139 7 0) (by omega) (by omega) (by have := q_fu_ge; omega) (by have := q_fu_ge; omega) hI g0 (Or.inl ⟨rfl, rfl⟩) (fun h9 => by omega)
    have x1' : fn159_31 q_fu 0 0 50 h = some (1, v, h') := x1
    have x2' : fn243_39 q_fu (-1) 0 50 (q_ud h1 139 7 0) = some (v, g') := x2
    rw [if_neg c, x1', Option.bind_some] at e1
    dsimp only at e1
    rw [if_pos rfl, m_let] at e1
    rw [if_neg c, a_2580, Option.bind_some] at e2
    dsimp only at e2
    rw [if_pos rfl, x2'] at e2
    exact a_ok e1 e2 (x3.trans (q_ud_s _ _ _ _)) f
