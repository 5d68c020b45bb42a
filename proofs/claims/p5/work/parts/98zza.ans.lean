/-! Part 98zza: move. -/
theorem a_fastl {S : m_St} {g p : q_F} {m : Nat} (hm : m_I S) (P : c_Plan g S.w) (Q : m_Plan p S.w) (h4 : (m : Int) < S.w 4) : ∀ (d k f1 f2 : Nat) (u : Int), (k : Int) + d = m_l S.w m → d < f1 → d < f2 → ∃ v, fn76_4 g f1 m u k = some v ∧ fn262_4 p f2 m u k = some v := by
  have ok := m_R0_ok hm.1.1
  have r := ok.2.1
  have l := m_l_r ok (m := m) (by omega)
  have e := (Q.1 m (by omega)).2.1
  intro d
  induction d with
  | zero =>
    intro k f1 f2 u hd h1 h2
    obtain ⟨f1, rfl⟩ : ∃ f', f1 = f' + 1 := ⟨f1 - 1, by omega⟩
    obtain ⟨f2, rfl⟩ : ∃ f', f2 = f' + 1 := ⟨f2 - 1, by omega⟩
    exact ⟨u, by rw [fn76_4, a_79 hm P h4, Option.bind_some, if_pos (by omega)], by rw [fn262_4, if_pos (by omega), Int.toNat_natCast, e, if_pos (by omega)]⟩
  | succ d ih =>
    intro k f1 f2 u hd h1 h2
    obtain ⟨f1, rfl⟩ : ∃ f', f1 = f' + 1 := ⟨f1 - 1, by omega⟩
    obtain ⟨f2, rfl⟩ : ∃ f', f2 = f' + 1 := ⟨f2 - 1, by omega⟩
    rw [fn76_4, a_79 hm P h4, Option.bind_some, if_neg (by omega), c_sp ok hm.1.2 P h4 (by omega) (by omega), Option.bind_some, q_w32_id (z := (k : Int) + 1) (by omega) (by omega), ← m_s1, fn262_4, if_pos (by omega), Int.toNat_natCast, e, if_neg (by omega), fn338_m ok hm.1.2 Q h4 (by omega) (by omega), Option.bind_some, q_w32_id (z := (k : Int) + 1) (by omega) (by omega), ← m_s1]
    exact ih (k + 1) f1 f2 _ (by omega) (by omega) (by omega)
theorem a_fast {S : m_St} {g p : q_F} {m : Nat} (hm : m_I S) (P : c_Plan g S.w) (Q : m_Plan p S.w) (h4 : (m : Int) < S.w 4) : ∃ v, fn76 m g = some v ∧ fn262 m p = some v := by
  have ok := m_R0_ok hm.1.1
  have r := ok.2.1
  have l := m_l_r ok (m := m) (by omega)
  exact a_fastl hm P Q h4 (m_l S.w m).toNat 0 q_fu q_fu 0 (by omega) (by have := q_fu_ge; omega) (by have := q_fu_ge; omega)
theorem a_fastsl {S : m_St} {g p : q_F} {m : Nat} {x : Int} (hm : m_I S) (P : c_Plan g S.w) (Q : m_Plan p S.w) (h4 : (m : Int) < S.w 4) : ∀ (d k f1 f2 : Nat) (u : Int), (k : Int) + d = m_l S.w m → d < f1 → d < f2 → ∃ v, fn77_11 g f1 m x u k = some v ∧ fn261_11 p f2 m x u k = some v := by
  have ok := m_R0_ok hm.1.1
  have r := ok.2.1
  have l := m_l_r ok (m := m) (by omega)
  have e := (Q.1 m (by omega)).2.1
  intro d
  induction d with
  | zero =>
    intro k f1 f2 u hd h1 h2
    obtain ⟨f1, rfl⟩ : ∃ f', f1 = f' + 1 := ⟨f1 - 1, by omega⟩
    obtain ⟨f2, rfl⟩ : ∃ f', f2 = f' + 1 := ⟨f2 - 1, by omega⟩
    exact ⟨u, by rw [fn77_11, a_79 hm P h4, Option.bind_some, if_pos (by omega)], by rw [fn261_11, if_pos (by omega), Int.toNat_natCast, e, if_pos (by omega)]⟩
  | succ d ih =>
    intro k f1 f2 u hd h1 h2
    obtain ⟨f1, rfl⟩ : ∃ f', f1 = f' + 1 := ⟨f1 - 1, by omega⟩
    obtain ⟨f2, rfl⟩ : ∃ f', f2 = f' + 1 := ⟨f2 - 1, by omega⟩
    have E1 : fn77_11 g (f1 + 1) m x u k = if m_sp S.w m k = x then fn77_11 g f1 m x (q_w32 (u + 1)) ((k + 1 : Nat) : Int) else fn77_11 g f1 m x (q_w32 (u + 0)) ((k + 1 : Nat) : Int) := by
      rw [fn77_11, a_79 hm P h4, Option.bind_some, if_neg (by omega), c_sp ok hm.1.2 P h4 (by omega) (by omega), Option.bind_some, fn77_38, fn77_38, q_w32_id (z := (k : Int) + 1) (by omega) (by omega), ← m_s1]
    have E2 : fn261_11 p (f2 + 1) m x u k = if m_sp S.w m k = x then fn261_11 p f2 m x (q_w32 (u + 1)) ((k + 1 : Nat) : Int) else fn261_11 p f2 m x (q_w32 (u + 0)) ((k + 1 : Nat) : Int) := by
      rw [fn261_11, if_pos (by omega), Int.toNat_natCast, e, if_neg (by omega), fn338_m ok hm.1.2 Q h4 (by omega) (by omega), Option.bind_some, fn261_39, fn261_39, q_w32_id (z := (k : Int) + 1) (by omega) (by omega), ← m_s1]
    rw [E1, E2]
    by_cases c : m_sp S.w m k = x
    · rw [if_pos c, if_pos c]; exact ih (k + 1) f1 f2 _ (by omega) (by omega) (by omega)
    · rw [if_neg c, if_neg c]; exact ih (k + 1) f1 f2 _ (by omega) (by omega) (by omega)
theorem a_fasts {S : m_St} {g p : q_F} {m : Nat} (hm : m_I S) (P : c_Plan g S.w) (Q : m_Plan p S.w) (h4 : (m : Int) < S.w 4) : ∃ v, fn77 m g = some v ∧ fn261 m p = some v := by
  have ok := m_R0_ok hm.1.1
  have r := ok.2.1
  have l := m_l_r ok (m := m) (by omega)
  obtain ⟨x, e1, e2⟩ := a_fast hm P Q h4
  rw [fn77, e1, Option.bind_some, fn261, e2, Option.bind_some]
  exact a_fastsl hm P Q h4 (m_l S.w m).toNat 0 q_fu q_fu 0 (by omega) (by have := q_fu_ge; omega) (by have := q_fu_ge; omega)
theorem a_p24 {m v : Int} {h h1 h2 : q_F} {S S1 : m_St} {v1 v2 : Int} (J : j_T S S h) (J1 : j_T S1 S h1) (e1 : fn17 m v h = some (v1, h1)) (e2 : fn294 m v h1 = some (v2, h2)) : a_Q h2 v1 v2 := by
  have hm := J1.2.1.1
  have f := (a_F (r_moveC J1.2.1.2 hm) e2).1 153 (by omega)
  have ok := m_R0_ok hm.1.1
  have r := ok.2.1
  have g0 := a_g0 J1.2.1.2
  unfold fn294 at e2
  unfold fn17 fn191 fn191_15 at e1
  rw [a_299 J1.2.1.2 hm, Option.bind_some] at e2
  rw [c_move m J.1.2, Option.bind_some] at e1
  dsimp only at e1 e2
  by_cases c : 0 ≤ m ∧ m < S.w 4
  · obtain ⟨n, rfl⟩ : ∃ k : Nat, m = (k : Int) := ⟨m.toNat, by omega⟩
    rw [if_pos c, if_pos rfl] at e1
    rw [if_pos c, if_pos c, if_pos rfl, r_rng, Option.bind_some] at e2
    by_cases d : 0 ≤ v ∧ v ≤ 7
    · obtain ⟨g, a1, P, a3, a4⟩ := c_planned J.1.2 J.1.1
      obtain ⟨p, b1, Q, b3, b4⟩ := a_plan g0 hm
      have z7 : p 139 7 = 0 := by rw [b3]; exact q_ud_s _ _ _ _
      obtain ⟨x5, y5, z5⟩ := a_fast hm P Q c.2
      obtain ⟨x6, y6, z6⟩ := a_fasts hm P Q c.2
      obtain ⟨-, Q2, Q3, Q4⟩ := Q.1 n (by omega)
      have Q5 := Q.2 n (by omega) (by omega)
      have Q6 := Q.2 (n + 1) (by omega) (by omega)
      obtain ⟨-, P3, P4, -⟩ := P.1.2 n (by omega)
      have P5 := P.2.2.1 n (by omega) (by omega)
      have P6 := P.2.2.1 (n + 1) (by omega) (by omega)
      have P7 := P.2.1 n (by omega)
      have Q7 := fn272_m b4.1 ok c.2 Q.1
      have n1 : ((n : Int) + 1).toNat = n + 1 := by omega
      rw [if_neg (show ¬ v < 0 by omega), if_pos d.2, a1, Option.bind_some] at e1
      dsimp only at e1
      rw [if_pos d, if_neg (show ¬ (1 : Int) = 0 by decide)] at e2
      unfold fn294_26 at e2
      rw [a_2580, Option.bind_some] at e2
      dsimp only at e2
      rw [if_pos rfl, b1, Option.bind_some] at e2
      dsimp only at e2
      unfold fn88 fn92 fn94 at e1
      rw [q_w32_id (z := (n : Int) + 1) (by omega) (by omega), a_79 hm P c.2, c_ent (N := 16) (by omega) (by omega), c_ent (N := 16) (by omega) (by omega), c_ent (N := 16) (by omega) (by omega), c_ent (N := 17) (by omega) (by omega), c_ent (N := 17) (by omega) (by omega), y5, y6] at e1
      simp only [Option.bind_some, Int.toNat_natCast, n1, P3, P4, P5, P6, P7] at e1
      rw [q_w32_id (z := (n : Int) + 1) (by omega) (by omega), z5, z6, Q7] at e2
      simp only [if_pos (show 0 ≤ (n : Int) ∧ (n : Int) < 16 by omega), if_pos (show 0 ≤ (n : Int) ∧ (n : Int) < 17 by omega), if_pos (show 0 ≤ (n : Int) + 1 ∧ (n : Int) + 1 < 17 by omega), Option.bind_some, Int.toNat_natCast, n1, Q2, Q3, Q4, Q5, Q6] at e2
      have hv : v = 0 ∨ v = 1 ∨ v = 2 ∨ v = 3 ∨ v = 4 ∨ v = 5 ∨ v = 6 ∨ v = 7 := by omega
      rcases hv with rfl | rfl | rfl | rfl | rfl | rfl | rfl | rfl
      · exact a_ok e1 e2 z7 f
      · exact a_ok e1 e2 z7 f
      · exact a_ok e1 e2 z7 f
      · exact a_ok e1 e2 z7 f
      · exact a_ok e1 e2 z7 f
      · exact a_ok e1 e2 z7 f
      · exact a_ok e1 e2 z7 f
      · have e3 : some (m_str S.w n, p) = some (v2, h2) := by
          rw [← e2]
          rcases m_str_01 S.w n with q | q <;> rw [q] <;> rfl
        exact a_ok e1 e3 z7 f
    · have e3 : some ((2 : Int), h) = some (v1, h1) := by
        rw [← e1]
        by_cases c5 : v < 0
        · rw [if_pos c5, Option.bind_some]; rfl
        · rw [if_neg c5, if_neg (show ¬ v ≤ 7 by omega), Option.bind_some]; rfl
      rw [if_neg d, if_pos rfl] at e2
      unfold fn294_26 at e2
      rw [a_2581, Option.bind_some] at e2
      dsimp only at e2
      rw [if_neg (show ¬ (1 : Int) = 0 by decide)] at e2
      exact a_er e3 e2 (q_ud_s _ _ _ _) (by decide)
  · rw [if_neg c, if_neg (show ¬ (3 : Nat) = 0 by decide), if_pos rfl, Option.bind_some] at e1
    dsimp only at e1
    rw [if_neg (show ¬ (3 : Nat) = 1 by decide), if_neg (show ¬ (3 : Nat) = 2 by decide), if_pos rfl] at e1
    rw [if_neg c, if_neg c, if_neg (show ¬ (1 : Int) = 0 by decide)] at e2
    exact a_er e1 e2 (q_ud_s _ _ _ _) (by decide)
