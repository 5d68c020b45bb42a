/-! Part 98zf: the input's calls, on both sides at once; errorCode, errorOffset. -/
def t_J (h : q_F) : Prop := ∃ S, j_T S S h
theorem t_io {h h2 : q_F} {S : m_St} (J : j_T S S h) (fr : ∀ k, k ≠ 1 → k ≠ 2 → k ≠ 139 → k ≠ 150 → h2 k = h k) (f9 : ∀ j, j ≠ 7 → j ≠ 14 → h2 139 j = h 139 j) (T : ∃ (B : Nat → Int) (n : Nat), s_ct B n h2 ∧ s_rt B n h2) : j_T S S h2 := by
  obtain ⟨⟨c1, c2⟩, ⟨r1, r2⟩, -, j2, j3⟩ := J
  exact ⟨⟨c1, c_I_k c2 c1.2.1.1 (fun k hk => fr k (by omega) (by omega) (by omega) (by omega)) (by rw [fr 0 (by omega) (by omega) (by omega) (by omega)])⟩, ⟨r1, r_I_k r2 (fun k hk => fr k (by omega) (by omega) (by omega) (by omega)) (f9 5 (by omega) (by omega)) (f9 6 (by omega) (by omega))⟩, T, by rw [fr 3 (by omega) (by omega) (by omega) (by omega), f9 15 (by omega) (by omega), f9 16 (by omega) (by omega)]; exact j2, by rw [f9 27 (by omega) (by omega)]; exact j3⟩
theorem t_app {a b c d e : Int} {h : q_F} {S : m_St} (J : j_T S S h) : ∃ v h1 h2 S', fn156 a b c d e h = some (v, h1) ∧ fn237 a b c d e h1 = some (v, h2) ∧ j_T S' S' h2 := by
  obtain ⟨B, n, Tc, Tr⟩ := J.2.2.1
  obtain ⟨h1, B1, n1, e1, T1, F1, q1⟩ := s_capp (a := a) (b := b) (c := c) (d := d) (e := e) Tc
  obtain ⟨h2, B2, n2, e2, T2, F2, q2⟩ := s_rapp (a := a) (b := b) (c := c) (d := d) (e := e) (s_rt_e Tr (by rw [F1 139 (by omega) (by omega)]) (F1 150 (by omega) (by omega)))
  have eq : B1 = B2 ∧ n1 = n2 := by
    by_cases c : n ≤ 580
    · rw [if_pos c] at q1 q2; exact ⟨q1.1.trans q2.1.symm, q1.2.trans q2.2.symm⟩
    · rw [if_neg c] at q1 q2; exact ⟨q1.1.trans q2.1.symm, q1.2.trans q2.2.symm⟩
  obtain ⟨rfl, rfl⟩ := eq
  refine ⟨_, h1, h2, S, e1, e2, t_io J (fun k k1 k2 k3 k4 => by rw [F2.1 k k3 k4, F1 k k1 k2]) (fun j j1 j2 => by rw [F2.2 j j1 j2, F1 139 (by omega) (by omega)]) ⟨B1, n1, s_ct_e T1 (F2.1 1 (by omega) (by omega)) (F2.1 2 (by omega) (by omega)), T2⟩⟩
theorem s_ctru {B : Nat → Int} {n : Nat} {v : Int} {h : q_F} (T : s_ct B n h) : ∃ h' n', fn226 v h = some (if 0 ≤ v ∧ v ≤ n then 1 else 0, h') ∧ s_ct B n' h' ∧ c_FI h h' ∧ n' = (if 0 ≤ v ∧ v ≤ n then v.toNat else n) := by
  obtain ⟨t1, t2, t3⟩ := T
  unfold fn226
  rw [t1]
  by_cases c : 0 ≤ v ∧ v ≤ n
  · rw [if_neg (show ¬ v < 0 by omega), if_pos c.2, m_let, if_pos c, if_pos c]
    exact ⟨_, v.toNat, rfl, ⟨by rw [q_ud_s]; omega, by omega, fun k hk => by rw [q_ud_n (by omega)]; exact t3 k (by omega)⟩, fun k k1 k2 => by funext j; rw [q_ud_n (by omega)], rfl⟩
  · rw [if_neg c, if_neg c]
    refine ⟨h, n, ?_, ⟨t1, t2, t3⟩, fun _ _ _ => rfl, rfl⟩
    (repeat' split) <;> first | rfl | omega
theorem s_rtru {B : Nat → Int} {n : Nat} {v : Int} {h : q_F} (T : s_rt B n h) : ∃ h' n', fn358 v h = some (if 0 ≤ v ∧ v ≤ n then 1 else 0, h') ∧ s_rt B n' h' ∧ r_FI h h' ∧ n' = (if 0 ≤ v ∧ v ≤ n then v.toNat else n) := by
  obtain ⟨t1, t2, t3, t4⟩ := T
  have F0 : r_FI h (q_ud h 139 7 0) := ⟨fun k k1 k2 => by funext j; rw [q_ud_n (by omega)], fun j h7 h14 => by rw [q_ud_n (by omega)]⟩
  have e0 : q_ud h 139 7 0 139 14 = (n : Int) := by rw [q_ud_n (by omega)]; exact t1
  unfold fn358
  rw [m_let, e0, r_rng, Option.bind_some]
  by_cases c : 0 ≤ v ∧ v ≤ n
  · rw [if_pos c, if_neg (by decide), m_let, if_pos c]
    exact ⟨_, v.toNat, rfl, ⟨by rw [q_ud_s]; omega, by omega, fun k hk => by rw [q_ud_n (by omega), q_ud_n (by omega)]; exact t3 k (by omega), fun k hk => t4 k (by omega)⟩, r_FI_t F0 ⟨fun k k1 k2 => by funext j; rw [q_ud_n (by omega)], fun j h7 h14 => by rw [q_ud_n (by omega)]⟩, rfl⟩
  · rw [if_neg c, if_pos rfl, if_neg c]
    exact ⟨_, n, rfl, ⟨e0, t2, fun k hk => by rw [q_ud_n (by omega)]; exact t3 k hk, t4⟩, F0, rfl⟩
theorem t_tru {v : Int} {h : q_F} {S : m_St} (J : j_T S S h) : ∃ w h1 h2 S', fn226 v h = some (w, h1) ∧ fn358 v h1 = some (w, h2) ∧ j_T S' S' h2 := by
  obtain ⟨B, n, Tc, Tr⟩ := J.2.2.1
  obtain ⟨h1, n1, e1, T1, F1, q1⟩ := s_ctru (v := v) Tc
  obtain ⟨h2, n2, e2, T2, F2, q2⟩ := s_rtru (v := v) (s_rt_e Tr (by rw [F1 139 (by omega) (by omega)]) (F1 150 (by omega) (by omega)))
  obtain rfl : n1 = n2 := q1.trans q2.symm
  exact ⟨_, h1, h2, S, e1, e2, t_io J (fun k k1 k2 k3 k4 => by rw [F2.1 k k3 k4, F1 k k1 k2]) (fun j j1 j2 => by rw [F2.2 j j1 j2, F1 139 (by omega) (by omega)]) ⟨B, n1, s_ct_e T1 (F2.1 1 (by omega) (by omega)) (F2.1 2 (by omega) (by omega)), T2⟩⟩
