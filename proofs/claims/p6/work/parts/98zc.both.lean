/-! Part 98zc: what a call keeps of the state that both sides hold. -/
theorem s_ct_e {B : Nat → Int} {n : Nat} {h h' : q_F} (T : s_ct B n h) (e1 : h' 1 = h 1) (e2 : h' 2 = h 2) : s_ct B n h' := ⟨by rw [e1]; exact T.1, T.2.1, fun k hk => by rw [e2]; exact T.2.2 k hk⟩
theorem s_rt_e {B : Nat → Int} {n : Nat} {h h' : q_F} (T : s_rt B n h) (e1 : h' 139 14 = h 139 14) (e2 : h' 150 = h 150) : s_rt B n h' := ⟨by rw [e1]; exact T.1, T.2.1, fun k hk => by rw [e2]; exact T.2.2.1 k hk, T.2.2.2⟩
/-- a call ends, and the two states are then these -/
def t_W (f : Option (Int × q_F)) (S1 S2 : m_St) : Prop := ∃ v h', f = some (v, h') ∧ j_T S1 S2 h'
theorem t_cF {h h' : q_F} {S1 S2 S' : m_St} (J : j_T S1 S2 h) (F : c_F h h') (hI : c_I h' S') (hm : m_I S') : j_T S' S2 h' := by
  obtain ⟨-, ⟨r1, r2⟩, ⟨B, n, Tc, Tr⟩, j2, j3⟩ := J
  have e1 := F 1 (by omega)
  have e2 := F 2 (by omega)
  have e3 := F 3 (by omega)
  have e9 := F 139 (by omega)
  exact ⟨⟨hm, hI⟩, ⟨r1, r_I_k r2 (fun k hk => F k (by omega)) (by rw [e9]) (by rw [e9])⟩, ⟨B, n, s_ct_e Tc e1 e2, s_rt_e Tr (by rw [e9]) (F 150 (by omega))⟩, by rw [e3, e9]; exact j2, by rw [e9]; exact j3⟩
theorem t_rF {h h' : q_F} {S1 S2 S' : m_St} (J : j_T S1 S2 h) (F : r_F h h') (hI : r_I h' S') (hm : m_I S') : j_T S1 S' h' := by
  obtain ⟨⟨c1, c2⟩, -, ⟨B, n, Tc, Tr⟩, j2, j3⟩ := J
  exact ⟨⟨c1, c_I_k c2 c1.2.1.1 (fun k hk => F.1 k (by omega)) (by rw [F.1 0 (by omega)])⟩, ⟨hm, hI⟩, ⟨B, n, s_ct_e Tc (F.1 1 (by omega)) (F.1 2 (by omega)), s_rt_e Tr (F.2 14 (by omega)) (F.1 150 (by omega))⟩, by rw [F.1 3 (by omega), F.2 15 (by omega), F.2 16 (by omega)]; exact j2, by rw [F.2 27 (by omega)]; exact j3⟩
theorem t_out {h : q_F} {S1 S2 : m_St} {k j : Nat} {v : Int} (J : j_T S1 S2 h) (hk : k = 153 ∨ k = 154) : j_T S1 S2 (q_ud h k j v) := by
  obtain ⟨⟨c1, c2⟩, ⟨r1, r2⟩, ⟨B, n, Tc, Tr⟩, j2, j3⟩ := J
  have e : ∀ i, i < 153 → q_ud h k j v i = h i := fun i hi => by funext x; rw [q_ud_n (by omega)]
  exact ⟨⟨c1, c_I_k c2 c1.2.1.1 (fun i hi => e i (by omega)) (by rw [e 0 (by omega)])⟩, ⟨r1, r_I_k r2 (fun i hi => e i (by omega)) (by rw [e 139 (by omega)]) (by rw [e 139 (by omega)])⟩, ⟨B, n, s_ct_e Tc (e 1 (by omega)) (e 2 (by omega)), s_rt_e Tr (by rw [e 139 (by omega)]) (e 150 (by omega))⟩, by rw [e 3 (by omega), e 139 (by omega)]; exact j2, by rw [e 139 (by omega)]; exact j3⟩
theorem t_cW {f : Option (Int × q_F)} {h : q_F} {S1 S2 S' : m_St} (J : j_T S1 S2 h) (g : c_W f h S') (hm : m_I S') : t_W f S' S2 := by
  obtain ⟨v, h', a, b, c⟩ := g
  exact ⟨v, h', a, t_cF J c b hm⟩
theorem t_rW {f : Option (Int × q_F)} {h : q_F} {S1 S2 S' : m_St} (J : j_T S1 S2 h) (g : r_W f h S') (hm : m_I S') : t_W f S1 S' := by
  obtain ⟨v, h', a, b, c⟩ := g
  exact ⟨v, h', a, t_rF J c b hm⟩
theorem t_cE {f : Option (Nat × Int × q_F)} {h : q_F} {S1 S2 S' : m_St} {Q : Nat → Prop} (J : j_T S1 S2 h) (g : c_E f h S' Q) (hm : m_I S') : ∃ k v h', f = some (k, v, h') ∧ Q k ∧ j_T S' S2 h' ∧ j_T S' S2 (q_ud h' 153 0 v) ∧ j_T S' S2 (q_ud h' 154 0 v) := by
  obtain ⟨k, v, h', a, b, c, d⟩ := g
  have J1 := t_cF J d c hm
  exact ⟨k, v, h', a, b, J1, t_out J1 (Or.inl rfl), t_out J1 (Or.inr rfl)⟩
theorem t_print {h : q_F} {S1 S2 : m_St} (J : j_T S1 S2 h) : t_W (fn307 h) S1 S2 := by
  obtain ⟨⟨c1, c2⟩, ⟨r1, r2⟩, ⟨B, n, Tc, Tr⟩, j2, j3⟩ := J
  obtain ⟨v, h', e, i, F, p0, p1⟩ := r_print r2 r1
  exact ⟨v, h', e, ⟨c1, c_I_k c2 c1.2.1.1 (fun k hk => F.1 k (by omega)) (by rw [F.1 0 (by omega)])⟩, ⟨r1, i⟩, ⟨B, n, s_ct_e Tc (F.1 1 (by omega)) (F.1 2 (by omega)), s_rt_e Tr (F.2 14 (by omega)) (F.1 150 (by omega))⟩, by rw [F.1 3 (by omega), F.2 15 (by omega), F.2 16 (by omega)]; exact j2, p0, p1⟩
