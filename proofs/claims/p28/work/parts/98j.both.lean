section -- [98j.inv]
/-! Part 98j: what holds between two calls, and that each call of the class keeps it. -/
def j_J (h : q_F) : Prop := (∃ S, m_I S ∧ c_I h S) ∧ (∃ S, m_I S ∧ r_I h S) ∧ (0 ≤ h 1 1 ∧ h 1 1 ≤ 600) ∧ (0 ≤ h 139 14 ∧ h 139 14 ≤ 600) ∧ (0 ≤ h 139 27 ∧ h 139 27 ≤ 300)
/-- the two lengths stay -/
def j_N (h h' : q_F) : Prop := h' 1 1 = h 1 1 ∧ h' 139 14 = h 139 14
theorem j_N_t {h h1 h2 : q_F} (f : j_N h h1) (g : j_N h1 h2) : j_N h h2 := ⟨g.1.trans f.1, g.2.trans f.2⟩
theorem j_cF {h h' : q_F} {S' : m_St} (J : j_J h) (F : c_F h h') (hI : c_I h' S') (hm : m_I S') : j_J h' ∧ j_N h h' := by
  obtain ⟨-, ⟨R, r1, r2⟩, j1, j2, j3⟩ := J
  have e1 := F 1 (by omega)
  have e9 := F 139 (by omega)
  exact ⟨⟨⟨S', hm, hI⟩, ⟨R, r1, r_I_k r2 (fun k hk => F k (by omega)) (by rw [e9]) (by rw [e9])⟩, by rw [e1]; exact j1, by rw [e9]; exact j2, by rw [e9]; exact j3⟩, by rw [e1], by rw [e9]⟩
theorem j_rF {h h' : q_F} {S' : m_St} (J : j_J h) (F : r_F h h') (hI : r_I h' S') (hm : m_I S') : j_J h' ∧ j_N h h' := by
  obtain ⟨⟨C, c1, c2⟩, -, j1, j2, j3⟩ := J
  have e1 := F.1 1 (by omega)
  exact ⟨⟨⟨C, c1, c_I_k c2 c1.2.1.1 (fun k hk => F.1 k (by omega)) (by rw [F.1 0 (by omega)])⟩, ⟨S', hm, hI⟩, by rw [e1]; exact j1, by rw [F.2 14 (by omega)]; exact j2, by rw [F.2 27 (by omega)]; exact j3⟩, by rw [e1], F.2 14 (by omega)⟩
theorem j_out {h : q_F} {k j : Nat} {v : Int} (J : j_J h) (hk : k = 153 ∨ k = 154) : j_J (q_ud h k j v) ∧ j_N h (q_ud h k j v) := by
  obtain ⟨⟨C, c1, c2⟩, ⟨R, r1, r2⟩, j1, j2, j3⟩ := J
  have e : ∀ i, i < 153 → q_ud h k j v i = h i := fun i hi => by funext x; rw [q_ud_n (by omega)]
  exact ⟨⟨⟨C, c1, c_I_k c2 c1.2.1.1 (fun i hi => e i (by omega)) (by rw [e 0 (by omega)])⟩, ⟨R, r1, r_I_k r2 (fun i hi => e i (by omega)) (by rw [e 139 (by omega)]) (by rw [e 139 (by omega)])⟩, by rw [e 1 (by omega)]; exact j1, by rw [e 139 (by omega)]; exact j2, by rw [e 139 (by omega)]; exact j3⟩, by rw [e 1 (by omega)], by rw [e 139 (by omega)]⟩
/-- a call ends, and all that must holds -/
def j_W (f : Option (Int × q_F)) (h : q_F) : Prop := ∃ v h', f = some (v, h') ∧ j_J h' ∧ j_N h h'
theorem j_cW {f : Option (Int × q_F)} {h : q_F} {S' : m_St} (J : j_J h) (g : c_W f h S') (hm : m_I S') : j_W f h := by
  obtain ⟨v, h', a, b, c⟩ := g
  have := j_cF J c b hm
  exact ⟨v, h', a, this.1, this.2⟩
theorem j_rW {f : Option (Int × q_F)} {h : q_F} {S' : m_St} (J : j_J h) (g : r_W f h S') (hm : m_I S') : j_W f h := by
  obtain ⟨v, h', a, b, c⟩ := g
  have := j_rF J c b hm
  exact ⟨v, h', a, this.1, this.2⟩
theorem j_cE {f : Option (Nat × Int × q_F)} {h : q_F} {S' : m_St} {Q : Nat → Prop} (J : j_J h) (g : c_E f h S' Q) (hm : m_I S') : ∃ k v h', f = some (k, v, h') ∧ Q k ∧ j_J h' ∧ j_N h h' ∧ (j_J (q_ud h' 153 0 v) ∧ j_N h (q_ud h' 153 0 v)) ∧ (j_J (q_ud h' 154 0 v) ∧ j_N h (q_ud h' 154 0 v)) := by
  obtain ⟨k, v, h', a, b, c, d⟩ := g
  have J1 := j_cF J d c hm
  have o1 := j_out (k := 153) (j := 0) (v := v) J1.1 (Or.inl rfl)
  have o2 := j_out (k := 154) (j := 0) (v := v) J1.1 (Or.inr rfl)
  exact ⟨k, v, h', a, b, J1.1, J1.2, ⟨o1.1, j_N_t J1.2 o1.2⟩, ⟨o2.1, j_N_t J1.2 o2.2⟩⟩
theorem j_w5 {h : q_F} {S : m_St} (hA : q_Al 0 155 h) (hI : c_I h S) : q_r64 (S.w 5) := by
  have e : h 6 8 = S.w 5 := hI.1.2.1.2.2.2.2.1
  rw [← e]; exact q_al1 hA rfl (by omega) (by omega)
end -- [98j.inv]
section -- [98k.help]
/-! Part 98k: each question's helper of the check ends and keeps what holds. -/
theorem j_L0 {v1 v2 : Int} {h : q_F} (hA : q_Al 0 155 h) (J : j_J h) : j_W (fn0 v1 v2 h) h := by
  obtain ⟨S, hm, hI⟩ := J.1
  unfold fn0
  obtain ⟨k, v, h', e, hk, J1, N1, o3, o4⟩ := j_cE J (c_account hI) hm
  rw [e, Option.bind_some]
  rcases hk with rfl | rfl | rfl
  · exact ⟨_, _, rfl, o3.1, o3.2⟩
  · exact ⟨_, _, rfl, J1, N1⟩
  · exact ⟨_, _, rfl, J1, N1⟩
theorem j_L1 {v1 v2 : Int} {h : q_F} (hA : q_Al 0 155 h) (J : j_J h) : j_W (fn1 v1 v2 h) h := by
  obtain ⟨S, hm, hI⟩ := J.1
  unfold fn1
  obtain ⟨k, v, h', e, hk, J1, N1, o3, o4⟩ := j_cE J (c_axisC hI) hm
  rw [e, Option.bind_some]
  rcases hk with rfl | rfl | rfl
  · exact ⟨_, _, rfl, o3.1, o3.2⟩
  · exact ⟨_, _, rfl, J1, N1⟩
  · exact ⟨_, _, rfl, J1, N1⟩
theorem j_L2 {h : q_F} (hA : q_Al 0 155 h) (J : j_J h) : j_W (fn2 h) h := by
  obtain ⟨S, hm, hI⟩ := J.1
  unfold fn2
  obtain ⟨k, v, h', e, hk, J1, N1, o3, o4⟩ := j_cE J (c_bestS hI hm) hm
  rw [e, Option.bind_some]
  rcases hk with rfl | rfl
  · exact ⟨_, _, rfl, o3.1, o3.2⟩
  · exact ⟨_, _, rfl, J1, N1⟩
theorem j_L3 {v1 v2 : Int} {h : q_F} (hA : q_Al 0 155 h) (J : j_J h) : j_W (fn3 v1 v2 h) h := by
  obtain ⟨S, hm, hI⟩ := J.1
  unfold fn3
  obtain ⟨k, v, h', e, hk, J1, N1, o3, o4⟩ := j_cE J (c_bound hI hm) hm
  rw [e, Option.bind_some]
  rcases hk with rfl | rfl | rfl
  · exact ⟨_, _, rfl, o3.1, o3.2⟩
  · exact ⟨_, _, rfl, J1, N1⟩
  · exact ⟨_, _, rfl, J1, N1⟩
theorem j_L4 {v1 : Int} {h : q_F} (hA : q_Al 0 155 h) (J : j_J h) : j_W (fn4 v1 h) h := by
  obtain ⟨S, hm, hI⟩ := J.1
  unfold fn4
  obtain ⟨k, v, h', e, hk, J1, N1, o3, o4⟩ := j_cE J (c_coordinate hI) hm
  rw [e, Option.bind_some]
  rcases hk with rfl | rfl | rfl
  · exact ⟨_, _, rfl, o3.1, o3.2⟩
  · exact ⟨_, _, rfl, J1, N1⟩
  · exact ⟨_, _, rfl, J1, N1⟩
theorem j_L5 {v1 : Int} {h : q_F} (hA : q_Al 0 155 h) (J : j_J h) : j_W (fn5 v1 h) h := by
  obtain ⟨S, hm, hI⟩ := J.1
  unfold fn5
  obtain ⟨k, v, h', e, hk, J1, N1, o3, o4⟩ := j_cE J (c_count hI hm) hm
  rw [e, Option.bind_some]
  rcases hk with rfl | rfl
  · exact ⟨_, _, rfl, o3.1, o3.2⟩
  · exact ⟨_, _, rfl, J1, N1⟩
theorem j_L7 {v1 : Int} {h : q_F} (hA : q_Al 0 155 h) (J : j_J h) : j_W (fn7 v1 h) h := by
  obtain ⟨S, hm, hI⟩ := J.1
  unfold fn7
  obtain ⟨k, v, h', e, hk, J1, N1, o3, o4⟩ := j_cE J (c_dropC hI hm) (m_I_drop hm)
  rw [e, Option.bind_some]
  rcases hk with rfl | rfl | rfl
  · exact ⟨_, _, rfl, o3.1, o3.2⟩
  · exact ⟨_, _, rfl, J1, N1⟩
  · exact ⟨_, _, rfl, J1, N1⟩
theorem j_L8 {v1 : Int} {h : q_F} (hA : q_Al 0 155 h) (J : j_J h) : j_W (fn8 v1 h) h := by
  obtain ⟨S, hm, hI⟩ := J.1
  unfold fn8
  obtain ⟨k, v, h', e, hk, J1, N1, o3, o4⟩ := j_cE J (c_errorC hI) hm
  rw [e, Option.bind_some]
  rcases hk with rfl | rfl | rfl
  · exact ⟨_, _, rfl, o3.1, o3.2⟩
  · exact ⟨_, _, rfl, J1, N1⟩
  · exact ⟨_, _, rfl, J1, N1⟩
theorem j_L9 {v1 : Int} {h : q_F} (hA : q_Al 0 155 h) (J : j_J h) : j_W (fn9 v1 h) h := by
  obtain ⟨S, hm, hI⟩ := J.1
  unfold fn9
  obtain ⟨k, v, h', e, hk, J1, N1, o3, o4⟩ := j_cE J (c_homeC hI hm (j_w5 hA hI)) (m_I_home hm)
  rw [e, Option.bind_some]
  rcases hk with rfl | rfl | rfl
  · exact ⟨_, _, rfl, o3.1, o3.2⟩
  · exact ⟨_, _, rfl, J1, N1⟩
  · exact ⟨_, _, rfl, J1, N1⟩
theorem j_L10 {h : q_F} (hA : q_Al 0 155 h) (J : j_J h) : j_W (fn10 h) h := by
  obtain ⟨S, hm, hI⟩ := J.1
  unfold fn10
  obtain ⟨k, v, h', e, hk, J1, N1, o3, o4⟩ := j_cE J (c_homeAllC hI hm (j_w5 hA hI)) (m_I_homeAll hm)
  rw [e, Option.bind_some]
  rcases hk with rfl | rfl
  · exact ⟨_, _, rfl, o3.1, o3.2⟩
  · exact ⟨_, _, rfl, J1, N1⟩
theorem j_L11 {v1 v2 v3 v4 : Int} {h : q_F} (hA : q_Al 0 155 h) (J : j_J h) : j_W (fn11 v1 v2 v3 v4 h) h := by
  obtain ⟨S, hm, hI⟩ := J.1
  unfold fn11
  obtain ⟨k, v, h', e, hk, J1, N1, o3, o4⟩ := j_cE J (c_insertC hI hm) (m_I_put hm)
  rw [e, Option.bind_some]
  rcases hk with rfl | rfl | rfl
  · exact ⟨_, _, rfl, o3.1, o3.2⟩
  · exact ⟨_, _, rfl, J1, N1⟩
  · exact ⟨_, _, rfl, J1, N1⟩
theorem j_L12 {v1 v2 : Int} {h : q_F} (hA : q_Al 0 155 h) (J : j_J h) : j_W (fn12 v1 v2 h) h := by
  obtain ⟨S, hm, hI⟩ := J.1
  unfold fn12
  obtain ⟨k, v, h', e, hk, J1, N1, o3, o4⟩ := j_cE J (c_jogC hI hm (j_w5 hA hI)) (m_I_jog hm)
  rw [e, Option.bind_some]
  rcases hk with rfl | rfl | rfl | rfl
  · exact ⟨_, _, rfl, o3.1, o3.2⟩
  · exact ⟨_, _, rfl, J1, N1⟩
  · exact ⟨_, _, rfl, J1, N1⟩
  · exact ⟨_, _, rfl, J1, N1⟩
theorem j_L13 {v1 : Int} {h : q_F} (hA : q_Al 0 155 h) (J : j_J h) : j_W (fn13 v1 h) h := by
  obtain ⟨S, hm, hI⟩ := J.1
  unfold fn13
  obtain ⟨k, v, h', e, hk, J1, N1, o3, o4⟩ := j_cE J (c_lasts hI hm) hm
  rw [e, Option.bind_some]
  rcases hk with rfl | rfl
  · exact ⟨_, _, rfl, o3.1, o3.2⟩
  · exact ⟨_, _, rfl, J1, N1⟩
theorem j_L14 {v1 : Int} {h : q_F} (hA : q_Al 0 155 h) (J : j_J h) : j_W (fn14 v1 h) h := by
  obtain ⟨S, hm, hI⟩ := J.1
  unfold fn14
  obtain ⟨k, v, h', e, hk, J1, N1, o3, o4⟩ := j_cE J (c_line hI hm) hm
  rw [e, Option.bind_some]
  rcases hk with rfl | rfl
  · exact ⟨_, _, rfl, o4.1, o4.2⟩
  · exact ⟨_, _, rfl, J1, N1⟩
theorem j_L16 {v1 : Int} {h : q_F} (hA : q_Al 0 155 h) (J : j_J h) : j_W (fn16 v1 h) h := by
  obtain ⟨S, hm, hI⟩ := J.1
  unfold fn16
  obtain ⟨k, v, h', e, hk, J1, N1, o3, o4⟩ := j_cE J (c_mspeed hI hm) hm
  rw [e, Option.bind_some]
  rcases hk with rfl | rfl
  · exact ⟨_, _, rfl, o4.1, o4.2⟩
  · exact ⟨_, _, rfl, J1, N1⟩
theorem j_L17 {v1 v2 : Int} {h : q_F} (hA : q_Al 0 155 h) (J : j_J h) : j_W (fn17 v1 v2 h) h := by
  obtain ⟨S, hm, hI⟩ := J.1
  unfold fn17
  obtain ⟨k, v, h', e, hk, J1, N1, o3, o4⟩ := j_cE J (c_moveC hI hm) hm
  rw [e, Option.bind_some]
  rcases hk with rfl | rfl | rfl
  · exact ⟨_, _, rfl, o3.1, o3.2⟩
  · exact ⟨_, _, rfl, J1, N1⟩
  · exact ⟨_, _, rfl, J1, N1⟩
theorem j_L18 {v1 : Int} {h : q_F} (hA : q_Al 0 155 h) (J : j_J h) : j_W (fn18 v1 h) h := by
  obtain ⟨S, hm, hI⟩ := J.1
  unfold fn18
  obtain ⟨k, v, h', e, hk, J1, N1, o3, o4⟩ := j_cE J (c_nord hI hm) hm
  rw [e, Option.bind_some]
  rcases hk with rfl | rfl
  · exact ⟨_, _, rfl, o3.1, o3.2⟩
  · exact ⟨_, _, rfl, J1, N1⟩
theorem j_L19 {v1 v2 v3 : Int} {h : q_F} (hA : q_Al 0 155 h) (J : j_J h) : j_W (fn19 v1 v2 v3 h) h := by
  obtain ⟨S, hm, hI⟩ := J.1
  unfold fn19
  obtain ⟨k, v, h', e, hk, J1, N1, o3, o4⟩ := j_cE J (c_pointAt hI hm) hm
  rw [e, Option.bind_some]
  rcases hk with rfl | rfl | rfl
  · exact ⟨_, _, rfl, o3.1, o3.2⟩
  · exact ⟨_, _, rfl, J1, N1⟩
  · exact ⟨_, _, rfl, J1, N1⟩
theorem j_L20 {v1 v2 v3 : Int} {h : q_F} (hA : q_Al 0 155 h) (J : j_J h) : j_W (fn20 v1 v2 v3 h) h := by
  obtain ⟨S, hm, hI⟩ := J.1
  unfold fn20
  obtain ⟨k, v, h', e, hk, J1, N1, o3, o4⟩ := j_cE J (c_queueC hI hm) (m_I_put hm)
  rw [e, Option.bind_some]
  rcases hk with rfl | rfl | rfl
  · exact ⟨_, _, rfl, o3.1, o3.2⟩
  · exact ⟨_, _, rfl, J1, N1⟩
  · exact ⟨_, _, rfl, J1, N1⟩
theorem j_L21 {v1 v2 : Int} {h : q_F} (hA : q_Al 0 155 h) (J : j_J h) : j_W (fn21 v1 v2 h) h := by
  obtain ⟨S, hm, hI⟩ := J.1
  unfold fn21
  obtain ⟨k, v, h', e, hk, J1, N1, o3, o4⟩ := j_cE J (c_ramp hI hm) hm
  rw [e, Option.bind_some]
  rcases hk with rfl | rfl
  · exact ⟨_, _, rfl, o3.1, o3.2⟩
  · exact ⟨_, _, rfl, J1, N1⟩
theorem j_L22 {v1 : Int} {h : q_F} (hA : q_Al 0 155 h) (J : j_J h) : j_W (fn22 v1 h) h := by
  obtain ⟨S, hm, hI⟩ := J.1
  unfold fn22
  obtain ⟨k, v, h', e, hk, J1, N1, o3, o4⟩ := j_cE J (c_readsC hI) hm
  rw [e, Option.bind_some]
  rcases hk with rfl | rfl
  · dsimp only
    rw [if_pos rfl]
    have J0 := fun p => j_out (k := 153) (j := 0) (v := p) J1 (Or.inl rfl)
    by_cases hv : v = 0
    · rw [if_pos hv]; exact ⟨_, _, rfl, (J0 0).1, j_N_t N1 (J0 0).2⟩
    · rw [if_neg hv]; exact ⟨_, _, rfl, (J0 1).1, j_N_t N1 (J0 1).2⟩
  · exact ⟨_, _, rfl, J1, N1⟩
theorem j_L23 {h : q_F} (hA : q_Al 0 155 h) (J : j_J h) : j_W (fn23 h) h := by
  obtain ⟨S, hm, hI⟩ := J.1
  unfold fn23
  obtain ⟨k, v, h', e, hk, J1, N1, o3, o4⟩ := j_cE J (c_rest hI hm) (m_I_rest hm)
  rw [e, Option.bind_some]
  rcases hk with rfl | rfl
  · exact ⟨_, _, rfl, o3.1, o3.2⟩
  · exact ⟨_, _, rfl, J1, N1⟩
theorem j_L24 {v1 : Int} {h : q_F} (hA : q_Al 0 155 h) (J : j_J h) : j_W (fn24 v1 h) h := by
  obtain ⟨S, hm, hI⟩ := J.1
  unfold fn24
  obtain ⟨k, v, h', e, hk, J1, N1, o3, o4⟩ := j_cE J (c_runC hI hm) (m_I_run hm)
  rw [e, Option.bind_some]
  rcases hk with rfl | rfl | rfl
  · exact ⟨_, _, rfl, o3.1, o3.2⟩
  · exact ⟨_, _, rfl, J1, N1⟩
  · exact ⟨_, _, rfl, J1, N1⟩
theorem j_L25 {v1 : Int} {h : q_F} (hA : q_Al 0 155 h) (J : j_J h) : j_W (fn25 v1 h) h := by
  obtain ⟨S, hm, hI⟩ := J.1
  unfold fn25
  obtain ⟨k, v, h', e, hk, J1, N1, o3, o4⟩ := j_cE J (c_setStart hI hm) (m_I_start hm)
  rw [e, Option.bind_some]
  rcases hk with rfl | rfl
  · exact ⟨_, _, rfl, o3.1, o3.2⟩
  · exact ⟨_, _, rfl, J1, N1⟩
theorem j_L26 {v1 v2 : Int} {h : q_F} (hA : q_Al 0 155 h) (J : j_J h) : j_W (fn26 v1 v2 h) h := by
  obtain ⟨S, hm, hI⟩ := J.1
  unfold fn26
  obtain ⟨k, v, h', e, hk, J1, N1, o3, o4⟩ := j_cE J (c_setStuck hI hm) (m_I_stuck hm)
  rw [e, Option.bind_some]
  rcases hk with rfl | rfl | rfl
  · exact ⟨_, _, rfl, o3.1, o3.2⟩
  · exact ⟨_, _, rfl, J1, N1⟩
  · exact ⟨_, _, rfl, J1, N1⟩
theorem j_L27 {v1 v2 : Int} {h : q_F} (hA : q_Al 0 155 h) (J : j_J h) : j_W (fn27 v1 v2 h) h := by
  obtain ⟨S, hm, hI⟩ := J.1
  unfold fn27
  obtain ⟨k, v, h', e, hk, J1, N1, o3, o4⟩ := j_cE J (c_slackC hI) hm
  rw [e, Option.bind_some]
  rcases hk with rfl | rfl
  · exact ⟨_, _, rfl, o3.1, o3.2⟩
  · exact ⟨_, _, rfl, J1, N1⟩
theorem j_L28 {v1 : Int} {h : q_F} (hA : q_Al 0 155 h) (J : j_J h) : j_W (fn28 v1 h) h := by
  obtain ⟨S, hm, hI⟩ := J.1
  unfold fn28
  obtain ⟨k, v, h', e, hk, J1, N1, o3, o4⟩ := j_cE J (c_slowest hI hm) hm
  rw [e, Option.bind_some]
  rcases hk with rfl | rfl
  · exact ⟨_, _, rfl, o3.1, o3.2⟩
  · exact ⟨_, _, rfl, J1, N1⟩
theorem j_L29 {v1 v2 : Int} {h : q_F} (hA : q_Al 0 155 h) (J : j_J h) : j_W (fn29 v1 v2 h) h := by
  obtain ⟨S, hm, hI⟩ := J.1
  unfold fn29
  obtain ⟨k, v, h', e, hk, J1, N1, o3, o4⟩ := j_cE J (c_speed hI hm) hm
  rw [e, Option.bind_some]
  rcases hk with rfl | rfl | rfl
  · exact ⟨_, _, rfl, o3.1, o3.2⟩
  · exact ⟨_, _, rfl, J1, N1⟩
  · exact ⟨_, _, rfl, J1, N1⟩
theorem j_L30 {v1 v2 v3 : Int} {h : q_F} (hA : q_Al 0 155 h) (J : j_J h) : j_W (fn30 v1 v2 v3 h) h := by
  obtain ⟨S, hm, hI⟩ := J.1
  unfold fn30
  obtain ⟨k, v, h', e, hk, J1, N1, o3, o4⟩ := j_cE J (c_behind hI hm) hm
  rw [e, Option.bind_some]
  rcases hk with rfl | rfl | rfl
  · exact ⟨_, _, rfl, o3.1, o3.2⟩
  · exact ⟨_, _, rfl, J1, N1⟩
  · exact ⟨_, _, rfl, J1, N1⟩
theorem j_L31 {v1 v2 v3 : Int} {h : q_F} (hA : q_Al 0 155 h) (J : j_J h) : j_W (fn31 v1 v2 v3 h) h := by
  obtain ⟨S, hm, hI⟩ := J.1
  unfold fn31
  obtain ⟨k, v, h', e, hk, J1, N1, o3, o4⟩ := j_cE J (c_stTime hI hm) hm
  rw [e, Option.bind_some]
  rcases hk with rfl | rfl | rfl
  · exact ⟨_, _, rfl, o3.1, o3.2⟩
  · exact ⟨_, _, rfl, J1, N1⟩
  · exact ⟨_, _, rfl, J1, N1⟩
theorem j_L32 {v1 v2 : Int} {h : q_F} (hA : q_Al 0 155 h) (J : j_J h) : j_W (fn32 v1 v2 h) h := by
  obtain ⟨S, hm, hI⟩ := J.1
  unfold fn32
  obtain ⟨k, v, h', e, hk, J1, N1, o3, o4⟩ := j_cE J (c_swapC hI hm) (m_I_swap hm)
  rw [e, Option.bind_some]
  rcases hk with rfl | rfl | rfl
  · exact ⟨_, _, rfl, o3.1, o3.2⟩
  · exact ⟨_, _, rfl, J1, N1⟩
  · exact ⟨_, _, rfl, J1, N1⟩
theorem j_L33 {v1 v2 : Int} {h : q_F} (hA : q_Al 0 155 h) (J : j_J h) : j_W (fn33 v1 v2 h) h := by
  obtain ⟨S, hm, hI⟩ := J.1
  unfold fn33
  obtain ⟨k, v, h', e, hk, J1, N1, o3, o4⟩ := j_cE J (c_target hI) hm
  rw [e, Option.bind_some]
  rcases hk with rfl | rfl
  · exact ⟨_, _, rfl, o3.1, o3.2⟩
  · exact ⟨_, _, rfl, J1, N1⟩
theorem j_L34 {v1 : Int} {h : q_F} (hA : q_Al 0 155 h) (J : j_J h) : j_W (fn34 v1 h) h := by
  obtain ⟨S, hm, hI⟩ := J.1
  unfold fn34
  obtain ⟨k, v, h', e, hk, J1, N1, o3, o4⟩ := j_cE J (c_travel hI hm) hm
  rw [e, Option.bind_some]
  rcases hk with rfl | rfl
  · exact ⟨_, _, rfl, o3.1, o3.2⟩
  · exact ⟨_, _, rfl, J1, N1⟩
theorem j_L35 {v1 : Int} {h : q_F} (hA : q_Al 0 155 h) (J : j_J h) : j_W (fn35 v1 h) h := by
  obtain ⟨S, hm, hI⟩ := J.1
  unfold fn35
  obtain ⟨k, v, h', e, hk, J1, N1, o3, o4⟩ := j_cE J (c_trueB hI hm) hm
  rw [e, Option.bind_some]
  rcases hk with rfl | rfl
  · exact ⟨_, _, rfl, o3.1, o3.2⟩
  · exact ⟨_, _, rfl, J1, N1⟩
theorem j_L36 {v1 : Int} {h : q_F} (hA : q_Al 0 155 h) (J : j_J h) : j_W (fn36 v1 h) h := by
  obtain ⟨S, hm, hI⟩ := J.1
  unfold fn36
  obtain ⟨k, v, h', e, hk, J1, N1, o3, o4⟩ := j_cE J (c_turnsA hI hm) hm
  rw [e, Option.bind_some]
  rcases hk with rfl | rfl
  · exact ⟨_, _, rfl, o3.1, o3.2⟩
  · exact ⟨_, _, rfl, J1, N1⟩
theorem j_L37 {h : q_F} (hA : q_Al 0 155 h) (J : j_J h) : j_W (fn37 h) h := by
  obtain ⟨S, hm, hI⟩ := J.1
  unfold fn37
  obtain ⟨k, v, h', e, hk, J1, N1, o3, o4⟩ := j_cE J (c_unqueue hI hm) (m_I_unq hm)
  rw [e, Option.bind_some]
  rcases hk with rfl | rfl
  · exact ⟨_, _, rfl, o3.1, o3.2⟩
  · exact ⟨_, _, rfl, J1, N1⟩
theorem j_L38 {v1 v2 : Int} {h : q_F} (hA : q_Al 0 155 h) (J : j_J h) : j_W (fn38 v1 v2 h) h := by
  obtain ⟨S, hm, hI⟩ := J.1
  unfold fn38
  obtain ⟨k, v, h', e, hk, J1, N1, o3, o4⟩ := j_cE J (c_where hI hm) hm
  rw [e, Option.bind_some]
  rcases hk with rfl | rfl | rfl | rfl
  · exact ⟨_, _, rfl, o3.1, o3.2⟩
  · exact ⟨_, _, rfl, J1, N1⟩
  · exact ⟨_, _, rfl, J1, N1⟩
  · exact ⟨_, _, rfl, J1, N1⟩
theorem j_L39 {v1 : Int} {h : q_F} (hA : q_Al 0 155 h) (J : j_J h) : j_W (fn39 v1 h) h := by
  obtain ⟨S, hm, hI⟩ := J.1
  unfold fn39
  obtain ⟨k, v, h', e, hk, J1, N1, o3, o4⟩ := j_cE J (c_wErr hI hm) hm
  rw [e, Option.bind_some]
  rcases hk with rfl | rfl | rfl
  · exact ⟨_, _, rfl, o3.1, o3.2⟩
  · exact ⟨_, _, rfl, J1, N1⟩
  · exact ⟨_, _, rfl, J1, N1⟩
theorem j_L40 {v1 : Int} {h : q_F} (hA : q_Al 0 155 h) (J : j_J h) : j_W (fn40 v1 h) h := by
  obtain ⟨S, hm, hI⟩ := J.1
  unfold fn40
  obtain ⟨k, v, h', e, hk, J1, N1, o3, o4⟩ := j_cE J (c_wHome hI hm (j_w5 hA hI)) hm
  rw [e, Option.bind_some]
  rcases hk with rfl | rfl
  · exact ⟨_, _, rfl, o3.1, o3.2⟩
  · exact ⟨_, _, rfl, J1, N1⟩
end -- [98k.help]
section -- [98l.flo]
/-! Part 98l: the answers that are floats are numbers; the two helpers that widen them. -/
theorem g_f2d {v : Int} (h : g_V v) : q_n64 (FP.f2d (UInt32.ofNat v.toNat)) = true := by
  unfold g_V at h
  generalize UInt32.ofNat v.toNat = x at h
  have hn : x.toNat < 4294967296 := x.toNat_lt
  have hx : x.toNat % 2147483648 ≤ 2139095040 := by
    unfold q_n32 at h
    rw [decide_eq_true_iff, UInt32.le_iff_toNat_le, UInt32.toNat_and] at h
    have e : (0x7fffffff : UInt32).toNat = 2 ^ 31 - 1 := by decide
    have e2 : (0x7f800000 : UInt32).toNat = 2139095040 := by decide
    rw [e, e2, Nat.and_two_pow_sub_one_eq_mod] at h
    exact h
  have nn := (g_dec32 hn).1 hx
  have e : FP.f2d x = UInt64.ofNat (FP.Core.encode FP.Core.b64 (FP.Core.round FP.Core.b64 (FP.Core.decode FP.Core.b32 x.toNat))) := by
    show (if FP.Core.fIsNaN x = true then FP.nanF2D x else FP.Core.f2d x) = _
    rw [if_neg (show ¬ FP.Core.fIsNaN x = true from fun c => nn (of_decide_eq_true c))]; rfl
  have ok : g_ok FP.Core.b64 (FP.Core.round FP.Core.b64 (FP.Core.decode FP.Core.b32 x.toNat)) := by
    generalize FP.Core.decode FP.Core.b32 x.toNat = d at nn
    cases d with
    | nan => exact absurd rfl nn
    | inf t => exact g_ok_i _
    | fin t d r => exact g_rr g_ht64.1 g_ht64.2 _ _ _ _
  have g := g_enc64 ok
  rw [e]
  exact g_n64 g.1 g.2
theorem c_lost_v {a v : Int} {k : Nat} {h h' : q_F} (e : fn188 a h = some (k, v, h')) : g_V v := by
  unfold fn188 at e
  cases hx : fn162 a h with
  | none => rw [hx] at e; cases e
  | some x =>
    rw [hx, Option.bind_some] at e
    split at e
    · split at e
      · cases e; exact g_V0
      · split at e
        · next c => cases e; exact g_Vof c
        · cases e
    · split at e
      · cases e; exact g_V0
      · cases e
theorem c_off_v {a b c v : Int} {h : q_F} (e : fn86 a b c h = some v) : g_V v := by
  unfold fn86 at e
  cases h1 : fn79 a h with
  | none => rw [h1] at e; cases e
  | some x1 =>
    rw [h1, Option.bind_some] at e
    split at e
    · cases e; exact g_V0
    · cases h3 : fn73 a b h with
      | none => rw [h3] at e; cases e
      | some x3 =>
        rw [h3, Option.bind_some] at e
        split at e
        · cases h5 : fn83 a b c h with
          | none => rw [h5] at e; cases e
          | some x5 =>
            rw [h5, Option.bind_some] at e
            split at e
            · next n =>
              split at e
              · cases e; exact g_Vof n
              · cases e; exact g_V_neg (g_Vof n)
            · cases e
        · cases e
theorem c_dev12_v {h : q_F} {K4 : Int → Int → Int → Option Int} (hK : ∀ a b c v, g_V b → K4 a b c = some v → g_V v) : ∀ (m : Nat) (a b c d v : Int), g_V b → fn75_12 K4 h m a b c d = some v → g_V v := by
  intro m
  induction m with
  | zero => intro a b c d v hb e; cases e
  | succ m ih =>
    intro a b c d v hb e
    rw [fn75_12] at e
    cases h2 : fn79 a h with
    | none => rw [h2] at e; cases e
    | some x2 =>
      rw [h2, Option.bind_some] at e
      split at e
      · exact hK _ _ _ _ hb e
      · cases h4 : fn86 a c d h with
        | none => rw [h4] at e; cases e
        | some x4 =>
          rw [h4, Option.bind_some] at e
          split at e
          · exact ih _ _ _ _ _ hb e
          · exact ih _ _ _ _ _ (c_off_v h4) e
theorem c_dev4_v {h : q_F} : ∀ (m : Nat) (a b c v : Int), g_V b → fn75_4 h m a b c = some v → g_V v := by
  intro m
  induction m with
  | zero => intro a b c v hb e; cases e
  | succ m ih =>
    intro a b c v hb e
    rw [fn75_4] at e
    split at e
    · cases e; exact hb
    · exact c_dev12_v (fun a b c v => ih a b c v) _ _ _ _ _ _ hb e
theorem c_dev_v {a v : Int} {k : Nat} {h h' : q_F} (e : fn172 a h = some (k, v, h')) : g_V v := by
  unfold fn172 at e
  cases h1 : fn164 a h with
  | none => rw [h1] at e; cases e
  | some x1 =>
    rw [h1, Option.bind_some] at e
    split at e
    · cases h2 : fn195 x1.2.2 with
      | none => rw [h2] at e; cases e
      | some x2 =>
        rw [h2, Option.bind_some] at e
        cases h3 : fn75 a x2.2 with
        | none => rw [h3] at e; cases e
        | some x3 =>
          rw [h3, Option.bind_some] at e
          cases e
          exact c_dev4_v _ _ _ _ _ g_V0 h3
    · split at e
      · cases e; exact g_V0
      · cases e
theorem j_L6 {v1 : Int} {h : q_F} (hA : q_Al 0 155 h) (J : j_J h) : j_W (fn6 v1 h) h := by
  obtain ⟨S, hm, hI⟩ := J.1
  unfold fn6
  obtain ⟨k, v, h', e, hk, J1, N1, -, -⟩ := j_cE J (c_dev hI hm) hm
  have V := g_f2d (c_dev_v e)
  have o := j_out (k := 154) (j := 0) (v := q_f2d v) J1 (Or.inr rfl)
  rw [e, Option.bind_some]
  rcases hk with rfl | rfl
  · dsimp only
    rw [if_pos rfl, if_pos V]
    exact ⟨_, _, rfl, o.1, j_N_t N1 o.2⟩
  · exact ⟨_, _, rfl, J1, N1⟩
theorem j_L15 {v1 : Int} {h : q_F} (hA : q_Al 0 155 h) (J : j_J h) : j_W (fn15 v1 h) h := by
  obtain ⟨S, hm, hI⟩ := J.1
  unfold fn15
  obtain ⟨k, v, h', e, hk, J1, N1, -, -⟩ := j_cE J (c_lost2 hI) hm
  have V := g_f2d (c_lost_v e)
  have o := j_out (k := 154) (j := 0) (v := q_f2d v) J1 (Or.inr rfl)
  rw [e, Option.bind_some]
  rcases hk with rfl | rfl
  · dsimp only
    rw [if_pos rfl, if_pos V]
    exact ⟨_, _, rfl, o.1, j_N_t N1 o.2⟩
  · exact ⟨_, _, rfl, J1, N1⟩
end -- [98l.flo]
section -- [98m.both]
/-! Part 98m: the input's calls, on both sides at once; printing. -/
theorem j_io {h h2 : q_F} (J : j_J h) (fr : ∀ k, k ≠ 1 → k ≠ 2 → k ≠ 139 → k ≠ 150 → h2 k = h k) (f9 : ∀ j, j ≠ 7 → j ≠ 14 → h2 139 j = h 139 j) (l : 0 ≤ h2 1 1 ∧ h2 1 1 ≤ 600) (E : h2 1 1 = h2 139 14) : j_J h2 := by
  obtain ⟨⟨C, c1, c2⟩, ⟨R, r1, r2⟩, -, -, j3⟩ := J
  refine ⟨⟨C, c1, c_I_k c2 c1.2.1.1 (fun k hk => fr k (by omega) (by omega) (by omega) (by omega)) (by rw [fr 0 (by omega) (by omega) (by omega) (by omega)])⟩, ⟨R, r1, r_I_k r2 (fun k hk => fr k (by omega) (by omega) (by omega) (by omega)) (f9 5 (by omega) (by omega)) (f9 6 (by omega) (by omega))⟩, l, ?_, ?_⟩
  · rw [← E]; exact l
  · rw [f9 27 (by omega) (by omega)]; exact j3
theorem j_app {a b c d e : Int} {h : q_F} (J : j_J h) (E : h 1 1 = h 139 14) : ∃ v h1 h2, fn156 a b c d e h = some (v, h1) ∧ fn237 a b c d e h1 = some (v, h2) ∧ j_J h2 ∧ h2 1 1 = h2 139 14 := by
  have b1 := J.2.2.1
  have b2 := J.2.2.2.1
  obtain ⟨h1, e1, l1, F1⟩ := c_append (a := a) (b := b) (c := c) (d := d) (e := e) b1
  have x9 : h1 139 = h 139 := F1 139 (by omega) (by omega)
  obtain ⟨h2, e2, l2, F2⟩ := r_append (a := a) (b := b) (c := c) (d := d) (e := e) (h := h1) (by rw [x9]; exact b2)
  have y1 : h2 1 = h1 1 := F2.1 1 (by omega) (by omega)
  rw [x9, ← E] at e2 l2
  have q1 : h2 1 1 = (if h 1 1 ≤ 580 then h 1 1 + 20 else h 1 1) := by rw [y1, l1]
  have EE : h2 1 1 = h2 139 14 := by rw [q1, l2]
  refine ⟨_, h1, h2, e1, e2, j_io J (fun k k1 k2 k3 k4 => by rw [F2.1 k k3 k4, F1 k k1 k2]) (fun j j1 j2 => by rw [F2.2 j j1 j2, x9]) ?_ EE, EE⟩
  rw [q1]; split <;> omega
theorem j_tru {v : Int} {h : q_F} (J : j_J h) (E : h 1 1 = h 139 14) : ∃ w h1 h2, fn226 v h = some (w, h1) ∧ fn358 v h1 = some (w, h2) ∧ j_J h2 ∧ h2 1 1 = h2 139 14 := by
  have b1 := J.2.2.1
  have b2 := J.2.2.2.1
  obtain ⟨h1, e1, l1, F1⟩ := c_trunc (v := v) (h := h)
  have x9 : h1 139 = h 139 := F1 139 (by omega) (by omega)
  obtain ⟨h2, e2, l2, F2⟩ := r_trunc (v := v) (h := h1) (by rw [x9]; exact b2)
  have y1 : h2 1 = h1 1 := F2.1 1 (by omega) (by omega)
  rw [x9, ← E] at e2 l2
  have q1 : h2 1 1 = (if 0 ≤ v ∧ v ≤ h 1 1 then v else h 1 1) := by rw [y1, l1]
  have EE : h2 1 1 = h2 139 14 := by rw [q1, l2]
  refine ⟨_, h1, h2, e1, e2, j_io J (fun k k1 k2 k3 k4 => by rw [F2.1 k k3 k4, F1 k k1 k2]) (fun j j1 j2 => by rw [F2.2 j j1 j2, x9]) ?_ EE, EE⟩
  rw [q1]; split <;> omega
theorem j_load {h : q_F} (J : j_J h) : ∃ v h1 w h2, fn187 h = some (v, h1) ∧ fn283 h1 = some (w, h2) ∧ j_J h2 ∧ h2 1 1 = h2 139 14 := by
  obtain ⟨⟨C, c1, c2⟩, ⟨R, r1, r2⟩, b1, b2, b3⟩ := J
  obtain ⟨v, h1, C', e1, c3, c4, l1, F1⟩ := c_load c2 c1 b1
  have x9 : h1 139 = h 139 := F1 139 (by omega)
  have r3 : r_I h1 R := r_I_k r2 (fun k hk => F1 k (by omega)) (by rw [x9]) (by rw [x9])
  obtain ⟨w, h2, R', e2, r4, r5, l2, F2, g27⟩ := r_load r3 r1 (by rw [x9]; exact b2)
  have y1 : h2 1 1 = 0 := by rw [F2 1 (by omega), l1]
  refine ⟨v, h1, w, h2, e1, e2, ⟨⟨C', c4, c_I_k c3 c4.2.1.1 (fun k hk => F2 k (by omega)) (by rw [F2 0 (by omega)])⟩, ⟨R', r5, r4⟩, ?_, ?_, ?_⟩, ?_⟩
  · rw [y1]; omega
  · rw [l2]; omega
  · rw [g27, x9]; exact b3
  · rw [y1, l2]
theorem j_print {h : q_F} (J : j_J h) : j_W (fn307 h) h := by
  obtain ⟨⟨C, c1, c2⟩, ⟨R, r1, r2⟩, b1, b2, b3⟩ := J
  obtain ⟨v, h', e, i, F, p0, p1⟩ := r_print r2 r1
  have x1 : h' 1 = h 1 := F.1 1 (by omega)
  have x14 : h' 139 14 = h 139 14 := F.2 14 (by omega)
  refine ⟨v, h', e, ⟨⟨C, c1, c_I_k c2 c1.2.1.1 (fun k hk => F.1 k (by omega)) (by rw [F.1 0 (by omega)])⟩, ⟨R, r1, i⟩, ?_, ?_, p0, p1⟩, ?_, x14⟩
  · rw [x1]; exact b1
  · rw [x14]; exact b2
  · rw [x1]
end -- [98m.both]
section -- [98n.calls]
/-! Part 98n: each call of the reference, and each of the class that has no helper, keeps what holds. -/
theorem j_r6 {h : q_F} {S : m_St} (hA : q_Al 0 155 h) (hI : r_I h S) : q_r64 (S.w 6) := by
  have e : h 140 6 = S.w 6 := by rw [hI.1]
  rw [← e]; exact q_al1 hA rfl (by omega) (by omega)
theorem j_r7 {h : q_F} {S : m_St} (hA : q_Al 0 155 h) (hI : r_I h S) : q_r64 (S.w 7) := by
  have e : h 140 7 = S.w 7 := by rw [hI.1]
  rw [← e]; exact q_al1 hA rfl (by omega) (by omega)
theorem j_c_reset {h : q_F} (hA : q_Al 0 155 h) (J : j_J h) : j_W (fn205 h) h := by
  obtain ⟨S, hm, hI⟩ := J.1
  exact j_cW J (c_reset hI hm) (m_I_reset hm)
theorem j_r_reset {h : q_F} (hA : q_Al 0 155 h) (J : j_J h) : j_W (fn321 h) h := by
  obtain ⟨S, hm, hI⟩ := J.2.1
  exact j_rW J (r_reset hI hm) (m_I_reset hm)
theorem j_r_setStart {v : Int} {h : q_F} (hA : q_Al 0 155 h) (J : j_J h) : j_W (fn330 v h) h := by
  obtain ⟨S, hm, hI⟩ := J.2.1
  exact j_rW J (r_setStart hI hm) (m_I_start hm)
theorem j_r_setStuck {a v : Int} {h : q_F} (hA : q_Al 0 155 h) (J : j_J h) : j_W (fn331 a v h) h := by
  obtain ⟨S, hm, hI⟩ := J.2.1
  exact j_rW J (r_setStuck hI hm) (m_I_stuck hm)
theorem j_r_homeC {a : Int} {h : q_F} (hA : q_Al 0 155 h) (J : j_J h) : j_W (fn263 a h) h := by
  obtain ⟨S, hm, hI⟩ := J.2.1
  exact j_rW J (r_homeC hI hm) (m_I_home hm)
theorem j_r_homeAllC {h : q_F} (hA : q_Al 0 155 h) (J : j_J h) : j_W (fn264 h) h := by
  obtain ⟨S, hm, hI⟩ := J.2.1
  exact j_rW J (r_homeAllC hI hm) (m_I_homeAll hm)
theorem j_r_unqueue {h : q_F} (hA : q_Al 0 155 h) (J : j_J h) : j_W (fn361 h) h := by
  obtain ⟨S, hm, hI⟩ := J.2.1
  exact j_rW J (r_unqueue hI hm) (m_I_unq hm)
theorem j_r_jogC {a v : Int} {h : q_F} (hA : q_Al 0 155 h) (J : j_J h) : j_W (fn274 a v h) h := by
  obtain ⟨S, hm, hI⟩ := J.2.1
  exact j_rW J (r_jogC hI hm) (m_I_jog hm)
theorem j_r_runC {n : Int} {h : q_F} (hA : q_Al 0 155 h) (J : j_J h) : j_W (fn324 n h) h := by
  obtain ⟨S, hm, hI⟩ := J.2.1
  exact j_rW J (r_runC hI hm) (m_I_run hm)
theorem j_c_runAll {h : q_F} (hA : q_Al 0 155 h) (J : j_J h) : j_W (fn208 h) h := by
  obtain ⟨S, hm, hI⟩ := J.1
  exact j_cW J (c_runAll hI hm) (m_I_runAll hm)
theorem j_r_runAll {h : q_F} (hA : q_Al 0 155 h) (J : j_J h) : j_W (fn325 h) h := by
  obtain ⟨S, hm, hI⟩ := J.2.1
  exact j_rW J (r_runAll hI hm) (m_I_runAll hm)
theorem j_c_undo {h : q_F} (hA : q_Al 0 155 h) (J : j_J h) : j_W (fn228 h) h := by
  obtain ⟨S, hm, hI⟩ := J.1
  exact j_cW J (c_undo hI hm) (m_I_undo hm)
theorem j_r_undo {h : q_F} (hA : q_Al 0 155 h) (J : j_J h) : j_W (fn360 h) h := by
  obtain ⟨S, hm, hI⟩ := J.2.1
  exact j_rW J (r_undo hI hm) (m_I_undo hm)
theorem j_c_save {h : q_F} (hA : q_Al 0 155 h) (J : j_J h) : j_W (fn209 h) h := by
  obtain ⟨S, hm, hI⟩ := J.1
  exact j_cW J (c_save hI hm) (m_I_save hm)
theorem j_r_save {h : q_F} (hA : q_Al 0 155 h) (J : j_J h) : j_W (fn326 h) h := by
  obtain ⟨S, hm, hI⟩ := J.2.1
  exact j_rW J (r_save hI hm) (m_I_save hm)
theorem j_r_rest {h : q_F} (hA : q_Al 0 155 h) (J : j_J h) : j_W (fn322 h) h := by
  obtain ⟨S, hm, hI⟩ := J.2.1
  exact j_rW J (r_rest hI hm) (m_I_rest hm)
theorem j_r_queueC {x y z : Int} {h : q_F} (hA : q_Al 0 155 h) (J : j_J h) : j_W (fn309 x y z h) h := by
  obtain ⟨S, hm, hI⟩ := J.2.1
  exact j_rW J (r_queueC hI hm) (m_I_put hm)
theorem j_r_insertC {i x y z : Int} {h : q_F} (hA : q_Al 0 155 h) (J : j_J h) : j_W (fn269 i x y z h) h := by
  obtain ⟨S, hm, hI⟩ := J.2.1
  exact j_rW J (r_insertC hI hm) (m_I_put hm)
theorem j_r_dropC {m : Int} {h : q_F} (hA : q_Al 0 155 h) (J : j_J h) : j_W (fn252 m h) h := by
  obtain ⟨S, hm, hI⟩ := J.2.1
  exact j_rW J (r_dropC hI hm) (m_I_drop hm)
theorem j_r_swapC {m o : Int} {h : q_F} (hA : q_Al 0 155 h) (J : j_J h) : j_W (fn346 m o h) h := by
  obtain ⟨S, hm, hI⟩ := J.2.1
  exact j_rW J (r_swapC hI hm) (m_I_swap hm)
theorem j_r_account {a v : Int} {h : q_F} (hA : q_Al 0 155 h) (J : j_J h) : j_W (fn234 a v h) h := by
  obtain ⟨S, hm, hI⟩ := J.2.1
  exact j_rW J (r_account hI) hm
theorem j_r_axisC {a v : Int} {h : q_F} (hA : q_Al 0 155 h) (J : j_J h) : j_W (fn239 a v h) h := by
  obtain ⟨S, hm, hI⟩ := J.2.1
  exact j_rW J (r_axisC hI) hm
theorem j_r_count {v : Int} {h : q_F} (hA : q_Al 0 155 h) (J : j_J h) : j_W (fn250 v h) h := by
  obtain ⟨S, hm, hI⟩ := J.2.1
  exact j_rW J (r_count hI hm) hm
theorem j_r_coordinate {a : Int} {h : q_F} (hA : q_Al 0 155 h) (J : j_J h) : j_W (fn248 a h) h := by
  obtain ⟨S, hm, hI⟩ := J.2.1
  exact j_rW J (r_coordinate hI) hm
theorem j_r_errorC {a : Int} {h : q_F} (hA : q_Al 0 155 h) (J : j_J h) : j_W (fn254 a h) h := by
  obtain ⟨S, hm, hI⟩ := J.2.1
  exact j_rW J (r_errorC hI) hm
theorem j_r_readsC {a : Int} {h : q_F} (hA : q_Al 0 155 h) (J : j_J h) : j_W (fn319 a h) h := by
  obtain ⟨S, hm, hI⟩ := J.2.1
  exact j_rW J (r_readsC hI) hm
theorem j_r_time {h : q_F} (hA : q_Al 0 155 h) (J : j_J h) : j_W (fn352 h) h := by
  obtain ⟨S, hm, hI⟩ := J.2.1
  exact j_rW J (r_time hI) hm
theorem j_r_errCode {h : q_F} (hA : q_Al 0 155 h) (J : j_J h) : j_W (fn255 h) h := by
  obtain ⟨S, hm, hI⟩ := J.2.1
  exact j_rW J (r_errCode hI) hm
theorem j_r_errOff {h : q_F} (hA : q_Al 0 155 h) (J : j_J h) : j_W (fn257 h) h := by
  obtain ⟨S, hm, hI⟩ := J.2.1
  exact j_rW J (r_errOff hI) hm
theorem j_r_outByte {v : Int} {h : q_F} (hA : q_Al 0 155 h) (J : j_J h) : j_W (fn304 v h) h := by
  obtain ⟨S, hm, hI⟩ := J.2.1
  exact j_rW J (r_outByte hI J.2.2.2.2) hm
theorem j_r_pairs {h : q_F} (hA : q_Al 0 155 h) (J : j_J h) : j_W (fn344 h) h := by
  obtain ⟨S, hm, hI⟩ := J.2.1
  exact j_rW J (r_pairs hI hm) hm
theorem j_r_slack {a v : Int} {h : q_F} (hA : q_Al 0 155 h) (J : j_J h) : j_W (fn334 a v h) h := by
  obtain ⟨S, hm, hI⟩ := J.2.1
  exact j_rW J (r_slack hI) hm
theorem j_r_target {m a : Int} {h : q_F} (hA : q_Al 0 155 h) (J : j_J h) : j_W (fn350 m a h) h := by
  obtain ⟨S, hm, hI⟩ := J.2.1
  exact j_rW J (r_target hI hm) hm
theorem j_r_bound {a u : Int} {h : q_F} (hA : q_Al 0 155 h) (J : j_J h) : j_W (fn244 a u h) h := by
  obtain ⟨S, hm, hI⟩ := J.2.1
  exact j_rW J (r_bound hI hm) hm
theorem j_r_nearest {x y z : Int} {h : q_F} (hA : q_Al 0 155 h) (J : j_J h) : j_W (fn295 x y z h) h := by
  obtain ⟨S, hm, hI⟩ := J.2.1
  exact j_rW J (r_nearest hI hm) hm
theorem j_r_moveC {m v : Int} {h : q_F} (hA : q_Al 0 155 h) (J : j_J h) : j_W (fn294 m v h) h := by
  obtain ⟨S, hm, hI⟩ := J.2.1
  exact j_rW J (r_moveC hI hm) hm
theorem j_r_speed {m k : Int} {h : q_F} (hA : q_Al 0 155 h) (J : j_J h) : j_W (fn337 m k h) h := by
  obtain ⟨S, hm, hI⟩ := J.2.1
  exact j_rW J (r_speed hI hm) hm
theorem j_r_behind {m a k : Int} {h : q_F} (hA : q_Al 0 155 h) (J : j_J h) : j_W (fn341 m a k h) h := by
  obtain ⟨S, hm, hI⟩ := J.2.1
  exact j_rW J (r_behind hI hm) hm
theorem j_r_pointAt {m a k : Int} {h : q_F} (hA : q_Al 0 155 h) (J : j_J h) : j_W (fn306 m a k h) h := by
  obtain ⟨S, hm, hI⟩ := J.2.1
  exact j_rW J (r_pointAt hI hm) hm
theorem j_r_ramp {m v : Int} {h : q_F} (hA : q_Al 0 155 h) (J : j_J h) : j_W (fn313 m v h) h := by
  obtain ⟨S, hm, hI⟩ := J.2.1
  exact j_rW J (r_ramp hI hm) hm
theorem j_r_travel {a : Int} {h : q_F} (hA : q_Al 0 155 h) (J : j_J h) : j_W (fn356 a h) h := by
  obtain ⟨S, hm, hI⟩ := J.2.1
  exact j_rW J (r_travel hI hm) hm
theorem j_r_turns {a : Int} {h : q_F} (hA : q_Al 0 155 h) (J : j_J h) : j_W (fn359 a h) h := by
  obtain ⟨S, hm, hI⟩ := J.2.1
  exact j_rW J (r_turns hI hm) hm
theorem j_r_slowest {m : Int} {h : q_F} (hA : q_Al 0 155 h) (J : j_J h) : j_W (fn336 m h) h := by
  obtain ⟨S, hm, hI⟩ := J.2.1
  exact j_rW J (r_slowest hI hm) hm
theorem j_r_lasts {m : Int} {h : q_F} (hA : q_Al 0 155 h) (J : j_J h) : j_W (fn276 m h) h := by
  obtain ⟨S, hm, hI⟩ := J.2.1
  exact j_rW J (r_lasts hI hm) hm
theorem j_r_queueTime {h : q_F} (hA : q_Al 0 155 h) (J : j_J h) : j_W (fn311 h) h := by
  obtain ⟨S, hm, hI⟩ := J.2.1
  exact j_rW J (r_queueTime hI hm) hm
theorem j_r_trueB {a : Int} {h : q_F} (hA : q_Al 0 155 h) (J : j_J h) : j_W (fn357 a h) h := by
  obtain ⟨S, hm, hI⟩ := J.2.1
  exact j_rW J (r_trueB hI hm) hm
theorem j_r_wErr {a : Int} {h : q_F} (hA : q_Al 0 155 h) (J : j_J h) : j_W (fn363 a h) h := by
  obtain ⟨S, hm, hI⟩ := J.2.1
  exact j_rW J (r_wErr hI hm) hm
theorem j_r_wLose {h : q_F} (hA : q_Al 0 155 h) (J : j_J h) : j_W (fn365 h) h := by
  obtain ⟨S, hm, hI⟩ := J.2.1
  exact j_rW J (r_wLose hI hm) hm
theorem j_r_wHome {a : Int} {h : q_F} (hA : q_Al 0 155 h) (J : j_J h) : j_W (fn364 a h) h := by
  obtain ⟨S, hm, hI⟩ := J.2.1
  exact j_rW J (r_wHome hI hm) hm
theorem j_r_stTime {x y z : Int} {h : q_F} (hA : q_Al 0 155 h) (J : j_J h) : j_W (fn345 x y z h) h := by
  obtain ⟨S, hm, hI⟩ := J.2.1
  exact j_rW J (r_stTime hI hm) hm
theorem j_r_bestF {h : q_F} (hA : q_Al 0 155 h) (J : j_J h) : j_W (fn242 h) h := by
  obtain ⟨S, hm, hI⟩ := J.2.1
  exact j_rW J (r_bestF hI hm) hm
theorem j_r_bestS {h : q_F} (hA : q_Al 0 155 h) (J : j_J h) : j_W (fn243 h) h := by
  obtain ⟨S, hm, hI⟩ := J.2.1
  exact j_rW J (r_bestS hI hm) hm
theorem j_r_where {a t : Int} {h : q_F} (hA : q_Al 0 155 h) (J : j_J h) : j_W (fn362 a t h) h := by
  obtain ⟨S, hm, hI⟩ := J.2.1
  exact j_rW J (r_where hI hm) hm
theorem j_r_nord {i : Int} {h : q_F} (hA : q_Al 0 155 h) (J : j_J h) : j_W (fn297 i h) h := by
  obtain ⟨S, hm, hI⟩ := J.2.1
  exact j_rW J (r_nord hI hm) hm
theorem j_c_pairs {h : q_F} (hA : q_Al 0 155 h) (J : j_J h) : j_W (fn218 h) h := by
  obtain ⟨S, hm, hI⟩ := J.1
  exact j_cW J (c_pairs hI hm) hm
theorem j_c_queueTime {h : q_F} (hA : q_Al 0 155 h) (J : j_J h) : j_W (fn200 h) h := by
  obtain ⟨S, hm, hI⟩ := J.1
  exact j_cW J (c_queueTime hI hm) hm
theorem j_c_wLose {h : q_F} (hA : q_Al 0 155 h) (J : j_J h) : j_W (fn233 h) h := by
  obtain ⟨S, hm, hI⟩ := J.1
  exact j_cW J (c_wLose hI hm) hm
theorem j_c_bestF {h : q_F} (hA : q_Al 0 155 h) (J : j_J h) : j_W (fn158 h) h := by
  obtain ⟨S, hm, hI⟩ := J.1
  exact j_cW J (c_bestF hI hm) hm
theorem j_c_print {h : q_F} (hA : q_Al 0 155 h) (J : j_J h) : j_W (fn197 h) h := by
  obtain ⟨S, hm, hI⟩ := J.1
  exact j_cW J (c_print hI hm) hm
theorem j_c_qlen {h : q_F} (hA : q_Al 0 155 h) (J : j_J h) : j_W (fn199 h) h := by
  obtain ⟨S, hm, hI⟩ := J.1
  exact j_cW J (c_qlen hI hm) hm
theorem j_r_line {m : Int} {h : q_F} (hA : q_Al 0 155 h) (J : j_J h) : j_W (fn281 m h) h := by
  obtain ⟨S, hm, hI⟩ := J.2.1
  exact j_rW J (r_line hI hm) hm
theorem j_r_qlen {h : q_F} (hA : q_Al 0 155 h) (J : j_J h) : j_W (fn310 h) h := by
  obtain ⟨S, hm, hI⟩ := J.2.1
  exact j_rW J (r_qlen hI hm) hm
theorem j_r_msp {m : Int} {h : q_F} (hA : q_Al 0 155 h) (J : j_J h) : j_W (fn293 m h) h := by
  obtain ⟨S, hm, hI⟩ := J.2.1
  exact j_rW J (r_msp hI hm) hm
theorem j_r_mdur {h : q_F} (hA : q_Al 0 155 h) (J : j_J h) : j_W (fn292 h) h := by
  obtain ⟨S, hm, hI⟩ := J.2.1
  exact j_rW J (r_mdur hI (j_r6 hA hI) (j_r7 hA hI)) hm
theorem j_r_lost2 {a : Int} {h : q_F} (hA : q_Al 0 155 h) (J : j_J h) : j_W (fn285 a h) h := by
  obtain ⟨S, hm, hI⟩ := J.2.1
  exact j_rW J (r_lost2 hI) hm
theorem j_r_dev {m : Int} {h : q_F} (hA : q_Al 0 155 h) (J : j_J h) : j_W (fn251 m h) h := by
  obtain ⟨S, hm, hI⟩ := J.2.1
  exact j_rW J (r_dev hI hm) hm
theorem j_c_setC {v : Int} {h : q_F} (hv : v = 0 ∨ v = 1) (J : j_J h) : j_W (fn210 v h) h := by
  obtain ⟨S, hm, hI⟩ := J.1
  exact j_cW J (c_setC hI hm) (m_I_oSet hm (m_pv_12 (by omega) hv) (by omega))
theorem j_c_setD {v : Int} {h : q_F} (hv : v = 0 ∨ v = 1) (J : j_J h) : j_W (fn211 v h) h := by
  obtain ⟨S, hm, hI⟩ := J.1
  exact j_cW J (c_setD hI hm) (m_I_oSet hm (m_pv_12 (by omega) hv) (by omega))
theorem j_r_setC {v : Int} {h : q_F} (hv : v = 0 ∨ v = 1) (J : j_J h) : j_W (fn328 v h) h := by
  obtain ⟨S, hm, hI⟩ := J.2.1
  exact j_rW J (r_setC hv hI hm) (m_I_oSet hm (m_pv_12 (by omega) hv) (by omega))
theorem j_r_setD {v : Int} {h : q_F} (hv : v = 0 ∨ v = 1) (J : j_J h) : j_W (fn329 v h) h := by
  obtain ⟨S, hm, hI⟩ := J.2.1
  exact j_rW J (r_setD hv hI hm) (m_I_oSet hm (m_pv_12 (by omega) hv) (by omega))
end -- [98n.calls]
