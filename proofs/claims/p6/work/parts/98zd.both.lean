/-! Part 98zd: what each helper of the check makes of the class's state. Printed by wip/tools/gen98z.py. -/
theorem t_L0 {v1 v2 : Int} {h : q_F} {S1 S2 : m_St} (hA : q_Al 0 155 h) (J : j_T S1 S2 h) : t_W (fn0 v1 v2 h) S1 S2 := by
  obtain ⟨hm, hI⟩ := J.1
  unfold fn0
  obtain ⟨k, v, h', e, hk, J1, o3, o4⟩ := t_cE J (c_account hI) hm
  rw [e, Option.bind_some]
  rcases hk with rfl | rfl | rfl
  · exact ⟨_, _, rfl, o3⟩
  · exact ⟨_, _, rfl, J1⟩
  · exact ⟨_, _, rfl, J1⟩
theorem t_L1 {v1 v2 : Int} {h : q_F} {S1 S2 : m_St} (hA : q_Al 0 155 h) (J : j_T S1 S2 h) : t_W (fn1 v1 v2 h) S1 S2 := by
  obtain ⟨hm, hI⟩ := J.1
  unfold fn1
  obtain ⟨k, v, h', e, hk, J1, o3, o4⟩ := t_cE J (c_axisC hI) hm
  rw [e, Option.bind_some]
  rcases hk with rfl | rfl | rfl
  · exact ⟨_, _, rfl, o3⟩
  · exact ⟨_, _, rfl, J1⟩
  · exact ⟨_, _, rfl, J1⟩
theorem t_L2 {h : q_F} {S1 S2 : m_St} (hA : q_Al 0 155 h) (J : j_T S1 S2 h) : t_W (fn2 h) S1 S2 := by
  obtain ⟨hm, hI⟩ := J.1
  unfold fn2
  obtain ⟨k, v, h', e, hk, J1, o3, o4⟩ := t_cE J (c_bestS hI hm) hm
  rw [e, Option.bind_some]
  rcases hk with rfl | rfl
  · exact ⟨_, _, rfl, o3⟩
  · exact ⟨_, _, rfl, J1⟩
theorem t_L3 {v1 v2 : Int} {h : q_F} {S1 S2 : m_St} (hA : q_Al 0 155 h) (J : j_T S1 S2 h) : t_W (fn3 v1 v2 h) S1 S2 := by
  obtain ⟨hm, hI⟩ := J.1
  unfold fn3
  obtain ⟨k, v, h', e, hk, J1, o3, o4⟩ := t_cE J (c_bound hI hm) hm
  rw [e, Option.bind_some]
  rcases hk with rfl | rfl | rfl
  · exact ⟨_, _, rfl, o3⟩
  · exact ⟨_, _, rfl, J1⟩
  · exact ⟨_, _, rfl, J1⟩
theorem t_L4 {v1 : Int} {h : q_F} {S1 S2 : m_St} (hA : q_Al 0 155 h) (J : j_T S1 S2 h) : t_W (fn4 v1 h) S1 S2 := by
  obtain ⟨hm, hI⟩ := J.1
  unfold fn4
  obtain ⟨k, v, h', e, hk, J1, o3, o4⟩ := t_cE J (c_coordinate hI) hm
  rw [e, Option.bind_some]
  rcases hk with rfl | rfl | rfl
  · exact ⟨_, _, rfl, o3⟩
  · exact ⟨_, _, rfl, J1⟩
  · exact ⟨_, _, rfl, J1⟩
theorem t_L5 {v1 : Int} {h : q_F} {S1 S2 : m_St} (hA : q_Al 0 155 h) (J : j_T S1 S2 h) : t_W (fn5 v1 h) S1 S2 := by
  obtain ⟨hm, hI⟩ := J.1
  unfold fn5
  obtain ⟨k, v, h', e, hk, J1, o3, o4⟩ := t_cE J (c_count hI hm) hm
  rw [e, Option.bind_some]
  rcases hk with rfl | rfl
  · exact ⟨_, _, rfl, o3⟩
  · exact ⟨_, _, rfl, J1⟩
theorem t_L7 {v1 : Int} {h : q_F} {S1 S2 : m_St} (hA : q_Al 0 155 h) (J : j_T S1 S2 h) : t_W (fn7 v1 h) (m_oDrop v1 S1) S2 := by
  obtain ⟨hm, hI⟩ := J.1
  unfold fn7
  obtain ⟨k, v, h', e, hk, J1, o3, o4⟩ := t_cE J (c_dropC hI hm) (m_I_drop hm)
  rw [e, Option.bind_some]
  rcases hk with rfl | rfl | rfl
  · exact ⟨_, _, rfl, o3⟩
  · exact ⟨_, _, rfl, J1⟩
  · exact ⟨_, _, rfl, J1⟩
theorem t_L8 {v1 : Int} {h : q_F} {S1 S2 : m_St} (hA : q_Al 0 155 h) (J : j_T S1 S2 h) : t_W (fn8 v1 h) S1 S2 := by
  obtain ⟨hm, hI⟩ := J.1
  unfold fn8
  obtain ⟨k, v, h', e, hk, J1, o3, o4⟩ := t_cE J (c_errorC hI) hm
  rw [e, Option.bind_some]
  rcases hk with rfl | rfl | rfl
  · exact ⟨_, _, rfl, o3⟩
  · exact ⟨_, _, rfl, J1⟩
  · exact ⟨_, _, rfl, J1⟩
theorem t_L9 {v1 : Int} {h : q_F} {S1 S2 : m_St} (hA : q_Al 0 155 h) (J : j_T S1 S2 h) : t_W (fn9 v1 h) (m_oHome v1 S1) S2 := by
  obtain ⟨hm, hI⟩ := J.1
  unfold fn9
  obtain ⟨k, v, h', e, hk, J1, o3, o4⟩ := t_cE J (c_homeC hI hm (j_w5 hA hI)) (m_I_home hm)
  rw [e, Option.bind_some]
  rcases hk with rfl | rfl | rfl
  · exact ⟨_, _, rfl, o3⟩
  · exact ⟨_, _, rfl, J1⟩
  · exact ⟨_, _, rfl, J1⟩
theorem t_L10 {h : q_F} {S1 S2 : m_St} (hA : q_Al 0 155 h) (J : j_T S1 S2 h) : t_W (fn10 h) (m_oHomeAll S1) S2 := by
  obtain ⟨hm, hI⟩ := J.1
  unfold fn10
  obtain ⟨k, v, h', e, hk, J1, o3, o4⟩ := t_cE J (c_homeAllC hI hm (j_w5 hA hI)) (m_I_homeAll hm)
  rw [e, Option.bind_some]
  rcases hk with rfl | rfl
  · exact ⟨_, _, rfl, o3⟩
  · exact ⟨_, _, rfl, J1⟩
theorem t_L11 {v1 v2 v3 v4 : Int} {h : q_F} {S1 S2 : m_St} (hA : q_Al 0 155 h) (J : j_T S1 S2 h) : t_W (fn11 v1 v2 v3 v4 h) (m_oPut v1 v2 v3 v4 S1) S2 := by
  obtain ⟨hm, hI⟩ := J.1
  unfold fn11
  obtain ⟨k, v, h', e, hk, J1, o3, o4⟩ := t_cE J (c_insertC hI hm) (m_I_put hm)
  rw [e, Option.bind_some]
  rcases hk with rfl | rfl | rfl
  · exact ⟨_, _, rfl, o3⟩
  · exact ⟨_, _, rfl, J1⟩
  · exact ⟨_, _, rfl, J1⟩
theorem t_L12 {v1 v2 : Int} {h : q_F} {S1 S2 : m_St} (hA : q_Al 0 155 h) (J : j_T S1 S2 h) : t_W (fn12 v1 v2 h) (m_oJog v1 v2 S1) S2 := by
  obtain ⟨hm, hI⟩ := J.1
  unfold fn12
  obtain ⟨k, v, h', e, hk, J1, o3, o4⟩ := t_cE J (c_jogC hI hm (j_w5 hA hI)) (m_I_jog hm)
  rw [e, Option.bind_some]
  rcases hk with rfl | rfl | rfl | rfl
  · exact ⟨_, _, rfl, o3⟩
  · exact ⟨_, _, rfl, J1⟩
  · exact ⟨_, _, rfl, J1⟩
  · exact ⟨_, _, rfl, J1⟩
theorem t_L13 {v1 : Int} {h : q_F} {S1 S2 : m_St} (hA : q_Al 0 155 h) (J : j_T S1 S2 h) : t_W (fn13 v1 h) S1 S2 := by
  obtain ⟨hm, hI⟩ := J.1
  unfold fn13
  obtain ⟨k, v, h', e, hk, J1, o3, o4⟩ := t_cE J (c_lasts hI hm) hm
  rw [e, Option.bind_some]
  rcases hk with rfl | rfl
  · exact ⟨_, _, rfl, o3⟩
  · exact ⟨_, _, rfl, J1⟩
theorem t_L14 {v1 : Int} {h : q_F} {S1 S2 : m_St} (hA : q_Al 0 155 h) (J : j_T S1 S2 h) : t_W (fn14 v1 h) S1 S2 := by
  obtain ⟨hm, hI⟩ := J.1
  unfold fn14
  obtain ⟨k, v, h', e, hk, J1, o3, o4⟩ := t_cE J (c_line hI hm) hm
  rw [e, Option.bind_some]
  rcases hk with rfl | rfl
  · exact ⟨_, _, rfl, o4⟩
  · exact ⟨_, _, rfl, J1⟩
theorem t_L16 {v1 : Int} {h : q_F} {S1 S2 : m_St} (hA : q_Al 0 155 h) (J : j_T S1 S2 h) : t_W (fn16 v1 h) S1 S2 := by
  obtain ⟨hm, hI⟩ := J.1
  unfold fn16
  obtain ⟨k, v, h', e, hk, J1, o3, o4⟩ := t_cE J (c_mspeed hI hm) hm
  rw [e, Option.bind_some]
  rcases hk with rfl | rfl
  · exact ⟨_, _, rfl, o4⟩
  · exact ⟨_, _, rfl, J1⟩
theorem t_L17 {v1 v2 : Int} {h : q_F} {S1 S2 : m_St} (hA : q_Al 0 155 h) (J : j_T S1 S2 h) : t_W (fn17 v1 v2 h) S1 S2 := by
  obtain ⟨hm, hI⟩ := J.1
  unfold fn17
  obtain ⟨k, v, h', e, hk, J1, o3, o4⟩ := t_cE J (c_moveC hI hm) hm
  rw [e, Option.bind_some]
  rcases hk with rfl | rfl | rfl
  · exact ⟨_, _, rfl, o3⟩
  · exact ⟨_, _, rfl, J1⟩
  · exact ⟨_, _, rfl, J1⟩
theorem t_L18 {v1 : Int} {h : q_F} {S1 S2 : m_St} (hA : q_Al 0 155 h) (J : j_T S1 S2 h) : t_W (fn18 v1 h) S1 S2 := by
  obtain ⟨hm, hI⟩ := J.1
  unfold fn18
  obtain ⟨k, v, h', e, hk, J1, o3, o4⟩ := t_cE J (c_nord hI hm) hm
  rw [e, Option.bind_some]
  rcases hk with rfl | rfl
  · exact ⟨_, _, rfl, o3⟩
  · exact ⟨_, _, rfl, J1⟩
theorem t_L19 {v1 v2 v3 : Int} {h : q_F} {S1 S2 : m_St} (hA : q_Al 0 155 h) (J : j_T S1 S2 h) : t_W (fn19 v1 v2 v3 h) S1 S2 := by
  obtain ⟨hm, hI⟩ := J.1
  unfold fn19
  obtain ⟨k, v, h', e, hk, J1, o3, o4⟩ := t_cE J (c_pointAt hI hm) hm
  rw [e, Option.bind_some]
  rcases hk with rfl | rfl | rfl
  · exact ⟨_, _, rfl, o3⟩
  · exact ⟨_, _, rfl, J1⟩
  · exact ⟨_, _, rfl, J1⟩
theorem t_L20 {v1 v2 v3 : Int} {h : q_F} {S1 S2 : m_St} (hA : q_Al 0 155 h) (J : j_T S1 S2 h) : t_W (fn20 v1 v2 v3 h) (m_oPut (S1.w 4) v1 v2 v3 S1) S2 := by
  obtain ⟨hm, hI⟩ := J.1
  unfold fn20
  obtain ⟨k, v, h', e, hk, J1, o3, o4⟩ := t_cE J (c_queueC hI hm) (m_I_put hm)
  rw [e, Option.bind_some]
  rcases hk with rfl | rfl | rfl
  · exact ⟨_, _, rfl, o3⟩
  · exact ⟨_, _, rfl, J1⟩
  · exact ⟨_, _, rfl, J1⟩
theorem t_L21 {v1 v2 : Int} {h : q_F} {S1 S2 : m_St} (hA : q_Al 0 155 h) (J : j_T S1 S2 h) : t_W (fn21 v1 v2 h) S1 S2 := by
  obtain ⟨hm, hI⟩ := J.1
  unfold fn21
  obtain ⟨k, v, h', e, hk, J1, o3, o4⟩ := t_cE J (c_ramp hI hm) hm
  rw [e, Option.bind_some]
  rcases hk with rfl | rfl
  · exact ⟨_, _, rfl, o3⟩
  · exact ⟨_, _, rfl, J1⟩
theorem t_L22 {v1 : Int} {h : q_F} {S1 S2 : m_St} (hA : q_Al 0 155 h) (J : j_T S1 S2 h) : t_W (fn22 v1 h) S1 S2 := by
  obtain ⟨hm, hI⟩ := J.1
  unfold fn22
  obtain ⟨k, v, h', e, hk, J1, o3, o4⟩ := t_cE J (c_readsC hI) hm
  rw [e, Option.bind_some]
  rcases hk with rfl | rfl
  · dsimp only
    rw [if_pos rfl]
    have J0 := fun p => t_out (k := 153) (j := 0) (v := p) J1 (Or.inl rfl)
    by_cases hv : v = 0
    · rw [if_pos hv]; exact ⟨_, _, rfl, J0 0⟩
    · rw [if_neg hv]; exact ⟨_, _, rfl, J0 1⟩
  · exact ⟨_, _, rfl, J1⟩
theorem t_L23 {h : q_F} {S1 S2 : m_St} (hA : q_Al 0 155 h) (J : j_T S1 S2 h) : t_W (fn23 h) (m_oRest S1) S2 := by
  obtain ⟨hm, hI⟩ := J.1
  unfold fn23
  obtain ⟨k, v, h', e, hk, J1, o3, o4⟩ := t_cE J (c_rest hI hm) (m_I_rest hm)
  rw [e, Option.bind_some]
  rcases hk with rfl | rfl
  · exact ⟨_, _, rfl, o3⟩
  · exact ⟨_, _, rfl, J1⟩
theorem t_L24 {v1 : Int} {h : q_F} {S1 S2 : m_St} (hA : q_Al 0 155 h) (J : j_T S1 S2 h) : t_W (fn24 v1 h) (m_oRun v1 S1) S2 := by
  obtain ⟨hm, hI⟩ := J.1
  unfold fn24
  obtain ⟨k, v, h', e, hk, J1, o3, o4⟩ := t_cE J (c_runC hI hm) (m_I_run hm)
  rw [e, Option.bind_some]
  rcases hk with rfl | rfl | rfl
  · exact ⟨_, _, rfl, o3⟩
  · exact ⟨_, _, rfl, J1⟩
  · exact ⟨_, _, rfl, J1⟩
theorem t_L25 {v1 : Int} {h : q_F} {S1 S2 : m_St} (hA : q_Al 0 155 h) (J : j_T S1 S2 h) : t_W (fn25 v1 h) (m_oStart v1 S1) S2 := by
  obtain ⟨hm, hI⟩ := J.1
  unfold fn25
  obtain ⟨k, v, h', e, hk, J1, o3, o4⟩ := t_cE J (c_setStart hI hm) (m_I_start hm)
  rw [e, Option.bind_some]
  rcases hk with rfl | rfl
  · exact ⟨_, _, rfl, o3⟩
  · exact ⟨_, _, rfl, J1⟩
theorem t_L26 {v1 v2 : Int} {h : q_F} {S1 S2 : m_St} (hA : q_Al 0 155 h) (J : j_T S1 S2 h) : t_W (fn26 v1 v2 h) (m_oStuck v1 v2 S1) S2 := by
  obtain ⟨hm, hI⟩ := J.1
  unfold fn26
  obtain ⟨k, v, h', e, hk, J1, o3, o4⟩ := t_cE J (c_setStuck hI hm) (m_I_stuck hm)
  rw [e, Option.bind_some]
  rcases hk with rfl | rfl | rfl
  · exact ⟨_, _, rfl, o3⟩
  · exact ⟨_, _, rfl, J1⟩
  · exact ⟨_, _, rfl, J1⟩
theorem t_L27 {v1 v2 : Int} {h : q_F} {S1 S2 : m_St} (hA : q_Al 0 155 h) (J : j_T S1 S2 h) : t_W (fn27 v1 v2 h) S1 S2 := by
  obtain ⟨hm, hI⟩ := J.1
  unfold fn27
  obtain ⟨k, v, h', e, hk, J1, o3, o4⟩ := t_cE J (c_slackC hI) hm
  rw [e, Option.bind_some]
  rcases hk with rfl | rfl
  · exact ⟨_, _, rfl, o3⟩
  · exact ⟨_, _, rfl, J1⟩
theorem t_L28 {v1 : Int} {h : q_F} {S1 S2 : m_St} (hA : q_Al 0 155 h) (J : j_T S1 S2 h) : t_W (fn28 v1 h) S1 S2 := by
  obtain ⟨hm, hI⟩ := J.1
  unfold fn28
  obtain ⟨k, v, h', e, hk, J1, o3, o4⟩ := t_cE J (c_slowest hI hm) hm
  rw [e, Option.bind_some]
  rcases hk with rfl | rfl
  · exact ⟨_, _, rfl, o3⟩
  · exact ⟨_, _, rfl, J1⟩
theorem t_L29 {v1 v2 : Int} {h : q_F} {S1 S2 : m_St} (hA : q_Al 0 155 h) (J : j_T S1 S2 h) : t_W (fn29 v1 v2 h) S1 S2 := by
  obtain ⟨hm, hI⟩ := J.1
  unfold fn29
  obtain ⟨k, v, h', e, hk, J1, o3, o4⟩ := t_cE J (c_speed hI hm) hm
  rw [e, Option.bind_some]
  rcases hk with rfl | rfl | rfl
  · exact ⟨_, _, rfl, o3⟩
  · exact ⟨_, _, rfl, J1⟩
  · exact ⟨_, _, rfl, J1⟩
theorem t_L30 {v1 v2 v3 : Int} {h : q_F} {S1 S2 : m_St} (hA : q_Al 0 155 h) (J : j_T S1 S2 h) : t_W (fn30 v1 v2 v3 h) S1 S2 := by
  obtain ⟨hm, hI⟩ := J.1
  unfold fn30
  obtain ⟨k, v, h', e, hk, J1, o3, o4⟩ := t_cE J (c_behind hI hm) hm
  rw [e, Option.bind_some]
  rcases hk with rfl | rfl | rfl
  · exact ⟨_, _, rfl, o3⟩
  · exact ⟨_, _, rfl, J1⟩
  · exact ⟨_, _, rfl, J1⟩
theorem t_L31 {v1 v2 v3 : Int} {h : q_F} {S1 S2 : m_St} (hA : q_Al 0 155 h) (J : j_T S1 S2 h) : t_W (fn31 v1 v2 v3 h) S1 S2 := by
  obtain ⟨hm, hI⟩ := J.1
  unfold fn31
  obtain ⟨k, v, h', e, hk, J1, o3, o4⟩ := t_cE J (c_stTime hI hm) hm
  rw [e, Option.bind_some]
  rcases hk with rfl | rfl | rfl
  · exact ⟨_, _, rfl, o3⟩
  · exact ⟨_, _, rfl, J1⟩
  · exact ⟨_, _, rfl, J1⟩
theorem t_L32 {v1 v2 : Int} {h : q_F} {S1 S2 : m_St} (hA : q_Al 0 155 h) (J : j_T S1 S2 h) : t_W (fn32 v1 v2 h) (m_oSwap v1 v2 S1) S2 := by
  obtain ⟨hm, hI⟩ := J.1
  unfold fn32
  obtain ⟨k, v, h', e, hk, J1, o3, o4⟩ := t_cE J (c_swapC hI hm) (m_I_swap hm)
  rw [e, Option.bind_some]
  rcases hk with rfl | rfl | rfl
  · exact ⟨_, _, rfl, o3⟩
  · exact ⟨_, _, rfl, J1⟩
  · exact ⟨_, _, rfl, J1⟩
theorem t_L33 {v1 v2 : Int} {h : q_F} {S1 S2 : m_St} (hA : q_Al 0 155 h) (J : j_T S1 S2 h) : t_W (fn33 v1 v2 h) S1 S2 := by
  obtain ⟨hm, hI⟩ := J.1
  unfold fn33
  obtain ⟨k, v, h', e, hk, J1, o3, o4⟩ := t_cE J (c_target hI) hm
  rw [e, Option.bind_some]
  rcases hk with rfl | rfl
  · exact ⟨_, _, rfl, o3⟩
  · exact ⟨_, _, rfl, J1⟩
theorem t_L34 {v1 : Int} {h : q_F} {S1 S2 : m_St} (hA : q_Al 0 155 h) (J : j_T S1 S2 h) : t_W (fn34 v1 h) S1 S2 := by
  obtain ⟨hm, hI⟩ := J.1
  unfold fn34
  obtain ⟨k, v, h', e, hk, J1, o3, o4⟩ := t_cE J (c_travel hI hm) hm
  rw [e, Option.bind_some]
  rcases hk with rfl | rfl
  · exact ⟨_, _, rfl, o3⟩
  · exact ⟨_, _, rfl, J1⟩
theorem t_L35 {v1 : Int} {h : q_F} {S1 S2 : m_St} (hA : q_Al 0 155 h) (J : j_T S1 S2 h) : t_W (fn35 v1 h) S1 S2 := by
  obtain ⟨hm, hI⟩ := J.1
  unfold fn35
  obtain ⟨k, v, h', e, hk, J1, o3, o4⟩ := t_cE J (c_trueB hI hm) hm
  rw [e, Option.bind_some]
  rcases hk with rfl | rfl
  · exact ⟨_, _, rfl, o3⟩
  · exact ⟨_, _, rfl, J1⟩
theorem t_L36 {v1 : Int} {h : q_F} {S1 S2 : m_St} (hA : q_Al 0 155 h) (J : j_T S1 S2 h) : t_W (fn36 v1 h) S1 S2 := by
  obtain ⟨hm, hI⟩ := J.1
  unfold fn36
  obtain ⟨k, v, h', e, hk, J1, o3, o4⟩ := t_cE J (c_turnsA hI hm) hm
  rw [e, Option.bind_some]
  rcases hk with rfl | rfl
  · exact ⟨_, _, rfl, o3⟩
  · exact ⟨_, _, rfl, J1⟩
theorem t_L37 {h : q_F} {S1 S2 : m_St} (hA : q_Al 0 155 h) (J : j_T S1 S2 h) : t_W (fn37 h) (m_oUnq S1) S2 := by
  obtain ⟨hm, hI⟩ := J.1
  unfold fn37
  obtain ⟨k, v, h', e, hk, J1, o3, o4⟩ := t_cE J (c_unqueue hI hm) (m_I_unq hm)
  rw [e, Option.bind_some]
  rcases hk with rfl | rfl
  · exact ⟨_, _, rfl, o3⟩
  · exact ⟨_, _, rfl, J1⟩
theorem t_L38 {v1 v2 : Int} {h : q_F} {S1 S2 : m_St} (hA : q_Al 0 155 h) (J : j_T S1 S2 h) : t_W (fn38 v1 v2 h) S1 S2 := by
  obtain ⟨hm, hI⟩ := J.1
  unfold fn38
  obtain ⟨k, v, h', e, hk, J1, o3, o4⟩ := t_cE J (c_where hI hm) hm
  rw [e, Option.bind_some]
  rcases hk with rfl | rfl | rfl | rfl
  · exact ⟨_, _, rfl, o3⟩
  · exact ⟨_, _, rfl, J1⟩
  · exact ⟨_, _, rfl, J1⟩
  · exact ⟨_, _, rfl, J1⟩
theorem t_L39 {v1 : Int} {h : q_F} {S1 S2 : m_St} (hA : q_Al 0 155 h) (J : j_T S1 S2 h) : t_W (fn39 v1 h) S1 S2 := by
  obtain ⟨hm, hI⟩ := J.1
  unfold fn39
  obtain ⟨k, v, h', e, hk, J1, o3, o4⟩ := t_cE J (c_wErr hI hm) hm
  rw [e, Option.bind_some]
  rcases hk with rfl | rfl | rfl
  · exact ⟨_, _, rfl, o3⟩
  · exact ⟨_, _, rfl, J1⟩
  · exact ⟨_, _, rfl, J1⟩
theorem t_L40 {v1 : Int} {h : q_F} {S1 S2 : m_St} (hA : q_Al 0 155 h) (J : j_T S1 S2 h) : t_W (fn40 v1 h) S1 S2 := by
  obtain ⟨hm, hI⟩ := J.1
  unfold fn40
  obtain ⟨k, v, h', e, hk, J1, o3, o4⟩ := t_cE J (c_wHome hI hm (j_w5 hA hI)) hm
  rw [e, Option.bind_some]
  rcases hk with rfl | rfl
  · exact ⟨_, _, rfl, o3⟩
  · exact ⟨_, _, rfl, J1⟩
theorem t_L6 {v1 : Int} {h : q_F} {S1 S2 : m_St} (hA : q_Al 0 155 h) (J : j_T S1 S2 h) : t_W (fn6 v1 h) S1 S2 := by
  obtain ⟨hm, hI⟩ := J.1
  unfold fn6
  obtain ⟨k, v, h', e, hk, J1, -, -⟩ := t_cE J (c_dev hI hm) hm
  have V := g_f2d (c_dev_v e)
  have o := t_out (k := 154) (j := 0) (v := q_f2d v) J1 (Or.inr rfl)
  rw [e, Option.bind_some]
  rcases hk with rfl | rfl
  · dsimp only
    rw [if_pos rfl, if_pos V]
    exact ⟨_, _, rfl, o⟩
  · exact ⟨_, _, rfl, J1⟩
theorem t_L15 {v1 : Int} {h : q_F} {S1 S2 : m_St} (hA : q_Al 0 155 h) (J : j_T S1 S2 h) : t_W (fn15 v1 h) S1 S2 := by
  obtain ⟨hm, hI⟩ := J.1
  unfold fn15
  obtain ⟨k, v, h', e, hk, J1, -, -⟩ := t_cE J (c_lost2 hI) hm
  have V := g_f2d (c_lost_v e)
  have o := t_out (k := 154) (j := 0) (v := q_f2d v) J1 (Or.inr rfl)
  rw [e, Option.bind_some]
  rcases hk with rfl | rfl
  · dsimp only
    rw [if_pos rfl, if_pos V]
    exact ⟨_, _, rfl, o⟩
  · exact ⟨_, _, rfl, J1⟩
