/-! Part 98n: each call of the reference, and each of the class that has no helper, keeps what holds. -/
theorem j_r6 {h : q_F} {S : m_St} (hA : q_Al 0 155 h) (hI : r_I h S) : q_r64 (S.w 6) := by
  have e : h 140 6 = S.w 6 := by rw [hI.1]
  rw [← e]; exact q_al1 hA rfl (by omega) (by omega)
theorem j_r7 {h : q_F} {S : m_St} (hA : q_Al 0 155 h) (hI : r_I h S) : q_r64 (S.w 7) := by
  have e : h 140 7 = S.w 7 := by rw [hI.1]
  rw [← e]; exact q_al1 hA rfl (by omega) (by omega)
theorem j_c_reset {h : q_F} (hA : q_Al 0 155 h) (J : j_J h) : j_W (fn205 h) h := by
  obtain ⟨S, hm, hI⟩ := J.1
  exact j_cW J (c_reset hI hm) (m_I_reset hm)
theorem j_r_reset {h : q_F} (hA : q_Al 0 155 h) (J : j_J h) : j_W (fn321 h) h := by
  obtain ⟨S, hm, hI⟩ := J.2.1
  exact j_rW J (r_reset hI hm) (m_I_reset hm)
theorem j_r_setStart {v : Int} {h : q_F} (hA : q_Al 0 155 h) (J : j_J h) : j_W (fn330 v h) h := by
  obtain ⟨S, hm, hI⟩ := J.2.1
  exact j_rW J (r_setStart hI hm) (m_I_start hm)
theorem j_r_setStuck {a v : Int} {h : q_F} (hA : q_Al 0 155 h) (J : j_J h) : j_W (fn331 a v h) h := by
  obtain ⟨S, hm, hI⟩ := J.2.1
  exact j_rW J (r_setStuck hI hm) (m_I_stuck hm)
theorem j_r_homeC {a : Int} {h : q_F} (hA : q_Al 0 155 h) (J : j_J h) : j_W (fn263 a h) h := by
  obtain ⟨S, hm, hI⟩ := J.2.1
  exact j_rW J (r_homeC hI hm) (m_I_home hm)
theorem j_r_homeAllC {h : q_F} (hA : q_Al 0 155 h) (J : j_J h) : j_W (fn264 h) h := by
  obtain ⟨S, hm, hI⟩ := J.2.1
  exact j_rW J (r_homeAllC hI hm) (m_I_homeAll hm)
theorem j_r_unqueue {h : q_F} (hA : q_Al 0 155 h) (J : j_J h) : j_W (fn361 h) h := by
  obtain ⟨S, hm, hI⟩ := J.2.1
  exact j_rW J (r_unqueue hI hm) (m_I_unq hm)
theorem j_r_jogC {a v : Int} {h : q_F} (hA : q_Al 0 155 h) (J : j_J h) : j_W (fn274 a v h) h := by
  obtain ⟨S, hm, hI⟩ := J.2.1
  exact j_rW J (r_jogC hI hm) (m_I_jog hm)
theorem j_r_runC {n : Int} {h : q_F} (hA : q_Al 0 155 h) (J : j_J h) : j_W (fn324 n h) h := by
  obtain ⟨S, hm, hI⟩ := J.2.1
  exact j_rW J (r_runC hI hm) (m_I_run hm)
theorem j_c_runAll {h : q_F} (hA : q_Al 0 155 h) (J : j_J h) : j_W (fn208 h) h := by
  obtain ⟨S, hm, hI⟩ := J.1
  exact j_cW J (c_runAll hI hm) (m_I_runAll hm)
theorem j_r_runAll {h : q_F} (hA : q_Al 0 155 h) (J : j_J h) : j_W (fn325 h) h := by
  obtain ⟨S, hm, hI⟩ := J.2.1
  exact j_rW J (r_runAll hI hm) (m_I_runAll hm)
theorem j_c_undo {h : q_F} (hA : q_Al 0 155 h) (J : j_J h) : j_W (fn228 h) h := by
  obtain ⟨S, hm, hI⟩ := J.1
  exact j_cW J (c_undo hI hm) (m_I_undo hm)
theorem j_r_undo {h : q_F} (hA : q_Al 0 155 h) (J : j_J h) : j_W (fn360 h) h := by
  obtain ⟨S, hm, hI⟩ := J.2.1
  exact j_rW J (r_undo hI hm) (m_I_undo hm)
theorem j_c_save {h : q_F} (hA : q_Al 0 155 h) (J : j_J h) : j_W (fn209 h) h := by
  obtain ⟨S, hm, hI⟩ := J.1
  exact j_cW J (c_save hI hm) (m_I_save hm)
theorem j_r_save {h : q_F} (hA : q_Al 0 155 h) (J : j_J h) : j_W (fn326 h) h := by
  obtain ⟨S, hm, hI⟩ := J.2.1
  exact j_rW J (r_save hI hm) (m_I_save hm)
theorem j_r_rest {h : q_F} (hA : q_Al 0 155 h) (J : j_J h) : j_W (fn322 h) h := by
  obtain ⟨S, hm, hI⟩ := J.2.1
  exact j_rW J (r_rest hI hm) (m_I_rest hm)
theorem j_r_queueC {x y z : Int} {h : q_F} (hA : q_Al 0 155 h) (J : j_J h) : j_W (fn309 x y z h) h := by
  obtain ⟨S, hm, hI⟩ := J.2.1
  exact j_rW J (r_queueC hI hm) (m_I_put hm)
theorem j_r_insertC {i x y z : Int} {h : q_F} (hA : q_Al 0 155 h) (J : j_J h) : j_W (fn269 i x y z h) h := by
  obtain ⟨S, hm, hI⟩ := J.2.1
  exact j_rW J (r_insertC hI hm) (m_I_put hm)
theorem j_r_dropC {m : Int} {h : q_F} (hA : q_Al 0 155 h) (J : j_J h) : j_W (fn252 m h) h := by
  obtain ⟨S, hm, hI⟩ := J.2.1
  exact j_rW J (r_dropC hI hm) (m_I_drop hm)
theorem j_r_swapC {m o : Int} {h : q_F} (hA : q_Al 0 155 h) (J : j_J h) : j_W (fn346 m o h) h := by
  obtain ⟨S, hm, hI⟩ := J.2.1
  exact j_rW J (r_swapC hI hm) (m_I_swap hm)
theorem j_r_account {a v : Int} {h : q_F} (hA : q_Al 0 155 h) (J : j_J h) : j_W (fn234 a v h) h := by
  obtain ⟨S, hm, hI⟩ := J.2.1
  exact j_rW J (r_account hI) hm
theorem j_r_axisC {a v : Int} {h : q_F} (hA : q_Al 0 155 h) (J : j_J h) : j_W (fn239 a v h) h := by
  obtain ⟨S, hm, hI⟩ := J.2.1
  exact j_rW J (r_axisC hI) hm
theorem j_r_count {v : Int} {h : q_F} (hA : q_Al 0 155 h) (J : j_J h) : j_W (fn250 v h) h := by
  obtain ⟨S, hm, hI⟩ := J.2.1
  exact j_rW J (r_count hI hm) hm
theorem j_r_coordinate {a : Int} {h : q_F} (hA : q_Al 0 155 h) (J : j_J h) : j_W (fn248 a h) h := by
  obtain ⟨S, hm, hI⟩ := J.2.1
  exact j_rW J (r_coordinate hI) hm
theorem j_r_errorC {a : Int} {h : q_F} (hA : q_Al 0 155 h) (J : j_J h) : j_W (fn254 a h) h := by
  obtain ⟨S, hm, hI⟩ := J.2.1
  exact j_rW J (r_errorC hI) hm
theorem j_r_readsC {a : Int} {h : q_F} (hA : q_Al 0 155 h) (J : j_J h) : j_W (fn319 a h) h := by
  obtain ⟨S, hm, hI⟩ := J.2.1
  exact j_rW J (r_readsC hI) hm
theorem j_r_time {h : q_F} (hA : q_Al 0 155 h) (J : j_J h) : j_W (fn352 h) h := by
  obtain ⟨S, hm, hI⟩ := J.2.1
  exact j_rW J (r_time hI) hm
theorem j_r_errCode {h : q_F} (hA : q_Al 0 155 h) (J : j_J h) : j_W (fn255 h) h := by
  obtain ⟨S, hm, hI⟩ := J.2.1
  exact j_rW J (r_errCode hI) hm
theorem j_r_errOff {h : q_F} (hA : q_Al 0 155 h) (J : j_J h) : j_W (fn257 h) h := by
  obtain ⟨S, hm, hI⟩ := J.2.1
  exact j_rW J (r_errOff hI) hm
theorem j_r_outByte {v : Int} {h : q_F} (hA : q_Al 0 155 h) (J : j_J h) : j_W (fn304 v h) h := by
  obtain ⟨S, hm, hI⟩ := J.2.1
  exact j_rW J (r_outByte hI J.2.2.2.2) hm
theorem j_r_pairs {h : q_F} (hA : q_Al 0 155 h) (J : j_J h) : j_W (fn344 h) h := by
  obtain ⟨S, hm, hI⟩ := J.2.1
  exact j_rW J (r_pairs hI hm) hm
theorem j_r_slack {a v : Int} {h : q_F} (hA : q_Al 0 155 h) (J : j_J h) : j_W (fn334 a v h) h := by
  obtain ⟨S, hm, hI⟩ := J.2.1
  exact j_rW J (r_slack hI) hm
theorem j_r_target {m a : Int} {h : q_F} (hA : q_Al 0 155 h) (J : j_J h) : j_W (fn350 m a h) h := by
  obtain ⟨S, hm, hI⟩ := J.2.1
  exact j_rW J (r_target hI hm) hm
theorem j_r_bound {a u : Int} {h : q_F} (hA : q_Al 0 155 h) (J : j_J h) : j_W (fn244 a u h) h := by
  obtain ⟨S, hm, hI⟩ := J.2.1
  exact j_rW J (r_bound hI hm) hm
theorem j_r_nearest {x y z : Int} {h : q_F} (hA : q_Al 0 155 h) (J : j_J h) : j_W (fn295 x y z h) h := by
  obtain ⟨S, hm, hI⟩ := J.2.1
  exact j_rW J (r_nearest hI hm) hm
theorem j_r_moveC {m v : Int} {h : q_F} (hA : q_Al 0 155 h) (J : j_J h) : j_W (fn294 m v h) h := by
  obtain ⟨S, hm, hI⟩ := J.2.1
  exact j_rW J (r_moveC hI hm) hm
theorem j_r_speed {m k : Int} {h : q_F} (hA : q_Al 0 155 h) (J : j_J h) : j_W (fn337 m k h) h := by
  obtain ⟨S, hm, hI⟩ := J.2.1
  exact j_rW J (r_speed hI hm) hm
theorem j_r_behind {m a k : Int} {h : q_F} (hA : q_Al 0 155 h) (J : j_J h) : j_W (fn341 m a k h) h := by
  obtain ⟨S, hm, hI⟩ := J.2.1
  exact j_rW J (r_behind hI hm) hm
theorem j_r_pointAt {m a k : Int} {h : q_F} (hA : q_Al 0 155 h) (J : j_J h) : j_W (fn306 m a k h) h := by
  obtain ⟨S, hm, hI⟩ := J.2.1
  exact j_rW J (r_pointAt hI hm) hm
theorem j_r_ramp {m v : Int} {h : q_F} (hA : q_Al 0 155 h) (J : j_J h) : j_W (fn313 m v h) h := by
  obtain ⟨S, hm, hI⟩ := J.2.1
  exact j_rW J (r_ramp hI hm) hm
theorem j_r_travel {a : Int} {h : q_F} (hA : q_Al 0 155 h) (J : j_J h) : j_W (fn356 a h) h := by
  obtain ⟨S, hm, hI⟩ := J.2.1
  exact j_rW J (r_travel hI hm) hm
theorem j_r_turns {a : Int} {h : q_F} (hA : q_Al 0 155 h) (J : j_J h) : j_W (fn359 a h) h := by
  obtain ⟨S, hm, hI⟩ := J.2.1
  exact j_rW J (r_turns hI hm) hm
theorem j_r_slowest {m : Int} {h : q_F} (hA : q_Al 0 155 h) (J : j_J h) : j_W (fn336 m h) h := by
  obtain ⟨S, hm, hI⟩ := J.2.1
  exact j_rW J (r_slowest hI hm) hm
theorem j_r_lasts {m : Int} {h : q_F} (hA : q_Al 0 155 h) (J : j_J h) : j_W (fn276 m h) h := by
  obtain ⟨S, hm, hI⟩ := J.2.1
  exact j_rW J (r_lasts hI hm) hm
theorem j_r_queueTime {h : q_F} (hA : q_Al 0 155 h) (J : j_J h) : j_W (fn311 h) h := by
  obtain ⟨S, hm, hI⟩ := J.2.1
  exact j_rW J (r_queueTime hI hm) hm
theorem j_r_trueB {a : Int} {h : q_F} (hA : q_Al 0 155 h) (J : j_J h) : j_W (fn357 a h) h := by
  obtain ⟨S, hm, hI⟩ := J.2.1
  exact j_rW J (r_trueB hI hm) hm
theorem j_r_wErr {a : Int} {h : q_F} (hA : q_Al 0 155 h) (J : j_J h) : j_W (fn363 a h) h := by
  obtain ⟨S, hm, hI⟩ := J.2.1
  exact j_rW J (r_wErr hI hm) hm
theorem j_r_wLose {h : q_F} (hA : q_Al 0 155 h) (J : j_J h) : j_W (fn365 h) h := by
  obtain ⟨S, hm, hI⟩ := J.2.1
  exact j_rW J (r_wLose hI hm) hm
theorem j_r_wHome {a : Int} {h : q_F} (hA : q_Al 0 155 h) (J : j_J h) : j_W (fn364 a h) h := by
  obtain ⟨S, hm, hI⟩ := J.2.1
  exact j_rW J (r_wHome hI hm) hm
theorem j_r_stTime {x y z : Int} {h : q_F} (hA : q_Al 0 155 h) (J : j_J h) : j_W (fn345 x y z h) h := by
  obtain ⟨S, hm, hI⟩ := J.2.1
  exact j_rW J (r_stTime hI hm) hm
theorem j_r_bestF {h : q_F} (hA : q_Al 0 155 h) (J : j_J h) : j_W (fn242 h) h := by
  obtain ⟨S, hm, hI⟩ := J.2.1
  exact j_rW J (r_bestF hI hm) hm
theorem j_r_bestS {h : q_F} (hA : q_Al 0 155 h) (J : j_J h) : j_W (fn243 h) h := by
  obtain ⟨S, hm, hI⟩ := J.2.1
  exact j_rW J (r_bestS hI hm) hm
theorem j_r_where {a t : Int} {h : q_F} (hA : q_Al 0 155 h) (J : j_J h) : j_W (fn362 a t h) h := by
  obtain ⟨S, hm, hI⟩ := J.2.1
  exact j_rW J (r_where hI hm) hm
theorem j_r_nord {i : Int} {h : q_F} (hA : q_Al 0 155 h) (J : j_J h) : j_W (fn297 i h) h := by
  obtain ⟨S, hm, hI⟩ := J.2.1
  exact j_rW J (r_nord hI hm) hm
theorem j_c_pairs {h : q_F} (hA : q_Al 0 155 h) (J : j_J h) : j_W (fn218 h) h := by
  obtain ⟨S, hm, hI⟩ := J.1
  exact j_cW J (c_pairs hI hm) hm
theorem j_c_queueTime {h : q_F} (hA : q_Al 0 155 h) (J : j_J h) : j_W (fn200 h) h := by
  obtain ⟨S, hm, hI⟩ := J.1
  exact j_cW J (c_queueTime hI hm) hm
theorem j_c_wLose {h : q_F} (hA : q_Al 0 155 h) (J : j_J h) : j_W (fn233 h) h := by
  obtain ⟨S, hm, hI⟩ := J.1
  exact j_cW J (c_wLose hI hm) hm
theorem j_c_bestF {h : q_F} (hA : q_Al 0 155 h) (J : j_J h) : j_W (fn158 h) h := by
  obtain ⟨S, hm, hI⟩ := J.1
  exact j_cW J (c_bestF hI hm) hm
theorem j_c_print {h : q_F} (hA : q_Al 0 155 h) (J : j_J h) : j_W (fn197 h) h := by
  obtain ⟨S, hm, hI⟩ := J.1
  exact j_cW J (c_print hI hm) hm
theorem j_c_qlen {h : q_F} (hA : q_Al 0 155 h) (J : j_J h) : j_W (fn199 h) h := by
  obtain ⟨S, hm, hI⟩ := J.1
  exact j_cW J (c_qlen hI hm) hm
theorem j_r_line {m : Int} {h : q_F} (hA : q_Al 0 155 h) (J : j_J h) : j_W (fn281 m h) h := by
  obtain ⟨S, hm, hI⟩ := J.2.1
  exact j_rW J (r_line hI hm) hm
theorem j_r_qlen {h : q_F} (hA : q_Al 0 155 h) (J : j_J h) : j_W (fn310 h) h := by
  obtain ⟨S, hm, hI⟩ := J.2.1
  exact j_rW J (r_qlen hI hm) hm
theorem j_r_msp {m : Int} {h : q_F} (hA : q_Al 0 155 h) (J : j_J h) : j_W (fn293 m h) h := by
  obtain ⟨S, hm, hI⟩ := J.2.1
  exact j_rW J (r_msp hI hm) hm
theorem j_r_mdur {h : q_F} (hA : q_Al 0 155 h) (J : j_J h) : j_W (fn292 h) h := by
  obtain ⟨S, hm, hI⟩ := J.2.1
  exact j_rW J (r_mdur hI (j_r6 hA hI) (j_r7 hA hI)) hm
theorem j_r_lost2 {a : Int} {h : q_F} (hA : q_Al 0 155 h) (J : j_J h) : j_W (fn285 a h) h := by
  obtain ⟨S, hm, hI⟩ := J.2.1
  exact j_rW J (r_lost2 hI) hm
theorem j_r_dev {m : Int} {h : q_F} (hA : q_Al 0 155 h) (J : j_J h) : j_W (fn251 m h) h := by
  obtain ⟨S, hm, hI⟩ := J.2.1
  exact j_rW J (r_dev hI hm) hm
theorem j_c_setC {v : Int} {h : q_F} (hv : v = 0 ∨ v = 1) (J : j_J h) : j_W (fn210 v h) h := by
  obtain ⟨S, hm, hI⟩ := J.1
  exact j_cW J (c_setC hI hm) (m_I_oSet hm (m_pv_12 (by omega) hv) (by omega))
theorem j_c_setD {v : Int} {h : q_F} (hv : v = 0 ∨ v = 1) (J : j_J h) : j_W (fn211 v h) h := by
  obtain ⟨S, hm, hI⟩ := J.1
  exact j_cW J (c_setD hI hm) (m_I_oSet hm (m_pv_12 (by omega) hv) (by omega))
theorem j_r_setC {v : Int} {h : q_F} (hv : v = 0 ∨ v = 1) (J : j_J h) : j_W (fn328 v h) h := by
  obtain ⟨S, hm, hI⟩ := J.2.1
  exact j_rW J (r_setC hv hI hm) (m_I_oSet hm (m_pv_12 (by omega) hv) (by omega))
theorem j_r_setD {v : Int} {h : q_F} (hv : v = 0 ∨ v = 1) (J : j_J h) : j_W (fn329 v h) h := by
  obtain ⟨S, hm, hI⟩ := J.2.1
  exact j_rW J (r_setD hv hI hm) (m_I_oSet hm (m_pv_12 (by omega) hv) (by omega))
