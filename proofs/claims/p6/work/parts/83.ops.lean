/-! Part 83: queue, insert, dropTarget, swapTargets on both sides. -/
noncomputable def m_oTake (w' : Nat → Int) (S : m_St) : m_St := @ite _ (m_nn w') (Classical.propDecidable _) (m_set (m_rem S) w') S
theorem m_oTake_p {w' : Nat → Int} {S : m_St} (h : m_nn w') : m_oTake w' S = m_set (m_rem S) w' := by unfold m_oTake; rw [if_pos h]
theorem m_oTake_n {w' : Nat → Int} {S : m_St} (h : ¬ m_nn w') : m_oTake w' S = S := by unfold m_oTake; rw [if_neg h]
theorem m_I_take {w' : Nat → Int} {S : m_St} (h : m_I S) (h0 : m_R0 w') : m_I (m_oTake w' S) := by
  by_cases c : m_nn w'
  · rw [m_oTake_p c]; exact m_I_set (m_I_rem h) ⟨h0, c⟩
  · rw [m_oTake_n c]; exact h
theorem m_a3_lo {w w' : Nat → Int} (h : m_a3 w) (e : ∀ j, 8 ≤ j → j < 74 → w' j = w j) : m_a3 w' := m_a3_of fun a ha => by
  have g := m_a3_i h ha
  unfold m_ai
  rw [e (29 + a) (by omega) (by omega), e (11 + a) (by omega) (by omega), e (26 + a) (by omega) (by omega), e (8 + a) (by omega) (by omega), e (53 + a) (by omega) (by omega), e (20 + a) (by omega) (by omega), e (23 + a) (by omega) (by omega), e (44 + a) (by omega) (by omega), e (32 + a) (by omega) (by omega), e (56 + a) (by omega) (by omega), e (59 + a) (by omega) (by omega)]
  exact g
theorem m_R0_cp {w : Nat → Int} {x y n : Nat} (h : m_R0 w) (hx : 74 ≤ x ∧ x + n ≤ 122) (hy : 74 ≤ y) : m_R0 (m_cp w w x y n) := by
  refine ⟨fun j hj => ?_, m_a3_lo h.2 fun j h1 h2 => by unfold m_cp; rw [if_neg (by omega)]⟩
  unfold m_cp
  split
  · exact m_pv_47 (by omega) ((m_R0_ok h).2.2.2 _ (by omega) (by omega))
  · exact h.1 j hj
theorem m_R0_put {i : Nat} {x y z : Int} {w : Nat → Int} (h : m_R0 w) (h4 : w 4 < 16) (hi : (i : Int) ≤ w 4) (hx : 0 ≤ x ∧ x ≤ 2000) (hy : 0 ≤ y ∧ y ≤ 2000) (hz : 0 ≤ z ∧ z ≤ 2000) : m_R0 (m_put i x y z w) := by
  have r := (m_R0_ok h).2.1
  exact m_R0_v (m_R0_v (m_R0_v (m_R0_v (m_R0_cp h (by omega) (by omega)) (m_pv_47 (by omega) hx) (by omega)) (m_pv_47 (by omega) hy) (by omega)) (m_pv_47 (by omega) hz) (by omega)) (m_pv_4 (by omega)) (by omega)
theorem m_R0_tko {i : Nat} {w : Nat → Int} (h : m_R0 w) (hi : (i : Int) < w 4) : m_R0 (m_tko i w) := by
  have r := (m_R0_ok h).2.1
  exact m_R0_v (m_R0_cp h (by omega) (by omega)) (m_pv_4 (by omega)) (by omega)
theorem m_R0_sw1 {m o a : Nat} {w : Nat → Int} (h : m_R0 w) (hm : m < 16) (ho : o < 16) (ha : a < 3) : m_R0 (m_sw1 m o a w) := by
  have t := (m_R0_ok h).2.2.2
  exact m_R0_v (m_R0_v h (m_pv_47 (by omega) (t _ (by omega) (by omega))) (by omega)) (m_pv_47 (by omega) (t _ (by omega) (by omega))) (by omega)
theorem m_R0_swp {m o : Nat} {w : Nat → Int} (h : m_R0 w) (hm : m < 16) (ho : o < 16) : m_R0 (m_swp m o w) := m_R0_sw1 (m_R0_sw1 (m_R0_sw1 h hm ho (by omega)) hm ho (by omega)) hm ho (by omega)
-- in thought
theorem r_begins {h : q_F} : fn241 h = some (0, m_sr h 142 (m_cp (h 140) (h 142) 0 0 122)) := by
  rw [fn241, fn249_i (by omega) (by omega) (by omega) (by omega) (by omega) (by omega) (by omega) (by omega), Option.bind_some]
  rfl
theorem r_ends {h : q_F} {w : Nat → Int} (h1 : ∀ j, j < 122 → h 142 j = w j) (h2 : ∀ j, 122 ≤ j → h 140 j = w j) : fn253 h = some (0, m_sr h 140 w) := by
  rw [fn253, fn249_i (by omega) (by omega) (by omega) (by omega) (by omega) (by omega) (by omega) (by omega), Option.bind_some]
  have e : m_cp (h 142) (h 140) (0 : Int).toNat (0 : Int).toNat (122 : Int).toNat = w := by
    funext j
    unfold m_cp
    rw [show (0 : Int).toNat = 0 from rfl, show (122 : Int).toNat = 122 from rfl]
    by_cases c : j < 122
    · rw [if_pos (by omega), ← h1 j c]; congr 1; omega
    · rw [if_neg (by omega)]; exact h2 j (by omega)
  rw [e]
theorem r_try {F T : q_F → Option (Int × q_F)} {g : q_F} {S : m_St} {U : Nat → Int} (hF : ∀ h, h 140 = S.w → F h = some (0, m_sr h 140 U)) (hU : m_ok U) (hhi : ∀ j, 122 ≤ j → U j = S.w j) (hI : r_I g S) :
    ∃ h' h'', r_I h' S ∧ r_F g h' ∧ r_I h'' S ∧ r_F g h'' ∧ (m_nn U → ((fn241 g).bind fun x5 => (F x5.2).bind fun x6 => (fn279 x6.2).bind fun x7 => (fn253 x6.2).bind fun x8 => (fn258 x7 2 x8.2).bind fun x9 => if x9.1 = 0 then T x9.2 else some (0, x9.2)) = T h') ∧
    (¬ m_nn U → ((fn241 g).bind fun x5 => (F x5.2).bind fun x6 => (fn279 x6.2).bind fun x7 => (fn253 x6.2).bind fun x8 => (fn258 x7 2 x8.2).bind fun x9 => if x9.1 = 0 then T x9.2 else some (0, x9.2)) = some (0, h'')) := by
  have I1 : r_I (m_sr g 142 (m_cp (g 140) (g 142) 0 0 122)) S := r_I_k hI (fun k hk => m_sr_n (by omega)) (by rw [m_sr_n (by omega)]) (by rw [m_sr_n (by omega)])
  have F1 : r_F g (m_sr g 142 (m_cp (g 140) (g 142) 0 0 122)) := r_F_sr (by omega)
  have a142 : ∀ j, j < 122 → m_sr g 142 (m_cp (g 140) (g 142) 0 0 122) 142 j = S.w j := fun j hj => by
    rw [m_sr_s]; unfold m_cp; rw [if_pos (by omega), hI.1]; congr 1; omega
  rw [r_begins, Option.bind_some]
  dsimp only
  generalize m_sr g 142 (m_cp (g 140) (g 142) 0 0 122) = g1 at I1 F1 a142 ⊢
  rw [hF g1 I1.1, Option.bind_some]
  dsimp only
  obtain ⟨z, e1, e2⟩ := r_nw (m_sr_s g1 140 U) hU
  have e3 : fn253 (m_sr g1 140 U) = some (0, g1) := by
    rw [r_ends (w := S.w) (fun j hj => by rw [m_sr_n (by omega)]; exact a142 j hj) (fun j hj => by rw [m_sr_s]; exact hhi j hj), m_sr_sr, ← I1.1, m_sr_id]
  rw [e1, Option.bind_some, e3, Option.bind_some]
  dsimp only
  obtain ⟨h', t1, t2⟩ := r_fails z 2 g1
  rw [t1, Option.bind_some]
  refine ⟨h', h', r_I_T I1 t2, r_F_t F1 (r_T_F t2), r_I_T I1 t2, r_F_t F1 (r_T_F t2), fun nn => ?_, fun nn => ?_⟩
  · rw [if_pos (by rcases e2 with e | e; exact e.1; exact absurd nn e.2)]
  · rw [if_neg (by rcases e2 with e | e; exact absurd e.2 nn; show ¬ z = 0; omega)]
/-- the end of a change of the queue -/
theorem r_done {F : q_F → Option (Int × q_F)} {h' : q_F} {S : m_St} {U : Nat → Int} (hF : ∀ h, h 140 = S.w → F h = some (0, m_sr h 140 U)) (hI : r_I h' S) (hn : S.n ≤ 10) : ∃ h1, fn320 h' = some (0, h1) ∧ F h1 = some (0, m_sr h1 140 U) ∧ r_I (m_sr h1 140 U) (m_set (m_rem S) U) ∧ r_F h' (m_sr h1 140 U) := by
  obtain ⟨h1, a1, a2, a3, a4⟩ := r_remember hI hn
  exact ⟨h1, a1, hF h1 a2.1, r_I_set a2, r_F_t (r_F_rem a3 a4) (r_F_sr (by omega))⟩
theorem c_take {h : q_F} {S : m_St} {w' : Nat → Int} (hI : c_I h S) (hm : m_I S) (hp : c_pt h 135 w') (e : ∀ j, j < 74 → j ≠ 4 → w' j = S.w j) (h4 : 0 ≤ w' 4 ∧ w' 4 ≤ 16) : ∃ k v h', fn221 h = some (k, v, h') ∧ (k = 1 ∨ k = 4) ∧ (k = 1 → m_nn w') ∧ c_I h' (m_oTake w' S) ∧ c_F h h' := by
  obtain ⟨z, z1, z2⟩ := c_nw (t := 6) hp h4 (fun a ha => by rw [e _ (by omega) (by omega)]; exact (hI.1.1 a ha).1 12 (by omega))
  unfold fn221
  rw [z1, Option.bind_some]
  rcases z2 with ⟨rfl, nn⟩ | ⟨rfl, nn⟩
  · rw [if_pos rfl, m_oTake_p nn]
    obtain ⟨h1, a1, a2, a3⟩ := c_remember hI hm
    have p1 : c_pt h1 135 w' := ⟨by rw [a3 135 (by omega)]; exact hp.1, fun j hj => by rw [a3 136 (by omega)]; exact hp.2 j hj⟩
    obtain ⟨h2, b1, b2, b3, b4⟩ := c_cp144 (o := 13) (o1 := 135) (h := h1) (by rw [p1.1]; exact h4) (by omega) (by omega)
    rw [a1, Option.bind_some, b1, Option.bind_some]
    have f : c_ft 6 h1 h2 := fun k hk => b4 k (by omega) (by omega)
    rw [p1.1] at b2 b3
    have tb : c_tb h2 6 w' := c_tb_g7 a2.1 (fun k k1 k2 => b4 k k1 k2) (fun j hj hj2 => e j hj hj2) b2 (fun j hj => (b3 j hj).trans (p1.2 j hj))
    exact ⟨1, _, h2, rfl, Or.inl rfl, fun _ => nn, c_I_set a2 f tb, c_F_t (c_F_rem a3) (c_F_ft f)⟩
  · rw [if_neg (by decide), m_oTake_n nn]
    exact ⟨4, 0, h, rfl, Or.inr rfl, fun h9 => absurd h9 (by decide), hI, c_F_r⟩
abbrev m_point (x y z : Int) (w : Nat → Int) : Prop := (0 ≤ x ∧ x ≤ w 8) ∧ (0 ≤ y ∧ y ≤ w 9) ∧ (0 ≤ z ∧ z ≤ w 10)
abbrev m_may (w : Nat → Int) : Prop := w 3 = 0 ∧ w 41 + w 42 + w 43 = 3 ∧ w 4 < 16
noncomputable def m_oPut (i x y z : Int) (S : m_St) : m_St := if (0 ≤ i ∧ i ≤ S.w 4) ∧ m_point x y z S.w then (if m_may S.w then m_oTake (m_put i.toNat x y z S.w) S else S) else S
theorem m_pt_r {S : m_St} {x y z : Int} (hm : m_I S) (h : m_point x y z S.w) : (0 ≤ x ∧ x ≤ 2000) ∧ (0 ≤ y ∧ y ≤ 2000) ∧ (0 ≤ z ∧ z ≤ 2000) := by
  have o := (m_R0_ok hm.1.1).2.2.1
  have o0 := o 0 (by omega)
  have o1 := o 1 (by omega)
  have o2 := o 2 (by omega)
  simp only [Nat.add_zero, Nat.reduceAdd] at o0 o1 o2
  obtain ⟨a, b, c⟩ := h
  omega
theorem m_I_put {S : m_St} {i x y z : Int} (h : m_I S) : m_I (m_oPut i x y z S) := by
  unfold m_oPut; split
  · split
    · rename_i c1 c2
      have p := m_pt_r h c1.2
      exact m_I_take h (m_R0_put h.1.1 c2.2.2 (by omega) p.1 p.2.1 p.2.2)
    · exact h
  · exact h
theorem m_hz {S : m_St} (h : m_I S) : (S.w 41 = 0 ∨ S.w 41 = 1) ∧ (S.w 42 = 0 ∨ S.w 42 = 1) ∧ (S.w 43 = 0 ∨ S.w 43 = 1) := ⟨(h.1.1.1 41 (by omega)).2.1 (by omega), (h.1.1.1 42 (by omega)).2.1 (by omega), (h.1.1.1 43 (by omega)).2.1 (by omega)⟩
theorem c_homed {h : q_F} {S : m_St} (hI : c_I h S) (hm : m_I S) : fn132 6 h = some (S.w 41 + S.w 42 + S.w 43) := by
  obtain ⟨z1, z2, z3⟩ := m_hz hm
  have e1 : h (6 + 1) 11 = S.w 41 := (hI.1.1 0 (by omega)).1 11 (by omega)
  have e2 : h (6 + 3) 11 = S.w 42 := (hI.1.1 1 (by omega)).1 11 (by omega)
  have e3 : h (6 + 5) 11 = S.w 43 := (hI.1.1 2 (by omega)).1 11 (by omega)
  unfold fn132 fn132_15 fn132_30
  rw [e1, e2, e3]
  rcases z1 with z1 | z1 <;> rcases z2 with z2 | z2 <;> rcases z3 with z3 | z3 <;> rw [z1, z2, z3] <;> rfl
theorem r_homed {h : q_F} {S : m_St} (hI : r_I h S) (hm : m_I S) : fn265 h = some (S.w 41 + S.w 42 + S.w 43) := by
  obtain ⟨z1, z2, z3⟩ := m_hz hm
  obtain ⟨n, e⟩ := m_fu3
  have st : ∀ (f k : Nat) (u : Int), k < 3 → 0 ≤ u → u ≤ 3 → (S.w (41 + k) = 0 ∨ S.w (41 + k) = 1) → fn265_4 h (f + 1) u k = fn265_4 h f (u + S.w (41 + k)) ((k + 1 : Nat) : Int) := fun f k u hk u0 u1 hz => by
    rw [fn265_4, if_neg (by omega), q_w32_id (z := 41 + (k : Int)) (by omega) (by omega), r_of (v := S.w (41 + k)) (by omega) (by omega) (by rw [hI.1, show (41 + (k : Int)).toNat = 41 + k by omega]) (by omega), Option.bind_some, q_w32_id (z := u + S.w (41 + k)) (by omega) (by omega), q_w32_id (by omega) (by omega), ← m_s1]
  have g := st (n + 1 + 1 + 1) 0 0 (by omega) (by omega) (by omega) z1
  rw [st (n + 1 + 1) (0 + 1) _ (by omega) (by show 0 ≤ 0 + S.w 41; omega) (by show 0 + S.w 41 ≤ 3; omega) z2, st (n + 1) (0 + 1 + 1) _ (by omega) (by show 0 ≤ 0 + S.w 41 + S.w 42; omega) (by show 0 + S.w 41 + S.w 42 ≤ 3; omega) z3] at g
  rw [fn265, e]
  refine g.trans ?_
  rw [fn265_4, if_pos (by omega)]
  show some (0 + S.w 41 + S.w 42 + S.w 43) = _
  rw [Int.zero_add]
theorem c_room {h : q_F} {S : m_St} (hI : c_I h S) (hm : m_I S) : fn168 h = some (if m_may S.w then 0 else 4, 0, h) := by
  have e : h 13 1 = S.w 4 := hI.1.2.2.1
  obtain ⟨z1, z2, z3⟩ := m_hz hm
  unfold fn168 fn161
  rw [c_noAlarm hI, Option.bind_some]
  by_cases c3 : S.w 3 = 0
  · rw [if_pos c3]
    dsimp only
    rw [if_pos rfl, c_homed hI hm, Option.bind_some]
    by_cases c : S.w 41 + S.w 42 + S.w 43 = 3
    · rw [if_pos (by omega), Option.bind_some]
      dsimp only
      rw [if_pos rfl]
      by_cases c4 : S.w 4 < 16
      · rw [if_pos (show h 13 1 < 16 by omega), if_pos (show m_may S.w from ⟨c3, c, c4⟩)]
      · rw [if_neg (show ¬ h 13 1 < 16 by omega), if_neg (show ¬ m_may S.w from fun h9 => c4 h9.2.2)]
    · rw [if_neg (by omega), Option.bind_some]
      dsimp only
      rw [if_neg (by decide), if_pos rfl, if_neg (show ¬ m_may S.w from fun h9 => c h9.2.1)]
  · rw [if_neg c3]
    dsimp only
    rw [if_neg (by decide), if_pos rfl, if_neg (show ¬ m_may S.w from fun h9 => c3 h9.1)]
theorem c_point {h : q_F} {S : m_St} (x y z : Int) (hI : c_I h S) : fn166 x y z h = some (if m_point x y z S.w then 0 else 2, 0, h) := by
  have e0 : h 7 0 = S.w 8 := (hI.1.1 0 (by omega)).1 0 (by omega)
  have e1 : h 9 0 = S.w 9 := (hI.1.1 1 (by omega)).1 0 (by omega)
  have e2 : h 11 0 = S.w 10 := (hI.1.1 2 (by omega)).1 0 (by omega)
  have r : ∀ o v l, h o 0 = l → fn53 o v h = some (if 0 ≤ v ∧ v ≤ l then 1 else 0) := fun o v l e => by
    unfold fn53; rw [e]
    by_cases c1 : v < 0
    · rw [if_pos c1, if_neg (by omega)]
    · rw [if_neg c1]
      by_cases c2 : l < v
      · rw [if_pos c2, if_neg (by omega)]
      · rw [if_neg c2, if_pos (by omega)]
  unfold fn166 fn166_42
  rw [r 7 x _ e0, Option.bind_some, r 9 y _ e1, r 11 z _ e2]
  by_cases c0 : 0 ≤ x ∧ x ≤ S.w 8
  · rw [if_pos c0, if_neg (by decide), Option.bind_some]
    by_cases c1 : 0 ≤ y ∧ y ≤ S.w 9
    · rw [if_pos c1, if_neg (by decide), Option.bind_some]
      by_cases c2 : 0 ≤ z ∧ z ≤ S.w 10
      · rw [if_pos c2, if_neg (by decide), if_pos ⟨c0, c1, c2⟩]
      · rw [if_neg c2, if_pos rfl, if_neg (show ¬ m_point x y z S.w from fun h9 => c2 h9.2.2)]
    · rw [if_neg c1, if_pos rfl, if_neg (show ¬ m_point x y z S.w from fun h9 => c1 h9.2.1)]
  · rw [if_neg c0, if_pos rfl, if_neg (show ¬ m_point x y z S.w from fun h9 => c0 h9.1)]
theorem c_I_path {h h' : q_F} {S : m_St} (hI : c_I h S) (hn : S.n ≤ 10) (f : c_fo 135 h h') : c_I h' S := c_I_k hI hn (fun k hk => f k (by omega) (by omega)) (by rw [f 0 (by omega) (by omega)])
theorem c_F_path {h h' : q_F} (f : c_fo 135 h h') : c_F h h' := fun k hk => f k (by omega) (by omega)
/-- a point put into the path, the path taken -/
theorem c_putC {h : q_F} {S : m_St} {i : Nat} {x y z : Int} (hI : c_I h S) (hm : m_I S) (hi : (i : Int) ≤ S.w 4) (h4 : S.w 4 < 16) : ∃ h1 h2 h3 k v, fn144 135 13 h = some (0, h1) ∧ h1 135 1 = S.w 4 ∧ fn150 135 i x y z h1 = some (0, h2) ∧ fn221 h2 = some (k, v, h3) ∧ (k = 1 ∨ k = 4) ∧ c_I h3 (m_oTake (m_put i x y z S.w) S) ∧ c_F h h3 := by
  have r := (m_R0_ok hm.1.1).2.1
  obtain ⟨h1, a1, a2, a3⟩ := c_pcopy hI.1 r
  obtain ⟨h2, b1, b2, b3⟩ := c_pput (i := i) (x := x) (y := y) (z := z) a2 ⟨r.1, h4⟩ hi
  have f := c_fo_t a3 b3
  have e4 : m_put i x y z S.w 4 = S.w 4 + 1 := by unfold m_put; rw [m_u_s]
  obtain ⟨k, v, h3, d1, d2, -, d3, d4⟩ := c_take (c_I_path hI hm.2.1.1 f) hm b2 (fun j h1 h2 => m_put_lo h1 h2) (by rw [e4]; omega)
  exact ⟨h1, h2, h3, k, v, a1, a2.1, b1, d1, d2, d3, c_F_t (c_F_path f) d4⟩
theorem c_queueC {h : q_F} {S : m_St} {x y z : Int} (hI : c_I h S) (hm : m_I S) : c_E (fn198 x y z h) h (m_oPut (S.w 4) x y z S) (fun k => k = 1 ∨ k = 2 ∨ k = 4) := by
  have r := (m_R0_ok hm.1.1).2.1
  unfold m_oPut fn198
  rw [c_point x y z hI, Option.bind_some]
  by_cases cp : m_point x y z S.w
  · rw [if_pos cp, if_pos (show (0 ≤ S.w 4 ∧ S.w 4 ≤ S.w 4) ∧ m_point x y z S.w from ⟨⟨by omega, by omega⟩, cp⟩)]
    dsimp only
    rw [if_pos rfl, c_room hI hm, Option.bind_some]
    by_cases cm : m_may S.w
    · rw [if_pos cm, if_pos cm]
      dsimp only
      obtain ⟨h1, h2, h3, k, v, a1, a2, a3, a4, a5, a6, a7⟩ := c_putC (i := (S.w 4).toNat) (x := x) (y := y) (z := z) hI hm (by omega) cm.2.2
      rw [show (((S.w 4).toNat : Nat) : Int) = S.w 4 by omega] at a3
      rw [if_pos rfl, a1, Option.bind_some]
      dsimp only
      rw [a2, a3, Option.bind_some, a4, Option.bind_some]
      dsimp only
      rcases a5 with rfl | rfl
      · rw [if_pos rfl]; exact ⟨1, v, h3, rfl, Or.inl rfl, a6, a7⟩
      · rw [if_neg (by decide), if_pos rfl]; exact ⟨4, 0, h3, rfl, Or.inr (Or.inr rfl), a6, a7⟩
    · rw [if_neg cm, if_neg cm]
      exact ⟨4, 0, h, rfl, Or.inr (Or.inr rfl), hI, c_F_r⟩
  · rw [if_neg cp, if_neg (show ¬ ((0 ≤ S.w 4 ∧ S.w 4 ≤ S.w 4) ∧ m_point x y z S.w) from fun h9 => cp h9.2)]
    exact ⟨2, 0, h, rfl, Or.inr (Or.inl rfl), hI, c_F_r⟩
theorem c_insertC {h : q_F} {S : m_St} {i x y z : Int} (hI : c_I h S) (hm : m_I S) : c_E (fn183 i x y z h) h (m_oPut i x y z S) (fun k => k = 1 ∨ k = 2 ∨ k = 4) := by
  have r := (m_R0_ok hm.1.1).2.1
  have e : h 13 1 = S.w 4 := hI.1.2.2.1
  unfold m_oPut fn183 fn183_18
  rw [e]
  by_cases ci : 0 ≤ i ∧ i ≤ S.w 4
  · rw [if_neg (show ¬ i < 0 by omega), if_pos ci.2, c_point x y z hI, Option.bind_some]
    by_cases cp : m_point x y z S.w
    · rw [if_pos cp, if_pos (show (0 ≤ i ∧ i ≤ S.w 4) ∧ m_point x y z S.w from ⟨ci, cp⟩)]
      dsimp only
      rw [if_pos rfl, c_room hI hm, Option.bind_some]
      by_cases cm : m_may S.w
      · rw [if_pos cm, if_pos cm]
        dsimp only
        obtain ⟨k0, rfl⟩ : ∃ k : Nat, i = k := ⟨i.toNat, by omega⟩
        obtain ⟨h1, h2, h3, k, v, a1, a2, a3, a4, a5, a6, a7⟩ := c_putC (i := k0) (x := x) (y := y) (z := z) hI hm ci.2 cm.2.2
        rw [if_pos rfl, a1, Option.bind_some]
        dsimp only
        rw [a3, Option.bind_some, a4, Option.bind_some]
        dsimp only
        rcases a5 with rfl | rfl
        · rw [if_pos rfl]; exact ⟨1, v, h3, rfl, Or.inl rfl, a6, a7⟩
        · rw [if_neg (by decide), if_pos rfl]; exact ⟨4, 0, h3, rfl, Or.inr (Or.inr rfl), a6, a7⟩
      · rw [if_neg cm, if_neg cm]
        exact ⟨4, 0, h, rfl, Or.inr (Or.inr rfl), hI, c_F_r⟩
    · rw [if_neg cp, if_neg (show ¬ ((0 ≤ i ∧ i ≤ S.w 4) ∧ m_point x y z S.w) from fun h9 => cp h9.2)]
      exact ⟨2, 0, h, rfl, Or.inr (Or.inl rfl), hI, c_F_r⟩
  · rw [if_neg (show ¬ ((0 ≤ i ∧ i ≤ S.w 4) ∧ m_point x y z S.w) from fun h9 => ci h9.1)]
    refine ⟨2, 0, h, ?_, Or.inr (Or.inl rfl), hI, c_F_r⟩
    (repeat' split) <;> first | rfl | omega
theorem r_may {h : q_F} {S : m_St} (hI : r_I h S) (hm : m_I S) : fn291 h = some (if m_may S.w then 1 else 0) := by
  unfold fn291
  rw [hI.1]
  by_cases c3 : S.w 3 = 0
  · rw [if_pos c3, r_homed hI hm, Option.bind_some]
    by_cases c : S.w 41 + S.w 42 + S.w 43 = 3
    · rw [if_pos c]
      by_cases c4 : S.w 4 < 16
      · rw [if_neg (by omega), if_pos ⟨c3, c, c4⟩]
      · rw [if_pos (by omega), if_neg (fun h9 => c4 h9.2.2)]
    · rw [if_neg c, if_neg (show ¬ m_may S.w from fun h9 => c h9.2.1)]
  · rw [if_neg c3, if_neg (show ¬ m_may S.w from fun h9 => c3 h9.1)]
theorem r_point {h : q_F} {S : m_St} (x y z : Int) (hI : r_I h S) : fn271 x y z h = some (if m_point x y z S.w then 1 else 0) := by
  unfold fn271
  rw [hI.1, r_rng, Option.bind_some, r_rng, r_rng]
  by_cases c0 : 0 ≤ x ∧ x ≤ S.w 8
  · rw [if_pos c0, if_neg (by decide), Option.bind_some]
    by_cases c1 : 0 ≤ y ∧ y ≤ S.w 9
    · rw [if_pos c1, if_neg (by decide), Option.bind_some]
      by_cases c2 : 0 ≤ z ∧ z ≤ S.w 10
      · rw [if_pos c2, if_neg (by decide), if_pos ⟨c0, c1, c2⟩]
      · rw [if_neg c2, if_pos rfl, if_neg (show ¬ m_point x y z S.w from fun h9 => c2 h9.2.2)]
    · rw [if_neg c1, if_pos rfl, if_neg (show ¬ m_point x y z S.w from fun h9 => c1 h9.2.1)]
  · rw [if_neg c0, if_pos rfl, if_neg (show ¬ m_point x y z S.w from fun h9 => c0 h9.1)]
theorem r_queued {h : q_F} {S : m_St} {i : Nat} {x y z : Int} (hI : r_I h S) (hm : m_I S) (hi : (i : Int) ≤ S.w 4) (hp : m_point x y z S.w) : r_W (fn312 i x y z h) h (if m_may S.w then m_oTake (m_put i x y z S.w) S else S) := by
  have r := (m_R0_ok hm.1.1).2.1
  have p := m_pt_r hm hp
  unfold fn312
  rw [r_may hI hm, Option.bind_some]
  by_cases cm : m_may S.w
  · rw [if_pos cm, if_neg (by decide), if_pos cm, fn312_13]
    obtain ⟨h9, s1, s2⟩ := r_fails 0 2 h
    rw [s1, Option.bind_some, if_pos rfl]
    have hF : ∀ g : q_F, g 140 = S.w → fn308 i x y z g = some (0, m_sr g 140 (m_put i x y z S.w)) := fun g hg => r_putT hg ⟨r.1, cm.2.2⟩ hi
    have R0 := m_R0_put hm.1.1 cm.2.2 hi p.1 p.2.1 p.2.2
    obtain ⟨h', h'', i1, f1, i2, f2, t1, t2⟩ := r_try (F := fun g => fn308 i x y z g) (T := fun g => (fn320 g).bind fun x11 => (fn308 i x y z x11.2).bind fun x12 => (fn303 4 x12.2).bind fun x13 => some (x13, x12.2)) hF (m_R0_ok R0) (fun j hj => m_put_hi hj ⟨r.1, cm.2.2⟩ hi) (r_I_T hI s2)
    dsimp only at t1 t2 ⊢
    by_cases nn : m_nn (m_put i x y z S.w)
    · rw [m_oTake_p nn, t1 nn]
      obtain ⟨h1, b1, b2, b3, b4⟩ := r_done hF i1 hm.2.1.1
      have e4 : m_put i x y z S.w 4 = S.w 4 + 1 := by unfold m_put; rw [m_u_s]
      rw [b1, Option.bind_some, b2, Option.bind_some]
      dsimp only
      rw [r_of (v := S.w 4 + 1) (by omega) (by omega) (by rw [m_sr_s]; exact e4) (by omega), Option.bind_some]
      exact ⟨_, _, rfl, b3, r_F_t (r_T_F s2) (r_F_t f1 b4)⟩
    · rw [m_oTake_n nn, t2 nn]
      exact ⟨_, _, rfl, i2, r_F_t (r_T_F s2) f2⟩
  · rw [if_neg cm, if_pos rfl, if_neg cm, fn312_13]
    obtain ⟨h9, s1, s2⟩ := r_fails 1 2 h
    rw [s1, Option.bind_some, if_neg (show ¬ (1 : Int) = 0 by decide)]
    exact ⟨_, _, rfl, r_I_T hI s2, r_T_F s2⟩
theorem r_W_t {f : Option (Int × q_F)} {h h1 : q_F} {S' : m_St} (F : r_F h h1) (g : r_W f h1 S') : r_W f h S' := by
  obtain ⟨v, h', a, b, c⟩ := g
  exact ⟨v, h', a, b, r_F_t F c⟩
theorem r_W_e {f : Option (Int × q_F)} {h : q_F} {S' : m_St} (g : r_W f h S') : r_W (f.bind fun x7 => some (x7.1, x7.2)) h S' := by
  obtain ⟨v, h', a, b, c⟩ := g
  exact ⟨v, h', by rw [a, Option.bind_some], b, c⟩
theorem r_queueC {h : q_F} {S : m_St} {x y z : Int} (hI : r_I h S) (hm : m_I S) : r_W (fn309 x y z h) h (m_oPut (S.w 4) x y z S) := by
  have r := (m_R0_ok hm.1.1).2.1
  have hT : r_T h (q_ud h 139 7 0) := r_T_u r_T_r
  unfold m_oPut fn309
  rw [m_let, r_point x y z (r_I_T hI hT), Option.bind_some]
  by_cases cp : m_point x y z S.w
  · rw [if_pos cp, if_neg (by decide), if_pos ⟨⟨by omega, by omega⟩, cp⟩, fn309_21]
    obtain ⟨h0, t1, t2⟩ := r_fails 0 1 (q_ud h 139 7 0)
    have hT2 := r_T_t hT t2
    have I2 := r_I_T hI hT2
    rw [t1, Option.bind_some, if_pos rfl]
    dsimp only
    rw [r_of (v := S.w 4) (by omega) (by omega) (by rw [I2.1]; rfl) (by omega), Option.bind_some]
    have g := r_queued (i := (S.w 4).toNat) I2 hm (by omega) cp
    rw [show (((S.w 4).toNat : Nat) : Int) = S.w 4 by omega] at g
    exact r_W_t (r_T_F hT2) (r_W_e g)
  · rw [if_neg cp, if_pos rfl, if_neg (fun h9 => cp h9.2), fn309_21]
    obtain ⟨h0, t1, t2⟩ := r_fails 1 1 (q_ud h 139 7 0)
    have hT2 := r_T_t hT t2
    rw [t1, Option.bind_some, if_neg (show ¬ (1 : Int) = 0 by decide)]
    exact ⟨_, _, rfl, r_I_T hI hT2, r_T_F hT2⟩
theorem r_insertC {h : q_F} {S : m_St} {i x y z : Int} (hI : r_I h S) (hm : m_I S) : r_W (fn269 i x y z h) h (m_oPut i x y z S) := by
  have r := (m_R0_ok hm.1.1).2.1
  have hT : r_T h (q_ud h 139 7 0) := r_T_u r_T_r
  have I1 := r_I_T hI hT
  have bad : ∃ h', fn269_37 i x y z 1 (q_ud h 139 7 0) = some (0, h') ∧ r_T h h' := by
    rw [fn269_37]
    obtain ⟨h0, t1, t2⟩ := r_fails 1 1 (q_ud h 139 7 0)
    exact ⟨h0, by rw [t1, Option.bind_some, if_neg (show ¬ (1 : Int) = 0 by decide)], r_T_t hT t2⟩
  obtain ⟨hb, b1, b2⟩ := bad
  unfold m_oPut fn269 fn269_32
  rw [m_let, r_rng, Option.bind_some, r_point x y z I1]
  have e4 : q_ud h 139 7 0 140 4 = S.w 4 := by rw [I1.1]
  rw [e4]
  by_cases ci : 0 ≤ i ∧ i ≤ S.w 4
  · rw [if_pos ci, if_neg (by decide), Option.bind_some]
    by_cases cp : m_point x y z S.w
    · rw [if_pos cp, if_neg (by decide), if_pos ⟨ci, cp⟩, fn269_37]
      obtain ⟨h0, t1, t2⟩ := r_fails 0 1 (q_ud h 139 7 0)
      have hT2 := r_T_t hT t2
      obtain ⟨k0, rfl⟩ : ∃ k : Nat, i = k := ⟨i.toNat, by omega⟩
      rw [t1, Option.bind_some, if_pos rfl]
      exact r_W_t (r_T_F hT2) (r_W_e (r_queued (i := k0) (r_I_T hI hT2) hm ci.2 cp))
    · rw [if_neg cp, if_pos rfl, if_neg (show ¬ ((0 ≤ i ∧ i ≤ S.w 4) ∧ m_point x y z S.w) from fun h9 => cp h9.2), b1]
      exact ⟨_, _, rfl, r_I_T hI b2, r_T_F b2⟩
  · rw [if_neg ci, if_pos rfl, if_neg (show ¬ ((0 ≤ i ∧ i ≤ S.w 4) ∧ m_point x y z S.w) from fun h9 => ci h9.1), b1]
    exact ⟨_, _, rfl, r_I_T hI b2, r_T_F b2⟩
