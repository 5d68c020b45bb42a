/-! Part 77: calls that change settings, on both sides. -/
def m_set (S : m_St) (w' : Nat → Int) : m_St := m_mkS w' S.n S.P S.sv S.ws
theorem m_I_set {S : m_St} {w' : Nat → Int} (h : m_I S) (hw : m_RI w') : m_I (m_set S w') := ⟨hw, h.2.1, h.2.2.1, h.2.2.2⟩
theorem c_I_set {h h' : q_F} {S : m_St} {w' : Nat → Int} (hI : c_I h S) (f : c_ft 6 h h') (hc : c_tb h' 6 w') : c_I h' (m_set S w') := by
  obtain ⟨h1, ⟨h2, h3, h4, h5⟩, h6, h7⟩ := hI
  refine ⟨hc, ⟨?_, ?_, ?_, fun k hk => ?_⟩, ?_, fun hs => c_tb_k (h7 hs) fun k k1 k2 => f k (by omega)⟩
  · rw [f 33 (by omega)]; exact h2
  · rw [f 33 (by omega)]; exact h3
  · rw [f 33 (by omega)]; exact h4
  · rw [f 33 (by omega)]; exact c_tb_k (h5 k hk) fun k k1 k2 => f k (by omega)
  · rw [f 0 (by omega)]; exact h6
theorem r_I_set {h : q_F} {S : m_St} {w' : Nat → Int} (hI : r_I h S) : r_I (m_sr h 140 w') (m_set S w') := by
  obtain ⟨h1, ⟨h2, h3⟩, h4, h5⟩ := hI
  refine ⟨m_sr_s _ _ _, ⟨?_, ?_⟩, ?_, ?_⟩
  · rw [m_sr_n (by omega)]; exact h2
  · rw [m_sr_n (by omega)]; exact h3
  · rw [m_sr_n (by omega)]; exact h4
  · rw [m_sr_n (by omega)]; exact h5
/-- what a call of the class leaves alone: the input, what the text said, the reference -/
def c_F (h h' : q_F) : Prop := ∀ k, k = 1 ∨ k = 2 ∨ k = 3 ∨ 139 ≤ k → h' k = h k
theorem c_F_t {h h1 h2 : q_F} (f : c_F h h1) (g : c_F h1 h2) : c_F h h2 := fun k hk => (g k hk).trans (f k hk)
theorem c_F_ft {h h' : q_F} (f : c_ft 6 h h') : c_F h h' := fun k hk => f k (by omega)
theorem c_F_rem {h h' : q_F} (f : ∀ k, k < 33 ∨ 125 ≤ k → h' k = h k) : c_F h h' := fun k hk => f k (by omega)
theorem c_F_fp {h h' : q_F} (f : c_fp h h') : c_F h h' := fun k hk => f k (by omega)
theorem c_F_r {h : q_F} : c_F h h := fun _ _ => rfl
/-- what a call of the reference leaves alone -/
def r_F (h h' : q_F) : Prop := (∀ k, k < 139 ∨ k = 150 ∨ 152 ≤ k → h' k = h k) ∧ ∀ j, j = 14 ∨ j = 15 ∨ j = 16 ∨ j = 27 → h' 139 j = h 139 j
theorem r_F_t {h h1 h2 : q_F} (f : r_F h h1) (g : r_F h1 h2) : r_F h h2 := ⟨fun k hk => (g.1 k hk).trans (f.1 k hk), fun j hj => (g.2 j hj).trans (f.2 j hj)⟩
theorem r_F_r {h : q_F} : r_F h h := ⟨fun _ _ => rfl, fun _ _ => rfl⟩
theorem r_F_sr {h : q_F} {k : Nat} {w : Nat → Int} (hk : 140 ≤ k ∧ k < 152 ∧ k ≠ 150) : r_F h (m_sr h k w) := ⟨fun i hi => m_sr_n (by omega), fun j _ => by rw [m_sr_n (by omega)]⟩
theorem r_F_ud {h : q_F} {j : Nat} {v : Int} (hj : j ≠ 14 ∧ j ≠ 15 ∧ j ≠ 16 ∧ j ≠ 27) : r_F h (q_ud h 139 j v) := ⟨fun i hi => by funext j'; rw [q_ud_n (by omega)], fun i hi => by rw [q_ud_n (by omega)]⟩
theorem r_F_rem {h h' : q_F} (f : ∀ k, k ≠ 139 → k ≠ 144 → h' k = h k) (g : ∀ j, j ≠ 5 → h' 139 j = h 139 j) : r_F h h' := ⟨fun k hk => f k (by omega) (by omega), fun j hj => g j (by omega)⟩
theorem r_F_fq {h h' : q_F} (f : m_fq h h') : r_F h h' := ⟨fun k hk => f k (by omega) (by omega), fun j hj => by rw [f 139 (by omega) (by omega)]⟩
/-- only what was thrown has changed -/
def r_T (h h' : q_F) : Prop := ∀ k j, ¬ (k = 139 ∧ j = 7) → h' k j = h k j
theorem r_T_r {h : q_F} : r_T h h := fun _ _ _ => rfl
theorem r_T_u {h h' : q_F} {v : Int} (f : r_T h h') : r_T h (q_ud h' 139 7 v) := fun k j hk => by rw [q_ud_n hk]; exact f k j hk
theorem r_T_t {h h1 h2 : q_F} (f : r_T h h1) (g : r_T h1 h2) : r_T h h2 := fun k j hk => (g k j hk).trans (f k j hk)
theorem r_T_F {h h' : q_F} (f : r_T h h') : r_F h h' := ⟨fun k hk => by funext j; exact f k j (by omega), fun j hj => f 139 j (by omega)⟩
theorem r_T_row {h h' : q_F} (f : r_T h h') {k : Nat} (hk : k ≠ 139) : h' k = h k := by funext j; exact f k j (by omega)
theorem r_I_T {h h' : q_F} {S : m_St} (hI : r_I h S) (f : r_T h h') : r_I h' S := r_I_k hI (fun k hk => r_T_row f (by omega)) (f 139 5 (by omega)) (f 139 6 (by omega))
theorem r_fails (c code : Int) (h : q_F) : ∃ h', fn258 c code h = some (c, h') ∧ r_T h h' := by
  unfold fn258; split
  · exact ⟨h, rfl, r_T_r⟩
  · exact ⟨_, rfl, r_T_u r_T_r⟩
theorem r_rng (v a b : Int) (h : q_F) : fn267 v a b h = some (if a ≤ v ∧ v ≤ b then 1 else 0) := by
  unfold fn267
  by_cases c1 : v < a
  · rw [if_pos c1, if_neg (by omega)]
  · rw [if_neg c1]
    by_cases c2 : b < v
    · rw [if_pos c2, if_neg (by omega)]
    · rw [if_neg c2, if_pos (by omega)]
theorem r_noAxis (v : Int) (h : q_F) : ∃ h', fn298 v h = some (if 0 ≤ v ∧ v ≤ 2 then 0 else 1, h') ∧ r_T h h' := by
  unfold fn298
  rw [m_let, r_rng, Option.bind_some]
  by_cases c : 0 ≤ v ∧ v ≤ 2
  · rw [if_pos c, if_neg (by decide), if_pos c, fn298_23]
    obtain ⟨h', g1, g2⟩ := r_fails 0 1 (q_ud h 139 7 0)
    exact ⟨h', by rw [g1, Option.bind_some], r_T_t (r_T_u r_T_r) g2⟩
  · rw [if_neg c, if_pos rfl, if_neg c, fn298_23]
    obtain ⟨h', g1, g2⟩ := r_fails 1 1 (q_ud h 139 7 0)
    exact ⟨h', by rw [g1, Option.bind_some], r_T_t (r_T_u r_T_r) g2⟩
theorem r_noMove {h : q_F} (v : Int) (h4 : 0 ≤ h 140 4 ∧ h 140 4 ≤ 16) : ∃ h', fn299 v h = some (if 0 ≤ v ∧ v < h 140 4 then 0 else 1, h') ∧ r_T h h' := by
  unfold fn299
  rw [m_let, r_rng, Option.bind_some, q_ud_n (by omega), q_w64_id (by omega) (by omega)]
  by_cases c : 0 ≤ v ∧ v < h 140 4
  · rw [if_pos (show 0 ≤ v ∧ v ≤ h 140 4 - 1 by omega), if_neg (by decide), if_pos c, fn299_28]
    obtain ⟨h', g1, g2⟩ := r_fails 0 1 (q_ud h 139 7 0)
    exact ⟨h', by rw [g1, Option.bind_some], r_T_t (r_T_u r_T_r) g2⟩
  · rw [if_neg (show ¬ (0 ≤ v ∧ v ≤ h 140 4 - 1) by omega), if_pos rfl, if_neg c, fn299_28]
    obtain ⟨h', g1, g2⟩ := r_fails 1 1 (q_ud h 139 7 0)
    exact ⟨h', by rw [g1, Option.bind_some], r_T_t (r_T_u r_T_r) g2⟩
theorem r_of {z : Int} {h : q_F} {v : Int} (h0 : 0 ≤ z) (h1 : z < 122) (e : h 140 z.toNat = v) (hv : -2147483648 ≤ v ∧ v < 2147483648) : fn303 z h = some v := by
  rw [fn303_i h0 h1, e, q_w32_id hv.1 hv.2]
/-- how a call of the class ends -/
def c_E (f : Option (Nat × Int × q_F)) (h : q_F) (S' : m_St) (K : Nat → Prop) : Prop := ∃ k v h', f = some (k, v, h') ∧ K k ∧ c_I h' S' ∧ c_F h h'
def c_W (f : Option (Int × q_F)) (h : q_F) (S' : m_St) : Prop := ∃ v h', f = some (v, h') ∧ c_I h' S' ∧ c_F h h'
def r_W (f : Option (Int × q_F)) (h : q_F) (S' : m_St) : Prop := ∃ v h', f = some (v, h') ∧ r_I h' S' ∧ r_F h h'
-- reset
def m_oReset (S : m_St) : m_St := m_set (m_rem S) (m_stops (m_u S.w 3 0))
theorem m_R0_stops {w : Nat → Int} (h : m_R0 w) : m_R0 (m_stops w) := by
  have z : ∀ j, j = 4 ∨ j = 41 ∨ j = 42 ∨ j = 43 → m_pv j 0 := fun j hj => by
    unfold m_pv
    refine ⟨?_, ?_, ?_, ?_, ?_, ?_, ?_, ?_, ?_, ?_⟩ <;> intro h9 <;> omega
  exact m_R0_v (m_R0_v (m_R0_v (m_R0_v h (z 4 (by omega)) (by omega)) (z 41 (by omega)) (by omega)) (z 42 (by omega)) (by omega)) (z 43 (by omega)) (by omega)
theorem m_pv_3 {v : Int} (h : 0 ≤ v ∧ v ≤ 3) : m_pv 3 v := by
  unfold m_pv
  refine ⟨?_, ?_, ?_, ?_, ?_, ?_, ?_, ?_, ?_, ?_⟩ <;> intro h9 <;> omega
theorem m_I_reset {S : m_St} (h : m_I S) : m_I (m_oReset S) := m_I_set (m_I_rem h) ⟨m_R0_stops (m_R0_v h.1.1 (m_pv_3 (by omega)) (by omega)), m_stops_nn _⟩
theorem c_reset {h : q_F} {S : m_St} (hI : c_I h S) (hm : m_I S) : c_W (fn205 h) h (m_oReset S) := by
  obtain ⟨h1, a1, a2, a3⟩ := c_remember hI hm
  obtain ⟨h2, b1, b2, b3⟩ := c_stop (v := 0) a2.1
  refine ⟨_, h2, by rw [fn205, a1, Option.bind_some, b1, Option.bind_some], c_I_set a2 b3 b2, c_F_t (c_F_rem a3) (c_F_ft b3)⟩
theorem m_set_sr {h : q_F} {S : m_St} {w' : Nat → Int} (hI : r_I h S) (e : w' = S.w) : r_I (m_sr h 140 w') S := by
  rw [e, ← hI.1, m_sr_id]; exact hI
theorem r_reset {h : q_F} {S : m_St} (hI : r_I h S) (hm : m_I S) : r_W (fn321 h) h (m_oReset S) := by
  have hT : r_T h (q_ud h 139 7 0) := r_T_u r_T_r
  obtain ⟨h1, a1, a2, a3, a4⟩ := r_remember (r_I_T hI hT) hm.2.1.1
  have F := r_F_t (r_T_F hT) (r_F_rem a3 a4)
  have e3 := (hm.1.1.1 3 (by omega)).2.2.1 rfl
  have ew : h1 140 = S.w := a2.1
  refine ⟨S.w 3, m_sr h1 140 (m_stops (m_u S.w 3 0)), ?_, r_I_set a2, r_F_t F (r_F_sr (by omega))⟩
  rw [fn321, m_let, a1, Option.bind_some]
  dsimp only
  rw [r_of (v := S.w 3) (by omega) (by omega) (by rw [ew]; rfl) (by omega), Option.bind_some, m_let, m_ud_sr, fn342_m, Option.bind_some, m_sr_s, m_sr_sr, ew]
-- setCompensation, setDetection
def m_oSet (j : Nat) (v : Int) (S : m_St) : m_St := m_set (m_rem S) (m_u S.w j v)
theorem m_pv_12 {j : Nat} {v : Int} (hj : j = 1 ∨ j = 2) (h : v = 0 ∨ v = 1) : m_pv j v := by
  unfold m_pv
  refine ⟨?_, ?_, ?_, ?_, ?_, ?_, ?_, ?_, ?_, ?_⟩ <;> intro h9 <;> omega
theorem m_nn_u {w : Nat → Int} {j : Nat} {v : Int} (h : m_nn w) (hj : j ≠ 4 ∧ (j < 47 ∨ 49 < j) ∧ j < 74) : m_nn (m_u w j v) := by
  intro m hm
  rw [m_u_n (by omega)] at hm
  have g := h m hm
  have b : ∀ k a, a < 3 → m_beg (m_u w j v) k a = m_beg w k a := fun k a ha => by
    unfold m_beg; split <;> exact m_u_n (by omega)
  unfold m_mv m_d at g ⊢
  rw [b _ 0 (by omega), b _ 1 (by omega), b _ 2 (by omega), b _ 0 (by omega), b _ 1 (by omega), b _ 2 (by omega)]
  exact g
theorem m_I_oSet {S : m_St} {j : Nat} {v : Int} (h : m_I S) (hv : m_pv j v) (hj : j < 4 ∨ (38 ≤ j ∧ j ≤ 40)) : m_I (m_oSet j v S) := m_I_set (m_I_rem h) ⟨m_R0_v h.1.1 hv (by omega), m_nn_u h.1.2 (by omega)⟩
theorem c_setC {h : q_F} {S : m_St} {v : Int} (hI : c_I h S) (hm : m_I S) : c_W (fn210 v h) h (m_oSet 1 v S) := by
  obtain ⟨h1, a1, a2, a3⟩ := c_remember hI hm
  have f : c_ft 6 h1 (q_ud h1 6 5 v) := c_ft_u c_ft_r (by omega) (by omega)
  exact ⟨_, q_ud h1 6 5 v, by rw [fn210, a1, Option.bind_some, m_let], c_I_set a2 f (c_tb_u (j := 5) (by omega) a2.1), c_F_t (c_F_rem a3) (c_F_ft f)⟩
theorem c_setD {h : q_F} {S : m_St} {v : Int} (hI : c_I h S) (hm : m_I S) : c_W (fn211 v h) h (m_oSet 2 v S) := by
  obtain ⟨h1, a1, a2, a3⟩ := c_remember hI hm
  have f : c_ft 6 h1 (q_ud h1 6 6 v) := c_ft_u c_ft_r (by omega) (by omega)
  exact ⟨_, q_ud h1 6 6 v, by rw [fn211, a1, Option.bind_some, m_let], c_I_set a2 f (c_tb_u (j := 6) (by omega) a2.1), c_F_t (c_F_rem a3) (c_F_ft f)⟩
theorem r_sets {h : q_F} {S : m_St} {j : Nat} {v : Int} (hj : j < 122) (hv : v = 0 ∨ v = 1) (hI : r_I h S) (hm : m_I S) : r_W (fn332 j v h) h (m_oSet j v S) := by
  have hT : r_T h (q_ud h 139 7 0) := r_T_u r_T_r
  obtain ⟨h1, a1, a2, a3, a4⟩ := r_remember (r_I_T hI hT) hm.2.1.1
  have F := r_F_t (r_T_F hT) (r_F_rem a3 a4)
  have key : ∀ p0 : Int, fn332_25 (j : Int) v p0 h1 = some (p0, m_sr h1 140 (m_u S.w j v)) := fun p0 => by
    rw [fn332_25]
    rcases hv with rfl | rfl
    · rw [if_pos rfl, fn332_40, if_pos (by omega), m_let, m_ud_sr, Int.toNat_natCast, a2.1]; rfl
    · rw [if_neg (by decide), fn332_40, if_pos (by omega), m_let, m_ud_sr, Int.toNat_natCast, a2.1]; rfl
  have R : r_I (m_sr h1 140 (m_u S.w j v)) (m_oSet j v S) := r_I_set a2
  have F2 := r_F_t F (r_F_sr (h := h1) (k := 140) (w := m_u S.w j v) (by omega))
  unfold fn332
  rw [m_let, a1, Option.bind_some, if_pos (by omega)]
  dsimp only
  rw [key, key]
  split
  · exact ⟨_, _, rfl, R, F2⟩
  · exact ⟨_, _, rfl, R, F2⟩
theorem r_setC {h : q_F} {S : m_St} {v : Int} (hv : v = 0 ∨ v = 1) (hI : r_I h S) (hm : m_I S) : r_W (fn328 v h) h (m_oSet 1 v S) := by
  obtain ⟨x, h', g1, g2, g3⟩ := r_sets (j := 1) (by omega) hv hI hm
  exact ⟨x, h', by rw [fn328]; exact (congrArg (fun z => Option.bind z fun x1 => some (x1.1, x1.2)) g1), g2, g3⟩
theorem r_setD {h : q_F} {S : m_St} {v : Int} (hv : v = 0 ∨ v = 1) (hI : r_I h S) (hm : m_I S) : r_W (fn329 v h) h (m_oSet 2 v S) := by
  obtain ⟨x, h', g1, g2, g3⟩ := r_sets (j := 2) (by omega) hv hI hm
  exact ⟨x, h', by rw [fn329]; exact (congrArg (fun z => Option.bind z fun x1 => some (x1.1, x1.2)) g1), g2, g3⟩
-- setStart
def m_oStart (v : Int) (S : m_St) : m_St := if 1 ≤ v ∧ v ≤ 1000 then m_oSet 0 v S else S
theorem m_pv_0 {v : Int} (h : 1 ≤ v ∧ v ≤ 1000) : m_pv 0 v := by
  unfold m_pv
  refine ⟨?_, ?_, ?_, ?_, ?_, ?_, ?_, ?_, ?_, ?_⟩ <;> intro h9 <;> omega
theorem m_I_start {S : m_St} {v : Int} (h : m_I S) : m_I (m_oStart v S) := by
  unfold m_oStart; split
  · rename_i c; exact m_I_oSet h (m_pv_0 c) (by omega)
  · exact h
theorem c_setStart {h : q_F} {S : m_St} {v : Int} (hI : c_I h S) (hm : m_I S) : c_E (fn212 v h) h (m_oStart v S) (fun k => k = 1 ∨ k = 2) := by
  unfold m_oStart fn212
  by_cases c : 1 ≤ v ∧ v ≤ 1000
  · rw [if_neg (show ¬ v < 1 by omega), if_pos c.2, if_pos c]
    obtain ⟨h1, a1, a2, a3⟩ := c_remember hI hm
    have f : c_ft 6 h1 (q_ud h1 6 4 v) := c_ft_u c_ft_r (by omega) (by omega)
    exact ⟨1, _, q_ud h1 6 4 v, by rw [a1, Option.bind_some, m_let], Or.inl rfl, c_I_set a2 f (c_tb_u (j := 4) (by omega) a2.1), c_F_t (c_F_rem a3) (c_F_ft f)⟩
  · rw [if_neg c]
    refine ⟨2, 0, h, ?_, Or.inr rfl, hI, c_F_r⟩
    rw [fn212_12]; (repeat' split) <;> first | rfl | omega
theorem r_setStart {h : q_F} {S : m_St} {v : Int} (hI : r_I h S) (hm : m_I S) : r_W (fn330 v h) h (m_oStart v S) := by
  have hT : r_T h (q_ud h 139 7 0) := r_T_u r_T_r
  unfold m_oStart fn330
  rw [m_let, r_rng, Option.bind_some]
  by_cases c : 1 ≤ v ∧ v ≤ 1000
  · rw [if_pos c, if_neg (by decide), if_pos c, fn330_23]
    obtain ⟨h0, t1, t2⟩ := r_fails 0 1 (q_ud h 139 7 0)
    have hT2 := r_T_t hT t2
    obtain ⟨h1, a1, a2, a3, a4⟩ := r_remember (r_I_T hI hT2) hm.2.1.1
    have F := r_F_t (r_T_F hT2) (r_F_rem a3 a4)
    have e0 := (hm.1.1.1 0 (by omega)).1 rfl
    rw [t1, Option.bind_some, if_pos rfl, a1, Option.bind_some]
    dsimp only
    rw [r_of (v := S.w 0) (by omega) (by omega) (by rw [a2.1]; rfl) (by omega), Option.bind_some, m_let, m_ud_sr, a2.1]
    exact ⟨_, _, rfl, r_I_set a2, r_F_t F (r_F_sr (by omega))⟩
  · rw [if_neg c, if_pos rfl, if_neg c, fn330_23]
    obtain ⟨h0, t1, t2⟩ := r_fails 1 1 (q_ud h 139 7 0)
    have hT2 := r_T_t hT t2
    rw [t1, Option.bind_some, if_neg (show ¬ (1 : Int) = 0 by decide)]
    exact ⟨_, _, rfl, r_I_T hI hT2, r_T_F hT2⟩
-- setStuck
def m_oStuck (a v : Int) (S : m_St) : m_St := if 0 ≤ a ∧ a ≤ 2 then (if 0 ≤ v ∧ v ≤ 2 then m_oSet (38 + a.toNat) v S else S) else S
theorem m_pv_38 {j : Nat} {v : Int} (hj : 38 ≤ j ∧ j ≤ 40) (h : 0 ≤ v ∧ v ≤ 2) : m_pv j v := by
  unfold m_pv
  refine ⟨?_, ?_, ?_, ?_, ?_, ?_, ?_, ?_, ?_, ?_⟩ <;> intro h9 <;> omega
theorem m_I_stuck {S : m_St} {a v : Int} (h : m_I S) : m_I (m_oStuck a v S) := by
  unfold m_oStuck; split
  · split
    · rename_i c2; exact m_I_oSet h (m_pv_38 (by omega) c2) (by omega)
    · exact h
  · exact h
theorem c_axis (a : Int) (h : q_F) : fn162 a h = some (if 0 ≤ a ∧ a ≤ 2 then 0 else 3, 0, h) := by
  unfold fn162 fn162_9
  by_cases c1 : a < 0
  · rw [if_pos c1, if_neg (show ¬ (0 ≤ a ∧ a ≤ 2) by omega)]
  · rw [if_neg c1]
    by_cases c2 : a < 3
    · rw [if_pos c2, if_pos (show 0 ≤ a ∧ a ≤ 2 by omega)]
    · rw [if_neg c2, if_neg (show ¬ (0 ≤ a ∧ a ≤ 2) by omega)]
theorem m_ax_n {a : Int} (h : 0 ≤ a ∧ a ≤ 2) : ∃ n : Nat, n < 3 ∧ a = n := ⟨a.toNat, by omega, by omega⟩
theorem c_setStuck {h : q_F} {S : m_St} {a v : Int} (hI : c_I h S) (hm : m_I S) : c_E (fn213 a v h) h (m_oStuck a v S) (fun k => k = 1 ∨ k = 2 ∨ k = 3) := by
  unfold m_oStuck fn213
  rw [c_axis, Option.bind_some]
  by_cases ca : 0 ≤ a ∧ a ≤ 2
  · rw [if_pos ca, if_pos ca]
    dsimp only
    rw [if_pos rfl]
    by_cases c : 0 ≤ v ∧ v ≤ 2
    · rw [if_neg (show ¬ v < 0 by omega), if_pos c.2, if_pos c]
      obtain ⟨n, hn, rfl⟩ := m_ax_n ca
      obtain ⟨h1, a1, a2, a3⟩ := c_remember hI hm
      rw [a1, Option.bind_some, m_let, q_axn_e hn]
      have f : c_ft 6 h1 (q_ud h1 (6 + 1 + 2 * n) 9 v) := c_ft_u c_ft_r (by omega) (by omega)
      exact ⟨1, _, _, rfl, Or.inl rfl, c_I_set a2 f (c_tb_f (j := 9) hn (by omega) a2.1), c_F_t (c_F_rem a3) (c_F_ft f)⟩
    · rw [if_neg c]
      refine ⟨2, 0, h, ?_, Or.inr (Or.inl rfl), hI, c_F_r⟩
      rw [fn213_14]; (repeat' split) <;> first | rfl | omega
  · rw [if_neg ca, if_neg ca]
    exact ⟨3, 0, h, rfl, Or.inr (Or.inr rfl), hI, c_F_r⟩
theorem r_setStuck {h : q_F} {S : m_St} {a v : Int} (hI : r_I h S) (hm : m_I S) : r_W (fn331 a v h) h (m_oStuck a v S) := by
  obtain ⟨h0, t1, t2⟩ := r_noAxis a h
  unfold m_oStuck fn331
  rw [t1, Option.bind_some]
  by_cases ca : 0 ≤ a ∧ a ≤ 2
  · rw [if_pos ca, if_pos ca]
    dsimp only
    rw [if_pos rfl, r_rng, Option.bind_some]
    obtain ⟨n, hn, rfl⟩ := m_ax_n ca
    by_cases c : 0 ≤ v ∧ v ≤ 2
    · rw [if_pos c, if_neg (by decide), if_pos c, fn331_26]
      obtain ⟨h9, s1, s2⟩ := r_fails 0 2 h0
      have hT := r_T_t t2 s2
      obtain ⟨h1, a1, a2, a3, a4⟩ := r_remember (r_I_T hI hT) hm.2.1.1
      have F := r_F_t (r_T_F hT) (r_F_rem a3 a4)
      have e0 := (hm.1.1.1 (38 + n) (by omega)).2.2.2.2.1 (by omega)
      rw [s1, Option.bind_some, if_pos rfl, a1, Option.bind_some]
      dsimp only
      rw [q_w32_id (z := 38 + (n : Int)) (by omega) (by omega), r_of (v := S.w (38 + n)) (by omega) (by omega) (by rw [a2.1, show (38 + (n : Int)).toNat = 38 + n by omega]; rfl) (by omega), Option.bind_some, if_pos (by omega), m_let, m_ud_sr, a2.1, show (38 + (n : Int)).toNat = 38 + n by omega, Int.toNat_natCast]
      exact ⟨_, _, rfl, r_I_set a2, r_F_t F (r_F_sr (by omega))⟩
    · rw [if_neg c, if_pos rfl, if_neg c, fn331_26]
      obtain ⟨h9, s1, s2⟩ := r_fails 1 2 h0
      have hT := r_T_t t2 s2
      rw [s1, Option.bind_some, if_neg (show ¬ (1 : Int) = 0 by decide)]
      exact ⟨_, _, rfl, r_I_T hI hT, r_T_F hT⟩
  · rw [if_neg ca, if_neg ca]
    exact ⟨_, _, rfl, r_I_T hI t2, r_T_F t2⟩
