/-! Part 84: dropTarget, swapTargets on both sides; straight pairs. -/
noncomputable def m_sc (w : Nat → Int) : Nat → Int
  | 0 => 0
  | n + 1 => m_sc w n + m_str w n
theorem m_str_z (w : Nat → Int) (m : Nat) : m_str w m = 0 ∨ m_str w m = 1 := by unfold m_str; (repeat' split) <;> simp
theorem m_sc_r (w : Nat → Int) : ∀ n : Nat, 0 ≤ m_sc w n ∧ m_sc w n ≤ n := by
  intro n
  induction n with
  | zero => exact ⟨Int.le_refl _, Int.le_refl _⟩
  | succ n ih => have := m_str_z w n; unfold m_sc; omega
theorem c_scl {h : q_F} {w : Nat → Int} (hn : h 125 9 = w 4) (h4 : 0 ≤ w 4 ∧ w 4 ≤ 16) (hs : ∀ m, m < (w 4).toNat → h 132 m = m_str w m) : ∀ (d m f : Nat), m + d = (w 4).toNat → d < f → fn98_4 h f (m_sc w m) m = some (m_sc w (w 4).toNat) := by
  intro d
  induction d with
  | zero =>
    intro m f hm hf
    obtain ⟨f, rfl⟩ : ∃ f', f = f' + 1 := ⟨f - 1, by omega⟩
    rw [fn98_4, hn, if_pos (by omega), show m = (w 4).toNat by omega]
  | succ d ih =>
    intro m f hm hf
    obtain ⟨f, rfl⟩ : ∃ f', f = f' + 1 := ⟨f - 1, by omega⟩
    have r := m_sc_r w m
    have z := m_str_z w m
    rw [fn98_4, hn, if_neg (by omega), c_ent (by omega) (by omega), Option.bind_some, Int.toNat_natCast, hs m (by omega), q_w32_id (by omega) (by omega), q_w32_id (by omega) (by omega), ← m_s1]
    exact ih (m + 1) f (by omega) (by omega)
theorem c_sc {h : q_F} {w : Nat → Int} (h4 : 0 ≤ w 4 ∧ w 4 ≤ 16) (hP : c_Plan h w) : fn98 h = some (m_sc w (w 4).toNat) :=
  c_scl hP.2.2.2.1 h4 hP.2.1 (w 4).toNat 0 q_fu (by omega) (by have := q_fu_ge; omega)
theorem r_scl {h : q_F} {w : Nat → Int} (hw : h 140 = w) (ok : m_ok w) (hP : m_PA h w (w 4).toNat) : ∀ (d m f : Nat), m + d = (w 4).toNat → d < f → fn343_8 f (m_sc w m) m h = some (m_sc w (w 4).toNat, h) := by
  have h16 := ok.2.1
  intro d
  induction d with
  | zero =>
    intro m f hm hf
    obtain ⟨f, rfl⟩ : ∃ f', f = f' + 1 := ⟨f - 1, by omega⟩
    rw [fn343_8, hw, if_pos (by omega), show m = (w 4).toNat by omega]
  | succ d ih =>
    intro m f hm hf
    obtain ⟨f, rfl⟩ : ∃ f', f = f' + 1 := ⟨f - 1, by omega⟩
    have r := m_sc_r w m
    have z := m_str_z w m
    have g := ih (m + 1) f (by omega) (by omega)
    rw [fn343_8, hw, if_neg (by omega), fn272_m hw ok (by omega) hP, Option.bind_some, fn343_34, fn343_34, q_w32_id (z := (m : Int) + 1) (by omega) (by omega), q_w32_id (z := m_sc w m + 0) (by omega) (by omega), q_w32_id (z := m_sc w m + 1) (by omega) (by omega), ← m_s1]
    have e : m_sc w (m + 1) = m_sc w m + m_str w m := rfl
    rcases z with z | z
    · rw [if_pos z]; rw [e, z] at g; exact g
    · rw [if_neg (by omega)]; rw [e, z] at g; exact g
theorem r_plan {h : q_F} {S : m_St} (hI : r_I h S) (hm : m_I S) : ∃ h', fn278 h = some (0, h') ∧ m_Plan h' S.w ∧ m_fp h h' ∧ r_I h' S ∧ r_F h h' := by
  obtain ⟨h', g1, g2, g3⟩ := fn278_m hI.1 (m_R0_ok hm.1.1) hm.1.2
  exact ⟨h', g1, g2, g3, r_I_k hI (fun k hk => g3 k (by omega)) (by rw [g3 139 (by omega)]) (by rw [g3 139 (by omega)]), ⟨fun k hk => g3 k (by omega), fun j hj => by rw [g3 139 (by omega)]⟩⟩
theorem r_sc {h : q_F} {S : m_St} (hI : r_I h S) (hm : m_I S) : ∃ h', fn343 h = some (m_sc S.w (S.w 4).toNat, h') ∧ r_I h' S ∧ r_F h h' := by
  obtain ⟨h', g1, g2, g3, g4, g5⟩ := r_plan hI hm
  have r := (m_R0_ok hm.1.1).2.1
  exact ⟨h', by rw [fn343, g1, Option.bind_some]; exact r_scl g4.1 (m_R0_ok hm.1.1) g2.1 (S.w 4).toNat 0 q_fu (by omega) (by have := q_fu_ge; omega), g4, g5⟩
theorem c_move (m : Int) {h : q_F} {S : m_St} (hI : c_I h S) : fn164 m h = some (if 0 ≤ m ∧ m < S.w 4 then 0 else 3, 0, h) := by
  have e : h 13 1 = S.w 4 := hI.1.2.2.1
  unfold fn164 fn164_18
  rw [e]
  by_cases c1 : m < 0
  · rw [if_pos c1, if_neg (show ¬ (0 ≤ m ∧ m < S.w 4) by omega)]
  · rw [if_neg c1]
    by_cases c2 : m < S.w 4
    · rw [if_pos c2, if_pos (show 0 ≤ m ∧ m < S.w 4 by omega)]
    · rw [if_neg c2, if_neg (show ¬ (0 ≤ m ∧ m < S.w 4) by omega)]
-- dropTarget
noncomputable def m_oDrop (m : Int) (S : m_St) : m_St := if 0 ≤ m ∧ m < S.w 4 then m_oTake (m_tko m.toNat S.w) S else S
theorem m_I_drop {S : m_St} {m : Int} (h : m_I S) : m_I (m_oDrop m S) := by
  unfold m_oDrop; split
  · exact m_I_take h (m_R0_tko h.1.1 (by omega))
  · exact h
theorem c_dropC {h : q_F} {S : m_St} {m : Int} (hI : c_I h S) (hm : m_I S) : c_E (fn173 m h) h (m_oDrop m S) (fun k => k = 1 ∨ k = 3 ∨ k = 4) := by
  have r := (m_R0_ok hm.1.1).2.1
  unfold m_oDrop fn173
  rw [c_move m hI, Option.bind_some]
  by_cases c : 0 ≤ m ∧ m < S.w 4
  · rw [if_pos c, if_pos c]
    dsimp only
    obtain ⟨i, rfl⟩ : ∃ k : Nat, m = k := ⟨m.toNat, by omega⟩
    obtain ⟨h1, a1, a2, a3⟩ := c_pcopy hI.1 r
    obtain ⟨h2, b1, b2, b3⟩ := c_ptko (i := i) a2 r c.2
    have f := c_fo_t a3 b3
    have e4 : m_tko i S.w 4 = S.w 4 - 1 := by unfold m_tko; rw [m_u_s]
    obtain ⟨k, v, h3, d1, d2, -, d3, d4⟩ := c_take (c_I_path hI hm.2.1.1 f) hm b2 (fun j h1 h2 => m_tko_lo h1 h2) (by rw [e4]; omega)
    have F := c_F_t (c_F_path f) d4
    rw [if_pos rfl, a1, Option.bind_some, b1, Option.bind_some, d1, Option.bind_some]
    dsimp only
    rcases d2 with rfl | rfl
    · rw [if_pos rfl]; exact ⟨1, v, h3, rfl, Or.inl rfl, d3, F⟩
    · rw [if_neg (by decide), if_pos rfl]; exact ⟨4, 0, h3, rfl, Or.inr (Or.inr rfl), d3, F⟩
  · rw [if_neg c, if_neg c]
    exact ⟨3, 0, h, rfl, Or.inr (Or.inl rfl), hI, c_F_r⟩
theorem r_dropC {h : q_F} {S : m_St} {m : Int} (hI : r_I h S) (hm : m_I S) : r_W (fn252 m h) h (m_oDrop m S) := by
  have r := (m_R0_ok hm.1.1).2.1
  obtain ⟨h0, t1, t2⟩ := r_noMove (h := h) m (by rw [hI.1]; exact r)
  rw [hI.1] at t1
  unfold m_oDrop fn252
  rw [t1, Option.bind_some]
  by_cases c : 0 ≤ m ∧ m < S.w 4
  · rw [if_pos c, if_pos c]
    dsimp only
    rw [if_pos rfl]
    obtain ⟨i, rfl⟩ : ∃ k : Nat, m = k := ⟨m.toNat, by omega⟩
    have hF : ∀ g : q_F, g 140 = S.w → fn349 i g = some (0, m_sr g 140 (m_tko i S.w)) := fun g hg => r_tko hg r c.2
    have R0 := m_R0_tko hm.1.1 c.2
    obtain ⟨h', h'', i1, f1, i2, f2, x1, x2⟩ := r_try (F := fun g => fn349 i g) (T := fun g => (fn320 g).bind fun x11 => (fn349 i x11.2).bind fun x12 => (fn303 4 x12.2).bind fun x13 => some (x13, x12.2)) hF (m_R0_ok R0) (fun j hj => m_tko_hi hj r c.2) (r_I_T hI t2)
    by_cases nn : m_nn (m_tko i S.w)
    · rw [Int.toNat_natCast, m_oTake_p nn, x1 nn]
      obtain ⟨h1, b1, b2, b3, b4⟩ := r_done hF i1 hm.2.1.1
      have e4 : m_tko i S.w 4 = S.w 4 - 1 := by unfold m_tko; rw [m_u_s]
      rw [b1, Option.bind_some, b2, Option.bind_some]
      dsimp only
      rw [r_of (v := S.w 4 - 1) (by omega) (by omega) (by rw [m_sr_s]; exact e4) (by omega), Option.bind_some]
      exact ⟨_, _, rfl, b3, r_F_t (r_T_F t2) (r_F_t f1 b4)⟩
    · rw [Int.toNat_natCast, m_oTake_n nn, x2 nn]
      exact ⟨_, _, rfl, i2, r_F_t (r_T_F t2) f2⟩
  · rw [if_neg c, if_neg c]
    exact ⟨_, _, rfl, r_I_T hI t2, r_T_F t2⟩
-- swapTargets
noncomputable def m_oSwap (m o : Int) (S : m_St) : m_St := if (0 ≤ m ∧ m < S.w 4) ∧ (0 ≤ o ∧ o < S.w 4) then m_oTake (m_swp m.toNat o.toNat S.w) S else S
theorem m_I_swap {S : m_St} {m o : Int} (h : m_I S) : m_I (m_oSwap m o S) := by
  have r := (m_R0_ok h.1.1).2.1
  unfold m_oSwap; split
  · exact m_I_take h (m_R0_swp h.1.1 (by omega) (by omega))
  · exact h
theorem c_swapC {h : q_F} {S : m_St} {m o : Int} (hI : c_I h S) (hm : m_I S) : c_E (fn220 m o h) h (m_oSwap m o S) (fun k => k = 1 ∨ k = 3 ∨ k = 4) := by
  have r := (m_R0_ok hm.1.1).2.1
  unfold m_oSwap fn220
  rw [c_move m hI, Option.bind_some]
  by_cases c : 0 ≤ m ∧ m < S.w 4
  · rw [if_pos c]
    dsimp only
    rw [if_pos rfl, c_move o hI, Option.bind_some]
    by_cases c2 : 0 ≤ o ∧ o < S.w 4
    · rw [if_pos c2, if_pos (show (0 ≤ m ∧ m < S.w 4) ∧ (0 ≤ o ∧ o < S.w 4) from ⟨c, c2⟩)]
      dsimp only
      obtain ⟨i, rfl⟩ : ∃ k : Nat, m = k := ⟨m.toNat, by omega⟩
      obtain ⟨l, rfl⟩ : ∃ k : Nat, o = k := ⟨o.toNat, by omega⟩
      obtain ⟨h1, a1, a2, a3⟩ := c_pcopy hI.1 r
      obtain ⟨h2, b1, b2, b3⟩ := c_pswp (m := i) (o := l) a2 r.2 c.2 c2.2
      have f := c_fo_t a3 b3
      have e4 : m_swp i l S.w 4 = S.w 4 := m_swp_o (by omega) (by omega) (by omega)
      obtain ⟨k, v, h3, d1, d2, d5, d3, d4⟩ := c_take (c_I_path hI hm.2.1.1 f) hm b2 (fun j h1 h2 => m_swp_o (by omega) (by omega) (by omega)) (by rw [e4]; omega)
      have F := c_F_t (c_F_path f) d4
      rw [if_pos rfl, a1, Option.bind_some, b1, Option.bind_some, d1, Option.bind_some, Int.toNat_natCast, Int.toNat_natCast]
      dsimp only
      rcases d2 with rfl | rfl
      · have mI : m_I (m_oTake (m_swp i l S.w) S) := m_I_take hm (m_R0_swp hm.1.1 (by omega) (by omega))
        obtain ⟨h4, p1, p2, p3, p4⟩ := c_planned d3 mI
        rw [if_pos rfl, p1, Option.bind_some, c_sc (m_R0_ok mI.1.1).2.1 p2, Option.bind_some]
        exact ⟨1, _, h4, rfl, Or.inl rfl, p4, c_F_t F (c_F_fp p3)⟩
      · rw [if_neg (by decide), if_pos rfl]; exact ⟨4, 0, h3, rfl, Or.inr (Or.inr rfl), d3, F⟩
    · rw [if_neg c2, if_neg (show ¬ ((0 ≤ m ∧ m < S.w 4) ∧ (0 ≤ o ∧ o < S.w 4)) from fun h9 => c2 h9.2)]
      exact ⟨3, 0, h, rfl, Or.inr (Or.inl rfl), hI, c_F_r⟩
  · rw [if_neg c, if_neg (show ¬ ((0 ≤ m ∧ m < S.w 4) ∧ (0 ≤ o ∧ o < S.w 4)) from fun h9 => c h9.1)]
    exact ⟨3, 0, h, rfl, Or.inr (Or.inl rfl), hI, c_F_r⟩
theorem r_swapC {h : q_F} {S : m_St} {m o : Int} (hI : r_I h S) (hm : m_I S) : r_W (fn346 m o h) h (m_oSwap m o S) := by
  have r := (m_R0_ok hm.1.1).2.1
  obtain ⟨h0, t1, t2⟩ := r_noMove (h := h) m (by rw [hI.1]; exact r)
  rw [hI.1] at t1
  have I0 := r_I_T hI t2
  unfold m_oSwap fn346
  rw [t1, Option.bind_some]
  by_cases c : 0 ≤ m ∧ m < S.w 4
  · rw [if_pos c]
    dsimp only
    rw [if_pos rfl]
    obtain ⟨h1, u1, u2⟩ := r_noMove (h := h0) o (by rw [I0.1]; exact r)
    rw [I0.1] at u1
    have hT := r_T_t t2 u2
    rw [u1, Option.bind_some]
    by_cases c2 : 0 ≤ o ∧ o < S.w 4
    · rw [if_pos c2, if_pos (show (0 ≤ m ∧ m < S.w 4) ∧ (0 ≤ o ∧ o < S.w 4) from ⟨c, c2⟩)]
      dsimp only
      rw [if_pos rfl]
      obtain ⟨i, rfl⟩ : ∃ k : Nat, m = k := ⟨m.toNat, by omega⟩
      obtain ⟨l, rfl⟩ : ∃ k : Nat, o = k := ⟨o.toNat, by omega⟩
      have hF : ∀ g : q_F, g 140 = S.w → fn347 i l g = some (0, m_sr g 140 (m_swp i l S.w)) := fun g hg => r_swp hg (by omega) (by omega)
      have R0 : m_R0 (m_swp i l S.w) := m_R0_swp hm.1.1 (by omega) (by omega)
      obtain ⟨h', h'', i1, f1, i2, f2, x1, x2⟩ := r_try (F := fun g => fn347 i l g) (T := fun g => (fn320 g).bind fun x11 => (fn347 i l x11.2).bind fun x12 => (fn343 x12.2).bind fun x13 => some (x13.1, x13.2)) hF (m_R0_ok R0) (fun j hj => m_swp_o (by omega) (by omega) (by omega)) (r_I_T hI hT)
      rw [Int.toNat_natCast, Int.toNat_natCast]
      by_cases nn : m_nn (m_swp i l S.w)
      · rw [m_oTake_p nn, x1 nn]
        obtain ⟨h1, b1, b2, b3, b4⟩ := r_done hF i1 hm.2.1.1
        rw [b1, Option.bind_some, b2, Option.bind_some]
        dsimp only
        obtain ⟨h5, d1, d2, d3⟩ := r_sc b3 (m_I_set (m_I_rem hm) ⟨R0, nn⟩)
        rw [d1, Option.bind_some]
        exact ⟨_, _, rfl, d2, r_F_t (r_T_F hT) (r_F_t f1 (r_F_t b4 d3))⟩
      · rw [m_oTake_n nn, x2 nn]
        exact ⟨_, _, rfl, i2, r_F_t (r_T_F hT) f2⟩
    · rw [if_neg c2, if_neg (show ¬ ((0 ≤ m ∧ m < S.w 4) ∧ (0 ≤ o ∧ o < S.w 4)) from fun h9 => c2 h9.2)]
      exact ⟨_, _, rfl, r_I_T hI hT, r_T_F hT⟩
  · rw [if_neg c, if_neg (show ¬ ((0 ≤ m ∧ m < S.w 4) ∧ (0 ≤ o ∧ o < S.w 4)) from fun h9 => c h9.1)]
    exact ⟨_, _, rfl, I0, r_T_F t2⟩
