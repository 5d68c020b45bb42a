/-! Part 68: the class's plan: straight moves, links, the passes. -/
theorem m_mn_c (a b : Int) : qx_mn a b = qx_mn b a := by unfold qx_mn; (repeat' split) <;> omega
/-- distances of all axes, leads -/
def c_dl (h : q_F) (p : Nat → Int) : Prop := (∀ a, a < 3 → c_me h p a (p 4).toNat) ∧ c_ra h p (p 4).toNat
theorem c_lead {h : q_F} {p : Nat → Int} {m : Nat} (hr : h 129 m = m_l p m) (hm : m < 16) : fn79 m h = some (m_l p m) := by
  rw [fn79, c_ent (by omega) (by omega), Option.bind_some, Int.toNat_natCast, hr]
theorem c_str0 {h : q_F} : ∀ (d a f : Nat) (m : Int), a + d = 3 → d < f → fn74_18 h f m 0 a = some 0 := by
  intro d
  induction d with
  | zero =>
    intro a f m ha hf
    obtain ⟨f, rfl⟩ : ∃ f', f = f' + 1 := ⟨f - 1, by omega⟩
    rw [fn74_18, if_pos (by omega)]
  | succ d ih =>
    intro a f m ha hf
    obtain ⟨f, rfl⟩ : ∃ f', f = f' + 1 := ⟨f - 1, by omega⟩
    rw [fn74_18, if_neg (by omega), if_pos rfl, fn74_62, fn74_63, q_w32_id (by omega) (by omega), ← m_s1]
    exact ih (a + 1) f m (by omega) (by omega)
theorem c_str1 {h : q_F} {p : Nat → Int} {m a f : Nat} (ok : m_ok p) (hc : c_dl h p) (hm : (m : Int) + 1 < p 4) (ha : a < 3) (hf : 4 ≤ f) : fn74_18 h (f + 1) m 1 a = if m_d p m a * m_l p (m + 1) = m_d p (m + 1) a * m_l p m then fn74_18 h f m 1 ((a + 1 : Nat) : Int) else some 0 := by
  have h16 := ok.2.1
  have d1 := m_d_r ok (m := m) (by omega) ha
  have d2 := m_d_r ok (m := m + 1) (by omega) ha
  have l1 := m_l_r ok (m := m) (by omega)
  have l2 := m_l_r ok (m := m + 1) (by omega)
  have p1 := m_mul2 (a := 2000) (b := 2000) d1.1 d1.2 l2.1 l2.2.1 (by omega)
  have p2 := m_mul2 (a := 2000) (b := 2000) d2.1 d2.2 l1.1 l1.2.1 (by omega)
  rw [fn74_18, if_neg (by omega), if_neg (by decide), c_dist (hc.1 a ha m (by omega)).2.1 (by omega) ha, Option.bind_some, q_w32_id (z := (m : Int) + 1) (by omega) (by omega), ← m_s1, c_lead (hc.2 (m + 1) (by omega)).1 (by omega), Option.bind_some, c_dist (hc.1 a ha (m + 1) (by omega)).2.1 (by omega) ha, Option.bind_some, c_lead (hc.2 m (by omega)).1 (by omega), Option.bind_some, q_w32_id (by omega) (by omega), q_w32_id (by omega) (by omega)]
  split
  · rw [fn74_63, q_w32_id (by omega) (by omega), m_s1]
  · rw [fn74_62, fn74_63, q_w32_id (by omega) (by omega), ← m_s1]
    exact c_str0 (3 - (a + 1)) (a + 1) f m (by omega) (by omega)
theorem c_straight {h : q_F} {p : Nat → Int} {m : Nat} (ok : m_ok p) (hc : c_dl h p) (hn : h 125 9 = p 4) (hm : (m : Int) < p 4) : fn74 m h = some (m_str p m) := by
  have h16 := ok.2.1
  obtain ⟨n, hn5⟩ : ∃ n, q_fu = n + 4 + 1 + 1 + 1 := ⟨q_fu - 7, by have := q_fu_ge; omega⟩
  rw [fn74, hn, q_w32_id (by omega) (by omega)]
  unfold m_str
  by_cases hlt : (m : Int) + 1 < p 4
  · rw [if_neg (by omega), if_pos hlt, fn74_15]
    have e0 := c_str1 (f := n + 4 + 1 + 1) (a := 0) ok hc hlt (by omega) (by omega)
    rw [c_str1 (f := n + 4 + 1) (a := 0 + 1) ok hc hlt (by omega) (by omega), c_str1 (f := n + 4) (a := 0 + 1 + 1) ok hc hlt (by omega) (by omega)] at e0
    have e3 : fn74_18 h (n + 4) m 1 ((0 + 1 + 1 + 1 : Nat) : Int) = some 1 := by rw [fn74_18, if_pos (by decide)]
    rw [e3] at e0
    rw [hn5]
    refine e0.trans ?_
    clear e0 e3
    (repeat' split) <;> simp_all
  · rw [if_pos (by omega), if_neg hlt, fn74_15]
    exact c_str0 3 0 q_fu m (by omega) (by have := q_fu_ge; omega)
/-- behind the links of the first n moves -/
def c_li (h : q_F) (p : Nat → Int) (n : Nat) : Prop := (0 < p 4 → h 134 0 = m_b0 p 0) ∧ ∀ m, m < n → h 132 m = m_str p m ∧ h 134 (m + 1) = m_b0 p (m + 1)
theorem m_str_01 (p : Nat → Int) (m : Nat) : m_str p m = 0 ∨ m_str p m = 1 := by
  unfold m_str; (repeat' split) <;> simp
theorem c_dl_u {h : q_F} {p : Nat → Int} {k j : Nat} {v : Int} (hc : c_dl h p) (hk : k = 132 ∨ k = 134 ∨ k = 125) : c_dl (q_ud h k j v) p := by
  refine ⟨fun a ha m hm => ?_, fun m hm => ?_⟩
  · obtain ⟨h1, h2, h3⟩ := hc.1 a ha m hm
    refine ⟨?_, ?_, ?_⟩ <;> (rw [q_ud_n (by omega)]; assumption)
  · obtain ⟨h1, h2, h3, h4⟩ := hc.2 m hm
    refine ⟨?_, ?_, ?_, ?_⟩ <;> (rw [q_ud_n (by omega)]; assumption)
theorem c_link {h : q_F} {p : Nat → Int} {m : Nat} (ok : m_ok p) (hc : c_dl h p) (hn : h 125 9 = p 4) (hst : h 125 10 = p 0) (hm : (m : Int) < p 4) : fn82 m h = some (0, q_ud (q_ud h 132 m (m_str p m)) 134 (m + 1) (m_b0 p (m + 1))) := by
  have h16 := ok.2.1
  have key : ∀ u3, (if m_str p m = 0 then qx_mn u3 (p 0) else u3) = m_b0 p (m + 1) → fn82_40 m (m_str p m) u3 h = some (0, q_ud (q_ud h 132 m (m_str p m)) 134 (m + 1) (m_b0 p (m + 1))) := by
    intro u3 hu
    rw [← hu, fn82_40]
    rcases m_str_01 p m with e | e
    · rw [e, if_pos rfl, if_pos rfl, fn82_54, c_put (by omega) (by omega), Option.bind_some]
      dsimp only
      rw [if_pos rfl, q_ud_n (by omega), hst, fn82_80, q_w32_id (by omega) (by omega), c_put (by omega) (by omega), Option.bind_some, m_tn1, Int.toNat_natCast]
    · rw [e, if_neg (by decide), if_neg (by decide), fn82_54, c_put (by omega) (by omega), Option.bind_some]
      dsimp only
      rw [if_neg (by decide), fn82_80, q_w32_id (by omega) (by omega), c_put (by omega) (by omega), Option.bind_some, m_tn1, Int.toNat_natCast]
  rw [fn82, c_straight ok hc hn hm, Option.bind_some, c_ent (by omega) (by omega), Option.bind_some, hn, q_w32_id (by omega) (by omega), Int.toNat_natCast, (hc.2 m (by omega)).2.1]
  by_cases hlt : (m : Int) + 1 < p 4
  · rw [if_neg (by omega), c_ent (by omega) (by omega), Option.bind_some, m_tn1, (hc.2 (m + 1) (by omega)).2.1]
    have eb : m_b0 p (m + 1) = if m_str p m = 0 then qx_mn (p 0) (qx_mn (m_c p 14 m) (m_c p 14 (m + 1))) else qx_mn (m_c p 14 m) (m_c p 14 (m + 1)) := by
      unfold m_b0
      rw [if_neg (show ¬ m + 1 = 0 by omega), if_neg (show ¬ ((m + 1 : Nat) : Int) = p 4 by omega), Nat.add_sub_cancel]
    apply key
    rw [eb]
    split
    · exact m_mn_c _ _
    · rfl
  · rw [if_pos (by omega)]
    have e0 : m_str p m = 0 := by unfold m_str; rw [if_neg hlt]
    have eb : m_b0 p (m + 1) = qx_mn (p 0) (m_c p 14 m) := by
      unfold m_b0
      rw [if_neg (show ¬ m + 1 = 0 by omega), if_pos (show ((m + 1 : Nat) : Int) = p 4 by omega), Nat.add_sub_cancel]
    apply key
    rw [eb, if_pos e0]
    exact m_mn_c _ _
theorem c_links {p : Nat → Int} {t g : Nat} (ok : m_ok p) : ∀ (d m f : Nat) (h : q_F), m + d = (p 4).toNat → d < f → c_dl h p → h 125 9 = p 4 → h 125 10 = p 0 → c_li h p m → ∃ h', fn84_92 t g f m h = (fn91 h').bind (fun x8 => some ((0 : Int), x8.2)) ∧ c_dl h' p ∧ h' 125 9 = p 4 ∧ h' 125 10 = p 0 ∧ c_li h' p (p 4).toNat ∧ c_fp h h' := by
  have h16 := ok.2.1
  intro d
  induction d with
  | zero =>
    intro m f h hm hf hc hn hst hl
    obtain ⟨f, rfl⟩ : ∃ f', f = f' + 1 := ⟨f - 1, by omega⟩
    exact ⟨h, by rw [fn84_92, if_pos (by omega)], hc, hn, hst, by rw [show (p 4).toNat = m by omega]; exact hl, c_fp_r⟩
  | succ d ih =>
    intro m f h hm hf hc hn hst hl
    obtain ⟨f, rfl⟩ : ∃ f', f = f' + 1 := ⟨f - 1, by omega⟩
    obtain ⟨h', g1, g2, g3, g4, g5, g6⟩ := ih (m + 1) f (q_ud (q_ud h 132 m (m_str p m)) 134 (m + 1) (m_b0 p (m + 1))) (by omega) (by omega) (c_dl_u (c_dl_u hc (by omega)) (by omega)) (by rw [q_ud_n (by omega), q_ud_n (by omega)]; exact hn) (by rw [q_ud_n (by omega), q_ud_n (by omega)]; exact hst) (by
      refine ⟨fun h0 => by rw [q_ud_n (by omega), q_ud_n (by omega)]; exact hl.1 h0, fun j hj => ?_⟩
      by_cases e : j = m
      · subst e
        exact ⟨by rw [q_ud_n (by omega), q_ud_s], by rw [q_ud_s]⟩
      · obtain ⟨x1, x2⟩ := hl.2 j (by omega)
        exact ⟨by rw [q_ud_n (by omega), q_ud_n (by omega)]; exact x1, by rw [q_ud_n (by omega), q_ud_n (by omega)]; exact x2⟩)
    refine ⟨h', ?_, g2, g3, g4, g5, c_fp_t (c_fp_u (c_fp_u c_fp_r (by omega)) (by omega)) g6⟩
    rw [fn84_92, if_neg (by omega), c_link ok hc hn hst (by omega), Option.bind_some]
    dsimp only
    rw [q_w32_id (by omega) (by omega), ← m_s1, g1]
/-- only the row of speeds has changed -/
def c_fs (h h' : q_F) : Prop := ∀ k, k ≠ 134 → h' k = h k
theorem c_reach {h : q_F} {p : Nat → Int} {m : Nat} (ok : m_ok p) (nn : m_nn p) (hr : c_ra h p (p 4).toNat) (hm : (m : Int) < p 4) : fn90 m h = some (m_c p 17 m * m_l p m) := by
  have h16 := ok.2.1
  obtain ⟨h1, h2, h3, h4⟩ := hr m (by omega)
  have r := m_reach_r ok nn hm
  rw [fn90, c_ent (by omega) (by omega), Option.bind_some, c_ent (by omega) (by omega), Option.bind_some, Int.toNat_natCast, h1, h3, q_w32_id (by omega) (by omega)]
theorem c_ra_fs {h h' : q_F} {p : Nat → Int} {n : Nat} (hr : c_ra h p n) (f : c_fs h h') : c_ra h' p n := fun m hm => by
  rw [f 129 (by omega), f 130 (by omega), f 131 (by omega), f 133 (by omega)]; exact hr m hm
theorem c_smooth48 {p : Nat → Int} (ok : m_ok p) (nn : m_nn p) (h0 : 0 < p 4) : ∀ (d m f : Nat) (h : q_F), m + d = (p 4).toNat → d < f → c_ra h p (p 4).toNat → h 125 9 = p 4 → (∀ j, j ≤ m → h 134 j = m_b p j) → (∀ j, m < j → j ≤ (p 4).toNat → h 134 j = m_b1 p j) → ∃ h', fn91_48 f m h = some (0, h') ∧ (∀ j, j ≤ (p 4).toNat → h' 134 j = m_b p j) ∧ c_fs h h' := by
  have h16 := ok.2.1
  intro d
  induction d with
  | zero =>
    intro m f h hm hf hr hn h1 h2
    obtain ⟨f, rfl⟩ : ∃ f', f = f' + 1 := ⟨f - 1, by omega⟩
    exact ⟨h, by rw [fn91_48, if_pos (by omega)], fun j hj => h1 j (by omega), fun _ _ => rfl⟩
  | succ d ih =>
    intro m f h hm hf hr hn h1 h2
    obtain ⟨f, rfl⟩ : ∃ f', f = f' + 1 := ⟨f - 1, by omega⟩
    have r := m_reach_r ok nn (m := m) (by omega)
    have b := m_b_r ok nn h0 m (by omega)
    have fs : c_fs h (q_ud h 134 (m + 1) (m_b p (m + 1))) := fun k hk => by funext j; rw [q_ud_n (by omega)]
    obtain ⟨h', g1, g2, g3⟩ := ih (m + 1) f _ (by omega) (by omega) (c_ra_fs hr fs) (by rw [fs 125 (by omega)]; exact hn) (by
      intro j hj
      by_cases e : j = m + 1
      · subst e; rw [q_ud_s]
      · rw [q_ud_n (by omega)]; exact h1 j (by omega)) (by
      intro j hj hj2; rw [q_ud_n (by omega)]; exact h2 j (by omega) hj2)
    refine ⟨h', ?_, g2, fun k hk => (g3 k hk).trans (fs k hk)⟩
    rw [fn91_48, if_neg (by omega), fn92, c_ent (by omega) (by omega), Option.bind_some, Option.bind_some, c_reach ok nn hr (by omega), Option.bind_some, fn94, q_w32_id (z := (m : Int) + 1) (by omega) (by omega), c_ent (by omega) (by omega), Option.bind_some, Option.bind_some, c_put (by omega) (by omega), Option.bind_some]
    dsimp only
    rw [m_tn1, Int.toNat_natCast, h1 m (by omega), h2 (m + 1) (by omega) (by omega), q_w32_id (by omega) (by omega), ← m_s1]
    exact g1
theorem c_smooth7 {p : Nat → Int} (ok : m_ok p) (nn : m_nn p) (h0 : 0 < p 4) : ∀ (m f : Nat) (h : q_F), m ≤ (p 4).toNat → m < f → c_ra h p (p 4).toNat → h 125 9 = p 4 → (∀ j, j < m → h 134 j = m_b0 p j) → (∀ j, m ≤ j → j ≤ (p 4).toNat → h 134 j = m_b1 p j) → ∃ h', fn91_7 f ((m : Int) - 1) h = some (0, h') ∧ (∀ j, j ≤ (p 4).toNat → h' 134 j = m_b p j) ∧ c_fs h h' := by
  have h16 := ok.2.1
  intro m
  induction m with
  | zero =>
    intro f h hm hf hr hn h1 h2
    obtain ⟨f, rfl⟩ : ∃ f', f = f' + 1 := ⟨f - 1, by omega⟩
    rw [fn91_7, if_pos (by omega)]
    exact c_smooth48 ok nn h0 (p 4).toNat 0 q_fu h (by omega) (by have := q_fu_ge; omega) hr hn (by
      intro j hj
      have e : j = 0 := by omega
      subst e
      exact h2 0 (by omega) (by omega)) (fun j hj hj2 => h2 j (by omega) hj2)
  | succ m ih =>
    intro f h hm hf hr hn h1 h2
    obtain ⟨f, rfl⟩ : ∃ f', f = f' + 1 := ⟨f - 1, by omega⟩
    have r := m_reach_r ok nn (m := m) (by omega)
    have b := m_b1_r ok nn (m := m + 1) (by omega) h0
    have fs : c_fs h (q_ud h 134 m (m_b1 p m)) := fun k hk => by funext j; rw [q_ud_n (by omega)]
    obtain ⟨h', g1, g2, g3⟩ := ih f _ (by omega) (by omega) (c_ra_fs hr fs) (by rw [fs 125 (by omega)]; exact hn) (by
      intro j hj; rw [q_ud_n (by omega)]; exact h1 j (by omega)) (by
      intro j hj hj2
      by_cases e : j = m
      · subst e; rw [q_ud_s]
      · rw [q_ud_n (by omega)]; exact h2 j (by omega) hj2)
    refine ⟨h', ?_, g2, fun k hk => (g3 k hk).trans (fs k hk)⟩
    rw [show ((m + 1 : Nat) : Int) - 1 = (m : Int) by omega]
    rw [fn91_7, if_neg (by omega), fn94, q_w32_id (z := (m : Int) + 1) (by omega) (by omega), c_ent (by omega) (by omega), Option.bind_some, Option.bind_some, c_reach ok nn hr (by omega), Option.bind_some, fn92, c_ent (by omega) (by omega), Option.bind_some, Option.bind_some, c_put (by omega) (by omega), Option.bind_some]
    dsimp only
    rw [m_tn1, Int.toNat_natCast, h1 m (by omega), h2 (m + 1) (by omega) (by omega), q_w32_id (z := m_b1 p (m + 1) + m_c p 17 m * m_l p m) (by omega) (by omega), ← m_b1_s (w := p) (j := m) (by omega) (by omega), q_w32_id (by omega) (by omega), show (m : Int) + -1 = (m : Int) - 1 by omega]
    exact g1
