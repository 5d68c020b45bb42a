/-! Part 69: the class's plan, whole. -/
def c_Plan (h : q_F) (p : Nat → Int) : Prop := c_dl h p ∧ (∀ m, m < (p 4).toNat → h 132 m = m_str p m) ∧ (∀ m, m ≤ (p 4).toNat → 0 < p 4 → h 134 m = m_b p m) ∧ h 125 9 = p 4 ∧ h 125 10 = p 0
theorem c_me_fm {h h' : q_F} {p : Nat → Int} {a b n : Nat} (hm : c_me h p b n) (f : c_fm a h h') (hab : a ≠ b) (ha : a < 3) (hb : b < 3) : c_me h' p b n := fun m hmn => by
  rw [f 126 _ (by omega), f 127 _ (by omega), f 128 _ (by omega)]; exact hm m hmn
theorem c_rates {p : Nat → Int} {t g : Nat} (ht : t + 6 < 125) (hg : g + 1 < 125 ∨ 134 < g) (ok : m_ok p) (nn : m_nn p) : ∀ (d m f : Nat) (h : q_F), m + d = (p 4).toNat → d < f → c_src h t g p → (∀ a, a < 3 → c_me h p a (p 4).toNat) → h 125 9 = p 4 → h 125 10 = p 0 → c_ra h p m → ∃ h', fn84_44 t g f m h = (fn175 130 16 (0 : Int) h').bind (fun x5 => (fn174 134 17 (0 : Int) (qx_mn (h' 125 10) x5) h').bind fun x6 => fn84_92 t g q_fu (0 : Int) x6.2) ∧ c_dl h' p ∧ h' 125 9 = p 4 ∧ h' 125 10 = p 0 ∧ c_fp h h' := by
  have h16 := ok.2.1
  intro d
  induction d with
  | zero =>
    intro m f h hm hf hs hme hn hst hr
    obtain ⟨f, rfl⟩ : ∃ f', f = f' + 1 := ⟨f - 1, by omega⟩
    exact ⟨h, by rw [fn84_44, if_pos (by omega)], ⟨hme, by rw [show (p 4).toNat = m by omega]; exact hr⟩, hn, hst, c_fp_r⟩
  | succ d ih =>
    intro m f h hm hf hs hme hn hst hr
    obtain ⟨f, rfl⟩ : ∃ f', f = f' + 1 := ⟨f - 1, by omega⟩
    have e := c_rate (m := m) hs ht ok (by omega) (nn m (by omega)) (fun a ha => ⟨(hme a ha m (by omega)).2.1, (hme a ha m (by omega)).2.2⟩)
    have fp : c_fp h (q_ud (q_ud (q_ud (q_ud h 129 m (m_l p m)) 130 m (m_c p 14 m)) 131 m (m_c p 17 m)) 133 m (m_cmp p m)) := c_fp_u (c_fp_u (c_fp_u (c_fp_u c_fp_r (by omega)) (by omega)) (by omega)) (by omega)
    obtain ⟨h', g1, g2, g3, g4, g5⟩ := ih (m + 1) f _ (by omega) (by omega) (c_src_fp hs ht hg fp) (fun a ha j hj => by
      obtain ⟨x1, x2, x3⟩ := hme a ha j hj
      refine ⟨?_, ?_, ?_⟩ <;> (rw [q_ud_n (by omega), q_ud_n (by omega), q_ud_n (by omega), q_ud_n (by omega)]; assumption)) (by rw [q_ud_n (by omega), q_ud_n (by omega), q_ud_n (by omega), q_ud_n (by omega)]; exact hn) (by rw [q_ud_n (by omega), q_ud_n (by omega), q_ud_n (by omega), q_ud_n (by omega)]; exact hst) (c_rate_s hr)
    refine ⟨h', ?_, g2, g3, g4, c_fp_t fp g5⟩
    rw [fn84_44, if_neg (by omega), e, Option.bind_some]
    dsimp only
    rw [q_w32_id (by omega) (by omega), ← m_s1, g1]
theorem c_make {p : Nat → Int} {t g : Nat} {h : q_F} (ht : t + 6 < 125) (hg : g + 1 < 125 ∨ 134 < g) (ok : m_ok p) (nn : m_nn p) (hs : c_src h t g p) : ∃ h', fn84 t g (p 0) h = some (0, h') ∧ c_Plan h' p ∧ c_fp h h' := by
  have h16 := ok.2.1
  obtain ⟨n, e⟩ := m_fu3
  have fp2 : c_fp h (q_ud (q_ud h 125 9 (p 4)) 125 10 (p 0)) := c_fp_u (c_fp_u c_fp_r (by omega)) (by omega)
  -- the axes
  have ax : ∀ (a : Nat) (h1 : q_F), a < 3 → c_src h1 t g p → h1 125 9 = p 4 → ∃ h2, fn85 (q_axn t a) g a h1 = some (0, h2) ∧ c_me h2 p a (p 4).toNat ∧ c_fm a h1 h2 := by
    intro a h1 ha hs1 hn1
    obtain ⟨s12, s8, -⟩ := hs1.1 a ha
    rw [fn85, q_axn_e ha, s12, s8]
    have b0 : p (47 + a) = m_beg p 0 a := by unfold m_beg; rw [if_pos rfl]
    rw [b0]
    exact c_meas hg ht ok ha _ (p 4).toNat 0 q_fu h1 (by omega) (by have := q_fu_ge; omega) hs1 hn1 (fun m hm => absurd hm (by omega))
  have hs2 := c_src_fp hs ht hg fp2
  obtain ⟨h3, a1, a2, a3⟩ := ax 0 _ (by omega) hs2 (by rw [q_ud_n (by omega), q_ud_s])
  have n3 : h3 125 9 = p 4 := by rw [a3 125 9 (by omega), q_ud_n (by omega), q_ud_s]
  have t3 : h3 125 10 = p 0 := by rw [a3 125 10 (by omega), q_ud_s]
  obtain ⟨h4, b1, b2, b3⟩ := ax 1 h3 (by omega) (c_src_fp hs2 ht hg (c_fm_fp a3)) n3
  have n4 : h4 125 9 = p 4 := by rw [b3 125 9 (by omega)]; exact n3
  have t4 : h4 125 10 = p 0 := by rw [b3 125 10 (by omega)]; exact t3
  obtain ⟨h5, c1, c2, c3⟩ := ax 2 h4 (by omega) (c_src_fp (c_src_fp hs2 ht hg (c_fm_fp a3)) ht hg (c_fm_fp b3)) n4
  have n5 : h5 125 9 = p 4 := by rw [c3 125 9 (by omega)]; exact n4
  have t5 : h5 125 10 = p 0 := by rw [c3 125 10 (by omega)]; exact t4
  have fp5 : c_fp h h5 := c_fp_t fp2 (c_fp_t (c_fm_fp a3) (c_fp_t (c_fm_fp b3) (c_fm_fp c3)))
  have me : ∀ a, a < 3 → c_me h5 p a (p 4).toNat := fun a ha => by
    rcases m_c3 ha with rfl | rfl | rfl
    · exact c_me_fm (c_me_fm a2 b3 (by omega) (by omega) (by omega)) c3 (by omega) (by omega) (by omega)
    · exact c_me_fm b2 c3 (by omega) (by omega) (by omega)
    · exact c2
  obtain ⟨h6, d1, d2, d3, d4, d5⟩ := c_rates ht hg ok nn (p 4).toNat 0 q_fu h5 (by omega) (by have := q_fu_ge; omega) (c_src_fp hs ht hg fp5) me n5 t5 (fun m hm => absurd hm (by omega))
  have e16 : fn84 t g (p 0) h = fn84_44 t g q_fu ((0 : Nat) : Int) h5 := by
    rw [fn84, m_let, m_let, hs.2.2.1, e]
    show fn84_16 t g (n + 1 + 1 + 1 + 1) ((0 : Nat) : Int) _ = _
    rw [fn84_16, if_neg (by decide), a1, Option.bind_some]
    dsimp only
    show fn84_16 t g (n + 1 + 1 + 1) ((1 : Nat) : Int) _ = _
    rw [fn84_16, if_neg (by decide), b1, Option.bind_some]
    dsimp only
    show fn84_16 t g (n + 1 + 1) ((2 : Nat) : Int) _ = _
    rw [fn84_16, if_neg (by decide), c1, Option.bind_some]
    dsimp only
    show fn84_16 t g (n + 1) ((3 : Nat) : Int) _ = _
    rw [fn84_16, if_pos (by decide), ← e]
    rfl
  rw [e16, d1, c_ent (by omega) (by omega), Option.bind_some, c_put (by omega) (by omega), Option.bind_some]
  dsimp only
  obtain ⟨h8, l1, l2, l3, l4, l5, l6⟩ := c_links (t := t) (g := g) ok (p 4).toNat 0 q_fu (q_ud h6 134 (0 : Int).toNat (qx_mn (h6 125 10) (h6 130 (0 : Int).toNat))) (by omega) (by have := q_fu_ge; omega) (c_dl_u d2 (by omega)) (by rw [q_ud_n (by omega)]; exact d3) (by rw [q_ud_n (by omega)]; exact d4) ⟨fun h0 => by
    show q_ud h6 134 0 _ 134 0 = _
    rw [q_ud_s, d4]
    have := (d2.2 0 (by omega)).2.1
    show qx_mn (p 0) (h6 130 0) = _
    rw [this]; unfold m_b0; rw [if_pos rfl], fun m hm => absurd hm (by omega)⟩
  have fp8 : c_fp h h8 := c_fp_t (c_fp_t fp5 d5) (c_fp_t (c_fp_u c_fp_r (by omega)) l6)
  have fin : ∃ h9, fn91 h8 = some (0, h9) ∧ (∀ j, j ≤ (p 4).toNat → 0 < p 4 → h9 134 j = m_b p j) ∧ c_fs h8 h9 := by
    rw [fn91, l3, q_w32_id (by omega) (by omega)]
    by_cases h0 : 0 < p 4
    · obtain ⟨h9, k1, k2, k3⟩ := c_smooth7 ok nn h0 (p 4).toNat q_fu h8 (by omega) (by have := q_fu_ge; omega) l2.2 l3 (fun j hj => by
        by_cases e : j = 0
        · subst e; exact l5.1 h0
        · have := (l5.2 (j - 1) (by omega)).2
          rw [show j - 1 + 1 = j by omega] at this; exact this) (fun j hj hj2 => by
        have ej : j = (p 4).toNat := by omega
        subst ej
        have := (l5.2 ((p 4).toNat - 1) (by omega)).2
        rw [show (p 4).toNat - 1 + 1 = (p 4).toNat by omega] at this
        rw [this, m_b1_n])
      rw [show (((p 4).toNat : Nat) : Int) - 1 = p 4 - 1 by omega] at k1
      exact ⟨h9, k1, fun j hj _ => k2 j hj, k3⟩
    · obtain ⟨f, ef⟩ := m_fu 2 (by omega)
      refine ⟨h8, ?_, fun j hj h9 => absurd h9 h0, fun _ _ => rfl⟩
      rw [ef, fn91_7, if_pos (by omega), ef, fn91_48, if_pos (by omega)]
  obtain ⟨h9, k1, k2, k3⟩ := fin
  refine ⟨h9, ?_, ⟨⟨fun a ha m hm => ?_, c_ra_fs l2.2 k3⟩, fun m hm => ?_, k2, ?_, ?_⟩, c_fp_t fp8 (fun k hk => k3 k (by omega))⟩
  · refine l1.trans ?_
    rw [k1, Option.bind_some]
  · rw [k3 126 (by omega), k3 127 (by omega), k3 128 (by omega)]; exact l2.1 a ha m hm
  · rw [k3 132 (by omega)]; exact (l5.2 m hm).1
  · rw [k3 125 (by omega)]; exact l3
  · rw [k3 125 (by omega)]; exact l4
