/-! Part 57: the reference: copies, the queue's run, homing. -/
def m_cp (src dst : Nat → Int) (at' into many : Nat) : Nat → Int := fun j => if into ≤ j ∧ j < into + many then src (at' + (j - into)) else dst j
theorem m_cp_0 (src dst : Nat → Int) (at' into : Nat) : m_cp src dst at' into 0 = dst := by funext j; unfold m_cp; rw [if_neg (by omega)]
theorem m_cp_s (src dst : Nat → Int) (at' into k : Nat) : m_u (m_cp src dst at' into k) (into + k) (src (at' + k)) = m_cp src dst at' into (k + 1) := by
  funext j
  unfold m_u m_cp
  by_cases e : j = into + k
  · rw [if_pos e, if_pos (by omega)]; congr 1; omega
  · rw [if_neg e]
    by_cases e2 : into ≤ j ∧ j < into + k
    · rw [if_pos e2, if_pos (by omega)]
    · rw [if_neg e2, if_neg (by omega)]
theorem fn249_3_m {o0 N0 o2 N2 a b n : Nat} {h0 : q_F} (h1 : a + n ≤ N0) (h2 : b + n ≤ N2) (hN0 : N0 ≤ 2048) (hN2 : N2 ≤ 2048) (hov : o0 ≠ o2 ∨ b ≤ a ∨ a + n ≤ b) : ∀ (d k f : Nat), k + d = n → d < f → fn249_3 o0 N0 o2 N2 f a b n k (m_sr h0 o2 (m_cp (h0 o0) (h0 o2) a b k)) = some (0, m_sr h0 o2 (m_cp (h0 o0) (h0 o2) a b n)) := by
  intro d
  induction d with
  | zero =>
    intro k f hk hf
    obtain ⟨f, rfl⟩ : ∃ f', f = f' + 1 := ⟨f - 1, by omega⟩
    have e : k = n := by omega
    subst e
    rw [fn249_3, if_pos (by omega)]
  | succ d ih =>
    intro k f hk hf
    obtain ⟨f, rfl⟩ : ∃ f', f = f' + 1 := ⟨f - 1, by omega⟩
    have er : m_sr h0 o2 (m_cp (h0 o0) (h0 o2) a b k) o0 (a + k) = h0 o0 (a + k) := by
      by_cases e : o0 = o2
      · subst e
        rw [m_sr_s]; unfold m_cp; rw [if_neg (by omega)]
      · rw [m_sr_n e]
    rw [fn249_3, if_neg (by omega), q_w32_id (z := (a : Int) + k) (by omega) (by omega), q_w32_id (z := (b : Int) + k) (by omega) (by omega), if_pos (by omega), if_pos (by omega), show ((a : Int) + k).toNat = a + k by omega, show ((b : Int) + k).toNat = b + k by omega, er, m_ud_sr, m_let, m_sr_s, m_sr_sr, m_cp_s, q_w32_id (by omega) (by omega), ← m_s1]
    exact ih (k + 1) f (by omega) (by omega)
theorem fn249_m {o0 N0 o2 N2 a b n : Nat} {h : q_F} (h1 : a + n ≤ N0) (h2 : b + n ≤ N2) (hN0 : N0 ≤ 2048) (hN2 : N2 ≤ 2048) (hov : o0 ≠ o2 ∨ b ≤ a ∨ a + n ≤ b) : fn249 o0 N0 o2 N2 a b n h = some (0, m_sr h o2 (m_cp (h o0) (h o2) a b n)) := by
  have g := fn249_3_m (h0 := h) h1 h2 hN0 hN2 hov n 0 q_fu (by omega) (by have := q_fu_ge; omega)
  rw [m_cp_0, m_sr_id] at g
  exact g
theorem fn249_i {o0 N0 o2 N2 : Nat} {x y z : Int} {h : q_F} (hx : 0 ≤ x) (hy : 0 ≤ y) (hz : 0 ≤ z) (h1 : x + z ≤ N0) (h2 : y + z ≤ N2) (hN0 : N0 ≤ 2048) (hN2 : N2 ≤ 2048) (hov : o0 ≠ o2 ∨ y ≤ x ∨ x + z ≤ y) : fn249 o0 N0 o2 N2 x y z h = some (0, m_sr h o2 (m_cp (h o0) (h o2) x.toNat y.toNat z.toNat)) := by
  have g := fn249_m (o0 := o0) (N0 := N0) (o2 := o2) (N2 := N2) (a := x.toNat) (b := y.toNat) (n := z.toNat) (h := h) (by omega) (by omega) hN0 hN2 (by omega)
  rw [show ((x.toNat : Nat) : Int) = x by omega, show ((y.toNat : Nat) : Int) = y by omega, show ((z.toNat : Nat) : Int) = z by omega] at g
  exact g
def m_co (m : Nat) (w : Nat → Int) : Nat → Int := m_u (m_u (m_u w 47 (w (74 + 3 * m))) 48 (w (74 + 3 * m + 1))) 49 (w (74 + 3 * m + 2))
def m_fin (n : Nat) (w : Nat → Int) : Nat → Int := m_u (m_cp w w (74 + 3 * n) 74 (3 * (w 4 - n).toNat)) 4 (w 4 - n)
noncomputable def m_mk (p : Nat → Int) (n : Nat) : Nat → Nat → (Nat → Int) → Int × (Nat → Int)
  | 0, _, w => ((n : Int), m_fin n w)
  | d + 1, m, w => if (m_mm p m w).1 = 0 then ((m : Int), m_stops (m_u (m_mm p m w).2 3 3)) else m_mk p n d (m + 1) (m_co m (m_mm p m w).2)
/-- the first n moves, as planned for the row -/
noncomputable def m_run (n : Nat) (w : Nat → Int) : Int × (Nat → Int) := m_mk w n n 0 w
def m_iv (p w : Nat → Int) : Prop := m_row w ∧ w 4 = p 4
theorem m_co_iv {p w : Nat → Int} {m : Nat} (h : m_iv p w) : m_iv p (m_co m w) := by
  obtain ⟨⟨h0, h1⟩, h2⟩ := h
  unfold m_co
  refine ⟨⟨?_, fun a ha => ?_⟩, ?_⟩
  · rw [m_u_n (by omega), m_u_n (by omega), m_u_n (by omega)]; exact h0
  · rw [m_u_n (by omega), m_u_n (by omega), m_u_n (by omega)]; exact h1 a ha
  · rw [m_u_n (by omega), m_u_n (by omega), m_u_n (by omega)]; exact h2
theorem m_fr_iv {p w w' : Nat → Int} (h : m_iv p w) (hf : m_fr w w') : m_iv p w' := ⟨m_row_fr h.1 hf, by rw [hf 4 (by unfold m_dy; omega)]; exact h.2⟩
theorem fn287_36s {K : Int → Int → q_F → Option (Int × q_F)} {f m a : Nat} {n : Int} {h : q_F} (hm : m < 16) (ha : a < 3) : fn287_36 K (f + 1) n m a h = fn287_36 K f n m ((a + 1 : Nat) : Int) (m_sr h 140 (m_u (h 140) (47 + a) (h 140 (74 + 3 * m + a)))) := by
  rw [fn287_36, if_neg (by omega), q_w32_id (z := 3 * (m : Int)) (by omega) (by omega), q_w32_id (z := 74 + 3 * (m : Int)) (by omega) (by omega), q_w32_id (z := 74 + 3 * (m : Int) + a) (by omega) (by omega), if_pos (by omega), q_w32_id (z := 47 + (a : Int)) (by omega) (by omega), if_pos (by omega), show (74 + 3 * (m : Int) + a).toNat = 74 + 3 * m + a by omega, show (47 + (a : Int)).toNat = 47 + a by omega, m_ud_sr, m_let, q_w32_id (by omega) (by omega), m_s1]
theorem fn287_36_m {K : Int → Int → q_F → Option (Int × q_F)} {m : Nat} {n : Int} {h : q_F} (hm : m < 16) : fn287_36 K q_fu n m 0 h = K n ((m + 1 : Nat) : Int) (m_sr h 140 (m_co m (h 140))) := by
  obtain ⟨f, e⟩ := m_fu3
  have g := fn287_36s (K := K) (f := f + 1 + 1 + 1) (n := n) (h := h) hm (show 0 < 3 by omega)
  rw [fn287_36s (f := f + 1 + 1) hm (show 0 + 1 < 3 by omega), fn287_36s (f := f + 1) hm (show 0 + 1 + 1 < 3 by omega)] at g
  simp only [m_sr_s, m_sr_sr] at g
  have e3 : ∀ h, fn287_36 K (f + 1) n m ((0 + 1 + 1 + 1 : Nat) : Int) h = K n ((m + 1 : Nat) : Int) h := fun h => by rw [fn287_36, if_pos (by omega), q_w32_id (by omega) (by omega), ← m_s1]
  rw [e3] at g
  rw [e]
  refine g.trans ?_
  congr 2
  unfold m_co
  rw [m_u_n (show 74 + 3 * m + (0 + 1) ≠ 47 + 0 by omega), m_u_n (show 74 + 3 * m + (0 + 1 + 1) ≠ 47 + (0 + 1) by omega), m_u_n (show 74 + 3 * m + (0 + 1 + 1) ≠ 47 + 0 by omega)]
  rfl
theorem fn287_6_m {p : Nat → Int} (ok : m_ok p) (nn : m_nn p) {n : Nat} (hn : (n : Int) ≤ p 4) : ∀ (d m f : Nat) (h : q_F), m + d = n → d < f → m_Plan h p → m_iv p (h 140) → fn287_6 f n m h = some ((m_mk p n d m (h 140)).1, m_sr h 140 (m_mk p n d m (h 140)).2) := by
  have h16 := ok.2.1
  intro d
  induction d with
  | zero =>
    intro m f h hm hf hP hi
    obtain ⟨f, rfl⟩ : ∃ f', f = f' + 1 := ⟨f - 1, by omega⟩
    have h4 := hi.2
    rw [fn287_6, if_pos (by omega), fn303_i (by omega) (by omega), Option.bind_some, show (4 : Int).toNat = 4 from rfl, q_w32_id (z := h 140 4) (by omega) (by omega), q_w32_id (z := h 140 4 - n) (by omega) (by omega), q_w32_id (z := 3 * (n : Int)) (by omega) (by omega), q_w32_id (z := 74 + 3 * (n : Int)) (by omega) (by omega), q_w32_id (z := 3 * (h 140 4 - n)) (by omega) (by omega), fn249_i (by omega) (by omega) (by omega) (by omega) (by omega) (by omega) (by omega) (by omega), Option.bind_some, m_ud_sr, m_let]
    dsimp only
    rw [m_sr_s, m_sr_sr]
    unfold m_mk m_fin
    rw [show (74 + 3 * (n : Int)).toNat = 74 + 3 * n by omega, show (74 : Int).toNat = 74 from rfl, show (3 * (h 140 4 - n)).toNat = 3 * (h 140 4 - n).toNat by omega]
  | succ d ih =>
    intro m f h hm hf hP hi
    obtain ⟨f, rfl⟩ : ∃ f', f = f' + 1 := ⟨f - 1, by omega⟩
    rw [fn287_6, if_neg (by omega), fn288_m ok nn hP (by omega) hi.1, Option.bind_some]
    unfold m_mk
    simp only
    split
    · rw [m_ud_sr, m_let, fn342_m, Option.bind_some]
      dsimp only
      rw [m_sr_s, m_sr_sr, m_sr_s, m_sr_sr]
    · rw [fn287_36_m (by omega), m_sr_s, m_sr_sr, ih (m + 1) f _ (by omega) (by omega) (m_Plan_sr hP) (by rw [m_sr_s]; exact m_co_iv (m_fr_iv hi (m_mm_fr _))), m_sr_s, m_sr_sr]
/-- only the row and the cells of the plan have changed -/
def m_fq (h h' : q_F) : Prop := ∀ k, k ≠ 140 → (k < 145 ∨ 149 < k) → h' k = h k
theorem m_ok_row {w : Nat → Int} (ok : m_ok w) : m_row w := ⟨by have := ok.1; omega, fun a ha => by have := ok.2.2.1 a ha; omega⟩
theorem fn287_m {w : Nat → Int} {h : q_F} (hw : h 140 = w) (ok : m_ok w) (nn : m_nn w) {n : Nat} (hn : (n : Int) ≤ w 4) : ∃ h', fn287 n h = some ((m_run n w).1, h') ∧ h' 140 = (m_run n w).2 ∧ m_fq h h' := by
  obtain ⟨h1, g1, g2, g3⟩ := fn278_m hw ok nn
  have e : h1 140 = w := by rw [g3 140 (by omega)]; exact hw
  have g := fn287_6_m ok nn hn n 0 q_fu h1 (by omega) (by have := q_fu_ge; have := ok.2.1; omega) g2 (by rw [e]; exact ⟨m_ok_row ok, rfl⟩)
  rw [e] at g
  refine ⟨m_sr h1 140 (m_run n w).2, ?_, m_sr_s .., fun k hk hk2 => ?_⟩
  · rw [fn287, g1, Option.bind_some]; exact g
  · rw [m_sr_n hk]; exact g3 k hk2
-- the row behind a run keeps what it must
theorem m_fr_ok {w w' : Nat → Int} (ok : m_ok w) (hf : m_fr w w') : m_ok w' := by
  obtain ⟨h0, h1, h2, h3⟩ := ok
  refine ⟨?_, ?_, fun a ha => ?_, fun j hj hj2 => ?_⟩
  · rw [hf 0 (by unfold m_dy; omega)]; exact h0
  · rw [hf 4 (by unfold m_dy; omega)]; exact h1
  · rw [hf (8 + a) (by unfold m_dy; omega), hf (11 + a) (by unfold m_dy; omega), hf (14 + a) (by unfold m_dy; omega), hf (17 + a) (by unfold m_dy; omega), hf (47 + a) (by unfold m_dy; omega)]; exact h2 a ha
  · rw [hf j (by unfold m_dy; omega)]; exact h3 j hj hj2
theorem m_stops_ok {w : Nat → Int} (ok : m_ok w) : m_ok (m_stops w) := by
  obtain ⟨h0, h1, h2, h3⟩ := ok
  unfold m_stops
  refine ⟨by simpa [m_u] using h0, by simp [m_u], fun a ha => ?_, fun j hj hj2 => ?_⟩
  · have := h2 a ha
    rcases m_c3 ha with rfl | rfl | rfl <;> simpa [m_u] using this
  · rw [m_u_n (by omega), m_u_n (by omega), m_u_n (by omega), m_u_n (by omega)]; exact h3 j hj hj2
theorem m_stops_nn (w : Nat → Int) : m_nn (m_stops w) := by
  intro m hm
  have : m_stops w 4 = 0 := by simp [m_stops, m_u]
  omega
theorem m_co_ok {w : Nat → Int} {m : Nat} (ok : m_ok w) (hm : m < 16) : m_ok (m_co m w) := by
  obtain ⟨h0, h1, h2, h3⟩ := ok
  have t0 := h3 (74 + 3 * m) (by omega) (by omega)
  have t1 := h3 (74 + 3 * m + 1) (by omega) (by omega)
  have t2 := h3 (74 + 3 * m + 2) (by omega) (by omega)
  unfold m_co
  refine ⟨by simpa [m_u] using h0, by simpa [m_u] using h1, fun a ha => ?_, fun j hj hj2 => ?_⟩
  · have := h2 a ha
    rcases m_c3 ha with rfl | rfl | rfl <;> simp [m_u] <;> (simp at this; omega)
  · rw [m_u_n (by omega), m_u_n (by omega), m_u_n (by omega)]; exact h3 j hj hj2
