/-! Part 81: whether a move leads nowhere, on both sides. -/
theorem r_nws {K : Int → Option Int} {h : q_F} {w : Nat → Int} {m a f : Nat} {x : Int} (hw : h 140 = w) (ok : m_ok w) (hm : m < 16) (ha : a < 3) (hx : x = 0 ∨ x = 1) :
    fn279_18 K h (f + 1) m x a = fn279_18 K h f m (if x = 0 then 0 else if m_beg w m a = m_beg w (m + 1) a then 1 else 0) ((a + 1 : Nat) : Int) := by
  rw [fn279_18, if_neg (by omega)]
  rcases hx with rfl | rfl
  · rw [if_pos rfl, if_pos rfl, fn279_48, fn279_49, q_w32_id (by omega) (by omega), ← m_s1]
  · rw [if_neg (by decide), if_neg (by decide), fn240_i hw ok (by omega) (by omega) (by omega) (by omega), Option.bind_some, q_w32_id (z := (m : Int) + 1) (by omega) (by omega), fn240_i hw ok (by omega) (by omega) (by omega) (by omega), Option.bind_some, m_tn1, Int.toNat_natCast, Int.toNat_natCast, fn279_48, fn279_49, fn279_49, q_w32_id (z := (a : Int) + 1) (by omega) (by omega), ← m_s1]
    split <;> rfl
theorem m_mv_beg {w : Nat → Int} {m : Nat} : m_mv w m ↔ ¬ (m_beg w m 0 = m_beg w (m + 1) 0 ∧ m_beg w m 1 = m_beg w (m + 1) 1 ∧ m_beg w m 2 = m_beg w (m + 1) 2) := by
  unfold m_mv m_d
  omega
theorem m_nest {A B C : Prop} [Decidable A] [Decidable B] [Decidable C] : (if (if (if A then (1 : Int) else 0) = 0 then (0 : Int) else if B then 1 else 0) = 0 then (0 : Int) else if C then 1 else 0) = if A ∧ B ∧ C then 1 else 0 := by
  by_cases a : A <;> by_cases b : B <;> by_cases c : C <;> simp [a, b, c]
theorem r_nw1 {K : Int → Option Int} {h : q_F} {w : Nat → Int} {m : Nat} (hw : h 140 = w) (ok : m_ok w) (hm : m < 16) :
    (m_mv w m → fn279_18 K h q_fu m 1 0 = K ((m + 1 : Nat) : Int)) ∧ (¬ m_mv w m → fn279_18 K h q_fu m 1 0 = some 1) := by
  obtain ⟨n, e⟩ := m_fu3
  rw [e]
  have g0 := r_nws (K := K) (f := n + 1 + 1 + 1) (x := 1) hw ok hm (show 0 < 3 by omega) (Or.inr rfl)
  rw [if_neg (by decide)] at g0
  have z0 : (if m_beg w m 0 = m_beg w (m + 1) 0 then (1 : Int) else 0) = 0 ∨ (if m_beg w m 0 = m_beg w (m + 1) 0 then (1 : Int) else 0) = 1 := by split <;> simp
  rw [r_nws (f := n + 1 + 1) hw ok hm (show 0 + 1 < 3 by omega) z0] at g0
  have z1 : ∀ x y : Int, x = 0 ∨ x = 1 → (if x = 0 then (0 : Int) else if m_beg w m (0 + 1) = m_beg w (m + 1) (0 + 1) then 1 else 0) = 0 ∨ (if x = 0 then (0 : Int) else if m_beg w m (0 + 1) = m_beg w (m + 1) (0 + 1) then 1 else 0) = 1 := fun x y hx => by (repeat' split) <;> simp
  rw [r_nws (f := n + 1) hw ok hm (show 0 + 1 + 1 < 3 by omega) (z1 _ 0 z0)] at g0
  have en : ∀ x : Int, fn279_18 K h (n + 1) m x ((0 + 1 + 1 + 1 : Nat) : Int) = if x = 0 then K ((m + 1 : Nat) : Int) else some 1 := fun x => by
    rw [fn279_18, if_pos (by omega), q_w32_id (by omega) (by omega), ← m_s1]
  rw [en] at g0
  rw [m_mv_beg]
  refine ⟨fun hv => g0.trans ?_, fun hv => g0.trans ?_⟩
  · rw [m_nest, if_neg hv, if_pos rfl]
  · rw [m_nest, if_pos (Decidable.not_not.mp hv), if_neg (show ¬ (1 : Int) = 0 by decide)]
theorem r_nwl {h : q_F} {w : Nat → Int} (hw : h 140 = w) (ok : m_ok w) : ∀ (d m f : Nat), m + d = (w 4).toNat → d < f → (∀ k, k < m → m_mv w k) → ∃ z, fn279_2 h f m = some z ∧ ((z = 0 ∧ m_nn w) ∨ (z = 1 ∧ ¬ m_nn w)) := by
  have h16 := ok.2.1
  intro d
  induction d with
  | zero =>
    intro m f hm hf hk
    obtain ⟨f, rfl⟩ : ∃ f', f = f' + 1 := ⟨f - 1, by omega⟩
    exact ⟨0, by rw [fn279_2, hw, if_pos (by omega)], Or.inl ⟨rfl, fun k hk2 => hk k (by omega)⟩⟩
  | succ d ih =>
    intro m f hm hf hk
    obtain ⟨f, rfl⟩ : ∃ f', f = f' + 1 := ⟨f - 1, by omega⟩
    rw [fn279_2, hw, if_neg (by omega)]
    obtain ⟨g1, g2⟩ := r_nw1 (K := fn279_2 h f) (m := m) hw ok (by omega)
    by_cases hv : m_mv w m
    · rw [g1 hv]
      exact ih (m + 1) f (by omega) (by omega) (fun k hk2 => by
        by_cases e : k = m
        · subst e; exact hv
        · exact hk k (by omega))
    · rw [g2 hv]
      exact ⟨1, rfl, Or.inr ⟨rfl, fun nn => hv (nn m (by omega))⟩⟩
theorem r_nw {h : q_F} {w : Nat → Int} (hw : h 140 = w) (ok : m_ok w) : ∃ z, fn279 h = some z ∧ ((z = 0 ∧ m_nn w) ∨ (z = 1 ∧ ¬ m_nn w)) :=
  r_nwl hw ok (w 4).toNat 0 q_fu (by omega) (by have := q_fu_ge; have := ok.2.1; omega) (fun k hk => absurd hk (Nat.not_lt_zero k))
/-- a row of targets beside a table's row -/
def c_pt (h : q_F) (g : Nat) (w : Nat → Int) : Prop := h g 1 = w 4 ∧ ∀ j, j < 3 * (w 4).toNat → h (g + 1) j = w (74 + j)
theorem c_pget {h : q_F} {g m a : Nat} {w : Nat → Int} (hp : c_pt h g w) (h4 : w 4 ≤ 16) (hm : (m : Int) < w 4) (ha : a < 3) : fn148 g m a h = some (m_beg w (m + 1) a) := by
  rw [fn148, q_w32_id (z := (m : Int) * 3) (by omega) (by omega), q_w32_id (z := (m : Int) * 3 + a) (by omega) (by omega), c_ent (by omega) (by omega), Option.bind_some, show ((m : Int) * 3 + a).toNat = 3 * m + a by omega, hp.2 _ (by omega)]
  unfold m_beg
  rw [if_neg (by omega)]
  congr 2; omega
theorem c_nws {K4 : Int → Int → Option Int} {h : q_F} {t g : Nat} {w : Nat → Int} {m a f : Nat} {u x : Int} (hp : c_pt h g w) (h4 : w 4 ≤ 16) (hc : ∀ a, a < 3 → h (t + 1 + 2 * a) 12 = w (47 + a)) (hm : (m : Int) < w 4) (ha : a < 3) (hx : x = 0 ∨ x = 1) :
    fn135_18 t g K4 h (f + 1) u m x a = fn135_18 t g K4 h f u m (if x = 0 then 0 else if m_beg w m a = m_beg w (m + 1) a then 1 else 0) ((a + 1 : Nat) : Int) := by
  have tail : ∀ K18 : Int → Int → Int → Int → Option Int, ∀ p0, fn135_49 t g K4 K18 u m x a p0 h = K18 u m (if x = 0 then 0 else if p0 = m_beg w (m + 1) a then 1 else 0) ((a + 1 : Nat) : Int) := fun K18 p0 => by
    rw [fn135_49, fn135_72, fn135_73, fn135_73, q_w32_id (z := (a : Int) + 1) (by omega) (by omega), ← m_s1]
    rcases hx with rfl | rfl
    · rw [if_pos rfl, if_pos rfl]
    · rw [if_neg (by decide), if_neg (by decide), c_pget hp h4 hm ha, Option.bind_some]
      split <;> rfl
  rw [fn135_18, if_neg (by omega), tail]
  by_cases e : m = 0
  · subst e
    rw [if_pos (by omega), q_axn_e ha, hc a ha]
    have : m_beg w 0 a = w (47 + a) := by unfold m_beg; rw [if_pos rfl]
    rw [this]
  · rw [if_neg (by omega), q_w32_id (z := (m : Int) - 1) (by omega) (by omega), show (m : Int) - 1 = ((m - 1 : Nat) : Int) by omega, c_pget hp h4 (by omega) ha, Option.bind_some, tail, show m - 1 + 1 = m by omega]
theorem c_nw1 {K4 : Int → Int → Option Int} {h : q_F} {t g : Nat} {w : Nat → Int} {m : Nat} {u : Int} (hp : c_pt h g w) (h4 : w 4 ≤ 16) (hc : ∀ a, a < 3 → h (t + 1 + 2 * a) 12 = w (47 + a)) (hm : (m : Int) < w 4) (hu : u = 0 ∨ u = 1) :
    (m_mv w m → fn135_18 t g K4 h q_fu u m 1 0 = K4 u ((m + 1 : Nat) : Int)) ∧ (¬ m_mv w m → fn135_18 t g K4 h q_fu u m 1 0 = K4 1 ((m + 1 : Nat) : Int)) := by
  obtain ⟨n, e⟩ := m_fu3
  rw [e]
  have g0 := c_nws (K4 := K4) (u := u) (f := n + 1 + 1 + 1) (x := 1) hp h4 hc hm (show 0 < 3 by omega) (Or.inr rfl)
  rw [if_neg (by decide)] at g0
  have z0 : (if m_beg w m 0 = m_beg w (m + 1) 0 then (1 : Int) else 0) = 0 ∨ (if m_beg w m 0 = m_beg w (m + 1) 0 then (1 : Int) else 0) = 1 := by split <;> simp
  rw [c_nws (f := n + 1 + 1) hp h4 hc hm (show 0 + 1 < 3 by omega) z0] at g0
  have z1 : ∀ x : Int, (if x = 0 then (0 : Int) else if m_beg w m (0 + 1) = m_beg w (m + 1) (0 + 1) then 1 else 0) = 0 ∨ (if x = 0 then (0 : Int) else if m_beg w m (0 + 1) = m_beg w (m + 1) (0 + 1) then 1 else 0) = 1 := fun x => by (repeat' split) <;> simp
  rw [c_nws (f := n + 1) hp h4 hc hm (show 0 + 1 + 1 < 3 by omega) (z1 _)] at g0
  have en : ∀ x : Int, fn135_18 t g K4 h (n + 1) u m x ((0 + 1 + 1 + 1 : Nat) : Int) = if x = 0 then K4 u ((m + 1 : Nat) : Int) else K4 1 ((m + 1 : Nat) : Int) := fun x => by
    rw [fn135_18, if_pos (by omega), fn135_90, fn135_95, fn135_95, q_w32_id (by omega) (by omega), ← m_s1]
    rcases hu with rfl | rfl
    · rw [if_pos rfl]
    · rw [if_neg (by decide), ite_self]
  rw [en] at g0
  rw [m_mv_beg]
  refine ⟨fun hv => g0.trans ?_, fun hv => g0.trans ?_⟩
  · rw [m_nest, if_neg hv, if_pos rfl]
  · rw [m_nest, if_pos (Decidable.not_not.mp hv), if_neg (show ¬ (1 : Int) = 0 by decide)]
theorem c_nwl {h : q_F} {t g : Nat} {w : Nat → Int} (hp : c_pt h g w) (h4 : 0 ≤ w 4 ∧ w 4 ≤ 16) (hc : ∀ a, a < 3 → h (t + 1 + 2 * a) 12 = w (47 + a)) : ∀ (d m f : Nat) (u : Int), m + d = (w 4).toNat → d < f → ((u = 0 ∧ ∀ k, k < m → m_mv w k) ∨ (u = 1 ∧ ¬ ∀ k, k < m → m_mv w k)) → ∃ z, fn135_4 t g h f u m = some z ∧ ((z = 0 ∧ m_nn w) ∨ (z = 1 ∧ ¬ m_nn w)) := by
  intro d
  induction d with
  | zero =>
    intro m f u hm hf hk
    obtain ⟨f, rfl⟩ : ∃ f', f = f' + 1 := ⟨f - 1, by omega⟩
    refine ⟨u, by rw [fn135_4, hp.1, if_pos (by omega)], ?_⟩
    rcases hk with ⟨e, hk⟩ | ⟨e, hk⟩
    · exact Or.inl ⟨e, fun k hk2 => hk k (by omega)⟩
    · exact Or.inr ⟨e, fun nn => hk fun k hk2 => nn k (by omega)⟩
  | succ d ih =>
    intro m f u hm hf hk
    obtain ⟨f, rfl⟩ : ∃ f', f = f' + 1 := ⟨f - 1, by omega⟩
    rw [fn135_4, hp.1, if_neg (by omega)]
    obtain ⟨g1, g2⟩ := c_nw1 (K4 := fn135_4 t g h f) (m := m) (u := u) hp h4.2 hc (by omega) (by omega)
    by_cases hv : m_mv w m
    · rw [g1 hv]
      refine ih (m + 1) f u (by omega) (by omega) ?_
      rcases hk with ⟨e, hk⟩ | ⟨e, hk⟩
      · exact Or.inl ⟨e, fun k hk2 => by
          by_cases e : k = m
          · subst e; exact hv
          · exact hk k (by omega)⟩
      · exact Or.inr ⟨e, fun nn => hk fun k hk2 => nn k (by omega)⟩
    · rw [g2 hv]
      exact ih (m + 1) f 1 (by omega) (by omega) (Or.inr ⟨rfl, fun nn => hv (nn m (by omega))⟩)
theorem c_nw {h : q_F} {t g : Nat} {w : Nat → Int} (hp : c_pt h g w) (h4 : 0 ≤ w 4 ∧ w 4 ≤ 16) (hc : ∀ a, a < 3 → h (t + 1 + 2 * a) 12 = w (47 + a)) : ∃ z, fn135 t g h = some z ∧ ((z = 0 ∧ m_nn w) ∨ (z = 1 ∧ ¬ m_nn w)) :=
  c_nwl hp h4 hc (w 4).toNat 0 q_fu 0 (by omega) (by have := q_fu_ge; omega) (Or.inl ⟨rfl, fun k hk => absurd hk (Nat.not_lt_zero k)⟩)
