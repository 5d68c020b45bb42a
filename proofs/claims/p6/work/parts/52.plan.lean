/-! Part 52: the reference's plan of the queue, gone on with: the speeds between the moves. -/
theorem m_idv {a b : Int} (h0 : 0 ≤ a) (h1 : a < 2147483648) (h2 : 0 < b) (h3 : b < 2147483648) : q_idv a b = a / b := by
  unfold q_idv
  rw [Int32.toInt_div, q_w32_m, q_w32_m, q_w32_id (by omega) (by omega), q_w32_id (by omega) (by omega), Int.tdiv_eq_ediv_of_nonneg h0]
  have g0 : 0 ≤ a / b := Int.ediv_nonneg h0 (by omega)
  have g1 : a / b ≤ a := Int.ediv_le_self b h0
  exact Int.bmod_eq_of_le (by omega) (by omega)
theorem m_ldv {a b : Int} (h0 : 0 ≤ a) (h1 : a < 9223372036854775808) (h2 : 0 < b) (h3 : b < 9223372036854775808) : q_ldv a b = a / b := by
  unfold q_ldv
  rw [Int64.toInt_div, q_w64_m, q_w64_m, q_w64_id (by omega) (by omega), q_w64_id (by omega) (by omega), Int.tdiv_eq_ediv_of_nonneg h0]
  have g0 : 0 ≤ a / b := Int.ediv_nonneg h0 (by omega)
  have g1 : a / b ≤ a := Int.ediv_le_self b h0
  exact Int.bmod_eq_of_le (by omega) (by omega)
/-- some axis moves -/
def m_mv (w : Nat → Int) (m : Nat) : Prop := m_d w m 0 ≠ 0 ∨ m_d w m 1 ≠ 0 ∨ m_d w m 2 ≠ 0
theorem m_abs_z {z : Int} : m_abs z = 0 ↔ z = 0 := by unfold m_abs; split <;> omega
theorem m_l_1 {w : Nat → Int} (ok : m_ok w) {m : Nat} (hm : m < 16) (hv : m_mv w m) : 1 ≤ m_l w m := by
  have h := m_l_r ok hm
  have a0 := m_abs_0 (m_d w m 0); have a1 := m_abs_0 (m_d w m 1); have a2 := m_abs_0 (m_d w m 2)
  rcases hv with e | e | e
  · have := mt m_abs_z.mp e; omega
  · have := mt m_abs_z.mp e; omega
  · have := mt m_abs_z.mp e; omega
/-- the lead is the way of some axis -/
theorem m_l_ax {w : Nat → Int} (ok : m_ok w) {m : Nat} (hm : m < 16) : m_l w m = m_abs (m_d w m 0) ∨ m_l w m = m_abs (m_d w m 1) ∨ m_l w m = m_abs (m_d w m 2) := by
  have a0 := m_abs_0 (m_d w m 0); have a1 := m_abs_0 (m_d w m 1); have a2 := m_abs_0 (m_d w m 2)
  unfold m_l qx_mx
  (repeat' split) <;> omega
/-- one axis' share of the cruise or gain -/
theorem m_cs {t l d k : Int} (ht : 1 ≤ t) (htk : t ≤ k) (hk : k ≤ 5000) (hl : l ≤ 2000) (hd : 1 ≤ d) (hdl : d ≤ l) : 1 ≤ q_idv (t * l) d ∧ (d = l → q_idv (t * l) d ≤ k) := by
  have hp := m_mulr (x := t) (l := l) (a := 5000) (b := 2000) (by omega) (by omega) (by omega) (by omega)
  have hle : d ≤ t * l := by
    have := Int.mul_le_mul_of_nonneg_right ht (show 0 ≤ l by omega)
    omega
  rw [m_idv hp.1 (by omega) (by omega) (by omega)]
  refine ⟨(Int.le_ediv_iff_mul_le (by omega)).mpr (by omega), fun e => ?_⟩
  subst e
  rw [Int.mul_ediv_cancel _ (by omega)]
  exact htk
theorem m_cf_s {w : Nat → Int} {kk m a : Nat} {c k : Int} {X : Prop} (ok : m_ok w) (hm : m < 16) (ha : a < 3) (h1 : 1 ≤ w (kk + a)) (h2 : w (kk + a) ≤ k) (hk : k ≤ 5000) (hc : c = -1 ∨ 1 ≤ c) (hX : X → 1 ≤ c ∧ c ≤ k) :
    (m_cf w kk m a c = -1 ∨ 1 ≤ m_cf w kk m a c) ∧ ((X ∨ (m_l w m = m_abs (m_d w m a) ∧ 1 ≤ m_l w m)) → 1 ≤ m_cf w kk m a c ∧ m_cf w kk m a c ≤ k) := by
  have hl := m_l_r ok hm
  have hle : m_abs (m_d w m a) ≤ m_l w m := by
    rcases m_c3 ha with rfl | rfl | rfl
    · exact hl.2.2.1
    · exact hl.2.2.2.1
    · exact hl.2.2.2.2
  have h0 := m_abs_0 (m_d w m a)
  unfold m_cf
  split
  · rename_i e
    exact ⟨hc, fun h => by rcases h with h | ⟨h, h'⟩; exact hX h; omega⟩
  · rename_i e
    obtain ⟨g1, g2⟩ := m_cs (l := m_l w m) (d := m_abs (m_d w m a)) h1 h2 hk hl.2.1 (by omega) hle
    split
    · rename_i e2
      refine ⟨Or.inr g1, fun h => ?_⟩
      rcases h with h | ⟨h, h'⟩
      · have := hX h; omega
      · exact ⟨g1, g2 h.symm⟩
    · rename_i e2
      unfold qx_mn
      refine ⟨Or.inr (by split <;> omega), fun h => ?_⟩
      rcases h with h | ⟨h, h'⟩
      · have := hX h; split <;> omega
      · have := g2 h.symm; split <;> omega
theorem m_c_r {w : Nat → Int} {kk m : Nat} {k : Int} (ok : m_ok w) (hm : m < 16) (hv : m_mv w m) (h1 : ∀ a, a < 3 → 1 ≤ w (kk + a) ∧ w (kk + a) ≤ k) (hk : k ≤ 5000) : 1 ≤ m_c w kk m ∧ m_c w kk m ≤ k := by
  have hl1 := m_l_1 ok hm hv
  have s0 := m_cf_s (X := False) (c := -1) ok hm (show 0 < 3 by omega) (h1 0 (by omega)).1 (h1 0 (by omega)).2 hk (Or.inl rfl) (fun h => h.elim)
  have s1 := m_cf_s (X := False ∨ (m_l w m = m_abs (m_d w m 0) ∧ 1 ≤ m_l w m)) ok hm (show 1 < 3 by omega) (h1 1 (by omega)).1 (h1 1 (by omega)).2 hk s0.1 s0.2
  have s2 := m_cf_s (X := (False ∨ (m_l w m = m_abs (m_d w m 0) ∧ 1 ≤ m_l w m)) ∨ (m_l w m = m_abs (m_d w m 1) ∧ 1 ≤ m_l w m)) ok hm (show 2 < 3 by omega) (h1 2 (by omega)).1 (h1 2 (by omega)).2 hk s1.1 s1.2
  refine s2.2 ?_
  rcases m_l_ax ok hm with e | e | e
  · exact Or.inl (Or.inl (Or.inr ⟨e, hl1⟩))
  · exact Or.inl (Or.inr ⟨e, hl1⟩)
  · exact Or.inr ⟨e, hl1⟩
theorem m_cru_r {w : Nat → Int} {m : Nat} (ok : m_ok w) (hm : m < 16) (hv : m_mv w m) : 1 ≤ m_c w 14 m ∧ m_c w 14 m ≤ 5000 := m_c_r ok hm hv (fun a ha => by have := ok.2.2.1 a ha; omega) (by omega)
theorem m_gain_r {w : Nat → Int} {m : Nat} (ok : m_ok w) (hm : m < 16) (hv : m_mv w m) : 1 ≤ m_c w 17 m ∧ m_c w 17 m ≤ 500 := m_c_r ok hm hv (fun a ha => by have := ok.2.2.1 a ha; omega) (by omega)
