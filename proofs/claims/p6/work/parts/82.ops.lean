/-! Part 82: targets put in, taken out, swapped, on both sides. -/
theorem m_cp_up {w : Nat → Int} {b k n : Nat} (h1 : 1 ≤ k) (h2 : k ≤ n) : m_cp (m_cp w w (b + 3 * k) (b + 3 * (k + 1)) (3 * (n - k))) (m_cp w w (b + 3 * k) (b + 3 * (k + 1)) (3 * (n - k))) (b + 3 * (k - 1)) (b + 3 * k) 3 = m_cp w w (b + 3 * (k - 1)) (b + 3 * k) (3 * (n - (k - 1))) := by
  funext j
  unfold m_cp
  by_cases c1 : b + 3 * k ≤ j ∧ j < b + 3 * k + 3
  · rw [if_pos c1, if_neg (by omega), if_pos (by omega)]
  · rw [if_neg c1]
    by_cases c2 : b + 3 * (k + 1) ≤ j ∧ j < b + 3 * (k + 1) + 3 * (n - k)
    · rw [if_pos c2, if_pos (by omega)]; congr 1; omega
    · rw [if_neg c2, if_neg (by omega)]
theorem m_cp_dn {w : Nat → Int} {b k i : Nat} (h1 : i ≤ k) : m_cp (m_cp w w (b + 3 * (i + 1)) (b + 3 * i) (3 * (k - i))) (m_cp w w (b + 3 * (i + 1)) (b + 3 * i) (3 * (k - i))) (b + 3 * (k + 1)) (b + 3 * k) 3 = m_cp w w (b + 3 * (i + 1)) (b + 3 * i) (3 * (k + 1 - i)) := by
  funext j
  unfold m_cp
  by_cases c1 : b + 3 * k ≤ j ∧ j < b + 3 * k + 3
  · rw [if_pos c1, if_neg (by omega), if_pos (by omega)]; congr 1; omega
  · rw [if_neg c1]
    by_cases c2 : b + 3 * i ≤ j ∧ j < b + 3 * i + 3 * (k - i)
    · rw [if_pos c2, if_pos (by omega)]
    · rw [if_neg c2, if_neg (by omega)]
theorem m_pt_is (s d : Nat) (v : Nat → Int) : m_pt s d v = m_cp v v (3 * s) (3 * d) 3 := by
  funext j
  unfold m_pt m_cp m_u
  by_cases c2 : j = 3 * d + 2
  · rw [if_pos c2, if_pos (by omega)]; congr 1; omega
  · rw [if_neg c2]
    by_cases c1 : j = 3 * d + 1
    · rw [if_pos c1, if_pos (by omega)]; congr 1; omega
    · rw [if_neg c1]
      by_cases c0 : j = 3 * d + 0
      · rw [if_pos c0, if_pos (by omega)]; congr 1; omega
      · rw [if_neg c0, if_neg (by omega)]
def m_put (i : Nat) (x y z : Int) (w : Nat → Int) : Nat → Int := m_u (m_u (m_u (m_u (m_cp w w (74 + 3 * i) (74 + 3 * (i + 1)) (3 * ((w 4).toNat - i))) (74 + 3 * i) x) (74 + 3 * i + 1) y) (74 + 3 * i + 2) z) 4 (w 4 + 1)
def m_tko (i : Nat) (w : Nat → Int) : Nat → Int := m_u (m_cp w w (74 + 3 * (i + 1)) (74 + 3 * i) (3 * ((w 4).toNat - 1 - i))) 4 (w 4 - 1)
def m_sw1 (m o a : Nat) (w : Nat → Int) : Nat → Int := m_u (m_u w (74 + 3 * m + a) (w (74 + 3 * o + a))) (74 + 3 * o + a) (w (74 + 3 * m + a))
def m_swp (m o : Nat) (w : Nat → Int) : Nat → Int := m_sw1 m o 2 (m_sw1 m o 1 (m_sw1 m o 0 w))
theorem m_put_lo {i : Nat} {x y z : Int} {w : Nat → Int} {j : Nat} (h1 : j < 74) (h2 : j ≠ 4) : m_put i x y z w j = w j := by
  unfold m_put; rw [m_u_n h2, m_u_n (by omega), m_u_n (by omega), m_u_n (by omega)]; unfold m_cp; rw [if_neg (by omega)]
theorem m_put_hi {i : Nat} {x y z : Int} {w : Nat → Int} {j : Nat} (h : 122 ≤ j) (h4 : 0 ≤ w 4 ∧ w 4 < 16) (hi : (i : Int) ≤ w 4) : m_put i x y z w j = w j := by
  unfold m_put; rw [m_u_n (by omega), m_u_n (by omega), m_u_n (by omega), m_u_n (by omega)]; unfold m_cp; rw [if_neg (by omega)]
theorem m_tko_lo {i : Nat} {w : Nat → Int} {j : Nat} (h1 : j < 74) (h2 : j ≠ 4) : m_tko i w j = w j := by
  unfold m_tko; rw [m_u_n h2]; unfold m_cp; rw [if_neg (by omega)]
theorem m_tko_hi {i : Nat} {w : Nat → Int} {j : Nat} (h : 122 ≤ j) (h4 : 0 ≤ w 4 ∧ w 4 ≤ 16) (hi : (i : Int) < w 4) : m_tko i w j = w j := by
  unfold m_tko; rw [m_u_n (by omega)]; unfold m_cp; rw [if_neg (by omega)]
theorem m_swp_o {m o : Nat} {w : Nat → Int} {j : Nat} (h : j < 74 ∨ 122 ≤ j) (hm : m < 16) (ho : o < 16) : m_swp m o w j = w j := by
  unfold m_swp m_sw1
  rw [m_u_n (by omega), m_u_n (by omega), m_u_n (by omega), m_u_n (by omega), m_u_n (by omega), m_u_n (by omega)]
-- the reference
theorem r_puts {i : Nat} {x y z : Int} {w : Nat → Int} (h4 : 0 ≤ w 4 ∧ w 4 < 16) : ∀ (d f : Nat) (h : q_F), i + d ≤ (w 4).toNat → d < f → h 140 = m_cp w w (74 + 3 * (i + d)) (74 + 3 * (i + d + 1)) (3 * ((w 4).toNat - (i + d))) → fn308_7 f i x y z ((i + d : Nat) : Int) h = some (0, m_sr h 140 (m_put i x y z w)) := by
  intro d
  induction d with
  | zero =>
    intro f h hd hf hw
    obtain ⟨f, rfl⟩ : ∃ f', f = f' + 1 := ⟨f - 1, by omega⟩
    have e4 : h 140 4 = w 4 := by rw [hw]; unfold m_cp; rw [if_neg (by omega)]
    rw [fn308_7, if_pos (by omega), q_w32_id (z := 3 * (i : Int)) (by omega) (by omega), q_w32_id (z := 74 + 3 * (i : Int)) (by omega) (by omega), if_pos (by omega), m_let, q_w32_id (z := 74 + 3 * (i : Int) + 1) (by omega) (by omega), if_pos (by omega), m_let, q_w32_id (z := 74 + 3 * (i : Int) + 2) (by omega) (by omega), if_pos (by omega), m_let, m_let, q_ud_n (show ¬ (140 = 140 ∧ 4 = (74 + 3 * (i : Int) + 2).toNat) by omega), q_ud_n (show ¬ (140 = 140 ∧ 4 = (74 + 3 * (i : Int) + 1).toNat) by omega), q_ud_n (show ¬ (140 = 140 ∧ 4 = (74 + 3 * (i : Int)).toNat) by omega), e4, q_w64_id (by omega) (by omega)]
    simp only [m_ud_sr, m_sr_s, m_sr_sr]
    rw [show (74 + 3 * (i : Int) + 2).toNat = 74 + 3 * i + 2 by omega, show (74 + 3 * (i : Int) + 1).toNat = 74 + 3 * i + 1 by omega, show (74 + 3 * (i : Int)).toNat = 74 + 3 * i by omega, hw]
    rfl
  | succ d ih =>
    intro f h hd hf hw
    obtain ⟨f, rfl⟩ : ∃ f', f = f' + 1 := ⟨f - 1, by omega⟩
    rw [fn308_7, if_neg (by omega), q_w32_id (z := ((i + (d + 1) : Nat) : Int) - 1) (by omega) (by omega), q_w32_id (z := 3 * (((i + (d + 1) : Nat) : Int) - 1)) (by omega) (by omega), q_w32_id (z := 74 + 3 * (((i + (d + 1) : Nat) : Int) - 1)) (by omega) (by omega), q_w32_id (z := 3 * ((i + (d + 1) : Nat) : Int)) (by omega) (by omega), q_w32_id (z := 74 + 3 * ((i + (d + 1) : Nat) : Int)) (by omega) (by omega), fn249_i (by omega) (by omega) (by omega) (by omega) (by omega) (by omega) (by omega) (by omega), Option.bind_some]
    have g := ih f (m_sr h 140 (m_cp w w (74 + 3 * (i + d)) (74 + 3 * (i + d + 1)) (3 * ((w 4).toNat - (i + d))))) (by omega) (by omega) (m_sr_s _ _ _)
    rw [m_sr_sr] at g
    have up := m_cp_up (w := w) (b := 74) (k := i + (d + 1)) (n := (w 4).toNat) (by omega) hd
    rw [show i + (d + 1) - 1 = i + d by omega] at up
    rw [hw, show (74 + 3 * (((i + (d + 1) : Nat) : Int) - 1)).toNat = 74 + 3 * (i + d) by omega, show (74 + 3 * ((i + (d + 1) : Nat) : Int)).toNat = 74 + 3 * (i + (d + 1)) by omega, show (3 : Int).toNat = 3 from rfl, up, q_w32_id (by omega) (by omega), show ((i + (d + 1) : Nat) : Int) + -1 = ((i + d : Nat) : Int) by omega]
    exact g
theorem r_putT {i : Nat} {x y z : Int} {w : Nat → Int} {h : q_F} (hw : h 140 = w) (h4 : 0 ≤ w 4 ∧ w 4 < 16) (hi : (i : Int) ≤ w 4) : fn308 i x y z h = some (0, m_sr h 140 (m_put i x y z w)) := by
  have g := r_puts (i := i) (x := x) (y := y) (z := z) h4 ((w 4).toNat - i) q_fu h (by omega) (by have := q_fu_ge; omega) (by
    rw [hw, show i + ((w 4).toNat - i) = (w 4).toNat by omega, Nat.sub_self]; exact (m_cp_0 _ _ _ _).symm)
  rw [show i + ((w 4).toNat - i) = (w 4).toNat by omega, show (((w 4).toNat : Nat) : Int) = w 4 by omega] at g
  rw [fn308, r_of (v := w 4) (by omega) (by omega) (by rw [hw]; rfl) (by omega), Option.bind_some]
  exact g
theorem r_tkos {i : Nat} {w : Nat → Int} (h4 : 0 ≤ w 4 ∧ w 4 ≤ 16) : ∀ (d k f : Nat) (h : q_F), k + d + 1 = (w 4).toNat → i ≤ k → d < f → h 140 = m_cp w w (74 + 3 * (i + 1)) (74 + 3 * i) (3 * (k - i)) → fn349_2 f k h = some (0, m_sr h 140 (m_tko i w)) := by
  intro d
  induction d with
  | zero =>
    intro k f h hk hik hf hw
    obtain ⟨f, rfl⟩ : ∃ f', f = f' + 1 := ⟨f - 1, by omega⟩
    have e4 : h 140 4 = w 4 := by rw [hw]; unfold m_cp; rw [if_neg (by omega)]
    rw [fn349_2, e4, q_w32_id (z := (k : Int) + 1) (by omega) (by omega), if_pos (by omega), m_let, q_w64_id (by omega) (by omega), m_ud_sr, hw]
    unfold m_tko
    rw [show (w 4).toNat - 1 - i = k - i by omega]
  | succ d ih =>
    intro k f h hk hik hf hw
    obtain ⟨f, rfl⟩ : ∃ f', f = f' + 1 := ⟨f - 1, by omega⟩
    have e4 : h 140 4 = w 4 := by rw [hw]; unfold m_cp; rw [if_neg (by omega)]
    rw [fn349_2, e4, q_w32_id (z := (k : Int) + 1) (by omega) (by omega), if_neg (by omega), q_w32_id (z := 3 * ((k : Int) + 1)) (by omega) (by omega), q_w32_id (z := 74 + 3 * ((k : Int) + 1)) (by omega) (by omega), q_w32_id (z := 3 * (k : Int)) (by omega) (by omega), q_w32_id (z := 74 + 3 * (k : Int)) (by omega) (by omega), fn249_i (by omega) (by omega) (by omega) (by omega) (by omega) (by omega) (by omega) (by omega), Option.bind_some, hw, show (74 + 3 * ((k : Int) + 1)).toNat = 74 + 3 * (k + 1) by omega, show (74 + 3 * (k : Int)).toNat = 74 + 3 * k by omega, show (3 : Int).toNat = 3 from rfl, m_cp_dn hik, ← m_s1]
    have g := ih (k + 1) f (m_sr h 140 (m_cp w w (74 + 3 * (i + 1)) (74 + 3 * i) (3 * (k + 1 - i)))) (by omega) (by omega) (by omega) (m_sr_s _ _ _)
    rw [m_sr_sr] at g
    exact g
theorem r_tko {i : Nat} {w : Nat → Int} {h : q_F} (hw : h 140 = w) (h4 : 0 ≤ w 4 ∧ w 4 ≤ 16) (hi : (i : Int) < w 4) : fn349 i h = some (0, m_sr h 140 (m_tko i w)) :=
  r_tkos h4 ((w 4).toNat - 1 - i) i q_fu h (by omega) (by omega) (by have := q_fu_ge; omega) (by rw [hw, Nat.sub_self]; exact (m_cp_0 _ _ _ _).symm)
theorem r_sw1 {m o a f : Nat} {h : q_F} (hm : m < 16) (ho : o < 16) (ha : a < 3) : fn347_2 (f + 1) m o a h = fn347_2 f m o ((a + 1 : Nat) : Int) (m_sr h 140 (m_sw1 m o a (h 140))) := by
  rw [fn347_2, if_neg (by omega), q_w32_id (z := 3 * (m : Int)) (by omega) (by omega), q_w32_id (z := 74 + 3 * (m : Int)) (by omega) (by omega), q_w32_id (z := 74 + 3 * (m : Int) + a) (by omega) (by omega), q_w32_id (z := 3 * (o : Int)) (by omega) (by omega), q_w32_id (z := 74 + 3 * (o : Int)) (by omega) (by omega), q_w32_id (z := 74 + 3 * (o : Int) + a) (by omega) (by omega), if_pos (by omega), if_pos (by omega), if_pos (by omega), m_let, if_pos (by omega), m_let, q_w32_id (z := (a : Int) + 1) (by omega) (by omega), m_ud_sr, m_ud_sr, m_sr_s, m_sr_sr, show (74 + 3 * (m : Int) + a).toNat = 74 + 3 * m + a by omega, show (74 + 3 * (o : Int) + a).toNat = 74 + 3 * o + a by omega, ← m_s1]
  rfl
theorem r_swp {m o : Nat} {w : Nat → Int} {h : q_F} (hw : h 140 = w) (hm : m < 16) (ho : o < 16) : fn347 m o h = some (0, m_sr h 140 (m_swp m o w)) := by
  obtain ⟨n, e⟩ := m_fu3
  have g := r_sw1 (f := n + 1 + 1 + 1) (h := h) hm ho (show 0 < 3 by omega)
  rw [r_sw1 (f := n + 1 + 1) hm ho (show 0 + 1 < 3 by omega), r_sw1 (f := n + 1) hm ho (show 0 + 1 + 1 < 3 by omega)] at g
  simp only [m_sr_s, m_sr_sr] at g
  rw [fn347, e, ← hw]
  refine g.trans ?_
  rw [fn347_2, if_pos (by omega)]
  rfl
-- the class
theorem c_pset {g m a : Nat} {v : Int} {h : q_F} (hm : m < 16) (ha : a < 3) : fn154 g m a v h = some (0, q_ud h (g + 1) (3 * m + a) v) := by
  rw [fn154, q_w32_id (z := (m : Int) * 3) (by omega) (by omega), q_w32_id (z := (m : Int) * 3 + a) (by omega) (by omega), c_put (by omega) (by omega), Option.bind_some, show ((m : Int) * 3 + a).toNat = 3 * m + a by omega]
theorem c_pgr {g m a : Nat} {h : q_F} (hm : m < 16) (ha : a < 3) : fn148 g m a h = some (h (g + 1) (3 * m + a)) := by
  rw [fn148, q_w32_id (z := (m : Int) * 3) (by omega) (by omega), q_w32_id (z := (m : Int) * 3 + a) (by omega) (by omega), c_ent (by omega) (by omega), Option.bind_some, show ((m : Int) * 3 + a).toNat = 3 * m + a by omega]
theorem c_pcopy {h : q_F} {w : Nat → Int} (hc : c_tb h 6 w) (h4 : 0 ≤ w 4 ∧ w 4 ≤ 16) : ∃ h', fn144 135 13 h = some (0, h') ∧ c_pt h' 135 w ∧ c_fo 135 h h' := by
  have e : h 13 1 = w 4 := hc.2.2.1
  obtain ⟨h', g1, g2, g3, g4⟩ := c_cp144 (o := 135) (o1 := 13) (h := h) (by rw [e]; exact h4) (by omega) (by omega)
  rw [e] at g2 g3
  exact ⟨h', g1, ⟨g2, fun j hj => (g3 j hj).trans (hc.2.2.2 j hj)⟩, g4⟩
theorem c_putl {i n : Nat} {x y z : Int} {v : Nat → Int} {g : Nat} (hn : n < 16) : ∀ (d f : Nat) (h : q_F), i + d ≤ n → d < f → h g 1 = (n : Int) → h (g + 1) = m_cp v v (3 * (i + d)) (3 * (i + d + 1)) (3 * (n - (i + d))) →
    fn150_16 g f i x y z ((i + d : Nat) : Int) h = some (0, q_ud (m_sr h (g + 1) (m_u (m_u (m_u (m_cp v v (3 * i) (3 * (i + 1)) (3 * (n - i))) (3 * i) x) (3 * i + 1) y) (3 * i + 2) z)) g 1 ((n : Int) + 1)) := by
  intro d
  induction d with
  | zero =>
    intro f h hd hf h1 hv
    obtain ⟨f, rfl⟩ : ∃ f', f = f' + 1 := ⟨f - 1, by omega⟩
    have s0 : ∀ v h, fn154 g i 0 v h = some (0, q_ud h (g + 1) (3 * i) v) := fun v h => c_pset (a := 0) (by omega) (by omega)
    rw [fn150_16, if_pos (by omega), s0, Option.bind_some]
    dsimp only
    have s1 : ∀ v h, fn154 g i 1 v h = some (0, q_ud h (g + 1) (3 * i + 1) v) := fun v h => c_pset (a := 1) (by omega) (by omega)
    have s2 : ∀ v h, fn154 g i 2 v h = some (0, q_ud h (g + 1) (3 * i + 2) v) := fun v h => c_pset (a := 2) (by omega) (by omega)
    rw [s1, Option.bind_some]
    dsimp only
    rw [s2, Option.bind_some]
    dsimp only
    rw [m_let, q_ud_n (by omega), q_ud_n (by omega), q_ud_n (by omega), h1, q_w32_id (by omega) (by omega)]
    simp only [m_ud_sr, m_sr_s, m_sr_sr]
    rw [hv]
    rfl
  | succ d ih =>
    intro f h hd hf h1 hv
    obtain ⟨f, rfl⟩ : ∃ f', f = f' + 1 := ⟨f - 1, by omega⟩
    have up := m_cp_up (w := v) (b := 0) (k := i + (d + 1)) (n := n) (by omega) hd
    simp only [Nat.zero_add] at up
    rw [show i + (d + 1) - 1 = i + d by omega] at up
    have g2 := ih f (m_sr h (g + 1) (m_cp v v (3 * (i + d)) (3 * (i + d + 1)) (3 * (n - (i + d))))) (by omega) (by omega) (by rw [m_sr_n (by omega)]; exact h1) (m_sr_s _ _ _)
    rw [m_sr_sr] at g2
    rw [fn150_16, if_neg (by omega), q_w32_id (z := ((i + (d + 1) : Nat) : Int) - 1) (by omega) (by omega), show ((i + (d + 1) : Nat) : Int) - 1 = ((i + d : Nat) : Int) by omega, c_cp3 (by omega) (by omega), Option.bind_some, m_pt_is, hv, up, q_w32_id (by omega) (by omega), show ((i + (d + 1) : Nat) : Int) + -1 = ((i + d : Nat) : Int) by omega]
    exact g2
theorem c_pput {h : q_F} {g i : Nat} {x y z : Int} {w : Nat → Int} (hp : c_pt h g w) (h4 : 0 ≤ w 4 ∧ w 4 < 16) (hi : (i : Int) ≤ w 4) : ∃ h', fn150 g i x y z h = some (0, h') ∧ c_pt h' g (m_put i x y z w) ∧ c_fo g h h' := by
  have g1 := c_putl (i := i) (n := (w 4).toNat) (x := x) (y := y) (z := z) (v := h (g + 1)) (g := g) (by omega) ((w 4).toNat - i) q_fu h (by omega) (by have := q_fu_ge; omega) (by rw [hp.1]; omega) (by
    rw [show i + ((w 4).toNat - i) = (w 4).toNat by omega, Nat.sub_self]; exact (m_cp_0 _ _ _ _).symm)
  rw [show i + ((w 4).toNat - i) = (w 4).toNat by omega, show (((w 4).toNat : Nat) : Int) = w 4 by omega] at g1
  refine ⟨_, by rw [fn150, hp.1, if_pos h4.2]; exact g1, ⟨?_, fun j hj => ?_⟩, fun k k1 k2 => by funext j; rw [q_ud_n (by omega), m_sr_n k2]⟩
  · rw [q_ud_s]; unfold m_put; rw [m_u_s]
  · have e4 : m_put i x y z w 4 = w 4 + 1 := by unfold m_put; rw [m_u_s]
    rw [e4] at hj
    rw [q_ud_n (by omega), m_sr_s]
    unfold m_put
    rw [m_u_n (show 74 + j ≠ 4 by omega)]
    by_cases c2 : j = 3 * i + 2
    · subst c2; rw [m_u_s, show 74 + (3 * i + 2) = 74 + 3 * i + 2 by omega, m_u_s]
    · rw [m_u_n c2, m_u_n (show 74 + j ≠ 74 + 3 * i + 2 by omega)]
      by_cases c1 : j = 3 * i + 1
      · subst c1; rw [m_u_s, show 74 + (3 * i + 1) = 74 + 3 * i + 1 by omega, m_u_s]
      · rw [m_u_n c1, m_u_n (show 74 + j ≠ 74 + 3 * i + 1 by omega)]
        by_cases c0 : j = 3 * i
        · subst c0; rw [m_u_s, m_u_s]
        · rw [m_u_n c0, m_u_n (show 74 + j ≠ 74 + 3 * i by omega)]
          unfold m_cp
          by_cases c : 3 * (i + 1) ≤ j ∧ j < 3 * (i + 1) + 3 * ((w 4).toNat - i)
          · rw [if_pos c, if_pos (by omega), hp.2 _ (by omega)]; congr 1; omega
          · rw [if_neg c, if_neg (by omega), hp.2 _ (by omega)]
theorem c_tkol {i n : Nat} {v : Nat → Int} {g : Nat} (hn : n ≤ 16) (hi : i < n) : ∀ (d u f : Nat) (h : q_F), u + d = n → i < u → d < f → h g 1 = (n : Int) → h (g + 1) = m_cp v v (3 * (i + 1)) (3 * i) (3 * (u - 1 - i)) →
    fn152_4 g f u h = some (0, q_ud (m_sr h (g + 1) (m_cp v v (3 * (i + 1)) (3 * i) (3 * (n - 1 - i)))) g 1 ((n : Int) - 1)) := by
  intro d
  induction d with
  | zero =>
    intro u f h hu hiu hf h1 hv
    obtain ⟨f, rfl⟩ : ∃ f', f = f' + 1 := ⟨f - 1, by omega⟩
    obtain rfl : u = n := by omega
    have mx : qx_mx ((u : Int) - 1) 0 = (u : Int) - 1 := by unfold qx_mx; split <;> omega
    rw [fn152_4, h1, if_pos (by omega), m_let, q_w32_id (by omega) (by omega), mx, ← hv, m_sr_id]
  | succ d ih =>
    intro u f h hu hiu hf h1 hv
    obtain ⟨f, rfl⟩ : ∃ f', f = f' + 1 := ⟨f - 1, by omega⟩
    have dn := m_cp_dn (w := v) (b := 0) (k := u - 1) (i := i) (by omega)
    simp only [Nat.zero_add] at dn
    rw [show u - 1 + 1 = u by omega] at dn
    have g2 := ih (u + 1) f (m_sr h (g + 1) (m_cp v v (3 * (i + 1)) (3 * i) (3 * (u - i)))) (by omega) (by omega) (by omega) (by rw [m_sr_n (by omega)]; exact h1) (by rw [m_sr_s]; congr 1)
    rw [m_sr_sr] at g2
    rw [fn152_4, h1, if_neg (by omega), q_w32_id (z := (u : Int) - 1) (by omega) (by omega), show (u : Int) - 1 = ((u - 1 : Nat) : Int) by omega, c_cp3 (by omega) (by omega), Option.bind_some, m_pt_is, hv, dn, q_w32_id (by omega) (by omega), ← m_s1]
    exact g2
theorem c_ptko {h : q_F} {g i : Nat} {w : Nat → Int} (hp : c_pt h g w) (h4 : 0 ≤ w 4 ∧ w 4 ≤ 16) (hi : (i : Int) < w 4) : ∃ h', fn152 g i h = some (0, h') ∧ c_pt h' g (m_tko i w) ∧ c_fo g h h' := by
  have g1 := c_tkol (i := i) (n := (w 4).toNat) (v := h (g + 1)) (g := g) (by omega) (by omega) ((w 4).toNat - (i + 1)) (i + 1) q_fu h (by omega) (by omega) (by have := q_fu_ge; omega) (by rw [hp.1]; omega) (by
    rw [show i + 1 - 1 - i = 0 by omega]; exact (m_cp_0 _ _ _ _).symm)
  rw [show (((w 4).toNat : Nat) : Int) = w 4 by omega] at g1
  refine ⟨_, by rw [fn152, q_w32_id (by omega) (by omega), ← m_s1]; exact g1, ⟨?_, fun j hj => ?_⟩, fun k k1 k2 => by funext j; rw [q_ud_n (by omega), m_sr_n k2]⟩
  · rw [q_ud_s]; unfold m_tko; rw [m_u_s]
  · have e4 : m_tko i w 4 = w 4 - 1 := by unfold m_tko; rw [m_u_s]
    rw [e4] at hj
    rw [q_ud_n (by omega), m_sr_s]
    unfold m_tko
    rw [m_u_n (show 74 + j ≠ 4 by omega)]
    unfold m_cp
    by_cases c : 3 * i ≤ j ∧ j < 3 * i + 3 * ((w 4).toNat - 1 - i)
    · rw [if_pos c, if_pos (by omega), hp.2 _ (by omega)]; congr 1; omega
    · rw [if_neg c, if_neg (by omega), hp.2 _ (by omega)]
theorem c_psw1 {h : q_F} {g m o a f : Nat} {w : Nat → Int} (hp : c_pt h g w) (h4 : w 4 ≤ 16) (hm : (m : Int) < w 4) (ho : (o : Int) < w 4) (ha : a < 3) : ∃ h', fn146_2 g (f + 1) m o a h = fn146_2 g f m o ((a + 1 : Nat) : Int) h' ∧ c_pt h' g (m_sw1 m o a w) ∧ c_fo g h h' := by
  refine ⟨q_ud (q_ud h (g + 1) (3 * m + a) (h (g + 1) (3 * o + a))) (g + 1) (3 * o + a) (h (g + 1) (3 * m + a)), ?_, ⟨?_, fun j hj => ?_⟩, fun k k1 k2 => by funext j; rw [q_ud_n (by omega), q_ud_n (by omega)]⟩
  · rw [fn146_2, if_neg (by omega), c_pgr (by omega) ha, Option.bind_some, c_pgr (by omega) ha, Option.bind_some, c_pset (by omega) ha, Option.bind_some, c_pset (by omega) ha, Option.bind_some, q_w32_id (z := (a : Int) + 1) (by omega) (by omega), ← m_s1]
  · rw [q_ud_n (by omega), q_ud_n (by omega), hp.1]; unfold m_sw1; rw [m_u_n (by omega), m_u_n (by omega)]
  · have e4 : m_sw1 m o a w 4 = w 4 := by unfold m_sw1; rw [m_u_n (by omega), m_u_n (by omega)]
    rw [e4] at hj
    unfold m_sw1
    by_cases c1 : j = 3 * o + a
    · subst c1; rw [q_ud_s, show 74 + (3 * o + a) = 74 + 3 * o + a by omega, m_u_s, hp.2 _ (by omega)]; congr 1; omega
    · rw [q_ud_n (by omega), m_u_n (show 74 + j ≠ 74 + 3 * o + a by omega)]
      by_cases c2 : j = 3 * m + a
      · subst c2; rw [q_ud_s, show 74 + (3 * m + a) = 74 + 3 * m + a by omega, m_u_s, hp.2 _ (by omega)]; congr 1; omega
      · rw [q_ud_n (by omega), m_u_n (show 74 + j ≠ 74 + 3 * m + a by omega)]; exact hp.2 j hj
theorem c_pswp {h : q_F} {g m o : Nat} {w : Nat → Int} (hp : c_pt h g w) (h4 : w 4 ≤ 16) (hm : (m : Int) < w 4) (ho : (o : Int) < w 4) : ∃ h', fn146 g m o h = some (0, h') ∧ c_pt h' g (m_swp m o w) ∧ c_fo g h h' := by
  obtain ⟨n, e⟩ := m_fu3
  have k : ∀ a w, m_sw1 m o a w 4 = w 4 := fun a w => by unfold m_sw1; rw [m_u_n (by omega), m_u_n (by omega)]
  obtain ⟨h1, a1, a2, a3⟩ := c_psw1 (f := n + 1 + 1 + 1) hp h4 hm ho (show 0 < 3 by omega)
  obtain ⟨h2, b1, b2, b3⟩ := c_psw1 (f := n + 1 + 1) a2 (by rw [k]; exact h4) (by rw [k]; exact hm) (by rw [k]; exact ho) (show 0 + 1 < 3 by omega)
  obtain ⟨h3, d1, d2, d3⟩ := c_psw1 (f := n + 1) b2 (by rw [k, k]; exact h4) (by rw [k, k]; exact hm) (by rw [k, k]; exact ho) (show 0 + 1 + 1 < 3 by omega)
  refine ⟨h3, ?_, d2, c_fo_t a3 (c_fo_t b3 d3)⟩
  rw [fn146, e]
  refine a1.trans (b1.trans (d1.trans ?_))
  rw [fn146_2, if_pos (by omega)]
