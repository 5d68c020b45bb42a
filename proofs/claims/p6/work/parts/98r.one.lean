/-! Part 98r: what holds of both sides while a setup text is read; a number. -/
def s_ok (st sl : Nat) : Prop := (st < 3 ∧ sl < 6) ∨ (st = 3 ∧ sl < 3) ∨ (st = 4 ∧ sl = 0)
def s_c1 (st : Nat) : Nat := if st < 3 then 4 else if st = 3 then 5 else 3
def s_c2 (st sl : Nat) : Nat := if st < 3 then 6 * st + sl else if st = 3 then sl else 2
def s_pl' (st sl : Nat) : Nat := if st < 3 then 8 + 3 * sl + st else if st = 3 then 26 + sl else 0
/-- the numbers are the same -/
def s_X (c g : q_F) : Prop := ∀ st sl, s_ok st sl → c (s_c1 st) (s_c2 st sl) = g 140 (s_pl' st sl)
theorem s_X_u {c g : q_F} {st sl : Nat} {v : Int} (X : s_X c g) (ok : s_ok st sl) : s_X (q_ud c (s_c1 st) (s_c2 st sl) v) (m_sr g 140 (m_u (g 140) (s_pl' st sl) v)) := by
  intro st' sl' ok'
  rw [m_sr_s]
  by_cases e : st' = st ∧ sl' = sl
  · rw [e.1, e.2, q_ud_s, m_u_s]
  · have h1 : ¬ (s_c1 st' = s_c1 st ∧ s_c2 st' sl' = s_c2 st sl) := by
      unfold s_c1 s_c2; unfold s_ok at ok ok'
      split <;> split <;> (try split) <;> (try split) <;> omega
    have h2 : s_pl' st' sl' ≠ s_pl' st sl := by
      unfold s_pl'; unfold s_ok at ok ok'
      split <;> split <;> (try split) <;> (try split) <;> omega
    rw [q_ud_n h1, m_u_n h2]; exact X st' sl' ok'
theorem s_X_k {c c' g g' : q_F} (X : s_X c g) (h4 : c' 4 = c 4) (h5 : c' 5 = c 5) (h3 : c' 3 2 = c 3 2) (hg : g' 140 = g 140) : s_X c' g' := by
  intro st sl ok
  rw [hg, ← X st sl ok]
  unfold s_c1 s_c2; unfold s_ok at ok
  split
  · rw [h4]
  · split
    · rw [h5]
    · rw [h3]
/-- both sides at a place of the text, nothing wrong yet -/
def s_R (B : Nat → Int) (n p : Nat) (s : Nat) (c g : q_F) : Prop := s_ct B n c ∧ c 3 6 = (p : Int) ∧ s_rT B n p g ∧ s_X c g ∧ (c 3 4 = 0 ∧ g 139 17 = 0) ∧ (c 3 5 = -1 ∧ g 139 18 = -1) ∧ s < 128 ∧ c 3 3 = (s : Int) ∧ g 139 23 = (s : Int)
/-- both sides have found the same error -/
def s_E (c g : q_F) : Prop := ∃ k : Int, k ≠ 0 ∧ c 3 4 = k ∧ g 139 17 = k ∧ c 3 5 = g 139 18
theorem s_103 (k o : Int) (c : q_F) : fn103 k o c = some (0, q_ud (q_ud c 3 4 k) 3 5 o) := rfl
theorem s_259 {k : Int} {g : q_F} (h : g 139 17 = 0) : fn259 k g = some (0, q_ud (q_ud g 139 17 k) 139 18 (g 139 20)) := by
  unfold fn259; rw [if_pos h, m_let, m_let, q_ud_n (show ¬ (139 = 139 ∧ 20 = 17) by omega)]
theorem s_E_i {k o : Int} {c g : q_F} (hk : k ≠ 0) (ho : g 139 20 = o) : s_E (q_ud (q_ud c 3 4 k) 3 5 o) (q_ud (q_ud g 139 17 k) 139 18 (g 139 20)) := ⟨k, hk, by rw [q_ud_n (by omega), q_ud_s], by rw [q_ud_n (by omega), q_ud_s], by rw [q_ud_s, q_ud_s, ho]⟩
/-- the class goes over the digits of a number -/
theorem s_num0 {B : Nat → Int} {n b st sl : Nat} : ∀ (d f k : Nat) (u : Int) (h : q_F), n - k ≤ d → d < f → s_ct B n h → h 3 6 = (k : Int) → k ≤ n → b ≤ k → (∀ i, i < k - b → 48 ≤ B (b + i) ∧ B (b + i) ≤ 57) → (k - b ≤ 4 → u = s_v B b (k - b)) → ∃ u', fn118_15 1 f st sl b u h = fn118_72 1 st sl b u' (q_ud h 3 6 ((s_run s_pd B n d k : Nat) : Int)) ∧ (s_run s_pd B n d k - b ≤ 4 → u' = s_v B b (s_run s_pd B n d k - b)) := by
  intro d
  induction d with
  | zero =>
    intro f k u h hd hf T hk hn hbk hdg hv
    obtain ⟨f, rfl⟩ : ∃ f', f = f' + 1 := ⟨f - 1, by omega⟩
    rw [fn118_15, T.1, hk, if_pos (by omega), s_run, ← hk, q_ud_id]
    exact ⟨u, rfl, hv⟩
  | succ d ih =>
    intro f k u h hd hf T hk hn hbk hdg hv
    obtain ⟨f, rfl⟩ : ∃ f', f = f' + 1 := ⟨f - 1, by omega⟩
    have t2 := T.2.1
    rw [fn118_15, T.1, hk, s_run]
    by_cases c : k < n
    · rw [if_neg (by omega), s_byte T, if_pos c, Option.bind_some, s_110, Option.bind_some]
      cases e : s_pd (B k) with
      | false =>
        rw [if_pos (show (bif false then (1 : Int) else 0) = 0 from rfl), if_neg (show ¬ (k < n ∧ false = true) by simp), ← hk, q_ud_id]
        exact ⟨u, rfl, hv⟩
      | true =>
        have eb := s_pd_i.mp e
        rw [if_neg (show ¬ (bif true then (1 : Int) else 0) = 0 by decide), if_pos (show k < n ∧ true = true from ⟨c, rfl⟩), Option.bind_some, m_let, q_w32_id (z := (k : Int) + 1) (by omega) (by omega), show (k : Int) + 1 = ((k + 1 : Nat) : Int) by omega]
        have hdg' : ∀ i, i < k + 1 - b → 48 ≤ B (b + i) ∧ B (b + i) ≤ 57 := fun i hi => by
          by_cases e9 : i = k - b
          · subst e9; rw [show b + (k - b) = k by omega]; exact eb
          · exact hdg i (by omega)
        obtain ⟨u', a1, a2⟩ := ih f (k + 1) (q_w32 ((q_w32 (u * (10 : Int))) + (q_w32 (B k - (48 : Int))))) (q_ud h 3 6 ((k + 1 : Nat) : Int)) (by omega) (by omega) (s_ct_3 T (by omega)) (q_ud_s _ _ _ _) (by omega) (by omega) hdg' (fun h9 => by
          have v0 := s_v_b (B := B) (b := b) (k - b) hdg
          have v1 : (10 : Int) ^ (k - b) ≤ 1000 := by
            obtain h9 | h9 | h9 | h9 : k - b = 0 ∨ k - b = 1 ∨ k - b = 2 ∨ k - b = 3 := by omega
            all_goals (rw [h9]; decide)
          rw [hv (by omega), q_w32_id (z := s_v B b (k - b) * 10) (by omega) (by omega), q_w32_id (z := B k - 48) (by omega) (by omega), q_w32_id (by omega) (by omega), show k + 1 - b = (k - b) + 1 by omega, s_v, show b + (k - b) = k by omega]
          omega)
        rw [q_ud_u] at a1
        exact ⟨u', a1, a2⟩
    · rw [if_pos (by omega), if_neg (show ¬ (k < n ∧ s_pd (B k) = true) from fun h9 => c h9.1), ← hk, q_ud_id]
      exact ⟨u, rfl, hv⟩
theorem s_num {B : Nat → Int} {n p st sl : Nat} {h : q_F} (T : s_ct B n h) (hk : h 3 6 = (p : Int)) (hn : p ≤ n) : ∃ u, fn118 1 st sl h = fn118_72 1 st sl (s_b B n p : Nat) u (q_ud h 3 6 ((s_d B n (s_b B n p) : Nat) : Int)) ∧ (s_d B n (s_b B n p) - s_b B n p ≤ 4 → u = s_v B (s_b B n p) (s_d B n (s_b B n p) - s_b B n p)) := by
  have le := s_run_le (P := s_pb) (B := B) 600 p hn
  obtain ⟨u, a1, a2⟩ := s_num0 (B := B) (n := n) (b := s_b B n p) (st := st) (sl := sl) 600 q_fu (s_b B n p) 0 (q_ud h 3 6 ((s_b B n p : Nat) : Int)) (by have := T.2.1; omega) (by have := q_fu_ge; omega) (s_ct_3 T (by omega)) (q_ud_s _ _ _ _) le (Nat.le_refl _) (fun i hi => by omega) (fun _ => by rw [Nat.sub_self]; rfl)
  rw [q_ud_u] at a1
  refine ⟨u, ?_, a2⟩
  rw [fn118, s_find T hk hn, Option.bind_some]
  dsimp only
  rw [q_ud_s]
  exact a1
