/-! Part 98q: the word that begins a statement. -/
def s_wr (B : Nat → Int) (b : Nat) (z : Int) (k : Nat) : Prop := ∀ i : Nat, k ≤ i → (i : Int) < qx_sl z → B (b + i) = qx_sc z i
def s_wd (B : Nat → Int) (b e : Nat) (z : Int) : Prop := ((e - b : Nat) : Int) = qx_sl z ∧ s_wr B b z 0
theorem s_wr_s {B : Nat → Int} {b k : Nat} {z : Int} (h : B (b + k) = qx_sc z k) : s_wr B b z k ↔ s_wr B b z (k + 1) := by
  constructor
  · intro f i hi; exact f i (by omega)
  · intro f i hi hl
    by_cases e : i = k
    · subst e; exact h
    · exact f i (by omega) hl
theorem s_cwl {B : Nat → Int} {n b e : Nat} {z : Int} {h : q_F} (T : s_ct B n h) (he : e ≤ n) (hb : b ≤ e) (hl : ((e - b : Nat) : Int) = qx_sl z) : ∀ (d k f : Nat), k + d = e - b → d < f → (s_wr B b z k → fn112_15 1 z h f b k = some 1) ∧ (¬ s_wr B b z k → fn112_15 1 z h f b k = some 0) := by
  intro d
  induction d with
  | zero =>
    intro k f hd hf
    obtain ⟨f, rfl⟩ : ∃ f', f = f' + 1 := ⟨f - 1, by omega⟩
    rw [fn112_15, if_pos (by omega)]
    exact ⟨fun _ => rfl, fun h9 => absurd (fun i hi hl' => by omega) h9⟩
  | succ d ih =>
    intro k f hd hf
    obtain ⟨f, rfl⟩ : ∃ f', f = f' + 1 := ⟨f - 1, by omega⟩
    have t2 := T.2.1
    rw [fn112_15, if_neg (by omega), q_w32_id (by omega) (by omega), show (b : Int) + k = ((b + k : Nat) : Int) by omega, s_byte T, if_pos (by omega), Option.bind_some, if_pos (by omega)]
    by_cases c : B (b + k) = qx_sc z k
    · rw [if_pos c, q_w32_id (by omega) (by omega), ← m_s1]
      have := ih (k + 1) f (by omega) (by omega)
      rw [s_wr_s c]; exact this
    · rw [if_neg c]
      exact ⟨fun h9 => absurd (h9 k (Nat.le_refl _) (by omega)) c, fun _ => rfl⟩
theorem s_cw {B : Nat → Int} {n b e : Nat} {z : Int} {h : q_F} (T : s_ct B n h) (he : e ≤ n) (hb : b ≤ e) : (s_wd B b e z → fn112 1 z b e h = some 1) ∧ (¬ s_wd B b e z → fn112 1 z b e h = some 0) := by
  have t2 := T.2.1
  unfold fn112
  rw [q_w32_id (by omega) (by omega)]
  by_cases c : ((e - b : Nat) : Int) = qx_sl z
  · rw [if_pos (by omega)]
    have := s_cwl T he hb c (e - b) 0 q_fu (by omega) (by have := q_fu_ge; omega)
    exact ⟨fun h9 => this.1 h9.2, fun h9 => this.2 fun h8 => h9 ⟨c, h8⟩⟩
  · rw [if_neg (by omega)]
    exact ⟨fun h9 => absurd h9.1 c, fun _ => rfl⟩
theorem s_122 {k : Nat} (hk : k < 7) (h : q_F) : fn122 k h = some ((3 + k : Nat) : Int) := by
  obtain rfl | rfl | rfl | rfl | rfl | rfl | rfl : k = 0 ∨ k = 1 ∨ k = 2 ∨ k = 3 ∨ k = 4 ∨ k = 5 ∨ k = 6 := by omega
  all_goals rfl
/-- which statement the word from b to e begins -/
def s_st (B : Nat → Int) (b e : Nat) (v : Int) : Prop := (∃ st : Nat, st < 7 ∧ v = (st : Int) ∧ s_wd B b e ((3 + st : Nat) : Int) ∧ ∀ j, j < st → ¬ s_wd B b e ((3 + j : Nat) : Int)) ∨ (v = -1 ∧ ∀ j, j < 7 → ¬ s_wd B b e ((3 + j : Nat) : Int))
theorem s_45 {B : Nat → Int} {n b e : Nat} {h : q_F} (T : s_ct B n h) (he : e ≤ n) (hb : b ≤ e) (hp : h 3 6 = (e : Int)) : ∀ (d k f : Nat), k + d = 7 → d < f → (∀ j, j < k → ¬ s_wd B b e ((3 + j : Nat) : Int)) → ∃ v, fn121_45 1 f b k h = some (v, h) ∧ s_st B b e v := by
  intro d
  induction d with
  | zero =>
    intro k f hd hf hn
    obtain ⟨f, rfl⟩ : ∃ f', f = f' + 1 := ⟨f - 1, by omega⟩
    rw [fn121_45, if_pos (by omega)]
    exact ⟨_, rfl, Or.inr ⟨rfl, fun j hj => hn j (by omega)⟩⟩
  | succ d ih =>
    intro k f hd hf hn
    obtain ⟨f, rfl⟩ : ∃ f', f = f' + 1 := ⟨f - 1, by omega⟩
    rw [fn121_45, if_neg (by omega), s_122 (by omega), Option.bind_some, hp]
    by_cases c : s_wd B b e ((3 + k : Nat) : Int)
    · rw [(s_cw T he hb).1 c, Option.bind_some, if_neg (by decide)]
      exact ⟨_, rfl, Or.inl ⟨k, by omega, rfl, c, hn⟩⟩
    · rw [(s_cw T he hb).2 c, Option.bind_some, if_pos rfl, q_w32_id (by omega) (by omega), ← m_s1]
      refine ih (k + 1) f (by omega) (by omega) fun j hj => ?_
      by_cases e9 : j = k
      · subst e9; exact c
      · exact hn j (by omega)
/-- the class's word: which statement, and its place behind the letters -/
theorem s_cst {B : Nat → Int} {n b : Nat} {h : q_F} (T : s_ct B n h) (hk : h 3 6 = (b : Int)) (hn : b ≤ n) : ∃ v, fn121 1 h = some (v, q_ud h 3 6 ((s_l B n b : Nat) : Int)) ∧ s_st B b (s_l B n b) v := by
  rw [s_word T hk hn]
  exact s_45 (s_ct_3 T (by omega)) (s_run_le 600 b hn) (s_run_ge 600 b) (q_ud_s _ _ _ _) 7 0 q_fu (by omega) (by have := q_fu_ge; omega) (fun j hj => by omega)
theorem s_sl (j : Nat) (hj : j < 7) : 1 ≤ qx_sl ((3 + j : Nat) : Int) ∧ qx_sl ((3 + j : Nat) : Int) ≤ 10 := by
  refine ⟨?_, (q_sl10 _).2⟩
  obtain rfl | rfl | rfl | rfl | rfl | rfl | rfl : j = 0 ∨ j = 1 ∨ j = 2 ∨ j = 3 ∨ j = 4 ∨ j = 5 ∨ j = 6 := by omega
  all_goals decide +kernel
theorem s_rwl {B : Nat → Int} {n b e : Nat} {z : Int} {g : q_F} (T : s_rt B n g) (he : e ≤ n) (hb : b ≤ e) (h20 : g 139 20 = (b : Int)) (hl : ((e - b : Nat) : Int) = qx_sl z) : ∀ (d k f : Nat), k + d = e - b → d < f → (s_wr B b z k → fn273_23 z g f k = some 1) ∧ (¬ s_wr B b z k → fn273_23 z g f k = some 0) := by
  intro d
  induction d with
  | zero =>
    intro k f hd hf
    obtain ⟨f, rfl⟩ : ∃ f', f = f' + 1 := ⟨f - 1, by omega⟩
    rw [fn273_23, if_pos (by omega)]
    exact ⟨fun _ => rfl, fun h9 => absurd (fun i hi hl' => by omega) h9⟩
  | succ d ih =>
    intro k f hd hf
    obtain ⟨f, rfl⟩ : ∃ f', f = f' + 1 := ⟨f - 1, by omega⟩
    have t2 := T.2.1
    rw [fn273_23, if_neg (by omega), h20, q_w32_id (z := (b : Int) + k) (by omega) (by omega), if_pos (by omega), if_pos (by omega), show ((b : Int) + k).toNat = b + k by omega, T.2.2.1 (b + k) (by omega)]
    by_cases c : B (b + k) = qx_sc z k
    · rw [if_pos c, q_w32_id (by omega) (by omega), ← m_s1]
      have := ih (k + 1) f (by omega) (by omega)
      rw [s_wr_s c]; exact this
    · rw [if_neg c]
      exact ⟨fun h9 => absurd (h9 k (Nat.le_refl _) (by omega)) c, fun _ => rfl⟩
/-- the reference's isWord -/
theorem s_rw {B : Nat → Int} {n p j : Nat} {g : q_F} (T : s_rT B n p g) (hb : s_b B n p < n) (hj : j < 7) : (s_wd B (s_b B n p) (s_l B n (s_b B n p)) ((3 + j : Nat) : Int) → fn273 ((3 + j : Nat) : Int) g = some 1) ∧ (¬ s_wd B (s_b B n p) (s_l B n (s_b B n p)) ((3 + j : Nat) : Int) → fn273 ((3 + j : Nat) : Int) g = some 0) := by
  obtain ⟨T0, -, t20, -, T1⟩ := T
  obtain ⟨w, d, o⟩ := T1 hb
  have sl := s_sl j hj
  generalize hbb : s_b B n p = b at *
  have no : s_pl (B b) = false → g 139 22 ≠ 1 → (s_wd B b (s_l B n b) ((3 + j : Nat) : Int) → fn273 ((3 + j : Nat) : Int) g = some 1) ∧ (¬ s_wd B b (s_l B n b) ((3 + j : Nat) : Int) → fn273 ((3 + j : Nat) : Int) g = some 0) := fun e h22 => by
    have el : s_l B n b = b := s_run_no (fun h9 => by rw [e] at h9; exact absurd h9.2 (by decide))
    unfold fn273
    rw [if_neg h22, el]
    exact ⟨fun h9 => by have := h9.1; rw [Nat.sub_self] at this; omega, fun _ => rfl⟩
  cases e : s_pl (B b) with
  | true =>
    have t2 := T0.2.1
    have le := s_run_le (P := s_pl) (B := B) 600 b (show b ≤ n by omega)
    have ge := s_run_ge (P := s_pl) (B := B) (n := n) 600 b
    have ee : s_l B n b = s_run s_pl B n 600 b := rfl
    rw [← ee] at le ge
    obtain ⟨w1, w2⟩ := w e
    unfold fn273
    rw [if_pos w1, fn355, Option.bind_some, w2, t20, q_w32_id (by omega) (by omega)]
    by_cases c : ((s_l B n b - b : Nat) : Int) = qx_sl ((3 + j : Nat) : Int)
    · rw [if_pos (by omega)]
      have := s_rwl T0 le ge t20 c (s_l B n b - b) 0 q_fu (by omega) (by have := q_fu_ge; omega)
      exact ⟨fun h9 => this.1 h9.2, fun h9 => this.2 fun h8 => h9 ⟨c, h8⟩⟩
    · rw [if_neg (by omega)]
      exact ⟨fun h9 => absurd h9.1 c, fun _ => rfl⟩
  | false =>
    refine no e ?_
    cases e2 : s_pd (B b) with
    | true => rw [(d e e2).1]; decide
    | false =>
      have := o e e2
      by_cases c : B b = 59
      · rw [this.1 c]; decide
      · rw [this.2.1 c]; decide
