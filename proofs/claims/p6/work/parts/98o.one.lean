/-! Part 98o: a setup text read by both sides: the text, and how far a run of like bytes goes. -/
def s_run (P : Int → Bool) (B : Nat → Int) (n : Nat) : Nat → Nat → Nat
  | 0, k => k
  | d + 1, k => if k < n ∧ P (B k) = true then s_run P B n d (k + 1) else k
theorem s_run_ge {P : Int → Bool} {B : Nat → Int} {n : Nat} : ∀ d k, k ≤ s_run P B n d k := by
  intro d
  induction d with
  | zero => intro k; exact Nat.le_refl _
  | succ d ih =>
    intro k; rw [s_run]; split
    · have := ih (k + 1); omega
    · exact Nat.le_refl _
theorem s_run_le {P : Int → Bool} {B : Nat → Int} {n : Nat} : ∀ d k, k ≤ n → s_run P B n d k ≤ n := by
  intro d
  induction d with
  | zero => intro k hk; exact hk
  | succ d ih =>
    intro k hk; rw [s_run]; split
    · rename_i c; exact ih (k + 1) (by omega)
    · exact hk
theorem s_run_end {P : Int → Bool} {B : Nat → Int} {n : Nat} : ∀ d k, n - k ≤ d → s_run P B n d k < n → P (B (s_run P B n d k)) = false := by
  intro d
  induction d with
  | zero => intro k hd hk; rw [s_run] at hk; omega
  | succ d ih =>
    intro k hd
    rw [s_run]; split
    · rename_i c; exact ih (k + 1) (by omega)
    · rename_i c; intro hk
      cases e : P (B k) with
      | false => rfl
      | true => exact absurd ⟨hk, e⟩ c
theorem s_run_in {P : Int → Bool} {B : Nat → Int} {n : Nat} : ∀ d k j, k ≤ j → j < s_run P B n d k → P (B j) = true ∧ j < n := by
  intro d
  induction d with
  | zero => intro k j h1 h2; rw [s_run] at h2; omega
  | succ d ih =>
    intro k j h1; rw [s_run]; split
    · rename_i c; intro h2
      by_cases e : j = k
      · subst e; exact ⟨c.2, c.1⟩
      · exact ih (k + 1) j (by omega) h2
    · intro h2; omega
theorem s_run_go {P : Int → Bool} {B : Nat → Int} {n k d : Nat} (h : k < n) (hP : P (B k) = true) (hd : 0 < d) : k < s_run P B n d k := by
  obtain ⟨d, rfl⟩ : ∃ d', d = d' + 1 := ⟨d - 1, by omega⟩
  rw [s_run, if_pos ⟨h, hP⟩]
  have := s_run_ge (P := P) (B := B) (n := n) d (k + 1); omega
theorem s_run_no {P : Int → Bool} {B : Nat → Int} {n k d : Nat} (h : ¬ (k < n ∧ P (B k) = true)) : s_run P B n d k = k := by
  cases d with
  | zero => rfl
  | succ d => rw [s_run, if_neg h]
def s_pb (v : Int) : Bool := decide (v = 32 ∨ v = 10)
def s_pl (v : Int) : Bool := decide (97 ≤ v ∧ v ≤ 122)
def s_pd (v : Int) : Bool := decide (48 ≤ v ∧ v ≤ 57)
theorem s_pb_i {v : Int} : s_pb v = true ↔ v = 32 ∨ v = 10 := decide_eq_true_iff
theorem s_pl_i {v : Int} : s_pl v = true ↔ 97 ≤ v ∧ v ≤ 122 := decide_eq_true_iff
theorem s_pd_i {v : Int} : s_pd v = true ↔ 48 ≤ v ∧ v ≤ 57 := decide_eq_true_iff
/-- where the next token begins; where its letters, its digits end -/
def s_b (B : Nat → Int) (n k : Nat) : Nat := s_run s_pb B n 600 k
def s_l (B : Nat → Int) (n k : Nat) : Nat := s_run s_pl B n 600 k
def s_d (B : Nat → Int) (n k : Nat) : Nat := s_run s_pd B n 600 k
/-- the number that the first j digits from b say -/
def s_v (B : Nat → Int) (b : Nat) : Nat → Int
  | 0 => 0
  | j + 1 => 10 * s_v B b j + (B (b + j) - 48)
theorem s_v_b {B : Nat → Int} {b : Nat} : ∀ j, (∀ i, i < j → 48 ≤ B (b + i) ∧ B (b + i) ≤ 57) → 0 ≤ s_v B b j ∧ s_v B b j + 1 ≤ 10 ^ j := by
  intro j
  induction j with
  | zero => intro _; exact ⟨Int.le_refl _, by rw [s_v]; decide⟩
  | succ j ih =>
    intro h
    have a := ih (fun i hi => h i (by omega))
    have c := h j (by omega)
    rw [s_v]
    have : (10 : Int) ^ (j + 1) = 10 * 10 ^ j := by rw [Int.pow_succ]; omega
    rw [this]
    omega
/-- the text as it lies with the class -/
def s_ct (B : Nat → Int) (n : Nat) (h : q_F) : Prop := h 1 1 = (n : Int) ∧ n ≤ 600 ∧ ∀ k, k < n → q_ian (h 2 k) 255 = B k
theorem s_ct_3 {B : Nat → Int} {n k j : Nat} {v : Int} {h : q_F} (T : s_ct B n h) (hk : 3 ≤ k) : s_ct B n (q_ud h k j v) := ⟨by rw [q_ud_n (by omega)]; exact T.1, T.2.1, fun i hi => by rw [q_ud_n (by omega)]; exact T.2.2 i hi⟩
theorem s_ct_F {B : Nat → Int} {n : Nat} {h h' : q_F} (T : s_ct B n h) (F : c_F3 h h') : s_ct B n h' := ⟨by rw [F 1 (by omega)]; exact T.1, T.2.1, fun i hi => by rw [F 2 (by omega)]; exact T.2.2 i hi⟩
theorem s_byte {B : Nat → Int} {n k : Nat} {h : q_F} (T : s_ct B n h) : fn63 1 (k : Int) h = some (if k < n then B k else -1) := by
  obtain ⟨t1, t2, t3⟩ := T
  unfold fn63
  rw [if_neg (by omega), t1]
  by_cases c : k < n
  · rw [if_neg (by omega), if_neg (by omega), if_pos (by omega), if_pos c, Int.toNat_natCast, t3 k c]
  · rw [if_pos (by omega), if_neg c]
theorem s_109 (v : Int) (h : q_F) : fn109 v h = some (bif s_pb v then 1 else 0) := by
  unfold fn109 fn109_12
  by_cases c : v = 32
  · rw [if_pos c, show s_pb v = true from s_pb_i.mpr (Or.inl c)]; rfl
  · rw [if_neg c]
    by_cases d : v = 10
    · rw [if_pos d, show s_pb v = true from s_pb_i.mpr (Or.inr d)]; rfl
    · rw [if_neg d, show s_pb v = false from decide_eq_false (by omega)]; rfl
theorem s_110 (v : Int) (h : q_F) : fn110 v h = some (bif s_pd v then 1 else 0) := by
  unfold fn110
  by_cases c : v < 48
  · rw [if_pos c, show s_pd v = false from decide_eq_false (by omega)]; rfl
  · rw [if_neg c]
    by_cases d : 57 < v
    · rw [if_pos d, show s_pd v = false from decide_eq_false (by omega)]; rfl
    · rw [if_neg d, show s_pd v = true from decide_eq_true (by omega)]; rfl
theorem s_111 (v : Int) (h : q_F) : fn111 v h = some (bif s_pl v then 1 else 0) := by
  unfold fn111
  by_cases c : v < 97
  · rw [if_pos c, show s_pl v = false from decide_eq_false (by omega)]; rfl
  · rw [if_neg c]
    by_cases d : 122 < v
    · rw [if_pos d, show s_pl v = false from decide_eq_false (by omega)]; rfl
    · rw [if_neg d, show s_pl v = true from decide_eq_true (by omega)]; rfl
/-- the class goes to the next token -/
theorem s_find0 {B : Nat → Int} {n : Nat} : ∀ (d f k : Nat) (h : q_F), n - k ≤ d → d < f → s_ct B n h → h 3 6 = (k : Int) → k ≤ n → fn104_0 1 f h = some (if s_run s_pb B n d k < n then 1 else 0, q_ud h 3 6 ((s_run s_pb B n d k : Nat) : Int)) := by
  intro d
  induction d with
  | zero =>
    intro f k h hd hf T hk hn
    obtain ⟨f, rfl⟩ : ∃ f', f = f' + 1 := ⟨f - 1, by omega⟩
    rw [fn104_0, T.1, hk, if_pos (by omega), fn104_38, T.1, hk, if_pos (by omega), s_run, if_neg (by omega), ← hk, q_ud_id]
  | succ d ih =>
    intro f k h hd hf T hk hn
    obtain ⟨f, rfl⟩ : ∃ f', f = f' + 1 := ⟨f - 1, by omega⟩
    have t2 := T.2.1
    rw [fn104_0, T.1, hk]
    by_cases c : k < n
    · rw [if_neg (by omega), s_byte T, if_pos c, Option.bind_some, s_109, Option.bind_some, s_run]
      cases e : s_pb (B k) with
      | false =>
        rw [if_neg (show ¬ (k < n ∧ false = true) by simp), if_pos (show (bif false then (1 : Int) else 0) = 0 from rfl), fn104_38, T.1, hk, if_neg (by omega), if_pos c, ← hk, q_ud_id]
      | true =>
        rw [if_neg (show ¬ (bif true then (1 : Int) else 0) = 0 by decide), if_pos (show k < n ∧ true = true from ⟨c, rfl⟩), m_let, q_w32_id (by omega) (by omega), show (k : Int) + 1 = ((k + 1 : Nat) : Int) by omega, ih f (k + 1) _ (by omega) (by omega) (s_ct_3 T (by omega)) (q_ud_s _ _ _ _) (by omega), q_ud_u]
    · rw [if_pos (by omega), fn104_38, T.1, hk, if_pos (by omega), s_run, if_neg (show ¬ (k < n ∧ s_pb (B k) = true) from fun h9 => c h9.1), if_neg c, ← hk, q_ud_id]
theorem s_find {B : Nat → Int} {n k : Nat} {h : q_F} (T : s_ct B n h) (hk : h 3 6 = (k : Int)) (hn : k ≤ n) : fn104 1 h = some (if s_b B n k < n then 1 else 0, q_ud h 3 6 ((s_b B n k : Nat) : Int)) := s_find0 600 q_fu k h (by have := T.2.1; omega) (by have := q_fu_ge; omega) T hk hn
/-- the class goes over the letters of a word -/
theorem s_word0 {B : Nat → Int} {n : Nat} {u : Int} : ∀ (d f k : Nat) (h : q_F), n - k ≤ d → d < f → s_ct B n h → h 3 6 = (k : Int) → k ≤ n → fn121_5 1 f u h = fn121_45 1 q_fu u 0 (q_ud h 3 6 ((s_run s_pl B n d k : Nat) : Int)) := by
  intro d
  induction d with
  | zero =>
    intro f k h hd hf T hk hn
    obtain ⟨f, rfl⟩ : ∃ f', f = f' + 1 := ⟨f - 1, by omega⟩
    rw [fn121_5, T.1, hk, if_pos (by omega), fn121_43, s_run, ← hk, q_ud_id]
  | succ d ih =>
    intro f k h hd hf T hk hn
    obtain ⟨f, rfl⟩ : ∃ f', f = f' + 1 := ⟨f - 1, by omega⟩
    have t2 := T.2.1
    rw [fn121_5, T.1, hk]
    by_cases c : k < n
    · rw [if_neg (by omega), s_byte T, if_pos c, Option.bind_some, s_111, Option.bind_some, s_run]
      cases e : s_pl (B k) with
      | false =>
        rw [if_neg (show ¬ (k < n ∧ false = true) by simp), if_pos (show (bif false then (1 : Int) else 0) = 0 from rfl), fn121_43, ← hk, q_ud_id]
      | true =>
        rw [if_neg (show ¬ (bif true then (1 : Int) else 0) = 0 by decide), if_pos (show k < n ∧ true = true from ⟨c, rfl⟩), m_let, q_w32_id (by omega) (by omega), show (k : Int) + 1 = ((k + 1 : Nat) : Int) by omega, ih f (k + 1) _ (by omega) (by omega) (s_ct_3 T (by omega)) (q_ud_s _ _ _ _) (by omega), q_ud_u]
    · rw [if_pos (by omega), fn121_43, s_run, if_neg (show ¬ (k < n ∧ s_pl (B k) = true) from fun h9 => c h9.1), ← hk, q_ud_id]
theorem s_word {B : Nat → Int} {n k : Nat} {h : q_F} (T : s_ct B n h) (hk : h 3 6 = (k : Int)) (hn : k ≤ n) : fn121 1 h = fn121_45 1 q_fu (k : Int) 0 (q_ud h 3 6 ((s_l B n k : Nat) : Int)) := by
  rw [fn121, hk]
  exact s_word0 600 q_fu k h (by have := T.2.1; omega) (by have := q_fu_ge; omega) T hk hn
