section -- [98o.one]
/-! Part 98o: a setup text read by both sides: the text, and how far a run of like bytes goes. -/
def s_run (P : Int → Bool) (B : Nat → Int) (n : Nat) : Nat → Nat → Nat
  | 0, k => k
  | d + 1, k => if k < n ∧ P (B k) = true then s_run P B n d (k + 1) else k
theorem s_run_ge {P : Int → Bool} {B : Nat → Int} {n : Nat} : ∀ d k, k ≤ s_run P B n d k := by
  intro d
  induction d with
  | zero => intro k; exact Nat.le_refl _
  | succ d ih =>
    intro k; rw [s_run]; split
    · have := ih (k + 1); omega
    · exact Nat.le_refl _
theorem s_run_le {P : Int → Bool} {B : Nat → Int} {n : Nat} : ∀ d k, k ≤ n → s_run P B n d k ≤ n := by
  intro d
  induction d with
  | zero => intro k hk; exact hk
  | succ d ih =>
    intro k hk; rw [s_run]; split
    · rename_i c; exact ih (k + 1) (by omega)
    · exact hk
theorem s_run_end {P : Int → Bool} {B : Nat → Int} {n : Nat} : ∀ d k, n - k ≤ d → s_run P B n d k < n → P (B (s_run P B n d k)) = false := by
  intro d
  induction d with
  | zero => intro k hd hk; rw [s_run] at hk; omega
  | succ d ih =>
    intro k hd
    rw [s_run]; split
    · rename_i c; exact ih (k + 1) (by omega)
    · rename_i c; intro hk
      cases e : P (B k) with
      | false => rfl
      | true => exact absurd ⟨hk, e⟩ c
theorem s_run_in {P : Int → Bool} {B : Nat → Int} {n : Nat} : ∀ d k j, k ≤ j → j < s_run P B n d k → P (B j) = true ∧ j < n := by
  intro d
  induction d with
  | zero => intro k j h1 h2; rw [s_run] at h2; omega
  | succ d ih =>
    intro k j h1; rw [s_run]; split
    · rename_i c; intro h2
      by_cases e : j = k
      · subst e; exact ⟨c.2, c.1⟩
      · exact ih (k + 1) j (by omega) h2
    · intro h2; omega
theorem s_run_go {P : Int → Bool} {B : Nat → Int} {n k d : Nat} (h : k < n) (hP : P (B k) = true) (hd : 0 < d) : k < s_run P B n d k := by
  obtain ⟨d, rfl⟩ : ∃ d', d = d' + 1 := ⟨d - 1, by omega⟩
  rw [s_run, if_pos ⟨h, hP⟩]
  have := s_run_ge (P := P) (B := B) (n := n) d (k + 1); omega
theorem s_run_no {P : Int → Bool} {B : Nat → Int} {n k d : Nat} (h : ¬ (k < n ∧ P (B k) = true)) : s_run P B n d k = k := by
  cases d with
  | zero => rfl
  | succ d => rw [s_run, if_neg h]
def s_pb (v : Int) : Bool := decide (v = 32 ∨ v = 10)
def s_pl (v : Int) : Bool := decide (97 ≤ v ∧ v ≤ 122)
def s_pd (v : Int) : Bool := decide (48 ≤ v ∧ v ≤ 57)
theorem s_pb_i {v : Int} : s_pb v = true ↔ v = 32 ∨ v = 10 := decide_eq_true_iff
theorem s_pl_i {v : Int} : s_pl v = true ↔ 97 ≤ v ∧ v ≤ 122 := decide_eq_true_iff
theorem s_pd_i {v : Int} : s_pd v = true ↔ 48 ≤ v ∧ v ≤ 57 := decide_eq_true_iff
/-- where the next token begins; where its letters, its digits end -/
def s_b (B : Nat → Int) (n k : Nat) : Nat := s_run s_pb B n 600 k
def s_l (B : Nat → Int) (n k : Nat) : Nat := s_run s_pl B n 600 k
def s_d (B : Nat → Int) (n k : Nat) : Nat := s_run s_pd B n 600 k
/-- the number that the first j digits from b say -/
def s_v (B : Nat → Int) (b : Nat) : Nat → Int
  | 0 => 0
  | j + 1 => 10 * s_v B b j + (B (b + j) - 48)
theorem s_v_b {B : Nat → Int} {b : Nat} : ∀ j, (∀ i, i < j → 48 ≤ B (b + i) ∧ B (b + i) ≤ 57) → 0 ≤ s_v B b j ∧ s_v B b j + 1 ≤ 10 ^ j := by
  intro j
  induction j with
  | zero => intro _; exact ⟨Int.le_refl _, by rw [s_v]; decide⟩
  | succ j ih =>
    intro h
    have a := ih (fun i hi => h i (by omega))
    have c := h j (by omega)
    rw [s_v]
    have : (10 : Int) ^ (j + 1) = 10 * 10 ^ j := by rw [Int.pow_succ]; omega
    rw [this]
    omega
/-- the text as it lies with the class -/
def s_ct (B : Nat → Int) (n : Nat) (h : q_F) : Prop := h 1 1 = (n : Int) ∧ n ≤ 600 ∧ ∀ k, k < n → q_ian (h 2 k) 255 = B k
theorem s_ct_3 {B : Nat → Int} {n k j : Nat} {v : Int} {h : q_F} (T : s_ct B n h) (hk : 3 ≤ k) : s_ct B n (q_ud h k j v) := ⟨by rw [q_ud_n (by omega)]; exact T.1, T.2.1, fun i hi => by rw [q_ud_n (by omega)]; exact T.2.2 i hi⟩
theorem s_ct_F {B : Nat → Int} {n : Nat} {h h' : q_F} (T : s_ct B n h) (F : c_F3 h h') : s_ct B n h' := ⟨by rw [F 1 (by omega)]; exact T.1, T.2.1, fun i hi => by rw [F 2 (by omega)]; exact T.2.2 i hi⟩
theorem s_byte {B : Nat → Int} {n k : Nat} {h : q_F} (T : s_ct B n h) : fn63 1 (k : Int) h = some (if k < n then B k else -1) := by
  obtain ⟨t1, t2, t3⟩ := T
  unfold fn63
  rw [if_neg (by omega), t1]
  by_cases c : k < n
  · rw [if_neg (by omega), if_neg (by omega), if_pos (by omega), if_pos c, Int.toNat_natCast, t3 k c]
  · rw [if_pos (by omega), if_neg c]
theorem s_109 (v : Int) (h : q_F) : fn109 v h = some (bif s_pb v then 1 else 0) := by
  unfold fn109 fn109_12
  by_cases c : v = 32
  · rw [if_pos c, show s_pb v = true from s_pb_i.mpr (Or.inl c)]; rfl
  · rw [if_neg c]
    by_cases d : v = 10
    · rw [if_pos d, show s_pb v = true from s_pb_i.mpr (Or.inr d)]; rfl
    · rw [if_neg d, show s_pb v = false from decide_eq_false (by omega)]; rfl
theorem s_110 (v : Int) (h : q_F) : fn110 v h = some (bif s_pd v then 1 else 0) := by
  unfold fn110
  by_cases c : v < 48
  · rw [if_pos c, show s_pd v = false from decide_eq_false (by omega)]; rfl
  · rw [if_neg c]
    by_cases d : 57 < v
    · rw [if_pos d, show s_pd v = false from decide_eq_false (by omega)]; rfl
    · rw [if_neg d, show s_pd v = true from decide_eq_true (by omega)]; rfl
theorem s_111 (v : Int) (h : q_F) : fn111 v h = some (bif s_pl v then 1 else 0) := by
  unfold fn111
  by_cases c : v < 97
  · rw [if_pos c, show s_pl v = false from decide_eq_false (by omega)]; rfl
  · rw [if_neg c]
    by_cases d : 122 < v
    · rw [if_pos d, show s_pl v = false from decide_eq_false (by omega)]; rfl
    · rw [if_neg d, show s_pl v = true from decide_eq_true (by omega)]; rfl
/-- the class goes to the next token -/
theorem s_find0 {B : Nat → Int} {n : Nat} : ∀ (d f k : Nat) (h : q_F), n - k ≤ d → d < f → s_ct B n h → h 3 6 = (k : Int) → k ≤ n → fn104_0 1 f h = some (if s_run s_pb B n d k < n then 1 else 0, q_ud h 3 6 ((s_run s_pb B n d k : Nat) : Int)) := by
  intro d
  induction d with
  | zero =>
    intro f k h hd hf T hk hn
    obtain ⟨f, rfl⟩ : ∃ f', f = f' + 1 := ⟨f - 1, by omega⟩
    rw [fn104_0, T.1, hk, if_pos (by omega), fn104_38, T.1, hk, if_pos (by omega), s_run, if_neg (by omega), ← hk, q_ud_id]
  | succ d ih =>
    intro f k h hd hf T hk hn
    obtain ⟨f, rfl⟩ : ∃ f', f = f' + 1 := ⟨f - 1, by omega⟩
    have t2 := T.2.1
    rw [fn104_0, T.1, hk]
    by_cases c : k < n
    · rw [if_neg (by omega), s_byte T, if_pos c, Option.bind_some, s_109, Option.bind_some, s_run]
      cases e : s_pb (B k) with
      | false =>
        rw [if_neg (show ¬ (k < n ∧ false = true) by simp), if_pos (show (bif false then (1 : Int) else 0) = 0 from rfl), fn104_38, T.1, hk, if_neg (by omega), if_pos c, ← hk, q_ud_id]
      | true =>
        rw [if_neg (show ¬ (bif true then (1 : Int) else 0) = 0 by decide), if_pos (show k < n ∧ true = true from ⟨c, rfl⟩), m_let, q_w32_id (by omega) (by omega), show (k : Int) + 1 = ((k + 1 : Nat) : Int) by omega, ih f (k + 1) _ (by omega) (by omega) (s_ct_3 T (by omega)) (q_ud_s _ _ _ _) (by omega), q_ud_u]
    · rw [if_pos (by omega), fn104_38, T.1, hk, if_pos (by omega), s_run, if_neg (show ¬ (k < n ∧ s_pb (B k) = true) from fun h9 => c h9.1), if_neg c, ← hk, q_ud_id]
theorem s_find {B : Nat → Int} {n k : Nat} {h : q_F} (T : s_ct B n h) (hk : h 3 6 = (k : Int)) (hn : k ≤ n) : fn104 1 h = some (if s_b B n k < n then 1 else 0, q_ud h 3 6 ((s_b B n k : Nat) : Int)) := s_find0 600 q_fu k h (by have := T.2.1; omega) (by have := q_fu_ge; omega) T hk hn
/-- the class goes over the letters of a word -/
theorem s_word0 {B : Nat → Int} {n : Nat} {u : Int} : ∀ (d f k : Nat) (h : q_F), n - k ≤ d → d < f → s_ct B n h → h 3 6 = (k : Int) → k ≤ n → fn121_5 1 f u h = fn121_45 1 q_fu u 0 (q_ud h 3 6 ((s_run s_pl B n d k : Nat) : Int)) := by
  intro d
  induction d with
  | zero =>
    intro f k h hd hf T hk hn
    obtain ⟨f, rfl⟩ : ∃ f', f = f' + 1 := ⟨f - 1, by omega⟩
    rw [fn121_5, T.1, hk, if_pos (by omega), fn121_43, s_run, ← hk, q_ud_id]
  | succ d ih =>
    intro f k h hd hf T hk hn
    obtain ⟨f, rfl⟩ : ∃ f', f = f' + 1 := ⟨f - 1, by omega⟩
    have t2 := T.2.1
    rw [fn121_5, T.1, hk]
    by_cases c : k < n
    · rw [if_neg (by omega), s_byte T, if_pos c, Option.bind_some, s_111, Option.bind_some, s_run]
      cases e : s_pl (B k) with
      | false =>
        rw [if_neg (show ¬ (k < n ∧ false = true) by simp), if_pos (show (bif false then (1 : Int) else 0) = 0 from rfl), fn121_43, ← hk, q_ud_id]
      | true =>
        rw [if_neg (show ¬ (bif true then (1 : Int) else 0) = 0 by decide), if_pos (show k < n ∧ true = true from ⟨c, rfl⟩), m_let, q_w32_id (by omega) (by omega), show (k : Int) + 1 = ((k + 1 : Nat) : Int) by omega, ih f (k + 1) _ (by omega) (by omega) (s_ct_3 T (by omega)) (q_ud_s _ _ _ _) (by omega), q_ud_u]
    · rw [if_pos (by omega), fn121_43, s_run, if_neg (show ¬ (k < n ∧ s_pl (B k) = true) from fun h9 => c h9.1), ← hk, q_ud_id]
theorem s_word {B : Nat → Int} {n k : Nat} {h : q_F} (T : s_ct B n h) (hk : h 3 6 = (k : Int)) (hn : k ≤ n) : fn121 1 h = fn121_45 1 q_fu (k : Int) 0 (q_ud h 3 6 ((s_l B n k : Nat) : Int)) := by
  rw [fn121, hk]
  exact s_word0 600 q_fu k h (by have := T.2.1; omega) (by have := q_fu_ge; omega) T hk hn
end -- [98o.one]
section -- [98p.one]
/-! Part 98p: the reference's token at a place of the text. -/
def s_rt (B : Nat → Int) (n : Nat) (g : q_F) : Prop := g 139 14 = (n : Int) ∧ n ≤ 600 ∧ (∀ k, k < n → g 150 k = B k) ∧ ∀ k, k < n → 0 ≤ B k
theorem s_rt_N {B : Nat → Int} {n : Nat} {g g' : q_F} (T : s_rt B n g) (N : r_N g g') : s_rt B n g' := ⟨by rw [N.2 14 (by omega) (by omega) (by omega) (by omega)]; exact T.1, T.2.1, fun k hk => by rw [N.1 150 (by omega)]; exact T.2.2.1 k hk, T.2.2.2⟩
theorem s_rbyte {B : Nat → Int} {n k : Nat} {g : q_F} (T : s_rt B n g) (hk : k ≤ n) : fn245 (k : Int) g = some (if k < n then B k else -1) := by
  obtain ⟨t1, t2, t3, t4⟩ := T
  rw [r_byte t1 (by omega) (by omega)]
  by_cases c : k < n
  · rw [if_neg (by omega), if_pos c, Int.toNat_natCast, t3 k c]
  · rw [if_pos (by omega), if_neg c]
theorem s_rlet {B : Nat → Int} {n : Nat} : ∀ (d f k : Nat) (g : q_F), n - k ≤ d → d < f → s_rt B n g → g 139 19 = (k : Int) → k ≤ n → fn235_93 f g = some (0, q_ud g 139 19 ((s_run s_pl B n d k : Nat) : Int)) := by
  intro d
  induction d with
  | zero =>
    intro f k g hd hf T hk hn
    obtain ⟨f, rfl⟩ : ∃ f', f = f' + 1 := ⟨f - 1, by omega⟩
    rw [fn235_93, hk, s_rbyte T hn, if_neg (by omega), Option.bind_some, r_rng, if_neg (by decide), Option.bind_some, if_pos rfl, s_run, ← hk, q_ud_id]
  | succ d ih =>
    intro f k g hd hf T hk hn
    obtain ⟨f, rfl⟩ : ∃ f', f = f' + 1 := ⟨f - 1, by omega⟩
    have t2 := T.2.1
    rw [fn235_93, hk, s_rbyte T hn, Option.bind_some, r_rng, Option.bind_some, s_run]
    by_cases c : k < n
    · rw [if_pos c]
      by_cases e : 97 ≤ B k ∧ B k ≤ 122
      · rw [if_pos e, if_neg (by decide), if_pos ⟨c, s_pl_i.mpr e⟩, m_let, q_w32_id (by omega) (by omega), show (k : Int) + 1 = ((k + 1 : Nat) : Int) by omega, ih f (k + 1) _ (by omega) (by omega) (s_rt_N T (r_N_u r_N_r (by omega))) (q_ud_s _ _ _ _) (by omega), q_ud_u]
      · rw [if_neg e, if_pos rfl, if_neg (show ¬ (k < n ∧ s_pl (B k) = true) from fun h9 => e (s_pl_i.mp h9.2)), ← hk, q_ud_id]
    · rw [if_neg c, if_neg (show ¬ ((97 : Int) ≤ -1 ∧ (-1 : Int) ≤ 122) by decide), if_pos rfl, if_neg (show ¬ (k < n ∧ s_pl (B k) = true) from fun h9 => c h9.1), ← hk, q_ud_id]
theorem s_rdig {B : Nat → Int} {n b : Nat} : ∀ (d f k : Nat) (g : q_F), n - k ≤ d → d < f → s_rt B n g → g 139 19 = (k : Int) → k ≤ n → g 139 20 = (b : Int) → b ≤ k → (∀ i, i < k - b → 48 ≤ B (b + i) ∧ B (b + i) ≤ 57) → (k - b ≤ 4 → g 139 21 = s_v B b (k - b)) → ∃ g', fn235_146 f g = some (0, g') ∧ r_N g g' ∧ g' 139 19 = ((s_run s_pd B n d k : Nat) : Int) ∧ g' 139 20 = (b : Int) ∧ g' 139 22 = g 139 22 ∧ (s_run s_pd B n d k - b ≤ 4 → g' 139 21 = s_v B b (s_run s_pd B n d k - b)) := by
  intro d
  induction d with
  | zero =>
    intro f k g hd hf T hk hn hb hbk hdg hv
    obtain ⟨f, rfl⟩ : ∃ f', f = f' + 1 := ⟨f - 1, by omega⟩
    rw [fn235_146, hk, s_rbyte T hn, if_neg (by omega), Option.bind_some, r_rng, if_neg (by decide), Option.bind_some, if_pos rfl, s_run]
    exact ⟨g, rfl, r_N_r, hk, hb, rfl, hv⟩
  | succ d ih =>
    intro f k g hd hf T hk hn hb hbk hdg hv
    obtain ⟨f, rfl⟩ : ∃ f', f = f' + 1 := ⟨f - 1, by omega⟩
    have t2 := T.2.1
    rw [fn235_146, hk, s_rbyte T hn, Option.bind_some, r_rng, Option.bind_some, s_run]
    by_cases c : k < n
    · rw [if_pos c]
      by_cases e : 48 ≤ B k ∧ B k ≤ 57
      · rw [if_pos e, if_neg (show ¬ (1 : Int) = 0 by decide), if_pos (show k < n ∧ s_pd (B k) = true from ⟨c, s_pd_i.mpr e⟩), hb, q_w32_id (z := (k : Int) - b) (by omega) (by omega)]
        have hdg' : ∀ i, i < k + 1 - b → 48 ≤ B (b + i) ∧ B (b + i) ≤ 57 := fun i hi => by
          by_cases e9 : i = k - b
          · subst e9; rw [show b + (k - b) = k by omega]; exact e
          · exact hdg i (by omega)
        have sub : ∀ g1 : q_F, r_N g g1 → g1 139 19 = (k : Int) → g1 139 20 = (b : Int) → g1 139 22 = g 139 22 → (k + 1 - b ≤ 4 → g1 139 21 = s_v B b (k + 1 - b)) → ∃ g', fn235_203 (fn235_146 f) g1 = some (0, g') ∧ r_N g g' ∧ g' 139 19 = ((s_run s_pd B n d (k + 1) : Nat) : Int) ∧ g' 139 20 = (b : Int) ∧ g' 139 22 = g 139 22 ∧ (s_run s_pd B n d (k + 1) - b ≤ 4 → g' 139 21 = s_v B b (s_run s_pd B n d (k + 1) - b)) := fun g1 N e9 e0 e2 ev => by
          rw [fn235_203, m_let, e9, q_w32_id (by omega) (by omega), show (k : Int) + 1 = ((k + 1 : Nat) : Int) by omega]
          obtain ⟨g', a1, a2, a3, a4, a5, a6⟩ := ih f (k + 1) (q_ud g1 139 19 ((k + 1 : Nat) : Int)) (by omega) (by omega) (s_rt_N T (r_N_u N (by omega))) (q_ud_s _ _ _ _) (by omega) (by rw [q_ud_n (by omega)]; exact e0) (by omega) hdg' (fun h9 => by rw [q_ud_n (by omega)]; exact ev h9)
          rw [q_ud_n (by omega)] at a5
          exact ⟨g', a1, r_N_t (r_N_u N (by omega)) a2, a3, a4, a5.trans e2, a6⟩
        by_cases m : (4 : Int) ≤ (k : Int) - b
        · rw [if_pos m]
          exact sub g r_N_r hk hb rfl (fun h9 => by omega)
        · have v0 := s_v_b (B := B) (b := b) (k - b) hdg
          have v1 : (10 : Int) ^ (k - b) ≤ 1000 := by
            obtain h9 | h9 | h9 | h9 : k - b = 0 ∨ k - b = 1 ∨ k - b = 2 ∨ k - b = 3 := by omega
            all_goals (rw [h9]; decide)
          have ev : q_w32 (q_w32 (q_w32 (10 * g 139 21) + B k) - 48) = s_v B b (k + 1 - b) := by
            rw [hv (by omega), q_w32_id (z := 10 * s_v B b (k - b)) (by omega) (by omega), q_w32_id (z := 10 * s_v B b (k - b) + B k) (by omega) (by omega), q_w32_id (by omega) (by omega), show k + 1 - b = (k - b) + 1 by omega, s_v, show b + (k - b) = k by omega]
            omega
          rw [if_neg m, Option.bind_some, m_let, ev]
          exact sub _ (r_N_u r_N_r (by omega)) (by rw [q_ud_n (by omega)]; exact hk) (by rw [q_ud_n (by omega)]; exact hb) (q_ud_n (by omega)) (fun _ => q_ud_s _ _ _ _)
      · rw [if_neg e, if_pos rfl, if_neg (show ¬ (k < n ∧ s_pd (B k) = true) from fun h9 => e (s_pd_i.mp h9.2))]
        exact ⟨g, rfl, r_N_r, hk, hb, rfl, hv⟩
    · rw [if_neg c, if_neg (show ¬ ((48 : Int) ≤ -1 ∧ (-1 : Int) ≤ 57) by decide), if_pos rfl, if_neg (show ¬ (k < n ∧ s_pd (B k) = true) from fun h9 => c h9.1)]
      exact ⟨g, rfl, r_N_r, hk, hb, rfl, hv⟩
/-- the token that begins where the next one from p begins -/
def s_rT (B : Nat → Int) (n p : Nat) (g : q_F) : Prop := s_rt B n g ∧ p ≤ n ∧ g 139 20 = ((s_b B n p : Nat) : Int) ∧ (s_b B n p = n → g 139 22 = 0) ∧ (s_b B n p < n →
  (s_pl (B (s_b B n p)) = true → g 139 22 = 1 ∧ g 139 19 = ((s_l B n (s_b B n p) : Nat) : Int)) ∧
  (s_pl (B (s_b B n p)) = false → s_pd (B (s_b B n p)) = true → g 139 22 = 2 ∧ g 139 19 = ((s_d B n (s_b B n p) : Nat) : Int) ∧ (s_d B n (s_b B n p) - s_b B n p ≤ 4 → g 139 21 = s_v B (s_b B n p) (s_d B n (s_b B n p) - s_b B n p))) ∧
  (s_pl (B (s_b B n p)) = false → s_pd (B (s_b B n p)) = false → (B (s_b B n p) = 59 → g 139 22 = 3) ∧ (B (s_b B n p) ≠ 59 → g 139 22 = 4) ∧ g 139 19 = ((s_b B n p + 1 : Nat) : Int)))
/-- what a token is, its beginning at b -/
def s_tk (B : Nat → Int) (n b : Nat) (g : q_F) : Prop := g 139 20 = (b : Int) ∧ (b = n → g 139 22 = 0) ∧ (b < n →
  (s_pl (B b) = true → g 139 22 = 1 ∧ g 139 19 = ((s_l B n b : Nat) : Int)) ∧
  (s_pl (B b) = false → s_pd (B b) = true → g 139 22 = 2 ∧ g 139 19 = ((s_d B n b : Nat) : Int) ∧ (s_d B n b - b ≤ 4 → g 139 21 = s_v B b (s_d B n b - b))) ∧
  (s_pl (B b) = false → s_pd (B b) = false → (B b = 59 → g 139 22 = 3) ∧ (B b ≠ 59 → g 139 22 = 4) ∧ g 139 19 = ((b + 1 : Nat) : Int)))
theorem s_tok0 {B : Nat → Int} {n : Nat} : ∀ (d f k : Nat) (g : q_F), n - k ≤ d → d < f → s_rt B n g → g 139 19 = (k : Int) → k ≤ n → ∃ g', fn235_0 f g = some (0, g') ∧ r_N g g' ∧ s_tk B n (s_run s_pb B n d k) g' := by
  have tail : ∀ (g : q_F) (k : Nat), s_rt B n g → g 139 19 = (k : Int) → k ≤ n → ∃ g', (q_let (q_ud g 139 20 (g 139 19)) fun g6 =>
        (fn245 (g6 139 19) g6).bind fun x7 =>
        q_let (q_ud g6 139 21 (0 : Int)) fun g8 =>
        if x7 = (-1 : Int) then (
          q_let (q_ud g8 139 22 (0 : Int)) fun g30 =>
          some ((0 : Int), g30))
        else (
          (fn267 x7 (97 : Int) (122 : Int) g8).bind fun x10 =>
          if x10 = 0 then (
            (fn267 x7 (48 : Int) (57 : Int) g8).bind fun x12 =>
            if x12 = 0 then (
              if x7 = (59 : Int) then (
                fn235_228 (3 : Int) g8)
              else (
                fn235_228 (4 : Int) g8))
            else (
              q_let (q_ud g8 139 22 (2 : Int)) fun g17 =>
              fn235_146 q_fu g17))
          else (
            q_let (q_ud g8 139 22 (1 : Int)) fun g25 =>
            fn235_93 q_fu g25))) = some (0, g') ∧ r_N g g' ∧ s_tk B n k g' := by
    intro g k T hk hn
    have t2 := T.2.1
    have fu := q_fu_ge
    have T6 : s_rt B n (q_ud g 139 20 (g 139 19)) := s_rt_N T (r_N_u r_N_r (by omega))
    have e19 : q_ud g 139 20 (g 139 19) 139 19 = (k : Int) := by rw [q_ud_n (by omega)]; exact hk
    rw [m_let, e19, s_rbyte T6 hn, Option.bind_some, m_let, hk]
    have N8 : ∀ t : Int, r_N g (q_ud (q_ud (q_ud g 139 20 (k : Int)) 139 21 0) 139 22 t) := fun t => r_N_u (r_N_u (r_N_u r_N_r (by omega)) (by omega)) (by omega)
    have f19 : ∀ t : Int, q_ud (q_ud (q_ud g 139 20 (k : Int)) 139 21 0) 139 22 t 139 19 = (k : Int) := fun t => by rw [q_ud_n (by omega), q_ud_n (by omega), q_ud_n (by omega)]; exact hk
    have f20 : ∀ t : Int, q_ud (q_ud (q_ud g 139 20 (k : Int)) 139 21 0) 139 22 t 139 20 = (k : Int) := fun t => by rw [q_ud_n (by omega), q_ud_n (by omega), q_ud_s]
    have f21 : ∀ t : Int, q_ud (q_ud (q_ud g 139 20 (k : Int)) 139 21 0) 139 22 t 139 21 = 0 := fun t => by rw [q_ud_n (by omega), q_ud_s]
    have f22 : ∀ t : Int, q_ud (q_ud (q_ud g 139 20 (k : Int)) 139 21 0) 139 22 t 139 22 = t := fun t => q_ud_s _ _ _ _
    by_cases c : k < n
    · rw [if_pos c]
      have b0 := T.2.2.2 k c
      rw [if_neg (show ¬ B k = -1 by omega), r_rng, Option.bind_some]
      by_cases l : 97 ≤ B k ∧ B k ≤ 122
      · rw [if_pos l, if_neg (by decide), m_let, s_rlet 600 q_fu k _ (by omega) (by omega) (s_rt_N T (N8 1)) (f19 1) hn]
        refine ⟨_, rfl, r_N_u (N8 1) (by omega), ?_, fun h9 => by omega, fun _ => ⟨fun _ => ⟨?_, q_ud_s _ _ _ _⟩, fun h9 => ?_, fun h9 => ?_⟩⟩
        · rw [q_ud_n (by omega)]; exact f20 1
        · rw [q_ud_n (by omega)]; exact f22 1
        · rw [s_pl_i.mpr l] at h9; exact absurd h9 (by decide)
        · rw [s_pl_i.mpr l] at h9; exact absurd h9 (by decide)
      · have l' : ¬ s_pl (B k) = true := fun h9 => l (s_pl_i.mp h9)
        rw [if_neg l, if_pos rfl, r_rng, Option.bind_some]
        by_cases m : 48 ≤ B k ∧ B k ≤ 57
        · rw [if_pos m, if_neg (by decide), m_let]
          obtain ⟨g', a1, a2, a3, a4, a5, a6⟩ := s_rdig (b := k) 600 q_fu k _ (by omega) (by omega) (s_rt_N T (N8 2)) (f19 2) hn (f20 2) (Nat.le_refl _) (fun i hi => by omega) (fun _ => by rw [Nat.sub_self, s_v]; exact f21 2)
          refine ⟨g', a1, r_N_t (N8 2) a2, a4, fun h9 => by omega, fun _ => ⟨fun h9 => absurd h9 l', fun _ _ => ⟨a5.trans (f22 2), a3, a6⟩, fun _ h9 => ?_⟩⟩
          rw [s_pd_i.mpr m] at h9; exact absurd h9 (by decide)
        · have m' : ¬ s_pd (B k) = true := fun h9 => m (s_pd_i.mp h9)
          rw [if_neg m, if_pos rfl]
          have oth : ∀ t : Int, (B k = 59 → t = 3) → (B k ≠ 59 → t = 4) → ∃ g', fn235_228 t (q_ud (q_ud g 139 20 (k : Int)) 139 21 0) = some (0, g') ∧ r_N g g' ∧ s_tk B n k g' := fun t t3 t4 => by
            rw [fn235_228, m_let, m_let, f19, q_w32_id (by omega) (by omega)]
            refine ⟨_, rfl, r_N_u (N8 t) (by omega), ?_, fun h9 => by omega, fun _ => ⟨fun h9 => absurd h9 l', fun _ h9 => absurd h9 m', fun _ _ => ⟨fun h9 => ?_, fun h9 => ?_, ?_⟩⟩⟩
            · rw [q_ud_n (by omega)]; exact f20 t
            · rw [q_ud_n (by omega), f22]; exact t3 h9
            · rw [q_ud_n (by omega), f22]; exact t4 h9
            · rw [q_ud_s]; omega
          by_cases s : B k = 59
          · rw [if_pos s]; exact oth 3 (fun _ => rfl) (fun h9 => absurd s h9)
          · rw [if_neg s]; exact oth 4 (fun h9 => absurd h9 s) (fun _ => rfl)
    · rw [if_neg c, if_pos rfl, m_let]
      exact ⟨_, rfl, N8 0, f20 0, fun _ => f22 0, fun h9 => absurd h9 c⟩
  intro d
  induction d with
  | zero =>
    intro f k g hd hf T hk hn
    obtain ⟨f, rfl⟩ : ∃ f', f = f' + 1 := ⟨f - 1, by omega⟩
    rw [fn235_0, hk, s_rbyte T hn, if_neg (by omega), Option.bind_some, if_neg (show ¬ (-1 : Int) = 32 by decide), Option.bind_some, if_neg (show ¬ (-1 : Int) = 10 by decide), s_run, ← hk]
    exact tail g k T hk hn
  | succ d ih =>
    intro f k g hd hf T hk hn
    obtain ⟨f, rfl⟩ : ∃ f', f = f' + 1 := ⟨f - 1, by omega⟩
    have t2 := T.2.1
    have blank : k < n → ∃ g', fn235_26 (fn235_0 f) g = some (0, g') ∧ r_N g g' ∧ s_tk B n (s_run s_pb B n d (k + 1)) g' := fun c => by
      rw [fn235_26, m_let, hk, q_w32_id (by omega) (by omega), show (k : Int) + 1 = ((k + 1 : Nat) : Int) by omega]
      obtain ⟨g', a1, a2, a3⟩ := ih f (k + 1) (q_ud g 139 19 ((k + 1 : Nat) : Int)) (by omega) (by omega) (s_rt_N T (r_N_u r_N_r (by omega))) (q_ud_s _ _ _ _) (by omega)
      exact ⟨g', a1, r_N_t (r_N_u r_N_r (by omega)) a2, a3⟩
    rw [fn235_0, hk, s_rbyte T hn, Option.bind_some, s_run]
    by_cases c : k < n
    · rw [if_pos c]
      by_cases e : B k = 32
      · rw [if_pos e, if_pos (show k < n ∧ s_pb (B k) = true from ⟨c, s_pb_i.mpr (Or.inl e)⟩)]; exact blank c
      · rw [if_neg e, Option.bind_some]
        by_cases e2 : B k = 10
        · rw [if_pos e2, if_pos (show k < n ∧ s_pb (B k) = true from ⟨c, s_pb_i.mpr (Or.inr e2)⟩)]; exact blank c
        · rw [if_neg e2, if_neg (show ¬ (k < n ∧ s_pb (B k) = true) from fun h9 => by rcases s_pb_i.mp h9.2 with h8 | h8 <;> omega), ← hk]
          exact tail g k T hk hn
    · rw [if_neg c, if_neg (show ¬ (-1 : Int) = 32 by decide), Option.bind_some, if_neg (show ¬ (-1 : Int) = 10 by decide), if_neg (show ¬ (k < n ∧ s_pb (B k) = true) from fun h9 => c h9.1), ← hk]
      exact tail g k T hk hn
theorem s_tok {B : Nat → Int} {n p : Nat} {g : q_F} (T : s_rt B n g) (hp : g 139 19 = (p : Int)) (hn : p ≤ n) : ∃ g', fn235 g = some (0, g') ∧ r_N g g' ∧ s_rT B n p g' := by
  obtain ⟨g', a1, a2, a3⟩ := s_tok0 600 q_fu p g (by have := T.2.1; omega) (by have := q_fu_ge; omega) T hp hn
  exact ⟨g', a1, a2, s_rt_N T a2, hn, a3.1, a3.2.1, a3.2.2⟩
end -- [98p.one]
section -- [98q.one]
/-! Part 98q: the word that begins a statement. -/
def s_wr (B : Nat → Int) (b : Nat) (z : Int) (k : Nat) : Prop := ∀ i : Nat, k ≤ i → (i : Int) < qx_sl z → B (b + i) = qx_sc z i
def s_wd (B : Nat → Int) (b e : Nat) (z : Int) : Prop := ((e - b : Nat) : Int) = qx_sl z ∧ s_wr B b z 0
theorem s_wr_s {B : Nat → Int} {b k : Nat} {z : Int} (h : B (b + k) = qx_sc z k) : s_wr B b z k ↔ s_wr B b z (k + 1) := by
  constructor
  · intro f i hi; exact f i (by omega)
  · intro f i hi hl
    by_cases e : i = k
    · subst e; exact h
    · exact f i (by omega) hl
theorem s_cwl {B : Nat → Int} {n b e : Nat} {z : Int} {h : q_F} (T : s_ct B n h) (he : e ≤ n) (hb : b ≤ e) (hl : ((e - b : Nat) : Int) = qx_sl z) : ∀ (d k f : Nat), k + d = e - b → d < f → (s_wr B b z k → fn112_15 1 z h f b k = some 1) ∧ (¬ s_wr B b z k → fn112_15 1 z h f b k = some 0) := by
  intro d
  induction d with
  | zero =>
    intro k f hd hf
    obtain ⟨f, rfl⟩ : ∃ f', f = f' + 1 := ⟨f - 1, by omega⟩
    rw [fn112_15, if_pos (by omega)]
    exact ⟨fun _ => rfl, fun h9 => absurd (fun i hi hl' => by omega) h9⟩
  | succ d ih =>
    intro k f hd hf
    obtain ⟨f, rfl⟩ : ∃ f', f = f' + 1 := ⟨f - 1, by omega⟩
    have t2 := T.2.1
    rw [fn112_15, if_neg (by omega), q_w32_id (by omega) (by omega), show (b : Int) + k = ((b + k : Nat) : Int) by omega, s_byte T, if_pos (by omega), Option.bind_some, if_pos (by omega)]
    by_cases c : B (b + k) = qx_sc z k
    · rw [if_pos c, q_w32_id (by omega) (by omega), ← m_s1]
      have := ih (k + 1) f (by omega) (by omega)
      rw [s_wr_s c]; exact this
    · rw [if_neg c]
      exact ⟨fun h9 => absurd (h9 k (Nat.le_refl _) (by omega)) c, fun _ => rfl⟩
theorem s_cw {B : Nat → Int} {n b e : Nat} {z : Int} {h : q_F} (T : s_ct B n h) (he : e ≤ n) (hb : b ≤ e) : (s_wd B b e z → fn112 1 z b e h = some 1) ∧ (¬ s_wd B b e z → fn112 1 z b e h = some 0) := by
  have t2 := T.2.1
  unfold fn112
  rw [q_w32_id (by omega) (by omega)]
  by_cases c : ((e - b : Nat) : Int) = qx_sl z
  · rw [if_pos (by omega)]
    have := s_cwl T he hb c (e - b) 0 q_fu (by omega) (by have := q_fu_ge; omega)
    exact ⟨fun h9 => this.1 h9.2, fun h9 => this.2 fun h8 => h9 ⟨c, h8⟩⟩
  · rw [if_neg (by omega)]
    exact ⟨fun h9 => absurd h9.1 c, fun _ => rfl⟩
theorem s_122 {k : Nat} (hk : k < 7) (h : q_F) : fn122 k h = some ((3 + k : Nat) : Int) := by
  obtain rfl | rfl | rfl | rfl | rfl | rfl | rfl : k = 0 ∨ k = 1 ∨ k = 2 ∨ k = 3 ∨ k = 4 ∨ k = 5 ∨ k = 6 := by omega
  all_goals rfl
/-- which statement the word from b to e begins -/
def s_st (B : Nat → Int) (b e : Nat) (v : Int) : Prop := (∃ st : Nat, st < 7 ∧ v = (st : Int) ∧ s_wd B b e ((3 + st : Nat) : Int) ∧ ∀ j, j < st → ¬ s_wd B b e ((3 + j : Nat) : Int)) ∨ (v = -1 ∧ ∀ j, j < 7 → ¬ s_wd B b e ((3 + j : Nat) : Int))
theorem s_45 {B : Nat → Int} {n b e : Nat} {h : q_F} (T : s_ct B n h) (he : e ≤ n) (hb : b ≤ e) (hp : h 3 6 = (e : Int)) : ∀ (d k f : Nat), k + d = 7 → d < f → (∀ j, j < k → ¬ s_wd B b e ((3 + j : Nat) : Int)) → ∃ v, fn121_45 1 f b k h = some (v, h) ∧ s_st B b e v := by
  intro d
  induction d with
  | zero =>
    intro k f hd hf hn
    obtain ⟨f, rfl⟩ : ∃ f', f = f' + 1 := ⟨f - 1, by omega⟩
    rw [fn121_45, if_pos (by omega)]
    exact ⟨_, rfl, Or.inr ⟨rfl, fun j hj => hn j (by omega)⟩⟩
  | succ d ih =>
    intro k f hd hf hn
    obtain ⟨f, rfl⟩ : ∃ f', f = f' + 1 := ⟨f - 1, by omega⟩
    rw [fn121_45, if_neg (by omega), s_122 (by omega), Option.bind_some, hp]
    by_cases c : s_wd B b e ((3 + k : Nat) : Int)
    · rw [(s_cw T he hb).1 c, Option.bind_some, if_neg (by decide)]
      exact ⟨_, rfl, Or.inl ⟨k, by omega, rfl, c, hn⟩⟩
    · rw [(s_cw T he hb).2 c, Option.bind_some, if_pos rfl, q_w32_id (by omega) (by omega), ← m_s1]
      refine ih (k + 1) f (by omega) (by omega) fun j hj => ?_
      by_cases e9 : j = k
      · subst e9; exact c
      · exact hn j (by omega)
/-- the class's word: which statement, and its place behind the letters -/
theorem s_cst {B : Nat → Int} {n b : Nat} {h : q_F} (T : s_ct B n h) (hk : h 3 6 = (b : Int)) (hn : b ≤ n) : ∃ v, fn121 1 h = some (v, q_ud h 3 6 ((s_l B n b : Nat) : Int)) ∧ s_st B b (s_l B n b) v := by
  rw [s_word T hk hn]
  exact s_45 (s_ct_3 T (by omega)) (s_run_le 600 b hn) (s_run_ge 600 b) (q_ud_s _ _ _ _) 7 0 q_fu (by omega) (by have := q_fu_ge; omega) (fun j hj => by omega)
theorem s_sl (j : Nat) (hj : j < 7) : 1 ≤ qx_sl ((3 + j : Nat) : Int) ∧ qx_sl ((3 + j : Nat) : Int) ≤ 10 := by
  refine ⟨?_, (q_sl10 _).2⟩
  obtain rfl | rfl | rfl | rfl | rfl | rfl | rfl : j = 0 ∨ j = 1 ∨ j = 2 ∨ j = 3 ∨ j = 4 ∨ j = 5 ∨ j = 6 := by omega
  all_goals decide +kernel
theorem s_rwl {B : Nat → Int} {n b e : Nat} {z : Int} {g : q_F} (T : s_rt B n g) (he : e ≤ n) (hb : b ≤ e) (h20 : g 139 20 = (b : Int)) (hl : ((e - b : Nat) : Int) = qx_sl z) : ∀ (d k f : Nat), k + d = e - b → d < f → (s_wr B b z k → fn273_23 z g f k = some 1) ∧ (¬ s_wr B b z k → fn273_23 z g f k = some 0) := by
  intro d
  induction d with
  | zero =>
    intro k f hd hf
    obtain ⟨f, rfl⟩ : ∃ f', f = f' + 1 := ⟨f - 1, by omega⟩
    rw [fn273_23, if_pos (by omega)]
    exact ⟨fun _ => rfl, fun h9 => absurd (fun i hi hl' => by omega) h9⟩
  | succ d ih =>
    intro k f hd hf
    obtain ⟨f, rfl⟩ : ∃ f', f = f' + 1 := ⟨f - 1, by omega⟩
    have t2 := T.2.1
    rw [fn273_23, if_neg (by omega), h20, q_w32_id (z := (b : Int) + k) (by omega) (by omega), if_pos (by omega), if_pos (by omega), show ((b : Int) + k).toNat = b + k by omega, T.2.2.1 (b + k) (by omega)]
    by_cases c : B (b + k) = qx_sc z k
    · rw [if_pos c, q_w32_id (by omega) (by omega), ← m_s1]
      have := ih (k + 1) f (by omega) (by omega)
      rw [s_wr_s c]; exact this
    · rw [if_neg c]
      exact ⟨fun h9 => absurd (h9 k (Nat.le_refl _) (by omega)) c, fun _ => rfl⟩
/-- the reference's isWord -/
theorem s_rw {B : Nat → Int} {n p j : Nat} {g : q_F} (T : s_rT B n p g) (hb : s_b B n p < n) (hj : j < 7) : (s_wd B (s_b B n p) (s_l B n (s_b B n p)) ((3 + j : Nat) : Int) → fn273 ((3 + j : Nat) : Int) g = some 1) ∧ (¬ s_wd B (s_b B n p) (s_l B n (s_b B n p)) ((3 + j : Nat) : Int) → fn273 ((3 + j : Nat) : Int) g = some 0) := by
  obtain ⟨T0, -, t20, -, T1⟩ := T
  obtain ⟨w, d, o⟩ := T1 hb
  have sl := s_sl j hj
  generalize hbb : s_b B n p = b at *
  have no : s_pl (B b) = false → g 139 22 ≠ 1 → (s_wd B b (s_l B n b) ((3 + j : Nat) : Int) → fn273 ((3 + j : Nat) : Int) g = some 1) ∧ (¬ s_wd B b (s_l B n b) ((3 + j : Nat) : Int) → fn273 ((3 + j : Nat) : Int) g = some 0) := fun e h22 => by
    have el : s_l B n b = b := s_run_no (fun h9 => by rw [e] at h9; exact absurd h9.2 (by decide))
    unfold fn273
    rw [if_neg h22, el]
    exact ⟨fun h9 => by have := h9.1; rw [Nat.sub_self] at this; omega, fun _ => rfl⟩
  cases e : s_pl (B b) with
  | true =>
    have t2 := T0.2.1
    have le := s_run_le (P := s_pl) (B := B) 600 b (show b ≤ n by omega)
    have ge := s_run_ge (P := s_pl) (B := B) (n := n) 600 b
    have ee : s_l B n b = s_run s_pl B n 600 b := rfl
    rw [← ee] at le ge
    obtain ⟨w1, w2⟩ := w e
    unfold fn273
    rw [if_pos w1, fn355, Option.bind_some, w2, t20, q_w32_id (by omega) (by omega)]
    by_cases c : ((s_l B n b - b : Nat) : Int) = qx_sl ((3 + j : Nat) : Int)
    · rw [if_pos (by omega)]
      have := s_rwl T0 le ge t20 c (s_l B n b - b) 0 q_fu (by omega) (by have := q_fu_ge; omega)
      exact ⟨fun h9 => this.1 h9.2, fun h9 => this.2 fun h8 => h9 ⟨c, h8⟩⟩
    · rw [if_neg (by omega)]
      exact ⟨fun h9 => absurd h9.1 c, fun _ => rfl⟩
  | false =>
    refine no e ?_
    cases e2 : s_pd (B b) with
    | true => rw [(d e e2).1]; decide
    | false =>
      have := o e e2
      by_cases c : B b = 59
      · rw [this.1 c]; decide
      · rw [this.2.1 c]; decide
end -- [98q.one]
section -- [98r.one]
/-! Part 98r: what holds of both sides while a setup text is read; a number. -/
def s_ok (st sl : Nat) : Prop := (st < 3 ∧ sl < 6) ∨ (st = 3 ∧ sl < 3) ∨ (st = 4 ∧ sl = 0)
def s_c1 (st : Nat) : Nat := if st < 3 then 4 else if st = 3 then 5 else 3
def s_c2 (st sl : Nat) : Nat := if st < 3 then 6 * st + sl else if st = 3 then sl else 2
def s_pl' (st sl : Nat) : Nat := if st < 3 then 8 + 3 * sl + st else if st = 3 then 26 + sl else 0
/-- the numbers are the same -/
def s_X (c g : q_F) : Prop := ∀ st sl, s_ok st sl → c (s_c1 st) (s_c2 st sl) = g 140 (s_pl' st sl)
theorem s_X_u {c g : q_F} {st sl : Nat} {v : Int} (X : s_X c g) (ok : s_ok st sl) : s_X (q_ud c (s_c1 st) (s_c2 st sl) v) (m_sr g 140 (m_u (g 140) (s_pl' st sl) v)) := by
  intro st' sl' ok'
  rw [m_sr_s]
  by_cases e : st' = st ∧ sl' = sl
  · rw [e.1, e.2, q_ud_s, m_u_s]
  · have h1 : ¬ (s_c1 st' = s_c1 st ∧ s_c2 st' sl' = s_c2 st sl) := by
      unfold s_c1 s_c2; unfold s_ok at ok ok'
      split <;> split <;> (try split) <;> (try split) <;> omega
    have h2 : s_pl' st' sl' ≠ s_pl' st sl := by
      unfold s_pl'; unfold s_ok at ok ok'
      split <;> split <;> (try split) <;> (try split) <;> omega
    rw [q_ud_n h1, m_u_n h2]; exact X st' sl' ok'
theorem s_X_k {c c' g g' : q_F} (X : s_X c g) (h4 : c' 4 = c 4) (h5 : c' 5 = c 5) (h3 : c' 3 2 = c 3 2) (hg : g' 140 = g 140) : s_X c' g' := by
  intro st sl ok
  rw [hg, ← X st sl ok]
  unfold s_c1 s_c2; unfold s_ok at ok
  split
  · rw [h4]
  · split
    · rw [h5]
    · rw [h3]
/-- both sides at a place of the text, nothing wrong yet -/
def s_R (B : Nat → Int) (n p : Nat) (s : Nat) (c g : q_F) : Prop := s_ct B n c ∧ c 3 6 = (p : Int) ∧ s_rT B n p g ∧ s_X c g ∧ (c 3 4 = 0 ∧ g 139 17 = 0) ∧ (c 3 5 = -1 ∧ g 139 18 = -1) ∧ s < 128 ∧ c 3 3 = (s : Int) ∧ g 139 23 = (s : Int)
/-- both sides have found the same error -/
def s_E (c g : q_F) : Prop := ∃ k : Int, k ≠ 0 ∧ c 3 4 = k ∧ g 139 17 = k ∧ c 3 5 = g 139 18
theorem s_103 (k o : Int) (c : q_F) : fn103 k o c = some (0, q_ud (q_ud c 3 4 k) 3 5 o) := rfl
theorem s_259 {k : Int} {g : q_F} (h : g 139 17 = 0) : fn259 k g = some (0, q_ud (q_ud g 139 17 k) 139 18 (g 139 20)) := by
  unfold fn259; rw [if_pos h, m_let, m_let, q_ud_n (show ¬ (139 = 139 ∧ 20 = 17) by omega)]
theorem s_E_i {k o : Int} {c g : q_F} (hk : k ≠ 0) (ho : g 139 20 = o) : s_E (q_ud (q_ud c 3 4 k) 3 5 o) (q_ud (q_ud g 139 17 k) 139 18 (g 139 20)) := ⟨k, hk, by rw [q_ud_n (by omega), q_ud_s], by rw [q_ud_n (by omega), q_ud_s], by rw [q_ud_s, q_ud_s, ho]⟩
/-- the class goes over the digits of a number -/
theorem s_num0 {B : Nat → Int} {n b st sl : Nat} : ∀ (d f k : Nat) (u : Int) (h : q_F), n - k ≤ d → d < f → s_ct B n h → h 3 6 = (k : Int) → k ≤ n → b ≤ k → (∀ i, i < k - b → 48 ≤ B (b + i) ∧ B (b + i) ≤ 57) → (k - b ≤ 4 → u = s_v B b (k - b)) → ∃ u', fn118_15 1 f st sl b u h = fn118_72 1 st sl b u' (q_ud h 3 6 ((s_run s_pd B n d k : Nat) : Int)) ∧ (s_run s_pd B n d k - b ≤ 4 → u' = s_v B b (s_run s_pd B n d k - b)) := by
  intro d
  induction d with
  | zero =>
    intro f k u h hd hf T hk hn hbk hdg hv
    obtain ⟨f, rfl⟩ : ∃ f', f = f' + 1 := ⟨f - 1, by omega⟩
    rw [fn118_15, T.1, hk, if_pos (by omega), s_run, ← hk, q_ud_id]
    exact ⟨u, rfl, hv⟩
  | succ d ih =>
    intro f k u h hd hf T hk hn hbk hdg hv
    obtain ⟨f, rfl⟩ : ∃ f', f = f' + 1 := ⟨f - 1, by omega⟩
    have t2 := T.2.1
    rw [fn118_15, T.1, hk, s_run]
    by_cases c : k < n
    · rw [if_neg (by omega), s_byte T, if_pos c, Option.bind_some, s_110, Option.bind_some]
      cases e : s_pd (B k) with
      | false =>
        rw [if_pos (show (bif false then (1 : Int) else 0) = 0 from rfl), if_neg (show ¬ (k < n ∧ false = true) by simp), ← hk, q_ud_id]
        exact ⟨u, rfl, hv⟩
      | true =>
        have eb := s_pd_i.mp e
        rw [if_neg (show ¬ (bif true then (1 : Int) else 0) = 0 by decide), if_pos (show k < n ∧ true = true from ⟨c, rfl⟩), Option.bind_some, m_let, q_w32_id (z := (k : Int) + 1) (by omega) (by omega), show (k : Int) + 1 = ((k + 1 : Nat) : Int) by omega]
        have hdg' : ∀ i, i < k + 1 - b → 48 ≤ B (b + i) ∧ B (b + i) ≤ 57 := fun i hi => by
          by_cases e9 : i = k - b
          · subst e9; rw [show b + (k - b) = k by omega]; exact eb
          · exact hdg i (by omega)
        obtain ⟨u', a1, a2⟩ := ih f (k + 1) (q_w32 ((q_w32 (u * (10 : Int))) + (q_w32 (B k - (48 : Int))))) (q_ud h 3 6 ((k + 1 : Nat) : Int)) (by omega) (by omega) (s_ct_3 T (by omega)) (q_ud_s _ _ _ _) (by omega) (by omega) hdg' (fun h9 => by
          have v0 := s_v_b (B := B) (b := b) (k - b) hdg
          have v1 : (10 : Int) ^ (k - b) ≤ 1000 := by
            obtain h9 | h9 | h9 | h9 : k - b = 0 ∨ k - b = 1 ∨ k - b = 2 ∨ k - b = 3 := by omega
            all_goals (rw [h9]; decide)
          rw [hv (by omega), q_w32_id (z := s_v B b (k - b) * 10) (by omega) (by omega), q_w32_id (z := B k - 48) (by omega) (by omega), q_w32_id (by omega) (by omega), show k + 1 - b = (k - b) + 1 by omega, s_v, show b + (k - b) = k by omega]
          omega)
        rw [q_ud_u] at a1
        exact ⟨u', a1, a2⟩
    · rw [if_pos (by omega), if_neg (show ¬ (k < n ∧ s_pd (B k) = true) from fun h9 => c h9.1), ← hk, q_ud_id]
      exact ⟨u, rfl, hv⟩
theorem s_num {B : Nat → Int} {n p st sl : Nat} {h : q_F} (T : s_ct B n h) (hk : h 3 6 = (p : Int)) (hn : p ≤ n) : ∃ u, fn118 1 st sl h = fn118_72 1 st sl (s_b B n p : Nat) u (q_ud h 3 6 ((s_d B n (s_b B n p) : Nat) : Int)) ∧ (s_d B n (s_b B n p) - s_b B n p ≤ 4 → u = s_v B (s_b B n p) (s_d B n (s_b B n p) - s_b B n p)) := by
  have le := s_run_le (P := s_pb) (B := B) 600 p hn
  obtain ⟨u, a1, a2⟩ := s_num0 (B := B) (n := n) (b := s_b B n p) (st := st) (sl := sl) 600 q_fu (s_b B n p) 0 (q_ud h 3 6 ((s_b B n p : Nat) : Int)) (by have := T.2.1; omega) (by have := q_fu_ge; omega) (s_ct_3 T (by omega)) (q_ud_s _ _ _ _) le (Nat.le_refl _) (fun i hi => by omega) (fun _ => by rw [Nat.sub_self]; rfl)
  rw [q_ud_u] at a1
  refine ⟨u, ?_, a2⟩
  rw [fn118, s_find T hk hn, Option.bind_some]
  dsimp only
  rw [q_ud_s]
  exact a1
end -- [98r.one]
section -- [98s.one]
/-! Part 98s: a number is taken alike by both sides. -/
noncomputable def s_mn (st sl : Nat) : Int := if st < 3 then q_lgv 1 sl else if st = 3 then 0 else 1
noncomputable def s_mx (N : Nat → Int) (st sl : Nat) : Int := if st < 3 then (if sl = 4 then N (6 * st) else q_lgv 2 sl) else if st = 3 then N (6 * sl) else 1000
theorem s_114 {st sl : Nat} (ok : s_ok st sl) (h : q_F) : fn114 st sl h = some (s_mn st sl) := by
  unfold s_ok at ok
  unfold fn114 s_mn
  by_cases e4 : st = 4
  · rw [if_pos (by omega), if_neg (by omega), if_neg (by omega)]
  · rw [if_neg (by omega)]
    by_cases e3 : st = 3
    · rw [if_pos (by omega), if_neg (by omega), if_pos e3]
    · rw [if_neg (by omega), if_pos (by omega), show (1 : Int) = ((1 : Nat) : Int) from rfl, c_ents (by omega), Option.bind_some]
theorem s_106 {st sl : Nat} (ok : s_ok st sl) (h : q_F) : fn106 st sl h = some (s_mx (h 4) st sl) := by
  unfold s_ok at ok
  unfold fn106 s_mx
  by_cases e4 : st = 4
  · rw [if_pos (by omega), if_neg (by omega), if_neg (by omega)]
  · rw [if_neg (by omega)]
    by_cases e3 : st = 3
    · have t := c_T115 (a := sl) (i := 0) (h := h) (by omega) (by omega)
      have t' : fn115 (sl : Int) 0 h = some (h 4 (6 * sl)) := t
      rw [if_pos (by omega), if_neg (by omega), if_pos e3, t', Option.bind_some]
    · rw [if_neg (show ¬ (st : Int) = 3 by omega), if_pos (show st < 3 by omega)]
      by_cases e5 : sl = 4
      · have t := c_T115 (a := st) (i := 0) (h := h) (by omega) (by omega)
        have t' : fn115 (st : Int) 0 h = some (h 4 (6 * st)) := t
        rw [if_pos (show (sl : Int) = 4 by omega), if_pos e5, t', Option.bind_some]
      · rw [if_neg (show ¬ (sl : Int) = 4 by omega), if_neg e5, show (2 : Int) = ((2 : Nat) : Int) from rfl, c_ents (by omega), Option.bind_some]
theorem s_keep {st sl : Nat} {v : Int} {h : q_F} (ok : s_ok st sl) : fn113 st sl v h = some (0, q_ud h (s_c1 st) (s_c2 st sl) v) := by
  unfold s_ok at ok
  unfold s_c1 s_c2
  by_cases h3 : st < 3
  · rw [if_pos h3, if_pos h3]; exact c_keepA h3 (by omega)
  · rw [if_neg h3, if_neg h3]
    unfold fn113
    by_cases e3 : st = 3
    · rw [if_neg (by omega), if_pos (by omega), c_put (by omega) (by omega), Option.bind_some, if_pos e3, if_pos e3, Int.toNat_natCast]
    · rw [if_pos (by omega), if_neg e3, if_neg e3, m_let]
theorem s_R_err {B : Nat → Int} {n p s b e : Nat} {c g : q_F} {k : Int} (R : s_R B n p s c g) (hk : k ≠ 0) (hb : g 139 20 = (b : Int)) : ∃ c' g', ((fn103 k b (q_ud c 3 6 (e : Int))).bind fun x4 => some ((0 : Int), x4.2)) = some (0, c') ∧ ((fn259 k g).bind fun x2 => some (x2.1, x2.2)) = some (0, g') ∧ s_E c' g' := by
  obtain ⟨-, -, -, -, ⟨-, h17⟩, -⟩ := R
  rw [s_103, s_259 h17, Option.bind_some, Option.bind_some]
  exact ⟨_, _, rfl, rfl, s_E_i hk hb⟩
/-- a number -/
theorem s_simN {B : Nat → Int} {n p s st sl : Nat} {c g : q_F} {mn mx : Int} (R : s_R B n p s c g) (ok : s_ok st sl) (hmn : mn = s_mn st sl) (hmx : mx = s_mx (c 4) st sl) : ∃ c' g', fn118 1 st sl c = some (0, c') ∧ ((fn348 (s_pl' st sl : Nat) mn mx g = some (1, g') ∧ ∃ p', p ≤ p' ∧ s_R B n p' s c' g' ∧ g' 140 1 = g 140 1 ∧ g' 140 2 = g 140 2) ∨ (fn348 (s_pl' st sl : Nat) mn mx g = some (0, g') ∧ s_E c' g')) := by
  subst hmn hmx
  have R0 := R
  obtain ⟨T, hp, RT, X, ⟨hc, hg⟩, ⟨hc5, hg18⟩, hs, cs, gs⟩ := R
  obtain ⟨T0, hn, t20, tz, T1⟩ := RT
  obtain ⟨u, n1, n2⟩ := s_num (st := st) (sl := sl) T hp hn
  have t2 := T.2.1
  have ble := s_run_le (P := s_pb) (B := B) 600 p hn
  have bge := s_run_ge (P := s_pb) (B := B) (n := n) 600 p
  have eb : s_b B n p = s_run s_pb B n 600 p := rfl
  rw [← eb] at ble bge
  rw [n1]
  generalize s_b B n p = b at *
  have ele := s_run_le (P := s_pd) (B := B) 600 b ble
  have ege := s_run_ge (P := s_pd) (B := B) (n := n) 600 b
  have ee : s_d B n b = s_run s_pd B n 600 b := rfl
  rw [← ee] at ele ege
  have e36 : q_ud c 3 6 ((s_d B n b : Nat) : Int) 3 6 = ((s_d B n b : Nat) : Int) := q_ud_s _ _ _ _
  by_cases dg : b < n ∧ s_pd (B b) = true
  · have bd := s_pd_i.mp dg.2
    have ego : b < s_d B n b := s_run_go dg.1 dg.2 (by omega)
    have nl : s_pl (B b) = false := decide_eq_false (by omega)
    obtain ⟨k22, k19, k21⟩ := (T1 dg.1).2.1 nl dg.2
    unfold fn118_72 fn118_93 fn118_125 fn348 fn348_16
    rw [e36, if_pos k22, fn355, Option.bind_some, k19, t20, q_w32_id (z := ((s_d B n b : Nat) : Int) - (b : Int)) (by omega) (by omega), if_neg (by omega)]
    by_cases l4 : ((s_d B n b : Nat) : Int) - (b : Int) ≤ 4
    · rw [if_pos l4, if_pos l4, s_114 ok, Option.bind_some, s_106 ok, Option.bind_some, r_rng, Option.bind_some, k21 (by omega), n2 (by omega), show q_ud c 3 6 ((s_d B n b : Nat) : Int) 4 = c 4 by funext j; rw [q_ud_n (by omega)]]
      generalize hv : s_v B b (s_d B n b - b) = v
      have bad := s_R_err (e := s_d B n b) (k := 2) R0 (by decide) t20
      obtain ⟨c', g', b1, b2, b3⟩ := bad
      by_cases c1 : v < s_mn st sl
      · rw [if_pos c1, if_neg (show ¬ (s_mn st sl ≤ v ∧ v ≤ s_mx (c 4) st sl) by omega), if_pos rfl]
        exact ⟨c', g', b1, Or.inr ⟨b2, b3⟩⟩
      · rw [if_neg c1]
        by_cases c2 : v ≤ s_mx (c 4) st sl
        · rw [if_pos c2, if_pos (show s_mn st sl ≤ v ∧ v ≤ s_mx (c 4) st sl by omega), if_neg (show ¬ (1 : Int) = 0 by decide), s_keep ok, Option.bind_some]
          have pl : s_pl' st sl < 122 ∧ s_pl' st sl ≠ 1 ∧ s_pl' st sl ≠ 2 := by unfold s_pl'; unfold s_ok at ok; split <;> (try split) <;> omega
          have c1b : 3 ≤ s_c1 st ∧ (s_c1 st = 3 → s_c2 st sl = 2) := by unfold s_c1 s_c2; unfold s_ok at ok; split <;> (try split) <;> omega
          rw [if_pos (by omega), m_let, Int.toNat_natCast, m_ud_sr g 140]
          have Tg : s_rt B n (m_sr g 140 (m_u (g 140) (s_pl' st sl) v)) := ⟨by rw [m_sr_n (by omega)]; exact T0.1, T0.2.1, fun k hk => by rw [m_sr_n (by omega)]; exact T0.2.2.1 k hk, T0.2.2.2⟩
          obtain ⟨g', a1, a2, a3⟩ := s_tok (p := s_d B n b) Tg (by rw [m_sr_n (by omega)]; exact k19) ele
          rw [a1, Option.bind_some]
          have q39 : ∀ j, j ≠ 19 → j ≠ 20 → j ≠ 21 → j ≠ 22 → g' 139 j = g 139 j := fun j h1 h2 h3 h4 => by rw [a2.2 j h1 h2 h3 h4, m_sr_n (by omega)]
          have q40 : g' 140 = m_u (g 140) (s_pl' st sl) v := by rw [a2.1 140 (by omega), m_sr_s]
          have q3 : ∀ j, j ≠ 2 → j ≠ 6 → q_ud (q_ud c 3 6 ((s_d B n b : Nat) : Int)) (s_c1 st) (s_c2 st sl) v 3 j = c 3 j := fun j h1 h2 => by
            rw [q_ud_n (fun h9 => by have := c1b.2 h9.1.symm; omega), q_ud_n (by omega)]
          refine ⟨q_ud (q_ud c 3 6 ((s_d B n b : Nat) : Int)) (s_c1 st) (s_c2 st sl) v, g', rfl, Or.inl ⟨rfl, s_d B n b, by omega, ⟨s_ct_3 (s_ct_3 T (by omega)) c1b.1, ?_, a3, ?_, ⟨?_, ?_⟩, ⟨?_, ?_⟩, hs, ?_, ?_⟩, ?_, ?_⟩⟩
          · rw [q_ud_n (fun h9 => by have := c1b.2 h9.1.symm; omega)]; exact e36
          · refine s_X_k (s_X_u (v := v) (s_X_k (c' := q_ud c 3 6 ((s_d B n b : Nat) : Int)) (g' := g) X ?_ ?_ ?_ rfl) ok) rfl rfl rfl ?_
            · funext j; rw [q_ud_n (by omega)]
            · funext j; rw [q_ud_n (by omega)]
            · rw [q_ud_n (by omega)]
            · rw [q40, m_sr_s]
          · rw [q3 4 (by omega) (by omega)]; exact hc
          · rw [q39 17 (by omega) (by omega) (by omega) (by omega)]; exact hg
          · rw [q3 5 (by omega) (by omega)]; exact hc5
          · rw [q39 18 (by omega) (by omega) (by omega) (by omega)]; exact hg18
          · rw [q3 3 (by omega) (by omega)]; exact cs
          · rw [q39 23 (by omega) (by omega) (by omega) (by omega)]; exact gs
          · rw [q40, m_u_n (by omega)]
          · rw [q40, m_u_n (by omega)]
        · rw [if_neg c2, if_neg (show ¬ (s_mn st sl ≤ v ∧ v ≤ s_mx (c 4) st sl) by omega), if_pos rfl]
          exact ⟨c', g', b1, Or.inr ⟨b2, b3⟩⟩
    · rw [if_neg l4, if_neg l4]
      obtain ⟨c', g', b1, b2, b3⟩ := s_R_err (e := s_d B n b) (k := 1) R0 (by decide) t20
      exact ⟨c', g', b1, Or.inr ⟨b2, b3⟩⟩
  · have ee0 : s_d B n b = b := s_run_no dg
    have nt : ¬ g 139 22 = 2 := by
      by_cases bn : b < n
      · have nd : s_pd (B b) = false := by
          cases e : s_pd (B b) with
          | true => exact absurd ⟨bn, e⟩ dg
          | false => rfl
        obtain ⟨w, d, o⟩ := T1 bn
        cases e : s_pl (B b) with
        | true => rw [(w e).1]; decide
        | false =>
          by_cases e9 : B b = 59
          · rw [(o e nd).1 e9]; decide
          · rw [(o e nd).2.1 e9]; decide
      · rw [tz (by omega)]; decide
    unfold fn118_72 fn118_93 fn348 fn348_16
    rw [if_neg nt, e36, ee0, Int.sub_self, if_pos (by rw [q_w32_id (by omega) (by omega)]; omega)]
    obtain ⟨c', g', b1, b2, b3⟩ := s_R_err (e := b) (k := 1) R0 (by decide) t20
    exact ⟨c', g', b1, Or.inr ⟨b2, b3⟩⟩
end -- [98s.one]
section -- [98t.one]
/-! Part 98t: a statement is read alike by both sides. -/
def s_W (s : Nat) (g : q_F) : Prop := g 140 1 = ((s / 32 % 2 : Nat) : Int) ∧ g 140 2 = ((s / 64 % 2 : Nat) : Int)
/-- behind the numbers of a statement: both go on alike, or both have found the same error -/
def s_J (B : Nat → Int) (n p : Nat) (F G : Option (Int × q_F)) : Prop := (∃ c' g' p' s', F = fn120_99 1 c' ∧ G = some (1, g') ∧ p ≤ p' ∧ s_R B n p' s' c' g' ∧ s_W s' g') ∨ ∃ c' g', F = some (0, c') ∧ G = some (0, g') ∧ s_E c' g'
theorem s_99E {c g : q_F} (E : s_E c g) : fn120_99 1 c = some (0, c) := by
  obtain ⟨k, k0, k1, -⟩ := E
  unfold fn120_99; rw [if_neg (by rw [k1]; exact k0)]
theorem s_71E {c g : q_F} {f : Nat} {a b d : Int} (E : s_E c g) : fn120_71 1 (f + 1) a b d c = some (0, c) := by
  have e := s_99E E
  obtain ⟨k, k0, k1, -⟩ := E
  rw [fn120_71]
  split
  · exact e
  · rw [if_neg (by rw [k1]; exact k0)]; exact e
theorem s_71D {c : q_F} {f nn : Nat} {a : Int} : fn120_71 1 (f + 1) a nn nn c = fn120_99 1 c := by
  rw [fn120_71, if_pos (Int.le_refl _)]
/-- one number, then the rest -/
theorem s_next {B : Nat → Int} {n p p0 s st nn i f : Nat} {c g : q_F} {mn mx : Int} {K : Int × q_F → Option (Int × q_F)} (R : s_R B n p s c g) (W : s_W s g) (h0 : p0 ≤ p) (hi : i < nn) (hn : nn < 10) (hf : 0 < f) (ok : s_ok st i) (hmn : mn = s_mn st i) (hmx : mx = s_mx (c 4) st i) (hK : ∀ c' g' p', p0 ≤ p' → s_R B n p' s c' g' → s_W s g' → s_J B n p0 (fn120_71 1 f st nn (i + 1 : Nat) c') (K (1, g'))) (K1 : ∀ g', K (0, g') = some (0, g')) : s_J B n p0 (fn120_71 1 (f + 1) st nn i c) ((fn348 (s_pl' st i : Nat) mn mx g).bind K) := by
  obtain ⟨c', g', a1, a2⟩ := s_simN R ok hmn hmx
  rw [fn120_71, if_neg (by omega), if_pos R.2.2.2.2.1.1, a1, Option.bind_some, q_w32_id (by omega) (by omega), show (i : Int) + 1 = ((i + 1 : Nat) : Int) by omega]
  dsimp only
  rcases a2 with ⟨b1, p', b2, b3, b4, b5⟩ | ⟨b1, b2⟩
  · rw [b1, Option.bind_some]
    exact hK c' g' p' (by omega) b3 ⟨b4.trans W.1, b5.trans W.2⟩
  · rw [b1, Option.bind_some, K1]
    obtain ⟨f, rfl⟩ : ∃ f', f = f' + 1 := ⟨f - 1, by omega⟩
    exact Or.inr ⟨c', g', s_71E b2, rfl, b2⟩
/-- the semicolon -/
theorem s_semi {B : Nat → Int} {n p s : Nat} {c g : q_F} (R : s_R B n p s c g) : ∃ c', fn120_99 1 c = some (0, c') ∧ ((g 139 22 = 3 ∧ ∃ g' p', fn235 g = some (0, g') ∧ p < p' ∧ s_R B n p' s c' g' ∧ g' 140 = g 140) ∨ (g 139 22 ≠ 3 ∧ ∃ g', fn259 1 g = some (0, g') ∧ s_E c' g')) := by
  have R0 := R
  obtain ⟨T, hp, RT, X, ⟨hc, hg⟩, ⟨hc5, hg18⟩, hs, cs, gs⟩ := R
  obtain ⟨T0, hn, t20, tz, T1⟩ := RT
  have t2 := T.2.1
  have ble := s_run_le (P := s_pb) (B := B) 600 p hn
  have bge := s_run_ge (P := s_pb) (B := B) (n := n) 600 p
  have eb : s_b B n p = s_run s_pb B n 600 p := rfl
  rw [← eb] at ble bge
  unfold fn120_99 fn119
  rw [if_pos hc, s_find T hp hn, Option.bind_some]
  dsimp only
  rw [q_ud_s, s_byte (s_ct_3 T (by omega)), Option.bind_some]
  generalize s_b B n p = b at *
  by_cases c9 : b < n ∧ B b = 59
  · have nl : s_pl (B b) = false := decide_eq_false (by omega)
    have nd : s_pd (B b) = false := decide_eq_false (by omega)
    obtain ⟨k22, -, k19⟩ := (T1 c9.1).2.2 nl nd
    rw [if_pos c9.1, if_pos c9.2, m_let, Option.bind_some, q_ud_u, q_w32_id (by omega) (by omega)]
    obtain ⟨g', a1, a2, a3⟩ := s_tok (p := b + 1) T0 k19 (by omega)
    have q39 : ∀ j, j ≠ 19 → j ≠ 20 → j ≠ 21 → j ≠ 22 → g' 139 j = g 139 j := fun j h1 h2 h3 h4 => a2.2 j h1 h2 h3 h4
    refine ⟨q_ud c 3 6 ((b : Int) + 1), rfl, Or.inl ⟨k22 c9.2, g', b + 1, a1, by omega, ⟨s_ct_3 T (by omega), by rw [q_ud_s]; omega, a3, s_X_k X ?_ ?_ ?_ (a2.1 140 (by omega)), ⟨?_, ?_⟩, ⟨?_, ?_⟩, hs, ?_, ?_⟩, a2.1 140 (by omega)⟩⟩
    · funext j; rw [q_ud_n (by omega)]
    · funext j; rw [q_ud_n (by omega)]
    · rw [q_ud_n (by omega)]
    · rw [q_ud_n (by omega)]; exact hc
    · rw [q39 17 (by omega) (by omega) (by omega) (by omega)]; exact hg
    · rw [q_ud_n (by omega)]; exact hc5
    · rw [q39 18 (by omega) (by omega) (by omega) (by omega)]; exact hg18
    · rw [q_ud_n (by omega)]; exact cs
    · rw [q39 23 (by omega) (by omega) (by omega) (by omega)]; exact gs
  · have nt : g 139 22 ≠ 3 := by
      by_cases bn : b < n
      · obtain ⟨w, d, o⟩ := T1 bn
        cases e : s_pl (B b) with
        | true => rw [(w e).1]; decide
        | false =>
          cases e2 : s_pd (B b) with
          | true => rw [(d e e2).1]; decide
          | false => rw [(o e e2).2.1 (fun h9 => c9 ⟨bn, h9⟩)]; decide
      · rw [tz (by omega)]; decide
    have nb : ¬ (if b < n then B b else (-1 : Int)) = 59 := by
      by_cases bn : b < n
      · rw [if_pos bn]; exact fun h9 => c9 ⟨bn, h9⟩
      · rw [if_neg bn]; decide
    rw [if_neg nb, s_103, Option.bind_some, Option.bind_some, s_259 hg]
    exact ⟨_, rfl, Or.inr ⟨nt, _, rfl, s_E_i (by decide) t20⟩⟩
theorem s_bit1 : ∀ s : Nat, s < 128 → ∀ k : Nat, k < 7 → (q_ian (q_ishr (s : Int) (k : Int)) 1 = 1 ↔ s / 2 ^ k % 2 = 1) ∧ (q_ian (s : Int) (q_ishl 1 (k : Int)) = 0 ↔ s / 2 ^ k % 2 = 0) := by decide +kernel
noncomputable def s_or (s k : Nat) : Nat := (q_ior (s : Int) (q_ishl 1 (k : Int))).toNat
theorem s_bit2 : ∀ s : Nat, s < 128 → ∀ k : Nat, k < 7 → (q_ior (s : Int) (q_ishl 1 (k : Int))).toNat < 128 ∧ q_ior (s : Int) (q_ishl 1 (k : Int)) = ((q_ior (s : Int) (q_ishl 1 (k : Int))).toNat : Int) ∧ ((q_ior (s : Int) (q_ishl 1 (k : Int))).toNat / 32 % 2 = if k = 5 then 1 else s / 32 % 2) ∧ ((q_ior (s : Int) (q_ishl 1 (k : Int))).toNat / 64 % 2 = if k = 6 then 1 else s / 64 % 2) := by decide +kernel
theorem s_107 {s k : Nat} {h : q_F} (hs : s < 128) (hk : k < 7) (e : h 3 3 = (s : Int)) : fn107 k h = some (if s / 2 ^ k % 2 = 1 then 1 else 0) := by
  unfold fn107
  rw [e]
  by_cases c : s / 2 ^ k % 2 = 1
  · rw [if_pos ((s_bit1 s hs k hk).1.mpr c), if_pos c]
  · rw [if_neg (fun h9 => c ((s_bit1 s hs k hk).1.mp h9)), if_neg c]
/-- a statement begins: the word is gone over, its bit is set -/
theorem s_onceG {B : Nat → Int} {n p s st : Nat} {c g : q_F} {may : Int} (R : s_R B n p s c g) (hst : st < 7) (hb : s_b B n p < n) (hl : s_pl (B (s_b B n p)) = true) (hns : s / 2 ^ st % 2 = 0) (hm : may ≠ 0) : ∃ g', fn339 (q_ishl 1 (st : Int)) may g = some (1, g') ∧ s_R B n (s_l B n (s_b B n p)) (s_or s st) (q_ud (q_ud c 3 6 ((s_l B n (s_b B n p) : Nat) : Int)) 3 3 (q_ior (s : Int) (q_ishl 1 (st : Int)))) g' ∧ g' 140 = g 140 := by
  obtain ⟨T, hp, RT, X, ⟨hc, hg⟩, ⟨hc5, hg18⟩, hs, cs, gs⟩ := R
  obtain ⟨T0, hn, t20, tz, T1⟩ := RT
  have t2 := T.2.1
  have ble := s_run_le (P := s_pl) (B := B) 600 (s_b B n p) (Nat.le_of_lt hb)
  obtain ⟨k22, k19⟩ := (T1 hb).1 hl
  have B2 := s_bit2 s hs st hst
  unfold fn339 fn339_14
  rw [gs, if_pos ((s_bit1 s hs st hst).2.mpr hns), m_let, if_neg (by decide), if_neg hm]
  have Tg : s_rt B n (q_ud g 139 23 (q_ior (s : Int) (q_ishl 1 (st : Int)))) := ⟨by rw [q_ud_n (by omega)]; exact T0.1, T0.2.1, fun k hk => by rw [q_ud_n (by omega)]; exact T0.2.2.1 k hk, T0.2.2.2⟩
  obtain ⟨g', a1, a2, a3⟩ := s_tok (p := s_l B n (s_b B n p)) Tg (by rw [q_ud_n (by omega)]; exact k19) ble
  rw [a1, Option.bind_some]
  have q39 : ∀ j, j ≠ 19 → j ≠ 20 → j ≠ 21 → j ≠ 22 → j ≠ 23 → g' 139 j = g 139 j := fun j h1 h2 h3 h4 h5 => by rw [a2.2 j h1 h2 h3 h4, q_ud_n (by omega)]
  have q40 : g' 140 = g 140 := by rw [a2.1 140 (by omega)]; funext j; rw [q_ud_n (by omega)]
  refine ⟨g', rfl, ⟨s_ct_3 (s_ct_3 T (by omega)) (by omega), ?_, a3, s_X_k X ?_ ?_ ?_ q40, ⟨?_, ?_⟩, ⟨?_, ?_⟩, B2.1, ?_, ?_⟩, q40⟩
  · rw [q_ud_n (by omega), q_ud_s]
  · funext j; rw [q_ud_n (by omega), q_ud_n (by omega)]
  · funext j; rw [q_ud_n (by omega), q_ud_n (by omega)]
  · rw [q_ud_n (by omega), q_ud_n (by omega)]
  · rw [q_ud_n (by omega), q_ud_n (by omega)]; exact hc
  · rw [q39 17 (by omega) (by omega) (by omega) (by omega) (by omega)]; exact hg
  · rw [q_ud_n (by omega), q_ud_n (by omega)]; exact hc5
  · rw [q39 18 (by omega) (by omega) (by omega) (by omega) (by omega)]; exact hg18
  · rw [q_ud_s]; exact B2.2.1
  · rw [a2.2 23 (by omega) (by omega) (by omega) (by omega), q_ud_s]; exact B2.2.1
/-- a statement that may not begin here -/
theorem s_onceB {B : Nat → Int} {n p s st : Nat} {c g : q_F} {may : Int} {e : Int} (R : s_R B n p s c g) (hst : st < 7) (hm : s / 2 ^ st % 2 = 1 ∨ may = 0) : ∃ c' g', fn120_43 1 (s_b B n p : Nat) (q_ud c 3 6 e) = some (0, c') ∧ fn339 (q_ishl 1 (st : Int)) may g = some (0, g') ∧ s_E c' g' := by
  obtain ⟨T, hp, RT, X, ⟨hc, hg⟩, ⟨hc5, hg18⟩, hs, cs, gs⟩ := R
  obtain ⟨T0, hn, t20, tz, T1⟩ := RT
  have g17 : ∀ v, q_ud g 139 23 v 139 17 = 0 := fun v => by rw [q_ud_n (by omega)]; exact hg
  unfold fn120_43 fn339 fn339_14 fn339_33
  rw [s_103, Option.bind_some, m_let, m_let, s_259 (g17 _), Option.bind_some]
  have e20 : ∀ v, q_ud g 139 23 v 139 20 = ((s_b B n p : Nat) : Int) := fun v => by rw [q_ud_n (by omega)]; exact t20
  refine ⟨_, _, rfl, ?_, s_E_i (g := q_ud g 139 23 (q_ior (g 139 23) (q_ishl 1 (st : Int)))) (k := 3) (by decide) (e20 _)⟩
  split
  · rename_i c9
    rw [gs] at c9
    have := (s_bit1 s hs st hst).2.mp c9
    rw [if_neg (by decide), if_pos (by omega)]
  · rw [if_pos rfl]
end -- [98t.one]
section -- [98u.one]
/-! Part 98u: the statements, one by one. -/
theorem s_116 {k : Nat} (hk : k < 7) (h : q_F) : fn116 k h = some (if k < 3 then 6 else if k = 3 then 3 else if k = 4 then 1 else 0) := by
  obtain rfl | rfl | rfl | rfl | rfl | rfl | rfl : k = 0 ∨ k = 1 ∨ k = 2 ∨ k = 3 ∨ k = 4 ∨ k = 5 ∨ k = 6 := by omega
  all_goals rfl
theorem s_lgv : q_lgv 1 ((0 : Nat) : Int) = 1 ∧ q_lgv 1 ((1 : Nat) : Int) = 0 ∧ q_lgv 1 ((2 : Nat) : Int) = 1 ∧ q_lgv 1 ((3 : Nat) : Int) = 1 ∧ q_lgv 1 ((4 : Nat) : Int) = 0 ∧ q_lgv 1 ((5 : Nat) : Int) = 0 ∧ q_lgv 2 ((0 : Nat) : Int) = 2000 ∧ q_lgv 2 ((1 : Nat) : Int) = 20 ∧ q_lgv 2 ((2 : Nat) : Int) = 5000 ∧ q_lgv 2 ((3 : Nat) : Int) = 500 ∧ q_lgv 2 ((5 : Nat) : Int) = 20 := by decide +kernel
theorem s_J_E {B : Nat → Int} {n p : Nat} {F G : Option (Int × q_F)} {c' g' : q_F} (f : F = some (0, c')) (g : G = some (0, g')) (E : s_E c' g') : s_J B n p F G := Or.inr ⟨c', g', f, g, E⟩
theorem s_J_D {B : Nat → Int} {n p p0 s f nn : Nat} {a : Int} {c g : q_F} (h0 : p0 ≤ p) (R : s_R B n p s c g) (W : s_W s g) : s_J B n p0 (fn120_71 1 (f + 1) a nn nn c) (some (1, g)) := Or.inl ⟨c, g, p, s, s_71D, rfl, h0, R, W⟩
theorem s_W_or {s st : Nat} {g g' : q_F} (hs : s < 128) (hst : st < 5) (W : s_W s g) (e : g' 140 = g 140) : s_W (s_or s st) g' := by
  have B2 := s_bit2 s hs st (by omega)
  unfold s_W s_or
  rw [e, B2.2.2.1, B2.2.2.2, if_neg (by omega), if_neg (by omega)]
  exact W
/-- the numbers of an axis -/
theorem s_axis {B : Nat → Int} {n p s a : Nat} {c g : q_F} (ha : a < 3) (R : s_R B n p s c g) (W : s_W s g) : s_J B n p (fn120_71 1 q_fu a 6 0 c) ((fn348 (q_w32 ((8 : Int) + a)) (1 : Int) (2000 : Int) g).bind fun x4 =>
    if x4.1 = 0 then (
      fn314_91 a x4.2)
    else (
      (fn348 (q_w32 ((11 : Int) + a)) (0 : Int) (20 : Int) x4.2).bind fun x12 =>
      if x12.1 = 0 then (
        fn314_91 a x12.2)
      else (
        (fn348 (q_w32 ((14 : Int) + a)) (1 : Int) (5000 : Int) x12.2).bind fun x14 =>
        if x14.1 = 0 then (
          fn314_91 a x14.2)
        else (
          (fn348 (q_w32 ((17 : Int) + a)) (1 : Int) (500 : Int) x14.2).bind fun x16 =>
          if x16.1 = 0 then (
            fn314_91 a x16.2)
          else (
            fn314_92 a (1 : Int) x16.2))))) := by
  obtain ⟨f, hf⟩ : ∃ f', q_fu = f' + 7 := ⟨q_fu - 7, by have := q_fu_ge; omega⟩
  rw [hf]
  have L := s_lgv
  have pl : ∀ i : Nat, s_pl' a i = 8 + 3 * i + a := fun i => by unfold s_pl'; rw [if_pos ha]
  have mn : ∀ i : Nat, s_mn a i = q_lgv 1 i := fun i => by unfold s_mn; rw [if_pos ha]
  have mx : ∀ (N : Nat → Int) (i : Nat), i ≠ 4 → s_mx N a i = q_lgv 2 i := fun N i hi => by unfold s_mx; rw [if_pos ha, if_neg hi]
  have e91 : ∀ g', fn314_91 a g' = some (0, g') := fun g' => by unfold fn314_91 fn314_92; rw [if_pos rfl]
  have pp : ∀ i : Nat, i < 6 → q_w32 ((8 + 3 * i : Nat) + (a : Int)) = ((s_pl' a i : Nat) : Int) := fun i hi => by rw [pl, q_w32_id (by omega) (by omega)]; omega
  rw [show q_w32 ((8 : Int) + a) = ((s_pl' a 0 : Nat) : Int) from pp 0 (by omega)]
  refine s_next (i := 0) (nn := 6) R W (Nat.le_refl _) (by omega) (by omega) (by omega) (Or.inl ⟨ha, by omega⟩) (by rw [mn]; exact L.1.symm) (by rw [mx _ _ (by omega)]; exact L.2.2.2.2.2.2.1.symm) ?_ (fun g' => e91 g')
  intro c g p1 h1 R W
  dsimp only
  rw [if_neg (show ¬ (1 : Int) = 0 by decide), show q_w32 ((11 : Int) + a) = ((s_pl' a 1 : Nat) : Int) from pp 1 (by omega)]
  refine s_next (i := 1) (nn := 6) R W h1 (by omega) (by omega) (by omega) (Or.inl ⟨ha, by omega⟩) (by rw [mn]; exact L.2.1.symm) (by rw [mx _ _ (by omega)]; exact L.2.2.2.2.2.2.2.1.symm) ?_ (fun g' => e91 g')
  intro c g p1 h1 R W
  dsimp only
  rw [if_neg (show ¬ (1 : Int) = 0 by decide), show q_w32 ((14 : Int) + a) = ((s_pl' a 2 : Nat) : Int) from pp 2 (by omega)]
  refine s_next (i := 2) (nn := 6) R W h1 (by omega) (by omega) (by omega) (Or.inl ⟨ha, by omega⟩) (by rw [mn]; exact L.2.2.1.symm) (by rw [mx _ _ (by omega)]; exact L.2.2.2.2.2.2.2.2.1.symm) ?_ (fun g' => e91 g')
  intro c g p1 h1 R W
  dsimp only
  rw [if_neg (show ¬ (1 : Int) = 0 by decide), show q_w32 ((17 : Int) + a) = ((s_pl' a 3 : Nat) : Int) from pp 3 (by omega)]
  refine s_next (i := 3) (nn := 6) R W h1 (by omega) (by omega) (by omega) (Or.inl ⟨ha, by omega⟩) (by rw [mn]; exact L.2.2.2.1.symm) (by rw [mx _ _ (by omega)]; exact L.2.2.2.2.2.2.2.2.2.1.symm) ?_ (fun g' => e91 g')
  intro c g p1 h1 R W
  dsimp only
  unfold fn314_92
  have X0 : g 140 (8 + a) = c 4 (6 * a) := by
    have := R.2.2.2.1 a 0 (Or.inl ⟨ha, by omega⟩)
    rw [pl] at this
    unfold s_c1 s_c2 at this
    rw [if_pos ha, if_pos ha] at this
    exact this.symm
  rw [if_neg (show ¬ (1 : Int) = 0 by decide), if_neg (show ¬ (1 : Int) = 0 by decide), q_w32_id (z := 8 + (a : Int)) (by omega) (by omega), if_pos (by omega), show (8 + (a : Int)).toNat = 8 + a by omega, X0, show q_w32 ((20 : Int) + a) = ((s_pl' a 4 : Nat) : Int) from pp 4 (by omega)]
  refine s_next (i := 4) (nn := 6) R W h1 (by omega) (by omega) (by omega) (Or.inl ⟨ha, by omega⟩) (by rw [mn]; exact L.2.2.2.2.1.symm) (by unfold s_mx; rw [if_pos ha, if_pos rfl]) ?_ (fun g' => by dsimp only; rw [if_pos rfl])
  intro c g p1 h1 R W
  dsimp only
  rw [if_neg (show ¬ (1 : Int) = 0 by decide), show q_w32 ((23 : Int) + a) = ((s_pl' a 5 : Nat) : Int) from pp 5 (by omega)]
  refine s_next (i := 5) (nn := 6) R W h1 (by omega) (by omega) (by omega) (Or.inl ⟨ha, by omega⟩) (by rw [mn]; exact L.2.2.2.2.2.1.symm) (by rw [mx _ _ (by omega)]; exact L.2.2.2.2.2.2.2.2.2.2.symm) ?_ (fun g' => by dsimp only; rw [if_pos rfl])
  intro c g p1 h1 R W
  dsimp only
  rw [if_neg (show ¬ (1 : Int) = 0 by decide)]
  exact s_J_D h1 R W
/-- the numbers of begin -/
theorem s_begl {B : Nat → Int} {n p0 s : Nat} : ∀ (d i f f2 p : Nat) (c g : q_F), i + d = 3 → d < f → d < f2 → p0 ≤ p → s_R B n p s c g → s_W s g → s_J B n p0 (fn120_71 1 f 3 3 i c) (fn315_16 f2 1 i g) := by
  intro d
  induction d with
  | zero =>
    intro i f f2 p c g hd hf hf2 h0 R W
    obtain ⟨f, rfl⟩ : ∃ f', f = f' + 1 := ⟨f - 1, by omega⟩
    obtain ⟨f2, rfl⟩ : ∃ f', f2 = f' + 1 := ⟨f2 - 1, by omega⟩
    obtain rfl : i = 3 := by omega
    rw [fn315_16, if_pos (by omega)]
    exact s_J_D (nn := 3) h0 R W
  | succ d ih =>
    intro i f f2 p c g hd hf hf2 h0 R W
    obtain ⟨f, rfl⟩ : ∃ f', f = f' + 1 := ⟨f - 1, by omega⟩
    obtain ⟨f2, rfl⟩ : ∃ f', f2 = f' + 1 := ⟨f2 - 1, by omega⟩
    have X0 : g 140 (8 + i) = c 4 (6 * i) := by
      have := R.2.2.2.1 i 0 (Or.inl ⟨by omega, by omega⟩)
      unfold s_c1 s_c2 s_pl' at this
      rw [if_pos (by omega), if_pos (by omega), if_pos (by omega)] at this
      exact this.symm
    have e0 : ∀ g' : q_F, fn315_16 f2 0 (q_w32 ((i : Int) + 1)) g' = some (0, g') := fun g' => by
      obtain ⟨f3, rfl⟩ : ∃ f', f2 = f' + 1 := ⟨f2 - 1, by omega⟩
      rw [fn315_16]
      split
      · rfl
      · rw [if_pos rfl]
    rw [fn315_16, if_neg (by omega), if_neg (show ¬ (1 : Int) = 0 by decide), q_w32_id (z := 8 + (i : Int)) (by omega) (by omega), if_pos (by omega), show (8 + (i : Int)).toNat = 8 + i by omega, X0, q_w32_id (z := 26 + (i : Int)) (by omega) (by omega), show 26 + (i : Int) = ((s_pl' 3 i : Nat) : Int) by unfold s_pl'; rw [if_neg (by omega), if_pos rfl]; omega]
    refine s_next (st := 3) (i := i) (nn := 3) R W h0 (by omega) (by omega) (by omega) (Or.inr (Or.inl ⟨rfl, by omega⟩)) rfl rfl ?_ e0
    intro c g p1 h1 R W
    dsimp only
    rw [q_w32_id (z := (i : Int) + 1) (by omega) (by omega), ← m_s1]
    exact ih (i + 1) f f2 p1 c g (by omega) (by omega) (by omega) h1 R W
/-- start's number -/
theorem s_start {B : Nat → Int} {n p s : Nat} {c g : q_F} (R : s_R B n p s c g) (W : s_W s g) : s_J B n p (fn120_71 1 q_fu 4 1 0 c) ((fn348 (0 : Int) (1 : Int) (1000 : Int) g).bind fun x22 =>
              if x22.1 = 0 then (
                some ((0 : Int), x22.2))
              else (
                some ((1 : Int), x22.2))) := by
  obtain ⟨f, hf⟩ : ∃ f', q_fu = f' + 2 := ⟨q_fu - 2, by have := q_fu_ge; omega⟩
  rw [hf]
  refine s_next (st := 4) (i := 0) (nn := 1) R W (Nat.le_refl _) (by omega) (by omega) (by omega) (Or.inr (Or.inr ⟨rfl, rfl⟩)) rfl rfl ?_ (fun g' => by dsimp only; rw [if_pos rfl])
  intro c g p1 h1 R W
  dsimp only
  rw [if_neg (show ¬ (1 : Int) = 0 by decide)]
  exact s_J_D (nn := 1) h1 R W
end -- [98u.one]
section -- [98v.one]
/-! Part 98v: a statement, the whole text. -/
theorem s_J_w {B : Nat → Int} {n p p1 : Nat} {F G : Option (Int × q_F)} (h : p1 ≤ p) (J : s_J B n p F G) : s_J B n p1 F G := by
  rcases J with ⟨c', g', p', s', a, b, d, e⟩ | J
  · exact Or.inl ⟨c', g', p', s', a, b, by omega, e⟩
  · exact Or.inr J
theorem s_id (G : Option (Int × q_F)) : (G.bind fun x => some (x.1, x.2)) = G := by cases G <;> rfl
theorem s_R_f {B : Nat → Int} {n p s j : Nat} {v : Int} {c g : q_F} (hj : j = 1 ∨ j = 2) (R : s_R B n p s c g) : s_R B n p s c (q_ud g 140 j v) := by
  obtain ⟨T, hp, RT, X, ⟨hc, hg⟩, ⟨hc5, hg18⟩, hs, cs, gs⟩ := R
  obtain ⟨T0, hn, t20, tz, T1⟩ := RT
  refine ⟨T, hp, ⟨⟨by rw [q_ud_n (by omega)]; exact T0.1, T0.2.1, fun k hk => by rw [q_ud_n (by omega)]; exact T0.2.2.1 k hk, T0.2.2.2⟩, hn, by rw [q_ud_n (by omega)]; exact t20, fun h9 => by rw [q_ud_n (by omega)]; exact tz h9, fun h9 => ?_⟩, fun st sl ok => ?_, ⟨hc, by rw [q_ud_n (by omega)]; exact hg⟩, ⟨hc5, by rw [q_ud_n (by omega)]; exact hg18⟩, hs, cs, by rw [q_ud_n (by omega)]; exact gs⟩
  · rw [q_ud_n (show ¬ (139 = 140 ∧ 22 = j) by omega), q_ud_n (show ¬ (139 = 140 ∧ 19 = j) by omega), q_ud_n (show ¬ (139 = 140 ∧ 21 = j) by omega)]
    exact T1 h9
  · have : s_pl' st sl ≠ 1 ∧ s_pl' st sl ≠ 2 := by unfold s_pl'; unfold s_ok at ok; split <;> (try split) <;> omega
    rw [q_ud_n (by omega)]; exact X st sl ok
/-- the class at a statement -/
theorem s_c120 {B : Nat → Int} {n p s st : Nat} {c g : q_F} (R : s_R B n p s c g) (hst : st < 7) (hv : fn121 1 (q_ud c 3 6 ((s_b B n p : Nat) : Int)) = some ((st : Int), q_ud c 3 6 ((s_l B n (s_b B n p) : Nat) : Int))) : ((s / 2 ^ st % 2 = 1 ∨ (st < 3 ∧ s / 8 % 2 = 1)) → fn120 1 (q_ud c 3 6 ((s_b B n p : Nat) : Int)) = fn120_43 1 ((s_b B n p : Nat) : Int) (q_ud c 3 6 ((s_l B n (s_b B n p) : Nat) : Int))) ∧ (¬ (s / 2 ^ st % 2 = 1 ∨ (st < 3 ∧ s / 8 % 2 = 1)) → fn120 1 (q_ud c 3 6 ((s_b B n p : Nat) : Int)) = fn120_71 1 q_fu st (if st < 3 then 6 else if st = 3 then 3 else if st = 4 then 1 else 0) 0 (q_ud (q_ud c 3 6 ((s_l B n (s_b B n p) : Nat) : Int)) 3 3 (q_ior (s : Int) (q_ishl 1 (st : Int))))) := by
  obtain ⟨T, hp, RT, X, ⟨hc, hg⟩, ⟨hc5, hg18⟩, hs, cs, gs⟩ := R
  have e3 : q_ud c 3 6 ((s_l B n (s_b B n p) : Nat) : Int) 3 3 = (s : Int) := by rw [q_ud_n (by omega)]; exact cs
  have e50 : fn120_50 1 st (q_ud c 3 6 ((s_l B n (s_b B n p) : Nat) : Int)) = fn120_71 1 q_fu st (if st < 3 then 6 else if st = 3 then 3 else if st = 4 then 1 else 0) 0 (q_ud (q_ud c 3 6 ((s_l B n (s_b B n p) : Nat) : Int)) 3 3 (q_ior (s : Int) (q_ishl 1 (st : Int)))) := by
    rw [fn120_50, m_let, e3, s_116 hst, Option.bind_some]
  rw [fn120, hv, Option.bind_some]
  dsimp only
  rw [if_pos (by omega), s_107 hs hst e3, Option.bind_some, q_ud_s]
  have s3 : fn107 3 (q_ud c 3 6 ((s_l B n (s_b B n p) : Nat) : Int)) = some (if s / 8 % 2 = 1 then 1 else 0) := s_107 (k := 3) hs (by omega) e3
  by_cases c1 : s / 2 ^ st % 2 = 1
  · rw [if_pos c1, if_neg (by decide)]
    exact ⟨fun _ => rfl, fun h9 => absurd (Or.inl c1) h9⟩
  · rw [if_neg c1, if_pos rfl]
    by_cases c3 : (3 : Int) ≤ (st : Int)
    · rw [if_pos c3, e50]
      exact ⟨fun h9 => by rcases h9 with h9 | h9; exact absurd h9 c1; omega, fun _ => rfl⟩
    · rw [if_neg c3, s3, Option.bind_some]
      by_cases c4 : s / 8 % 2 = 1
      · rw [if_pos c4, if_neg (by decide)]
        exact ⟨fun _ => rfl, fun h9 => absurd (Or.inr ⟨by omega, c4⟩) h9⟩
      · rw [if_neg c4, if_pos rfl, e50]
        exact ⟨fun h9 => by rcases h9 with h9 | h9; exact absurd h9 c1; exact absurd h9.2 c4, fun _ => rfl⟩
theorem s_stat {B : Nat → Int} {n p s : Nat} {c g : q_F} (R : s_R B n p s c g) (W : s_W s g) (hb : s_b B n p < n) : s_J B n (p + 1) (fn120 1 (q_ud c 3 6 ((s_b B n p : Nat) : Int))) (fn316 g) := by
  have R0 := R
  obtain ⟨T, hp, RT, X, ⟨hc, hg⟩, ⟨hc5, hg18⟩, hs, cs, gs⟩ := R
  have bge := s_run_ge (P := s_pb) (B := B) (n := n) 600 p
  have eb : s_b B n p = s_run s_pb B n 600 p := rfl
  rw [← eb] at bge
  have sel : ∀ j, j < 7 → (s_wd B (s_b B n p) (s_l B n (s_b B n p)) ((3 + j : Nat) : Int) → fn273 ((3 + j : Nat) : Int) g = some 1) ∧ (¬ s_wd B (s_b B n p) (s_l B n (s_b B n p)) ((3 + j : Nat) : Int) → fn273 ((3 + j : Nat) : Int) g = some 0) := fun j hj => s_rw RT hb hj
  obtain ⟨v, hv, ST⟩ := s_cst (s_ct_3 (k := 3) (j := 6) (v := ((s_b B n p : Nat) : Int)) T (by omega)) (q_ud_s _ _ _ _) (Nat.le_of_lt hb)
  rw [q_ud_u] at hv
  rcases ST with ⟨st, hst, rfl, wd, nwd⟩ | ⟨rfl, nwd⟩
  · -- a word of the language
    have ege : s_b B n p < s_l B n (s_b B n p) := by
      have := wd.1; have := s_sl st hst; omega
    have hl : s_pl (B (s_b B n p)) = true := (s_run_in 600 (s_b B n p) (s_b B n p) (Nat.le_refl _) ege).1
    have C := s_c120 R0 hst hv
    have z : ∀ j, j < st → fn273 ((3 + j : Nat) : Int) g = some 0 := fun j hj => (sel j (by omega)).2 (nwd j hj)
    have o : fn273 ((3 + st : Nat) : Int) g = some 1 := (sel st hst).1 wd
    have hw : p + 1 ≤ s_l B n (s_b B n p) := by omega
    -- an axis
    have axis : ∀ a : Nat, a < 3 → st = a → s_J B n (p + 1) (fn120 1 (q_ud c 3 6 ((s_b B n p : Nat) : Int))) ((fn314 a g).bind fun x27 => some (x27.1, x27.2)) := fun a ha e => by
      subst e
      rw [s_id]
      have m8 := m_ian8 s hs
      by_cases cb : s / 2 ^ st % 2 = 1 ∨ (st < 3 ∧ s / 8 % 2 = 1)
      · rw [C.1 cb]
        have hm : s / 2 ^ st % 2 = 1 ∨ (if q_ian (g 139 23) 8 = 0 then (1 : Int) else 0) = 0 := by
          rcases cb with h9 | h9
          · exact Or.inl h9
          · right; rw [gs, if_neg (fun h8 => by have := m8.mp h8; omega)]
        obtain ⟨c', g', a1, a2, a3⟩ := s_onceB (e := ((s_l B n (s_b B n p) : Nat) : Int)) R0 hst hm
        refine s_J_E a1 ?_ a3
        unfold fn314 fn314_19
        split
        · rename_i c9
          rw [if_pos c9] at a2
          rw [a2, Option.bind_some]; dsimp only; rw [if_pos rfl]
        · rename_i c9
          rw [if_neg c9] at a2
          rw [a2, Option.bind_some]; dsimp only; rw [if_pos rfl]
      · rw [C.2 cb]
        have h8 : q_ian (g 139 23) 8 = 0 := by rw [gs]; exact m8.mpr (by omega)
        obtain ⟨g', a1, a2, a3⟩ := s_onceG (may := 1) R0 hst hb hl (by omega) (by decide)
        unfold fn314 fn314_19
        rw [if_pos h8, a1, Option.bind_some]
        dsimp only
        rw [if_neg (show ¬ (1 : Int) = 0 by decide), if_pos ha]
        exact s_J_w hw (s_axis ha a2 (s_W_or hs (by omega) W a3))
    have rest : ∀ (g0 : q_F), s_R B n p s c g0 → 3 ≤ st → ((s / 2 ^ st % 2 = 1 → ∃ c' g', fn120 1 (q_ud c 3 6 ((s_b B n p : Nat) : Int)) = some (0, c') ∧ fn339 (q_ishl 1 (st : Int)) 1 g0 = some (0, g') ∧ s_E c' g') ∧ (¬ s / 2 ^ st % 2 = 1 → ∃ g', fn339 (q_ishl 1 (st : Int)) 1 g0 = some (1, g') ∧ fn120 1 (q_ud c 3 6 ((s_b B n p : Nat) : Int)) = fn120_71 1 q_fu st (if st < 3 then 6 else if st = 3 then 3 else if st = 4 then 1 else 0) 0 (q_ud (q_ud c 3 6 ((s_l B n (s_b B n p) : Nat) : Int)) 3 3 (q_ior (s : Int) (q_ishl 1 (st : Int)))) ∧ s_R B n (s_l B n (s_b B n p)) (s_or s st) (q_ud (q_ud c 3 6 ((s_l B n (s_b B n p) : Nat) : Int)) 3 3 (q_ior (s : Int) (q_ishl 1 (st : Int)))) g' ∧ g' 140 = g0 140)) := fun g0 Rg h3 => by
      refine ⟨fun cb => ?_, fun cb => ?_⟩
      · rw [C.1 (Or.inl cb)]
        exact s_onceB (may := 1) Rg hst (Or.inl cb)
      · obtain ⟨g', a1, a2, a3⟩ := s_onceG (may := 1) Rg hst hb hl (by omega) (by decide)
        exact ⟨g', a1, C.2 (fun h9 => by rcases h9 with h9 | h9; exact cb h9; omega), a2, a3⟩
    have flag : ∀ (j : Nat) (b : Int), (st = 5 ∧ j = 1) ∨ (st = 6 ∧ j = 2) → b = q_ishl 1 (st : Int) → s_J B n (p + 1) (fn120 1 (q_ud c 3 6 ((s_b B n p : Nat) : Int))) (fn339 b 1 (q_ud g 140 j 1)) := fun j b hj eb => by
      subst eb
      have Q := rest (q_ud g 140 j 1) (s_R_f (by omega) R0) (by omega)
      by_cases cb : s / 2 ^ st % 2 = 1
      · obtain ⟨c', g', a1, a2, a3⟩ := Q.1 cb
        exact s_J_E a1 a2 a3
      · obtain ⟨g', a1, a2, a3, a4⟩ := Q.2 cb
        rw [a1, a2, if_neg (by omega), if_neg (by omega), if_neg (by omega)]
        obtain ⟨f, hf⟩ : ∃ f', q_fu = f' + 1 := ⟨q_fu - 1, by have := q_fu_ge; omega⟩
        rw [hf]
        refine s_J_D (nn := 0) hw a3 ?_
        have B2 := s_bit2 s hs st hst
        unfold s_W s_or
        rw [a4, B2.2.2.1, B2.2.2.2]
        rcases hj with ⟨e1, e2⟩ | ⟨e1, e2⟩
        · rw [if_pos e1, if_neg (by omega), e2, q_ud_s, q_ud_n (by omega)]; exact ⟨rfl, W.2⟩
        · rw [if_neg (by omega), if_pos e1, e2, q_ud_s, q_ud_n (by omega)]; exact ⟨W.1, rfl⟩
    unfold fn316
    obtain rfl | rfl | rfl | rfl | rfl | rfl | rfl : st = 0 ∨ st = 1 ∨ st = 2 ∨ st = 3 ∨ st = 4 ∨ st = 5 ∨ st = 6 := by omega
    · have o' : fn273 3 g = some 1 := o
      rw [o', Option.bind_some, if_neg (by decide)]
      exact axis 0 (by omega) rfl
    · have z0 : fn273 3 g = some 0 := z 0 (by omega)
      have o' : fn273 4 g = some 1 := o
      rw [z0, Option.bind_some, if_pos rfl, o', Option.bind_some, if_neg (by decide)]
      exact axis 1 (by omega) rfl
    · have z0 : fn273 3 g = some 0 := z 0 (by omega)
      have z1 : fn273 4 g = some 0 := z 1 (by omega)
      have o' : fn273 5 g = some 1 := o
      rw [z0, Option.bind_some, if_pos rfl, z1, Option.bind_some, if_pos rfl, o', Option.bind_some, if_neg (by decide)]
      exact axis 2 (by omega) rfl
    · have z0 : fn273 3 g = some 0 := z 0 (by omega)
      have z1 : fn273 4 g = some 0 := z 1 (by omega)
      have z2 : fn273 5 g = some 0 := z 2 (by omega)
      have o' : fn273 6 g = some 1 := o
      rw [z0, Option.bind_some, if_pos rfl, z1, Option.bind_some, if_pos rfl, z2, Option.bind_some, if_pos rfl, o', Option.bind_some, if_neg (by decide), s_id, fn315]
      have Q := rest g R0 (by omega)
      have q8 : q_ishl 1 ((3 : Nat) : Int) = 8 := by decide +kernel
      rw [q8] at Q
      by_cases cb : s / 2 ^ 3 % 2 = 1
      · obtain ⟨c', g', a1, a2, a3⟩ := Q.1 cb
        rw [a2, Option.bind_some]; dsimp only; rw [if_pos rfl]
        exact s_J_E a1 rfl a3
      · obtain ⟨g', a1, a2, a3, a4⟩ := Q.2 cb
        rw [a1, a2, Option.bind_some]; dsimp only
        rw [if_neg (by decide)]
        exact s_J_w hw (s_begl 3 0 q_fu q_fu _ _ _ (by omega) (by have := q_fu_ge; omega) (by have := q_fu_ge; omega) (Nat.le_refl _) a3 (s_W_or hs (by omega) W a4))
    · have z0 : fn273 3 g = some 0 := z 0 (by omega)
      have z1 : fn273 4 g = some 0 := z 1 (by omega)
      have z2 : fn273 5 g = some 0 := z 2 (by omega)
      have z3 : fn273 6 g = some 0 := z 3 (by omega)
      have o' : fn273 7 g = some 1 := o
      rw [z0, Option.bind_some, if_pos rfl, z1, Option.bind_some, if_pos rfl, z2, Option.bind_some, if_pos rfl, z3, Option.bind_some, if_pos rfl, o', Option.bind_some, if_neg (by decide)]
      have Q := rest g R0 (by omega)
      have q8 : q_ishl 1 ((4 : Nat) : Int) = 16 := by decide +kernel
      rw [q8] at Q
      by_cases cb : s / 2 ^ 4 % 2 = 1
      · obtain ⟨c', g', a1, a2, a3⟩ := Q.1 cb
        rw [a2, Option.bind_some]; dsimp only; rw [if_pos rfl]
        exact s_J_E a1 rfl a3
      · obtain ⟨g', a1, a2, a3, a4⟩ := Q.2 cb
        rw [a1, a2, Option.bind_some]; dsimp only
        rw [if_neg (by decide)]
        exact s_J_w hw (s_start a3 (s_W_or hs (by omega) W a4))
    · have z0 : fn273 3 g = some 0 := z 0 (by omega)
      have z1 : fn273 4 g = some 0 := z 1 (by omega)
      have z2 : fn273 5 g = some 0 := z 2 (by omega)
      have z3 : fn273 6 g = some 0 := z 3 (by omega)
      have z4 : fn273 7 g = some 0 := z 4 (by omega)
      have o' : fn273 8 g = some 1 := o
      rw [z0, Option.bind_some, if_pos rfl, z1, Option.bind_some, if_pos rfl, z2, Option.bind_some, if_pos rfl, z3, Option.bind_some, if_pos rfl, z4, Option.bind_some, if_pos rfl, o', Option.bind_some, if_neg (by decide), m_let, s_id]
      exact flag 1 32 (Or.inl ⟨rfl, rfl⟩) (by decide +kernel)
    · have z0 : fn273 3 g = some 0 := z 0 (by omega)
      have z1 : fn273 4 g = some 0 := z 1 (by omega)
      have z2 : fn273 5 g = some 0 := z 2 (by omega)
      have z3 : fn273 6 g = some 0 := z 3 (by omega)
      have z4 : fn273 7 g = some 0 := z 4 (by omega)
      have z5 : fn273 8 g = some 0 := z 5 (by omega)
      have o' : fn273 9 g = some 1 := o
      rw [z0, Option.bind_some, if_pos rfl, z1, Option.bind_some, if_pos rfl, z2, Option.bind_some, if_pos rfl, z3, Option.bind_some, if_pos rfl, z4, Option.bind_some, if_pos rfl, z5, Option.bind_some, if_pos rfl, o', Option.bind_some, if_neg (by decide), m_let, s_id]
      exact flag 2 64 (Or.inr ⟨rfl, rfl⟩) (by decide +kernel)
  · -- no word of the language
    have z : ∀ j, j < 7 → fn273 ((3 + j : Nat) : Int) g = some 0 := fun j hj => (sel j hj).2 (nwd j hj)
    have z0 : fn273 3 g = some 0 := z 0 (by omega)
    have z1 : fn273 4 g = some 0 := z 1 (by omega)
    have z2 : fn273 5 g = some 0 := z 2 (by omega)
    have z3 : fn273 6 g = some 0 := z 3 (by omega)
    have z4 : fn273 7 g = some 0 := z 4 (by omega)
    have z5 : fn273 8 g = some 0 := z 5 (by omega)
    have z6 : fn273 9 g = some 0 := z 6 (by omega)
    obtain ⟨c', g', a1, a2, a3⟩ := s_R_err (e := s_l B n (s_b B n p)) (k := 1) R0 (by decide) RT.2.2.1
    unfold fn316
    rw [z0, Option.bind_some, if_pos rfl, z1, Option.bind_some, if_pos rfl, z2, Option.bind_some, if_pos rfl, z3, Option.bind_some, if_pos rfl, z4, Option.bind_some, if_pos rfl, z5, Option.bind_some, if_pos rfl, z6, Option.bind_some, if_pos rfl, fn120, hv, Option.bind_some]
    dsimp only
    rw [if_neg (by decide), q_ud_s]
    exact s_J_E a1 a2 a3
end -- [98v.one]
section -- [98w.one]
/-! Part 98w: the whole text is read alike. -/
theorem s_text {B : Nat → Int} {n : Nat} : ∀ (d f1 f2 u p s : Nat) (c g : q_F), n - p ≤ d → d < f1 → d < f2 → u ≤ p → s_R B n p s c g → s_W s g → ∃ c' g' v, fn117_6 1 f1 u c = some (0, c') ∧ fn317_0 f2 g = some (v, g') ∧ ((v = 1 ∧ ∃ p' s', s_R B n p' s' c' g' ∧ s_W s' g') ∨ (v = 0 ∧ s_E c' g')) := by
  have stop : ∀ (f1 f2 u p s : Nat) (c g : q_F), 0 < f1 → 0 < f2 → s_b B n p = n → s_R B n p s c g → s_W s g → ∃ c' g' v, fn117_6 1 f1 u c = some (0, c') ∧ fn317_0 f2 g = some (v, g') ∧ ((v = 1 ∧ ∃ p' s', s_R B n p' s' c' g' ∧ s_W s' g') ∨ (v = 0 ∧ s_E c' g')) := by
    intro f1 f2 u p s c g h1 h2 hb R W
    obtain ⟨f1, rfl⟩ : ∃ f', f1 = f' + 1 := ⟨f1 - 1, by omega⟩
    obtain ⟨f2, rfl⟩ : ∃ f', f2 = f' + 1 := ⟨f2 - 1, by omega⟩
    have R0 := R
    obtain ⟨T, hp, RT, X, ⟨hc, hg⟩, ⟨hc5, hg18⟩, hs, cs, gs⟩ := R
    obtain ⟨T0, hn, t20, tz, T1⟩ := RT
    rw [fn117_6, fn317_0, if_pos (tz hb), if_pos hc, s_find T hp hn, Option.bind_some, hb, if_neg (show ¬ n < n by omega)]
    dsimp only
    rw [if_pos rfl]
    split
    · exact ⟨_, _, _, rfl, rfl, Or.inl ⟨rfl, p, s, R0, W⟩⟩
    · have nn : s_b B n n = n := s_run_no (fun h9 => by omega)
      refine ⟨_, _, _, rfl, rfl, Or.inl ⟨rfl, n, s, ⟨s_ct_3 T (by omega), q_ud_s _ _ _ _, ⟨T0, Nat.le_refl _, by rw [nn, ← hb]; exact t20, fun _ => tz hb, fun h9 => by rw [nn] at h9; omega⟩, s_X_k X ?_ ?_ ?_ rfl, ⟨?_, hg⟩, ⟨?_, hg18⟩, hs, ?_, gs⟩, W⟩⟩
      · funext j; rw [q_ud_n (by omega)]
      · funext j; rw [q_ud_n (by omega)]
      · rw [q_ud_n (by omega)]
      · rw [q_ud_n (by omega)]; exact hc
      · rw [q_ud_n (by omega)]; exact hc5
      · rw [q_ud_n (by omega)]; exact cs
  intro d
  induction d with
  | zero =>
    intro f1 f2 u p s c g hd h1 h2 hu R W
    have hn := R.2.2.1.2.1
    have ble := s_run_le (P := s_pb) (B := B) 600 p hn
    have bge := s_run_ge (P := s_pb) (B := B) (n := n) 600 p
    have eb : s_b B n p = s_run s_pb B n 600 p := rfl
    exact stop f1 f2 u p s c g (by omega) (by omega) (by omega) R W
  | succ d ih =>
    intro f1 f2 u p s c g hd h1 h2 hu R W
    have hn := R.2.2.1.2.1
    have ble := s_run_le (P := s_pb) (B := B) 600 p hn
    have bge := s_run_ge (P := s_pb) (B := B) (n := n) 600 p
    have eb : s_b B n p = s_run s_pb B n 600 p := rfl
    rw [← eb] at ble bge
    by_cases hb : s_b B n p = n
    · exact stop f1 f2 u p s c g (by omega) (by omega) hb R W
    · obtain ⟨f1, rfl⟩ : ∃ f', f1 = f' + 1 := ⟨f1 - 1, by omega⟩
      obtain ⟨f2, rfl⟩ : ∃ f', f2 = f' + 1 := ⟨f2 - 1, by omega⟩
      have t2 := R.1.2.1
      have nt : ¬ g 139 22 = 0 := by
        obtain ⟨w, dd, o⟩ := R.2.2.1.2.2.2.2 (by omega)
        cases e : s_pl (B (s_b B n p)) with
        | true => rw [(w e).1]; decide
        | false =>
          cases e2 : s_pd (B (s_b B n p)) with
          | true => rw [(dd e e2).1]; decide
          | false =>
            by_cases e9 : B (s_b B n p) = 59
            · rw [(o e e2).1 e9]; decide
            · rw [(o e e2).2.1 e9]; decide
      rw [fn117_6, if_neg (by omega), if_pos R.2.2.2.2.1.1, s_find R.1 R.2.1 hn, Option.bind_some, if_pos (show s_b B n p < n by omega), fn317_0, if_neg nt]
      dsimp only
      rw [if_neg (show ¬ (1 : Int) = 0 by decide), q_w32_id (by omega) (by omega), show (u : Int) + 1 = ((u + 1 : Nat) : Int) by omega]
      rcases s_stat R W (by omega) with ⟨c1, g1, p1, s1, a1, a2, a3, R1, W1⟩ | ⟨c1, g1, a1, a2, E⟩
      · obtain ⟨c2, b1, b2⟩ := s_semi R1
        rw [a1, b1, Option.bind_some, a2, Option.bind_some]
        dsimp only
        rw [if_neg (show ¬ (1 : Int) = 0 by decide)]
        rcases b2 with ⟨k3, g2, p2, d1, d2, R2, e140⟩ | ⟨k3, g2, d1, E⟩
        · rw [if_pos k3, d1, Option.bind_some]
          exact ih f1 f2 (u + 1) p2 s1 c2 g2 (by omega) (by omega) (by omega) (by omega) R2 ⟨by rw [e140]; exact W1.1, by rw [e140]; exact W1.2⟩
        · rw [if_neg k3, d1, Option.bind_some]
          obtain ⟨f1, rfl⟩ : ∃ f', f1 = f' + 1 := ⟨f1 - 1, by omega⟩
          have E0 := E
          obtain ⟨k, k0, k1, -⟩ := E
          rw [fn117_6]
          refine ⟨c2, g2, 0, ?_, rfl, Or.inr ⟨rfl, E0⟩⟩
          split
          · rfl
          · rw [if_neg (by rw [k1]; exact k0)]
      · rw [a1, Option.bind_some, a2, Option.bind_some]
        dsimp only
        rw [if_pos rfl]
        obtain ⟨f1, rfl⟩ : ∃ f', f1 = f' + 1 := ⟨f1 - 1, by omega⟩
        have E0 := E
        obtain ⟨k, k0, k1, -⟩ := E
        rw [fn117_6]
        refine ⟨c1, g1, 0, ?_, rfl, Or.inr ⟨rfl, E0⟩⟩
        split
        · rfl
        · rw [if_neg (by rw [k1]; exact k0)]
end -- [98w.one]
