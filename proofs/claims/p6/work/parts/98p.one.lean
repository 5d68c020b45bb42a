/-! Part 98p: the reference's token at a place of the text. -/
def s_rt (B : Nat → Int) (n : Nat) (g : q_F) : Prop := g 139 14 = (n : Int) ∧ n ≤ 600 ∧ (∀ k, k < n → g 150 k = B k) ∧ ∀ k, k < n → 0 ≤ B k
theorem s_rt_N {B : Nat → Int} {n : Nat} {g g' : q_F} (T : s_rt B n g) (N : r_N g g') : s_rt B n g' := ⟨by rw [N.2 14 (by omega) (by omega) (by omega) (by omega)]; exact T.1, T.2.1, fun k hk => by rw [N.1 150 (by omega)]; exact T.2.2.1 k hk, T.2.2.2⟩
theorem s_rbyte {B : Nat → Int} {n k : Nat} {g : q_F} (T : s_rt B n g) (hk : k ≤ n) : fn245 (k : Int) g = some (if k < n then B k else -1) := by
  obtain ⟨t1, t2, t3, t4⟩ := T
  rw [r_byte t1 (by omega) (by omega)]
  by_cases c : k < n
  · rw [if_neg (by omega), if_pos c, Int.toNat_natCast, t3 k c]
  · rw [if_pos (by omega), if_neg c]
theorem s_rlet {B : Nat → Int} {n : Nat} : ∀ (d f k : Nat) (g : q_F), n - k ≤ d → d < f → s_rt B n g → g 139 19 = (k : Int) → k ≤ n → fn235_93 f g = some (0, q_ud g 139 19 ((s_run s_pl B n d k : Nat) : Int)) := by
  intro d
  induction d with
  | zero =>
    intro f k g hd hf T hk hn
    obtain ⟨f, rfl⟩ : ∃ f', f = f' + 1 := ⟨f - 1, by omega⟩
    rw [fn235_93, hk, s_rbyte T hn, if_neg (by omega), Option.bind_some, r_rng, if_neg (by decide), Option.bind_some, if_pos rfl, s_run, ← hk, q_ud_id]
  | succ d ih =>
    intro f k g hd hf T hk hn
    obtain ⟨f, rfl⟩ : ∃ f', f = f' + 1 := ⟨f - 1, by omega⟩
    have t2 := T.2.1
    rw [fn235_93, hk, s_rbyte T hn, Option.bind_some, r_rng, Option.bind_some, s_run]
    by_cases c : k < n
    · rw [if_pos c]
      by_cases e : 97 ≤ B k ∧ B k ≤ 122
      · rw [if_pos e, if_neg (by decide), if_pos ⟨c, s_pl_i.mpr e⟩, m_let, q_w32_id (by omega) (by omega), show (k : Int) + 1 = ((k + 1 : Nat) : Int) by omega, ih f (k + 1) _ (by omega) (by omega) (s_rt_N T (r_N_u r_N_r (by omega))) (q_ud_s _ _ _ _) (by omega), q_ud_u]
      · rw [if_neg e, if_pos rfl, if_neg (show ¬ (k < n ∧ s_pl (B k) = true) from fun h9 => e (s_pl_i.mp h9.2)), ← hk, q_ud_id]
    · rw [if_neg c, if_neg (show ¬ ((97 : Int) ≤ -1 ∧ (-1 : Int) ≤ 122) by decide), if_pos rfl, if_neg (show ¬ (k < n ∧ s_pl (B k) = true) from fun h9 => c h9.1), ← hk, q_ud_id]
theorem s_rdig {B : Nat → Int} {n b : Nat} : ∀ (d f k : Nat) (g : q_F), n - k ≤ d → d < f → s_rt B n g → g 139 19 = (k : Int) → k ≤ n → g 139 20 = (b : Int) → b ≤ k → (∀ i, i < k - b → 48 ≤ B (b + i) ∧ B (b + i) ≤ 57) → (k - b ≤ 4 → g 139 21 = s_v B b (k - b)) → ∃ g', fn235_146 f g = some (0, g') ∧ r_N g g' ∧ g' 139 19 = ((s_run s_pd B n d k : Nat) : Int) ∧ g' 139 20 = (b : Int) ∧ g' 139 22 = g 139 22 ∧ (s_run s_pd B n d k - b ≤ 4 → g' 139 21 = s_v B b (s_run s_pd B n d k - b)) := by
  intro d
  induction d with
  | zero =>
    intro f k g hd hf T hk hn hb hbk hdg hv
    obtain ⟨f, rfl⟩ : ∃ f', f = f' + 1 := ⟨f - 1, by omega⟩
    rw [fn235_146, hk, s_rbyte T hn, if_neg (by omega), Option.bind_some, r_rng, if_neg (by decide), Option.bind_some, if_pos rfl, s_run]
    exact ⟨g, rfl, r_N_r, hk, hb, rfl, hv⟩
  | succ d ih =>
    intro f k g hd hf T hk hn hb hbk hdg hv
    obtain ⟨f, rfl⟩ : ∃ f', f = f' + 1 := ⟨f - 1, by omega⟩
    have t2 := T.2.1
    rw [fn235_146, hk, s_rbyte T hn, Option.bind_some, r_rng, Option.bind_some, s_run]
    by_cases c : k < n
    · rw [if_pos c]
      by_cases e : 48 ≤ B k ∧ B k ≤ 57
      · rw [if_pos e, if_neg (show ¬ (1 : Int) = 0 by decide), if_pos (show k < n ∧ s_pd (B k) = true from ⟨c, s_pd_i.mpr e⟩), hb, q_w32_id (z := (k : Int) - b) (by omega) (by omega)]
        have hdg' : ∀ i, i < k + 1 - b → 48 ≤ B (b + i) ∧ B (b + i) ≤ 57 := fun i hi => by
          by_cases e9 : i = k - b
          · subst e9; rw [show b + (k - b) = k by omega]; exact e
          · exact hdg i (by omega)
        have sub : ∀ g1 : q_F, r_N g g1 → g1 139 19 = (k : Int) → g1 139 20 = (b : Int) → g1 139 22 = g 139 22 → (k + 1 - b ≤ 4 → g1 139 21 = s_v B b (k + 1 - b)) → ∃ g', fn235_203 (fn235_146 f) g1 = some (0, g') ∧ r_N g g' ∧ g' 139 19 = ((s_run s_pd B n d (k + 1) : Nat) : Int) ∧ g' 139 20 = (b : Int) ∧ g' 139 22 = g 139 22 ∧ (s_run s_pd B n d (k + 1) - b ≤ 4 → g' 139 21 = s_v B b (s_run s_pd B n d (k + 1) - b)) := fun g1 N e9 e0 e2 ev => by
          rw [fn235_203, m_let, e9, q_w32_id (by omega) (by omega), show (k : Int) + 1 = ((k + 1 : Nat) : Int) by omega]
          obtain ⟨g', a1, a2, a3, a4, a5, a6⟩ := ih f (k + 1) (q_ud g1 139 19 ((k + 1 : Nat) : Int)) (by omega) (by omega) (s_rt_N T (r_N_u N (by omega))) (q_ud_s _ _ _ _) (by omega) (by rw [q_ud_n (by omega)]; exact e0) (by omega) hdg' (fun h9 => by rw [q_ud_n (by omega)]; exact ev h9)
          rw [q_ud_n (by omega)] at a5
          exact ⟨g', a1, r_N_t (r_N_u N (by omega)) a2, a3, a4, a5.trans e2, a6⟩
        by_cases m : (4 : Int) ≤ (k : Int) - b
        · rw [if_pos m]
          exact sub g r_N_r hk hb rfl (fun h9 => by omega)
        · have v0 := s_v_b (B := B) (b := b) (k - b) hdg
          have v1 : (10 : Int) ^ (k - b) ≤ 1000 := by
            obtain h9 | h9 | h9 | h9 : k - b = 0 ∨ k - b = 1 ∨ k - b = 2 ∨ k - b = 3 := by omega
            all_goals (rw [h9]; decide)
          have ev : q_w32 (q_w32 (q_w32 (10 * g 139 21) + B k) - 48) = s_v B b (k + 1 - b) := by
            rw [hv (by omega), q_w32_id (z := 10 * s_v B b (k - b)) (by omega) (by omega), q_w32_id (z := 10 * s_v B b (k - b) + B k) (by omega) (by omega), q_w32_id (by omega) (by omega), show k + 1 - b = (k - b) + 1 by omega, s_v, show b + (k - b) = k by omega]
            omega
          rw [if_neg m, Option.bind_some, m_let, ev]
          exact sub _ (r_N_u r_N_r (by omega)) (by rw [q_ud_n (by omega)]; exact hk) (by rw [q_ud_n (by omega)]; exact hb) (q_ud_n (by omega)) (fun _ => q_ud_s _ _ _ _)
      · rw [if_neg e, if_pos rfl, if_neg (show ¬ (k < n ∧ s_pd (B k) = true) from fun h9 => e (s_pd_i.mp h9.2))]
        exact ⟨g, rfl, r_N_r, hk, hb, rfl, hv⟩
    · rw [if_neg c, if_neg (show ¬ ((48 : Int) ≤ -1 ∧ (-1 : Int) ≤ 57) by decide), if_pos rfl, if_neg (show ¬ (k < n ∧ s_pd (B k) = true) from fun h9 => c h9.1)]
      exact ⟨g, rfl, r_N_r, hk, hb, rfl, hv⟩
/-- the token that begins where the next one from p begins -/
def s_rT (B : Nat → Int) (n p : Nat) (g : q_F) : Prop := s_rt B n g ∧ p ≤ n ∧ g 139 20 = ((s_b B n p : Nat) : Int) ∧ (s_b B n p = n → g 139 22 = 0) ∧ (s_b B n p < n →
  (s_pl (B (s_b B n p)) = true → g 139 22 = 1 ∧ g 139 19 = ((s_l B n (s_b B n p) : Nat) : Int)) ∧
  (s_pl (B (s_b B n p)) = false → s_pd (B (s_b B n p)) = true → g 139 22 = 2 ∧ g 139 19 = ((s_d B n (s_b B n p) : Nat) : Int) ∧ (s_d B n (s_b B n p) - s_b B n p ≤ 4 → g 139 21 = s_v B (s_b B n p) (s_d B n (s_b B n p) - s_b B n p))) ∧
  (s_pl (B (s_b B n p)) = false → s_pd (B (s_b B n p)) = false → (B (s_b B n p) = 59 → g 139 22 = 3) ∧ (B (s_b B n p) ≠ 59 → g 139 22 = 4) ∧ g 139 19 = ((s_b B n p + 1 : Nat) : Int)))
/-- what a token is, its beginning at b -/
def s_tk (B : Nat → Int) (n b : Nat) (g : q_F) : Prop := g 139 20 = (b : Int) ∧ (b = n → g 139 22 = 0) ∧ (b < n →
  (s_pl (B b) = true → g 139 22 = 1 ∧ g 139 19 = ((s_l B n b : Nat) : Int)) ∧
  (s_pl (B b) = false → s_pd (B b) = true → g 139 22 = 2 ∧ g 139 19 = ((s_d B n b : Nat) : Int) ∧ (s_d B n b - b ≤ 4 → g 139 21 = s_v B b (s_d B n b - b))) ∧
  (s_pl (B b) = false → s_pd (B b) = false → (B b = 59 → g 139 22 = 3) ∧ (B b ≠ 59 → g 139 22 = 4) ∧ g 139 19 = ((b + 1 : Nat) : Int)))
theorem s_tok0 {B : Nat → Int} {n : Nat} : ∀ (d f k : Nat) (g : q_F), n - k ≤ d → d < f → s_rt B n g → g 139 19 = (k : Int) → k ≤ n → ∃ g', fn235_0 f g = some (0, g') ∧ r_N g g' ∧ s_tk B n (s_run s_pb B n d k) g' := by
  have tail : ∀ (g : q_F) (k : Nat), s_rt B n g → g 139 19 = (k : Int) → k ≤ n → ∃ g', (q_let (q_ud g 139 20 (g 139 19)) fun g6 =>
        (fn245 (g6 139 19) g6).bind fun x7 =>
        q_let (q_ud g6 139 21 (0 : Int)) fun g8 =>
        if x7 = (-1 : Int) then (
          q_let (q_ud g8 139 22 (0 : Int)) fun g30 =>
          some ((0 : Int), g30))
        else (
          (fn267 x7 (97 : Int) (122 : Int) g8).bind fun x10 =>
          if x10 = 0 then (
            (fn267 x7 (48 : Int) (57 : Int) g8).bind fun x12 =>
            if x12 = 0 then (
              if x7 = (59 : Int) then (
                fn235_228 (3 : Int) g8)
              else (
                fn235_228 (4 : Int) g8))
            else (
              q_let (q_ud g8 139 22 (2 : Int)) fun g17 =>
              fn235_146 q_fu g17))
          else (
            q_let (q_ud g8 139 22 (1 : Int)) fun g25 =>
            fn235_93 q_fu g25))) = some (0, g') ∧ r_N g g' ∧ s_tk B n k g' := by
    intro g k T hk hn
    have t2 := T.2.1
    have fu := q_fu_ge
    have T6 : s_rt B n (q_ud g 139 20 (g 139 19)) := s_rt_N T (r_N_u r_N_r (by omega))
    have e19 : q_ud g 139 20 (g 139 19) 139 19 = (k : Int) := by rw [q_ud_n (by omega)]; exact hk
    rw [m_let, e19, s_rbyte T6 hn, Option.bind_some, m_let, hk]
    have N8 : ∀ t : Int, r_N g (q_ud (q_ud (q_ud g 139 20 (k : Int)) 139 21 0) 139 22 t) := fun t => r_N_u (r_N_u (r_N_u r_N_r (by omega)) (by omega)) (by omega)
    have f19 : ∀ t : Int, q_ud (q_ud (q_ud g 139 20 (k : Int)) 139 21 0) 139 22 t 139 19 = (k : Int) := fun t => by rw [q_ud_n (by omega), q_ud_n (by omega), q_ud_n (by omega)]; exact hk
    have f20 : ∀ t : Int, q_ud (q_ud (q_ud g 139 20 (k : Int)) 139 21 0) 139 22 t 139 20 = (k : Int) := fun t => by rw [q_ud_n (by omega), q_ud_n (by omega), q_ud_s]
    have f21 : ∀ t : Int, q_ud (q_ud (q_ud g 139 20 (k : Int)) 139 21 0) 139 22 t 139 21 = 0 := fun t => by rw [q_ud_n (by omega), q_ud_s]
    have f22 : ∀ t : Int, q_ud (q_ud (q_ud g 139 20 (k : Int)) 139 21 0) 139 22 t 139 22 = t := fun t => q_ud_s _ _ _ _
    by_cases c : k < n
    · rw [if_pos c]
      have b0 := T.2.2.2 k c
      rw [if_neg (show ¬ B k = -1 by omega), r_rng, Option.bind_some]
      by_cases l : 97 ≤ B k ∧ B k ≤ 122
      · rw [if_pos l, if_neg (by decide), m_let, s_rlet 600 q_fu k _ (by omega) (by omega) (s_rt_N T (N8 1)) (f19 1) hn]
        refine ⟨_, rfl, r_N_u (N8 1) (by omega), ?_, fun h9 => by omega, fun _ => ⟨fun _ => ⟨?_, q_ud_s _ _ _ _⟩, fun h9 => ?_, fun h9 => ?_⟩⟩
        · rw [q_ud_n (by omega)]; exact f20 1
        · rw [q_ud_n (by omega)]; exact f22 1
        · rw [s_pl_i.mpr l] at h9; exact absurd h9 (by decide)
        · rw [s_pl_i.mpr l] at h9; exact absurd h9 (by decide)
      · have l' : ¬ s_pl (B k) = true := fun h9 => l (s_pl_i.mp h9)
        rw [if_neg l, if_pos rfl, r_rng, Option.bind_some]
        by_cases m : 48 ≤ B k ∧ B k ≤ 57
        · rw [if_pos m, if_neg (by decide), m_let]
          obtain ⟨g', a1, a2, a3, a4, a5, a6⟩ := s_rdig (b := k) 600 q_fu k _ (by omega) (by omega) (s_rt_N T (N8 2)) (f19 2) hn (f20 2) (Nat.le_refl _) (fun i hi => by omega) (fun _ => by rw [Nat.sub_self, s_v]; exact f21 2)
          refine ⟨g', a1, r_N_t (N8 2) a2, a4, fun h9 => by omega, fun _ => ⟨fun h9 => absurd h9 l', fun _ _ => ⟨a5.trans (f22 2), a3, a6⟩, fun _ h9 => ?_⟩⟩
          rw [s_pd_i.mpr m] at h9; exact absurd h9 (by decide)
        · have m' : ¬ s_pd (B k) = true := fun h9 => m (s_pd_i.mp h9)
          rw [if_neg m, if_pos rfl]
          have oth : ∀ t : Int, (B k = 59 → t = 3) → (B k ≠ 59 → t = 4) → ∃ g', fn235_228 t (q_ud (q_ud g 139 20 (k : Int)) 139 21 0) = some (0, g') ∧ r_N g g' ∧ s_tk B n k g' := fun t t3 t4 => by
            rw [fn235_228, m_let, m_let, f19, q_w32_id (by omega) (by omega)]
            refine ⟨_, rfl, r_N_u (N8 t) (by omega), ?_, fun h9 => by omega, fun _ => ⟨fun h9 => absurd h9 l', fun _ h9 => absurd h9 m', fun _ _ => ⟨fun h9 => ?_, fun h9 => ?_, ?_⟩⟩⟩
            · rw [q_ud_n (by omega)]; exact f20 t
            · rw [q_ud_n (by omega), f22]; exact t3 h9
            · rw [q_ud_n (by omega), f22]; exact t4 h9
            · rw [q_ud_s]; omega
          by_cases s : B k = 59
          · rw [if_pos s]; exact oth 3 (fun _ => rfl) (fun h9 => absurd s h9)
          · rw [if_neg s]; exact oth 4 (fun h9 => absurd h9 s) (fun _ => rfl)
    · rw [if_neg c, if_pos rfl, m_let]
      exact ⟨_, rfl, N8 0, f20 0, fun _ => f22 0, fun h9 => absurd h9 c⟩
  intro d
  induction d with
  | zero =>
    intro f k g hd hf T hk hn
    obtain ⟨f, rfl⟩ : ∃ f', f = f' + 1 := ⟨f - 1, by omega⟩
    rw [fn235_0, hk, s_rbyte T hn, if_neg (by omega), Option.bind_some, if_neg (show ¬ (-1 : Int) = 32 by decide), Option.bind_some, if_neg (show ¬ (-1 : Int) = 10 by decide), s_run, ← hk]
    exact tail g k T hk hn
  | succ d ih =>
    intro f k g hd hf T hk hn
    obtain ⟨f, rfl⟩ : ∃ f', f = f' + 1 := ⟨f - 1, by omega⟩
    have t2 := T.2.1
    have blank : k < n → ∃ g', fn235_26 (fn235_0 f) g = some (0, g') ∧ r_N g g' ∧ s_tk B n (s_run s_pb B n d (k + 1)) g' := fun c => by
      rw [fn235_26, m_let, hk, q_w32_id (by omega) (by omega), show (k : Int) + 1 = ((k + 1 : Nat) : Int) by omega]
      obtain ⟨g', a1, a2, a3⟩ := ih f (k + 1) (q_ud g 139 19 ((k + 1 : Nat) : Int)) (by omega) (by omega) (s_rt_N T (r_N_u r_N_r (by omega))) (q_ud_s _ _ _ _) (by omega)
      exact ⟨g', a1, r_N_t (r_N_u r_N_r (by omega)) a2, a3⟩
    rw [fn235_0, hk, s_rbyte T hn, Option.bind_some, s_run]
    by_cases c : k < n
    · rw [if_pos c]
      by_cases e : B k = 32
      · rw [if_pos e, if_pos (show k < n ∧ s_pb (B k) = true from ⟨c, s_pb_i.mpr (Or.inl e)⟩)]; exact blank c
      · rw [if_neg e, Option.bind_some]
        by_cases e2 : B k = 10
        · rw [if_pos e2, if_pos (show k < n ∧ s_pb (B k) = true from ⟨c, s_pb_i.mpr (Or.inr e2)⟩)]; exact blank c
        · rw [if_neg e2, if_neg (show ¬ (k < n ∧ s_pb (B k) = true) from fun h9 => by rcases s_pb_i.mp h9.2 with h8 | h8 <;> omega), ← hk]
          exact tail g k T hk hn
    · rw [if_neg c, if_neg (show ¬ (-1 : Int) = 32 by decide), Option.bind_some, if_neg (show ¬ (-1 : Int) = 10 by decide), if_neg (show ¬ (k < n ∧ s_pb (B k) = true) from fun h9 => c h9.1), ← hk]
      exact tail g k T hk hn
theorem s_tok {B : Nat → Int} {n p : Nat} {g : q_F} (T : s_rt B n g) (hp : g 139 19 = (p : Int)) (hn : p ≤ n) : ∃ g', fn235 g = some (0, g') ∧ r_N g g' ∧ s_rT B n p g' := by
  obtain ⟨g', a1, a2, a3⟩ := s_tok0 600 q_fu p g (by have := T.2.1; omega) (by have := q_fu_ge; omega) T hp hn
  exact ⟨g', a1, a2, s_rt_N T a2, hn, a3.1, a3.2.1, a3.2.2⟩
