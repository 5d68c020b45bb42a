/-! Part 88: the reference: where an axis is, the nearest order, printing, the input. -/
-- where an axis is
theorem r_passl {S : m_St} {m : Nat} (hm : m_I S) (h4 : (m : Int) < S.w 4) : ∀ (d a f : Nat) (h : q_F), a + d = 3 → d < f → r_I h S → m_Plan h S.w → ∃ h', fn305_2 f m a h = some (0, h') ∧ r_I h' S ∧ m_Plan h' S.w ∧ r_F h h' := by
  have ok := m_R0_ok hm.1.1
  have r := ok.2.1
  intro d
  induction d with
  | zero =>
    intro a f h ha hf hI hP
    obtain ⟨f, rfl⟩ : ∃ f', f = f' + 1 := ⟨f - 1, by omega⟩
    exact ⟨h, by rw [fn305_2, if_pos (by omega)], hI, hP, r_F_r⟩
  | succ d ih =>
    intro a f h ha hf hI hP
    obtain ⟨f, rfl⟩ : ∃ f', f = f' + 1 := ⟨f - 1, by omega⟩
    have sub : ∀ g, r_I g S → m_Plan g S.w → r_F h g → ∃ h', fn305_79 (fn305_2 f) m a g = some (0, h') ∧ r_I h' S ∧ m_Plan h' S.w ∧ r_F h h' := fun g I P F => by
      obtain ⟨h', x1, x2, x3, x4⟩ := ih (a + 1) f g (by omega) (by omega) I P
      exact ⟨h', by rw [fn305_79, q_w32_id (by omega) (by omega), ← m_s1, x1], x2, x3, r_F_t F x4⟩
    have sub2 : ∀ x g, r_I g S → m_Plan g S.w → r_F h g → ∃ h', fn305_72 (fn305_2 f) m a x g = some (0, h') ∧ r_I h' S ∧ m_Plan h' S.w ∧ r_F h h' := fun x g I P F => by
      rw [fn305_72, if_pos (by omega), m_let]
      exact sub _ (r_I_k I (fun k hk => by funext j; rw [q_ud_n (by omega)]) (by rw [q_ud_n (by omega)]) (by rw [q_ud_n (by omega)])) (m_Plan_k P fun k k1 k2 => by funext j; rw [q_ud_n (by omega)]) (r_F_t F ⟨fun k hk => by funext j; rw [q_ud_n (by omega)], fun j hj => by rw [q_ud_n (by omega)]⟩)
    have ok0 := ok.1
    rw [fn305_2, if_neg (by omega), q_w32_id (z := 3 * (m : Int)) (by omega) (by omega), q_w32_id (z := 3 * (m : Int) + a) (by omega) (by omega), if_pos (by omega), fn333_m, Option.bind_some, if_pos (show 0 ≤ (a : Int) ∧ (a : Int) < 3 by omega), q_w32_id (z := 11 + (a : Int)) (by omega) (by omega), fn303_i (by omega) (by omega), Option.bind_some, fn335_m (by rw [hI.1]; omega), Option.bind_some, m_let]
    split
    · exact sub h hI hP r_F_r
    · split
      · exact sub h hI hP r_F_r
      · split
        · exact sub2 _ _ (r_I_k hI (fun k hk => by funext j; rw [q_ud_n (by omega)]) (by rw [q_ud_n (by omega)]) (by rw [q_ud_n (by omega)])) (m_Plan_k hP fun k k1 k2 => by funext j; rw [q_ud_n (by omega)]) (r_F_ud (by omega))
        · exact sub2 _ h hI hP r_F_r
theorem r_wherel {S : m_St} {m a : Nat} {t : Int} {K84 : Int → Int → Int → Int → q_F → Option (Int × q_F)} (hm : m_I S) (h4 : (m : Int) < S.w 4) (ha : a < 3) (hK : ∀ x g, r_I g S → m_Plan g S.w → r_W (K84 a t x ((m + 1 : Nat) : Int) g) g S) : ∀ (d k f : Nat) (x : Int) (h : q_F), (k : Int) + d = m_l S.w m → d < f → r_I h S → m_Plan h S.w → r_W (fn362_106 K84 f a t x m k h) h S := by
  have ok := m_R0_ok hm.1.1
  have r := ok.2.1
  have l := m_l_r ok (m := m) (by omega)
  intro d
  induction d with
  | zero =>
    intro k f x h hd hf hI hP
    obtain ⟨f, rfl⟩ : ∃ f', f = f' + 1 := ⟨f - 1, by omega⟩
    rw [fn362_106, if_pos (by omega), Int.toNat_natCast, (hP.1 m (by omega)).2.1, if_pos (by omega), q_w32_id (by omega) (by omega), ← m_s1]
    exact hK x h hI hP
  | succ d ih =>
    intro k f x h hd hf hI hP
    obtain ⟨f, rfl⟩ : ∃ f', f = f' + 1 := ⟨f - 1, by omega⟩
    rw [fn362_106, if_pos (by omega), Int.toNat_natCast, (hP.1 m (by omega)).2.1, if_neg (by omega), fn275_m ok hm.1.2 hP h4 (by omega) (by omega), Option.bind_some, m_let]
    have I1 : r_I (q_ud h 139 24 (q_w64 (h 139 24 + m_t S.w m k))) S := r_I_k hI (fun k hk => by funext j; rw [q_ud_n (by omega)]) (by rw [q_ud_n (by omega)]) (by rw [q_ud_n (by omega)])
    have P1 : m_Plan (q_ud h 139 24 (q_w64 (h 139 24 + m_t S.w m k))) S.w := m_Plan_k hP fun k k1 k2 => by funext j; rw [q_ud_n (by omega)]
    have F1 : r_F h (q_ud h 139 24 (q_w64 (h 139 24 + m_t S.w m k))) := r_F_ud (by omega)
    generalize q_ud h 139 24 (q_w64 (h 139 24 + m_t S.w m k)) = g at I1 P1 F1 ⊢
    split
    · rw [fn240_i I1.1 ok (by omega) (by omega) (by omega) (by omega), Option.bind_some, q_w32_id (z := 3 * (m : Int)) (by omega) (by omega), q_w32_id (z := 3 * (m : Int) + a) (by omega) (by omega), if_pos (by omega), fn333_m, Option.bind_some, q_w32_id (z := (k : Int) + 1) (by omega) (by omega), fn286_m ok hm.1.2 P1.1 h4 ha (by omega) (by omega), Option.bind_some, ← m_s1]
      exact r_W_t F1 (ih (k + 1) f _ g (by omega) (by omega) I1 P1)
    · exact r_W_t F1 (r_W_i I1)
theorem r_wherem {S : m_St} {a : Nat} {t : Int} (hm : m_I S) (ha : a < 3) : ∀ (d m f : Nat) (x : Int) (h : q_F), m + d = (S.w 4).toNat → d < f → r_I h S → m_Plan h S.w → r_W (fn362_84 f a t x m h) h S := by
  have ok := m_R0_ok hm.1.1
  have r := ok.2.1
  intro d
  induction d with
  | zero =>
    intro m f x h hd hf hI hP
    obtain ⟨f, rfl⟩ : ∃ f', f = f' + 1 := ⟨f - 1, by omega⟩
    rw [fn362_84, hI.1, if_pos (by omega)]; exact r_W_i hI
  | succ d ih =>
    intro m f x h hd hf hI hP
    obtain ⟨f, rfl⟩ : ∃ f', f = f' + 1 := ⟨f - 1, by omega⟩
    have l := m_l_r ok (m := m) (by omega)
    obtain ⟨h1, a1, a2, a3, a4⟩ := r_passl (m := m) hm (by omega) 3 0 q_fu h (by omega) (by have := q_fu_ge; omega) hI hP
    rw [fn362_84, hI.1, if_neg (by omega), fn305, show (0 : Int) = ((0 : Nat) : Int) from rfl, a1, Option.bind_some]
    exact r_W_t a4 (r_wherel hm (by omega) ha (fun x g I P => ih (m + 1) f x g (by omega) (by omega) I P) (m_l S.w m).toNat 0 q_fu x h1 (by omega) (by have := q_fu_ge; omega) a2 a3)
theorem r_wheref {S : m_St} {a : Nat} {t : Int} (hm : m_I S) (ha : a < 3) : ∀ (d k f : Nat) (h : q_F), k + d = 3 → d < f → r_I h S → m_Plan h S.w → r_W (fn362_47 f a t k h) h S := by
  have r := (m_R0_ok hm.1.1).2.1
  intro d
  induction d with
  | zero =>
    intro k f h hd hf hI hP
    obtain ⟨f, rfl⟩ : ∃ f', f = f' + 1 := ⟨f - 1, by omega⟩
    rw [fn362_47, if_pos (by omega), q_w32_id (z := 47 + (a : Int)) (by omega) (by omega), fn303_i (by omega) (by omega), Option.bind_some]
    exact r_wherem hm ha (S.w 4).toNat 0 q_fu _ h (by omega) (by have := q_fu_ge; omega) hI hP
  | succ d ih =>
    intro k f h hd hf hI hP
    obtain ⟨f, rfl⟩ : ∃ f', f = f' + 1 := ⟨f - 1, by omega⟩
    rw [fn362_47, if_neg (by omega), q_w32_id (z := 44 + (k : Int)) (by omega) (by omega), fn303_i (by omega) (by omega), Option.bind_some, if_pos (by omega), m_let, q_w32_id (by omega) (by omega), ← m_s1]
    refine r_W_t ?_ (ih (k + 1) f _ (by omega) (by omega) (r_I_k hI (fun k hk => by funext j; rw [q_ud_n (by omega)]) (by rw [q_ud_n (by omega)]) (by rw [q_ud_n (by omega)])) (m_Plan_k hP fun k k1 k2 => by funext j; rw [q_ud_n (by omega)]))
    exact ⟨fun k hk => by funext j; rw [q_ud_n (by omega)], fun j hj => by rw [q_ud_n (by omega)]⟩
theorem r_where {a t : Int} {h : q_F} {S : m_St} (hI : r_I h S) (hm : m_I S) : r_W (fn362 a t h) h S := by
  unfold fn362
  refine r_axisQ hI (fun a0 a1 g I _ => ?_) (fun g I => r_W_i I)
  dsimp only
  rw [if_pos rfl, fn362_18, fn362_18]
  obtain ⟨n, hn, rfl⟩ := m_ax_n ⟨a0, a1⟩
  split
  · refine r_failQ I fun g I _ => ?_
    dsimp only
    rw [if_pos rfl]
    refine r_homedQ ⟨a0, a1⟩ I (fun g I _ => ?_) (fun g I => r_W_i I)
    dsimp only
    rw [if_pos rfl]
    refine r_planQ I hm fun g I P => ?_
    dsimp only
    rw [m_let]
    exact r_W_t (r_F_ud (by omega)) (r_wheref hm hn 3 0 q_fu _ (by omega) (by have := q_fu_ge; omega) (r_I_k I (fun k hk => by funext j; rw [q_ud_n (by omega)]) (by rw [q_ud_n (by omega)]) (by rw [q_ud_n (by omega)])) (m_Plan_k P fun k k1 k2 => by funext j; rw [q_ud_n (by omega)]))
  · exact r_failQ I fun g I _ => r_W_i I
-- printing
def r_O (g : q_F) (S : m_St) (n : Int) : Prop := r_I g S ∧ g 139 27 = n
/-- what printing leaves alone -/
def r_FO (h h' : q_F) : Prop := (∀ k, k < 139 ∨ k = 150 ∨ 153 ≤ k → h' k = h k) ∧ ∀ j, j = 14 ∨ j = 15 ∨ j = 16 → h' 139 j = h 139 j
theorem r_FO_t {h h1 h2 : q_F} (f : r_FO h h1) (g : r_FO h1 h2) : r_FO h h2 := ⟨fun k hk => (g.1 k hk).trans (f.1 k hk), fun j hj => (g.2 j hj).trans (f.2 j hj)⟩
theorem r_FO_r {h : q_F} : r_FO h h := ⟨fun _ _ => rfl, fun _ _ => rfl⟩
theorem r_write {g : q_F} {S : m_St} {n c : Int} (hO : r_O g S n) (h0 : 0 ≤ n ∧ n < 300) : ∃ g', fn366 c g = some (0, g') ∧ r_O g' S (n + 1) ∧ r_FO g g' := by
  obtain ⟨hI, e⟩ := hO
  rw [fn366, e, if_pos h0, m_let, m_let, q_ud_n (show ¬ (139 = 152 ∧ 27 = n.toNat) by omega), e, q_w32_id (by omega) (by omega)]
  refine ⟨_, rfl, ⟨r_I_k hI (fun k hk => by funext j; rw [q_ud_n (by omega), q_ud_n (by omega)]) (by rw [q_ud_n (by omega), q_ud_n (by omega)]) (by rw [q_ud_n (by omega), q_ud_n (by omega)]), q_ud_s _ _ _ _⟩, fun k hk => by funext j; rw [q_ud_n (by omega), q_ud_n (by omega)], fun j hj => by rw [q_ud_n (by omega), q_ud_n (by omega)]⟩
theorem r_digits {S : m_St} {v : Int} : ∀ (d : Nat) (b : Int) (f : Nat) (g : q_F) (n : Int), d < f → 0 ≤ b ∧ b < 10 ^ d → d ≤ 6 → r_O g S n → 0 ≤ n → n + d ≤ 300 → ∃ g' n', fn367_18 f v b g = some (0, g') ∧ r_O g' S n' ∧ n ≤ n' ∧ n' ≤ n + d ∧ r_FO g g' := by
  intro d
  induction d with
  | zero =>
    intro b f g n hf hb _ hO h0 h1
    obtain ⟨f, rfl⟩ : ∃ f', f = f' + 1 := ⟨f - 1, by omega⟩
    have : (10 : Int) ^ 0 = 1 := rfl
    exact ⟨g, n, by rw [fn367_18, if_pos (by omega)], hO, by omega, by omega, r_FO_r⟩
  | succ d ih =>
    intro b f g n hf hb hd6 hO h0 h1
    obtain ⟨f, rfl⟩ : ∃ f', f = f' + 1 := ⟨f - 1, by omega⟩
    by_cases c : b ≤ 0
    · exact ⟨g, n, by rw [fn367_18, if_pos c], hO, by omega, by omega, r_FO_r⟩
    · have e : (10 : Int) ^ (d + 1) = 10 ^ d * 10 := Int.pow_succ ..
      have big : (10 : Int) ^ d ≤ 100000 := by
        have : d = 0 ∨ d = 1 ∨ d = 2 ∨ d = 3 ∨ d = 4 ∨ d = 5 := by omega
        rcases this with rfl | rfl | rfl | rfl | rfl | rfl <;> decide
      have q : q_idv b 10 = b / 10 := m_idv (by omega) (by omega) (by omega) (by omega)
      obtain ⟨g1, a1, a2, a3⟩ := r_write (c := q_w32 (48 + q_irm (q_idv v b) 10)) hO ⟨h0, by omega⟩
      obtain ⟨g2, n2, b1, b2, b3, b4, b5⟩ := ih (b / 10) f g1 (n + 1) (by omega) (by omega) (by omega) a2 (by omega) (by omega)
      refine ⟨g2, n2, ?_, b2, by omega, by omega, r_FO_t a3 b5⟩
      rw [fn367_18, if_neg c, if_pos (by omega), a1, Option.bind_some, q]
      exact b1
theorem r_number {S : m_St} {v : Int} {g : q_F} {n : Int} (hv : 0 ≤ v ∧ v ≤ 2000) (hO : r_O g S n) (h0 : 0 ≤ n) (h1 : n + 4 ≤ 300) : ∃ g' n', fn367 v g = some (0, g') ∧ r_O g' S n' ∧ n ≤ n' ∧ n' ≤ n + 4 ∧ r_FO g g' := by
  obtain ⟨f, e⟩ := m_fu3
  have q1 : q_idv v 1 = v / 1 := m_idv (by omega) (by omega) (by omega) (by omega)
  have q2 : q_idv v 10 = v / 10 := m_idv (by omega) (by omega) (by omega) (by omega)
  have q3 : q_idv v 100 = v / 100 := m_idv (by omega) (by omega) (by omega) (by omega)
  have q4 : q_idv v 1000 = v / 1000 := m_idv (by omega) (by omega) (by omega) (by omega)
  have fu := q_fu_ge
  have D : ∀ b : Int, 0 ≤ b ∧ b < 10 ^ 4 → ∃ g' n', fn367_18 q_fu v b g = some (0, g') ∧ r_O g' S n' ∧ n ≤ n' ∧ n' ≤ n + 4 ∧ r_FO g g' := fun b hb => r_digits 4 b q_fu g n (by omega) hb (by omega) hO h0 h1
  rw [fn367, e, fn367_2, if_pos (by decide), q1]
  by_cases c1 : v / 1 ≤ 9
  · rw [if_pos c1]; exact D 1 (by decide)
  · rw [if_neg c1, q_w32_id (z := 1 * 10) (by omega) (by omega), show (1 : Int) * 10 = 10 from rfl, fn367_2, if_pos (by decide), q2]
    by_cases c2 : v / 10 ≤ 9
    · rw [if_pos c2]; exact D 10 (by decide)
    · rw [if_neg c2, q_w32_id (z := 10 * 10) (by omega) (by omega), show (10 : Int) * 10 = 100 from rfl, fn367_2, if_pos (by decide), q3]
      by_cases c3 : v / 100 ≤ 9
      · rw [if_pos c3]; exact D 100 (by decide)
      · rw [if_neg c3, q_w32_id (z := 100 * 10) (by omega) (by omega), show (100 : Int) * 10 = 1000 from rfl, fn367_2, if_pos (by decide), q4, if_pos (by omega)]; exact D 1000 (by decide)
theorem r_printa {S : m_St} {m : Nat} {K : Int → q_F → Option (Int × q_F)} (hm : m_I S) (h4 : (m : Int) < S.w 4) : ∀ (d a f : Nat) (g : q_F) (n : Int), a + d = 3 → d < f → r_O g S n → 0 ≤ n → n + 5 * d ≤ 300 → ∃ g' n', fn307_36 K f m a g = K ((m + 1 : Nat) : Int) g' ∧ r_O g' S n' ∧ n ≤ n' ∧ n' ≤ n + 5 * d ∧ r_FO g g' := by
  have ok := m_R0_ok hm.1.1
  have r := ok.2.1
  intro d
  induction d with
  | zero =>
    intro a f g n ha hf hO h0 h1
    obtain ⟨f, rfl⟩ : ∃ f', f = f' + 1 := ⟨f - 1, by omega⟩
    exact ⟨g, n, by rw [fn307_36, if_pos (by omega), q_w32_id (by omega) (by omega), ← m_s1], hO, by omega, by omega, r_FO_r⟩
  | succ d ih =>
    intro a f g n ha hf hO h0 h1
    obtain ⟨f, rfl⟩ : ∃ f', f = f' + 1 := ⟨f - 1, by omega⟩
    have tg := ok.2.2.2 (74 + 3 * m + a) (by omega) (by omega)
    have sub : ∀ (g1 : q_F) (n1 : Int), r_O g1 S n1 → n ≤ n1 → n1 ≤ n + 1 → r_FO g g1 → ∃ g' n', fn307_51 K (fn307_36 K f) m a g1 = K ((m + 1 : Nat) : Int) g' ∧ r_O g' S n' ∧ n ≤ n' ∧ n' ≤ n + 5 * (d + 1 : Nat) ∧ r_FO g g' := fun g1 n1 O1 l1 l2 F1 => by
      obtain ⟨g2, n2, b1, b2, b3, b4, b5⟩ := r_number tg O1 (by omega) (by omega)
      obtain ⟨g3, n3, d1, d2, d3, d4, d5⟩ := ih (a + 1) f g2 n2 (by omega) (by omega) b2 (by omega) (by omega)
      refine ⟨g3, n3, ?_, d2, by omega, by omega, r_FO_t F1 (r_FO_t b5 d5)⟩
      rw [fn307_51, q_w32_id (z := 3 * (m : Int)) (by omega) (by omega), q_w32_id (z := 74 + 3 * (m : Int)) (by omega) (by omega), q_w32_id (z := 74 + 3 * (m : Int) + a) (by omega) (by omega), r_of (v := S.w (74 + 3 * m + a)) (by omega) (by omega) (by rw [O1.1.1, show (74 + 3 * (m : Int) + a).toNat = 74 + 3 * m + a by omega]) (by omega), Option.bind_some, b1, Option.bind_some, q_w32_id (by omega) (by omega), ← m_s1]
      exact d1
    rw [fn307_36, if_neg (by omega)]
    by_cases c : (a : Int) ≤ 0
    · rw [if_pos c]; exact sub g n hO (by omega) (by omega) r_FO_r
    · rw [if_neg c]
      obtain ⟨g1, a1, a2, a3⟩ := r_write (c := 44) hO ⟨h0, by omega⟩
      rw [a1, Option.bind_some]
      exact sub g1 (n + 1) a2 (by omega) (by omega) a3
/-- how printing ends -/
def r_WO (f : Option (Int × q_F)) (h : q_F) (S : m_St) : Prop := ∃ v h', f = some (v, h') ∧ r_I h' S ∧ r_FO h h' ∧ 0 ≤ h' 139 27 ∧ h' 139 27 ≤ 300
theorem r_printm {S : m_St} (hm : m_I S) : ∀ (d m f : Nat) (g : q_F) (n : Int), m + d = (S.w 4).toNat → d < f → r_O g S n → 0 ≤ n → n + 16 * d ≤ 299 → r_WO (fn307_12 f m g) g S := by
  have ok := m_R0_ok hm.1.1
  have r := ok.2.1
  intro d
  induction d with
  | zero =>
    intro m f g n hd hf hO h0 h1
    obtain ⟨f, rfl⟩ : ∃ f', f = f' + 1 := ⟨f - 1, by omega⟩
    rw [fn307_12, hO.1.1, if_pos (by omega), hO.2]
    split
    · obtain ⟨g1, a1, a2, a3⟩ := r_write (c := 46) hO ⟨h0, by omega⟩
      rw [a1, Option.bind_some]
      exact ⟨_, g1, rfl, a2.1, a3, by rw [a2.2]; omega, by rw [a2.2]; omega⟩
    · exact ⟨_, g, rfl, hO.1, r_FO_r, by rw [hO.2]; omega, by rw [hO.2]; omega⟩
  | succ d ih =>
    intro m f g n hd hf hO h0 h1
    obtain ⟨f, rfl⟩ : ∃ f', f = f' + 1 := ⟨f - 1, by omega⟩
    have sub : ∀ (g1 : q_F) (n1 : Int), r_O g1 S n1 → n ≤ n1 → n1 ≤ n + 1 → r_FO g g1 → r_WO (fn307_34 (fn307_12 f) m g1) g S := fun g1 n1 O1 l1 l2 F1 => by
      obtain ⟨g2, n2, b1, b2, b3, b4, b5⟩ := r_printa (m := m) (K := fn307_12 f) hm (by omega) 3 0 q_fu g1 n1 (by omega) (by have := q_fu_ge; omega) O1 (by omega) (by omega)
      obtain ⟨v, h', x1, x2, x3, x4⟩ := ih (m + 1) f g2 n2 (by omega) (by omega) b2 (by omega) (by omega)
      refine ⟨v, h', ?_, x2, r_FO_t F1 (r_FO_t b5 x3), x4⟩
      rw [fn307_34]; exact b1.trans x1
    rw [fn307_12, hO.1.1, if_neg (by omega)]
    by_cases c : (m : Int) ≤ 0
    · rw [if_pos c]; exact sub g n hO (by omega) (by omega) r_FO_r
    · rw [if_neg c]
      obtain ⟨g1, a1, a2, a3⟩ := r_write (c := 32) hO ⟨h0, by omega⟩
      rw [a1, Option.bind_some]
      exact sub g1 (n + 1) a2 (by omega) (by omega) a3
