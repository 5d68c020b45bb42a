/-! Part 98zzg: nearest, nearestOrder. -/
def a_bit (z : Int) (k : Nat) : Bool := (Int32.ofInt z).toBitVec.getLsbD k
theorem a_b1 (Y : BitVec 32) : (Y &&& 1#32) = if Y.getLsbD 0 = true then 1#32 else 0#32 := by
  rw [BitVec.and_one_eq_setWidth_ofBool_getLsbD]
  cases Y.getLsbD 0 <;> rfl
theorem a_shk : ∀ k : Nat, k < 16 → (Int32.ofInt (k : Int) &&& 31).toBitVec.smod 32 = BitVec.ofNat 32 k := by decide +kernel
theorem a_bit1 (z : Int) {k : Nat} (hk : k < 16) : q_ian (q_ishr z k) 1 = if a_bit z k = true then 1 else 0 := by
  have e : (Int32.ofInt z >>> (Int32.ofInt (k : Int) &&& 31)).toBitVec = (Int32.ofInt z).toBitVec.sshiftRight k := by
    rw [Int32.toBitVec_shiftRight, a_shk k hk]
    show BitVec.sshiftRight _ (BitVec.ofNat 32 k).toNat = _
    rw [BitVec.toNat_ofNat, Nat.mod_eq_of_lt (by omega)]
  have e2 : (Int32.ofInt z >>> (Int32.ofInt (k : Int) &&& 31) &&& Int32.ofInt 1).toBitVec = if a_bit z k = true then 1#32 else 0#32 := by
    rw [Int32.toBitVec_and, e, show (Int32.ofInt 1).toBitVec = 1#32 from rfl, a_b1, BitVec.getLsbD_sshiftRight, if_pos (show k + 0 < 32 by omega), Nat.add_zero]
    rfl
  unfold q_ian q_ishr
  rw [Int32.ofInt_toInt]
  show (Int32.ofInt z >>> (Int32.ofInt (k : Int) &&& 31) &&& Int32.ofInt 1).toBitVec.toInt = _
  rw [e2]
  split <;> rfl
theorem a_shb : ∀ j : Nat, j < 16 → ∀ k : Nat, k < 16 → (Int32.ofInt (q_ishl 1 (j : Int))).toBitVec.getLsbD k = decide (k = j) := by decide +kernel
theorem a_bit2 (z : Int) {j k : Nat} (hj : j < 16) (hk : k < 16) : a_bit (q_ior z (q_ishl 1 (j : Int))) k = (a_bit z k || decide (k = j)) := by
  unfold a_bit q_ior
  rw [Int32.ofInt_toInt, Int32.toBitVec_or, BitVec.getLsbD_or, a_shb j hj k hk]
theorem a_bit0 : ∀ k : Nat, k < 16 → a_bit 0 k = false := by decide +kernel
noncomputable def a_cnt (u : Int) : Nat → Nat
  | 0 => 0
  | m + 1 => a_cnt u m + if a_bit u m = true then 1 else 0
theorem a_cnt_0 : ∀ n : Nat, n ≤ 16 → a_cnt 0 n = 0 := by
  intro n
  induction n with
  | zero => intro _; rfl
  | succ n ih => intro h; rw [a_cnt, ih (by omega), a_bit0 n (by omega)]; rfl
theorem a_cnt_1 {u : Int} : ∀ n : Nat, (∀ c, c < n → a_bit u c = true) → a_cnt u n = n := by
  intro n
  induction n with
  | zero => intro _; rfl
  | succ n ih => intro h; rw [a_cnt, ih (fun c hc => h c (by omega)), if_pos (h n (by omega))]
theorem a_cnt_2 {u : Int} {j : Nat} (hj : j < 16) (hb : a_bit u j = false) : ∀ n : Nat, n ≤ 16 → a_cnt (q_ior u (q_ishl 1 (j : Int))) n = a_cnt u n + if j < n then 1 else 0 := by
  intro n
  induction n with
  | zero => intro _; rfl
  | succ n ih =>
    intro h
    rw [a_cnt, a_cnt, ih (by omega), a_bit2 u hj (by omega)]
    by_cases e : n = j
    · subst e
      rw [hb, if_neg (by omega), if_neg (by decide), if_pos (by omega), decide_eq_true rfl, Bool.or_true, if_pos rfl]
    · rw [decide_eq_false e, Bool.or_false]
      by_cases c : j < n
      · rw [if_pos c, if_pos (by omega)]; omega
      · rw [if_neg c, if_neg (by omega)]
/-- how far apart -/
def a_far (x y : Int) : Int := if y ≤ x then x - y else y - x
theorem a_far0 (x y : Int) : 0 ≤ a_far x y := by unfold a_far; split <;> omega
theorem a_147 {x X : Int} {h : q_F} (hx : q_r32 x) (hX : q_r32 X) : fn147 X x h = some (a_far x X) := by
  unfold q_r32 at hx hX
  unfold fn147 qx_abl a_far
  rw [q_w64_id (z := X - x) (by omega) (by omega), q_w64_id (z := -(X - x)) (by omega) (by omega)]
  by_cases c : X ≤ x
  · rw [if_pos c, if_pos (by omega)]; congr 1; omega
  · rw [if_neg c, if_neg (by omega)]
theorem a_260 {u x X : Int} {h : q_F} (hx : q_r32 x) (hX : q_r32 X) : fn260 u x X h = some (if a_far x X ≤ u then u else a_far x X) := by
  unfold q_r32 at hx hX
  unfold fn260 fn260_18 a_far
  rw [q_w64_id (z := x - X) (by omega) (by omega), q_w64_id (z := X - x) (by omega) (by omega)]
  by_cases c : X ≤ x
  · rw [if_pos c, if_pos c]; split <;> rfl
  · rw [if_neg c, if_neg c]; split <;> rfl
theorem a_mx3 {a b c : Int} (ha : 0 ≤ a) (hb : 0 ≤ b) (hc : 0 ≤ c) : qx_mx a (qx_mx b c) = if c ≤ (if b ≤ (if a ≤ 0 then 0 else a) then (if a ≤ 0 then 0 else a) else b) then (if b ≤ (if a ≤ 0 then 0 else a) then (if a ≤ 0 then 0 else a) else b) else c := by
  unfold qx_mx
  by_cases c1 : a ≤ 0
  · rw [if_pos c1]
    by_cases c2 : b ≤ 0
    · rw [if_pos c2]; (repeat' split) <;> omega
    · rw [if_neg c2]; (repeat' split) <;> omega
  · rw [if_neg c1]
    by_cases c2 : b ≤ a
    · rw [if_pos c2]; (repeat' split) <;> omega
    · rw [if_neg c2]; (repeat' split) <;> omega
/-- what the two searches know -/
def a_nk (S : m_St) (u : Int) (m : Nat) (b : Int) : Prop := (b = -1 ∧ ∀ c, c < m → a_bit u c = true) ∨ ∃ c : Nat, b = c ∧ (c : Int) < S.w 4 ∧ a_bit u c = false
theorem a_nearl {x y z u : Int} {h h1 : q_F} {S : m_St} (hx : q_r32 x) (hy : q_r32 y) (hz : q_r32 z) (hc : c_I h S) (hm : m_I S) (hI : r_I h1 S) : ∀ (d m f1 f2 : Nat) (b e : Int), m + d = (S.w 4).toNat → d < f1 → d < f2 → a_nk S u m b → ∃ v, fn151_9 13 h f1 x y z u b e m = some v ∧ fn296_9 h1 f2 x y z u b e m = some v ∧ a_nk S u (S.w 4).toNat v := by
  have ok := m_R0_ok hm.1.1
  have r := ok.2.1
  have e4 : h 13 1 = S.w 4 := hc.1.2.2.1
  intro d
  induction d with
  | zero =>
    intro m f1 f2 b e hd h1 h2 hb
    obtain ⟨f1, rfl⟩ : ∃ f', f1 = f' + 1 := ⟨f1 - 1, by omega⟩
    obtain ⟨f2, rfl⟩ : ∃ f', f2 = f' + 1 := ⟨f2 - 1, by omega⟩
    exact ⟨b, by rw [fn151_9, e4, if_pos (by omega)], by rw [fn296_9, hI.1, if_pos (by omega)], by rw [← show m = (S.w 4).toNat by omega]; exact hb⟩
  | succ d ih =>
    intro m f1 f2 b e hd h1' h2 hb
    obtain ⟨f1, rfl⟩ : ∃ f', f1 = f' + 1 := ⟨f1 - 1, by omega⟩
    obtain ⟨f2, rfl⟩ : ∃ f', f2 = f' + 1 := ⟨f2 - 1, by omega⟩
    have b0 := ok.2.2.2 (74 + 3 * m) (by omega) (by omega)
    have b1 := ok.2.2.2 (74 + 3 * m + 1) (by omega) (by omega)
    have b2 := ok.2.2.2 (74 + 3 * m + 2) (by omega) (by omega)
    have t0 : fn148 13 (m : Int) 0 h = some (S.w (74 + 3 * m)) := a_148 (a := 0) hc hm (by omega) (by omega)
    have t1 : fn148 13 (m : Int) 1 h = some (S.w (74 + 3 * m + 1)) := a_148 (a := 1) hc hm (by omega) (by omega)
    have t2 : fn148 13 (m : Int) 2 h = some (S.w (74 + 3 * m + 2)) := a_148 (a := 2) hc hm (by omega) (by omega)
    have k0 : S.w (74 + 3 * (m : Int)).toNat = S.w (74 + 3 * m) := by rw [show (74 + 3 * (m : Int)).toNat = 74 + 3 * m by omega]
    have k1 : S.w (74 + 3 * (m : Int) + 1).toNat = S.w (74 + 3 * m + 1) := by rw [show (74 + 3 * (m : Int) + 1).toNat = 74 + 3 * m + 1 by omega]
    have k2 : S.w (74 + 3 * (m : Int) + 2).toNat = S.w (74 + 3 * m + 2) := by rw [show (74 + 3 * (m : Int) + 2).toNat = 74 + 3 * m + 2 by omega]
    have r0 : q_r32 (S.w (74 + 3 * m)) := by unfold q_r32; omega
    have r1 : q_r32 (S.w (74 + 3 * m + 1)) := by unfold q_r32; omega
    have r2 : q_r32 (S.w (74 + 3 * m + 2)) := by unfold q_r32; omega
    have f0 := a_far0 x (S.w (74 + 3 * m))
    have g0 := a_far0 y (S.w (74 + 3 * m + 1))
    have i0 := a_far0 z (S.w (74 + 3 * m + 2))
    have E1 : fn151_9 13 h (f1 + 1) x y z u b e m = if a_bit u m = true then fn151_9 13 h f1 x y z u b e ((m + 1 : Nat) : Int) else if b < 0 then fn151_9 13 h f1 x y z u m (qx_mx (a_far x (S.w (74 + 3 * m))) (qx_mx (a_far y (S.w (74 + 3 * m + 1))) (a_far z (S.w (74 + 3 * m + 2))))) ((m + 1 : Nat) : Int) else if e ≤ qx_mx (a_far x (S.w (74 + 3 * m))) (qx_mx (a_far y (S.w (74 + 3 * m + 1))) (a_far z (S.w (74 + 3 * m + 2)))) then fn151_9 13 h f1 x y z u b e ((m + 1 : Nat) : Int) else fn151_9 13 h f1 x y z u m (qx_mx (a_far x (S.w (74 + 3 * m))) (qx_mx (a_far y (S.w (74 + 3 * m + 1))) (a_far z (S.w (74 + 3 * m + 2))))) ((m + 1 : Nat) : Int) := by
      rw [fn151_9, e4, if_neg (by omega), t0, Option.bind_some, a_147 hx r0, Option.bind_some, t1, Option.bind_some, a_147 hy r1, Option.bind_some, t2, Option.bind_some, a_147 hz r2, Option.bind_some, fn151_88, fn151_96, fn151_96, q_w32_id (z := (m : Int) + 1) (by omega) (by omega), ← m_s1, a_bit1 u (show m < 16 by omega)]
      by_cases c : a_bit u m = true
      · rw [if_pos c, if_pos c, if_neg (show ¬ (1 : Int) = 0 by decide)]
      · rw [if_neg c, if_neg c, if_pos rfl]
    have E2 : fn296_9 h1 (f2 + 1) x y z u b e m = if a_bit u m = true then fn296_9 h1 f2 x y z u b e ((m + 1 : Nat) : Int) else if b = -1 then fn296_9 h1 f2 x y z u m (qx_mx (a_far x (S.w (74 + 3 * m))) (qx_mx (a_far y (S.w (74 + 3 * m + 1))) (a_far z (S.w (74 + 3 * m + 2))))) ((m + 1 : Nat) : Int) else if qx_mx (a_far x (S.w (74 + 3 * m))) (qx_mx (a_far y (S.w (74 + 3 * m + 1))) (a_far z (S.w (74 + 3 * m + 2)))) < e then fn296_9 h1 f2 x y z u m (qx_mx (a_far x (S.w (74 + 3 * m))) (qx_mx (a_far y (S.w (74 + 3 * m + 1))) (a_far z (S.w (74 + 3 * m + 2))))) ((m + 1 : Nat) : Int) else fn296_9 h1 f2 x y z u b e ((m + 1 : Nat) : Int) := by
      rw [fn296_9, hI.1, if_neg (by omega), q_w32_id (z := 3 * (m : Int)) (by omega) (by omega), q_w32_id (z := 74 + 3 * (m : Int)) (by omega) (by omega), q_w32_id (z := 74 + 3 * (m : Int) + 1) (by omega) (by omega), q_w32_id (z := 74 + 3 * (m : Int) + 2) (by omega) (by omega), if_pos (show 0 ≤ 74 + 3 * (m : Int) ∧ 74 + 3 * (m : Int) < 122 by omega), k0, a_260 hx r0, Option.bind_some, if_pos (show 0 ≤ 74 + 3 * (m : Int) + 1 ∧ 74 + 3 * (m : Int) + 1 < 122 by omega), k1, a_260 hy r1, Option.bind_some, if_pos (show 0 ≤ 74 + 3 * (m : Int) + 2 ∧ 74 + 3 * (m : Int) + 2 < 122 by omega), k2, a_260 hz r2, Option.bind_some, ← a_mx3 f0 g0 i0, fn296_103, fn296_111, fn296_111, q_w32_id (z := (m : Int) + 1) (by omega) (by omega), ← m_s1, a_bit1 u (show m < 16 by omega)]
      by_cases c : a_bit u m = true
      · rw [if_pos c, if_pos c, if_pos rfl]
      · rw [if_neg c, if_neg c, if_neg (show ¬ (0 : Int) = 1 by decide)]
    have b2 : a_bit u m ≠ true → a_nk S u (m + 1) m := fun c => Or.inr ⟨m, rfl, by omega, by cases h9 : a_bit u m with | true => exact absurd h9 c | false => rfl⟩
    rw [E1, E2]
    generalize qx_mx (a_far x (S.w (74 + 3 * m))) (qx_mx (a_far y (S.w (74 + 3 * m + 1))) (a_far z (S.w (74 + 3 * m + 2)))) = D
    by_cases c : a_bit u m = true
    · rw [if_pos c, if_pos c]
      refine ih (m + 1) f1 f2 b e (by omega) (by omega) (by omega) ?_
      rcases hb with ⟨q1, q2⟩ | q
      · refine Or.inl ⟨q1, fun c' hc' => ?_⟩
        by_cases e9 : c' = m
        · rw [e9]; exact c
        · exact q2 c' (by omega)
      · exact Or.inr q
    · rw [if_neg c, if_neg c]
      have nx := ih (m + 1) f1 f2 m D (by omega) (by omega) (by omega) (b2 c)
      rcases hb with ⟨q1, q2⟩ | ⟨c', q1, q2, q3⟩
      · rw [if_pos (by omega), if_pos q1]; exact nx
      · rw [if_neg (by omega), if_neg (by omega)]
        by_cases l : e ≤ D
        · rw [if_pos l, if_neg (by omega)]
          exact ih (m + 1) f1 f2 b e (by omega) (by omega) (by omega) (Or.inr ⟨c', q1, q2, q3⟩)
        · rw [if_neg l, if_pos (by omega)]; exact nx
theorem a_near {x y z u : Int} {h h1 : q_F} {S : m_St} (hx : q_r32 x) (hy : q_r32 y) (hz : q_r32 z) (hc : c_I h S) (hm : m_I S) (hI : r_I h1 S) : ∃ v, fn151 13 x y z u h = some v ∧ fn296 x y z u h1 = some v ∧ a_nk S u (S.w 4).toNat v := by
  have r := (m_R0_ok hm.1.1).2.1
  exact a_nearl hx hy hz hc hm hI (S.w 4).toNat 0 q_fu q_fu (-1) 0 (by omega) (by have := q_fu_ge; omega) (by have := q_fu_ge; omega) (Or.inl ⟨rfl, fun c hc => by omega⟩)
theorem a_p38 {x y z : Int} {h h2 : q_F} {S : m_St} {v1 v2 : Int} (hx : q_r32 x) (hy : q_r32 y) (hz : q_r32 z) (J : j_T S S h) (e1 : fn192 x y z h = some v1) (e2 : fn295 x y z h = some (v2, h2)) : v1 = v2 := by
  have hm := J.2.1.1
  have g0 := a_g0 J.2.1.2
  obtain ⟨v, a1, a2, -⟩ := a_near (u := 0) hx hy hz J.1.2 hm g0
  rw [fn192, a1, Option.bind_some] at e1
  rw [fn295, m_let, a2, Option.bind_some] at e2
  have d1 := Option.some.inj e1
  have d2 := congrArg Prod.fst (Option.some.inj e2)
  exact d1.symm.trans d2
theorem a_ordl {n : Int} {h h1 : q_F} {S : m_St} (hc : c_I h S) (hm : m_I S) (hI : r_I h1 S) (hn : n < S.w 4) : ∀ (d i f1 f2 : Nat) (u : Int) (c : Nat), (i : Int) + d = n → d < f1 → d < f2 → a_cnt u (S.w 4).toNat = i → (c : Int) < S.w 4 → a_bit u c = false → ∃ v, fn193_76 f1 n u c i h = some (1, v, h) ∧ fn297_69 f2 n c u i h1 = some (v, h1) := by
  have ok := m_R0_ok hm.1.1
  have r := ok.2.1
  intro d
  induction d with
  | zero =>
    intro i f1 f2 u c hd h1' h2 _ _ _
    obtain ⟨f1, rfl⟩ : ∃ f', f1 = f' + 1 := ⟨f1 - 1, by omega⟩
    obtain ⟨f2, rfl⟩ : ∃ f', f2 = f' + 1 := ⟨f2 - 1, by omega⟩
    exact ⟨c, by rw [fn193_76, if_pos (by omega)], by rw [fn297_69, if_pos (by omega)]⟩
  | succ d ih =>
    intro i f1 f2 u m hd h1' h2 hu hm4 hb
    obtain ⟨f1, rfl⟩ : ∃ f', f1 = f' + 1 := ⟨f1 - 1, by omega⟩
    obtain ⟨f2, rfl⟩ : ∃ f', f2 = f' + 1 := ⟨f2 - 1, by omega⟩
    have b0 := ok.2.2.2 (74 + 3 * m) (by omega) (by omega)
    have b1 := ok.2.2.2 (74 + 3 * m + 1) (by omega) (by omega)
    have b2 := ok.2.2.2 (74 + 3 * m + 2) (by omega) (by omega)
    have t0 : fn148 13 (m : Int) 0 h = some (S.w (74 + 3 * m)) := a_148 (a := 0) hc hm (by omega) (by omega)
    have t1 : fn148 13 (m : Int) 1 h = some (S.w (74 + 3 * m + 1)) := a_148 (a := 1) hc hm (by omega) (by omega)
    have t2 : fn148 13 (m : Int) 2 h = some (S.w (74 + 3 * m + 2)) := a_148 (a := 2) hc hm (by omega) (by omega)
    have k0 : S.w (74 + 3 * (m : Int)).toNat = S.w (74 + 3 * m) := by rw [show (74 + 3 * (m : Int)).toNat = 74 + 3 * m by omega]
    have k1 : S.w (74 + 3 * (m : Int) + 1).toNat = S.w (74 + 3 * m + 1) := by rw [show (74 + 3 * (m : Int) + 1).toNat = 74 + 3 * m + 1 by omega]
    have k2 : S.w (74 + 3 * (m : Int) + 2).toNat = S.w (74 + 3 * m + 2) := by rw [show (74 + 3 * (m : Int) + 2).toNat = 74 + 3 * m + 2 by omega]
    have cn := a_cnt_2 (u := u) (j := m) (by omega) hb (S.w 4).toNat (by omega)
    rw [if_pos (by omega)] at cn
    obtain ⟨v, x1, x2, x3⟩ := a_near (x := S.w (74 + 3 * m)) (y := S.w (74 + 3 * m + 1)) (z := S.w (74 + 3 * m + 2)) (u := q_ior u (q_ishl 1 (m : Int))) (by unfold q_r32; omega) (by unfold q_r32; omega) (by unfold q_r32; omega) hc hm hI
    rcases x3 with ⟨-, q2⟩ | ⟨c', q1, q2, q3⟩
    · have := a_cnt_1 _ q2
      omega
    · rw [q1] at x1 x2
      rw [fn193_76, if_neg (by omega), t0, Option.bind_some, t1, Option.bind_some, t2, Option.bind_some, x1, Option.bind_some, q_w32_id (z := (i : Int) + 1) (by omega) (by omega), ← m_s1, fn297_69, if_neg (by omega), q_w32_id (z := 3 * (m : Int)) (by omega) (by omega), q_w32_id (z := 74 + 3 * (m : Int)) (by omega) (by omega), q_w32_id (z := 74 + 3 * (m : Int) + 1) (by omega) (by omega), q_w32_id (z := 74 + 3 * (m : Int) + 2) (by omega) (by omega), if_pos (show 0 ≤ 74 + 3 * (m : Int) ∧ 74 + 3 * (m : Int) < 122 by omega), if_pos (show 0 ≤ 74 + 3 * (m : Int) + 1 ∧ 74 + 3 * (m : Int) + 1 < 122 by omega), if_pos (show 0 ≤ 74 + 3 * (m : Int) + 2 ∧ 74 + 3 * (m : Int) + 2 < 122 by omega), hI.1, k0, k1, k2, x2, Option.bind_some, q_w32_id (z := (i : Int) + 1) (by omega) (by omega), ← m_s1]
      exact ih (i + 1) f1 f2 _ c' (by omega) (by omega) (by omega) (by omega) q2 q3
theorem a_p39 {n : Int} {h h1 h2 : q_F} {S S1 : m_St} {v1 v2 : Int} (J : j_T S S h) (J1 : j_T S1 S h1) (e1 : fn18 n h = some (v1, h1)) (e2 : fn297 n h1 = some (v2, h2)) : a_Q h2 v1 v2 := by
  have hm := J1.2.1.1
  have f := (a_F (r_nord J1.2.1.2 hm) e2).1 153 (by omega)
  have ok := m_R0_ok hm.1.1
  have r := ok.2.1
  have g0 := a_g0 J1.2.1.2
  have hc := J.1.2
  have e4 : h 13 1 = S.w 4 := hc.1.2.2.1
  have e7 : h 7 12 = S.w 47 := (hc.1.1 0 (by omega)).1 12 (by omega)
  have e9 : h 9 12 = S.w 48 := (hc.1.1 1 (by omega)).1 12 (by omega)
  have e11 : h 11 12 = S.w 49 := (hc.1.1 2 (by omega)).1 12 (by omega)
  have x7 := ok.2.2.1 0 (by omega)
  have x9 := ok.2.2.1 1 (by omega)
  have x11 := ok.2.2.1 2 (by omega)
  unfold fn297 at e2
  unfold fn18 fn193 fn193_18 at e1
  rw [m_let, g0.1, q_w64_id (z := S.w 4 - 1) (by omega) (by omega), r_rng, Option.bind_some] at e2
  rw [e4] at e1
  by_cases c : 0 ≤ n ∧ n < S.w 4
  · obtain ⟨v, y1, y2, y3⟩ := a_near (x := S.w 47) (y := S.w 48) (z := S.w 49) (u := 0) (by unfold q_r32; omega) (by unfold q_r32; omega) (by unfold q_r32; omega) hc hm g0
    have c0 := a_cnt_0 (S.w 4).toNat (by omega)
    rcases y3 with ⟨-, q2⟩ | ⟨c', q1, q2, q3⟩
    · have := a_cnt_1 _ q2
      omega
    · rw [q1] at y1 y2
      obtain ⟨w, z1, z2⟩ := a_ordl hc hm g0 c.2 n.toNat 0 q_fu q_fu 0 c' (by omega) (by have := q_fu_ge; omega) (by have := q_fu_ge; omega) c0 q2 q3
      have z1' : fn193_76 q_fu n 0 c' 0 h = some (1, w, h) := z1
      have z2' : fn297_69 q_fu n c' 0 0 (q_ud h1 139 7 0) = some (w, q_ud h1 139 7 0) := z2
      rw [if_neg (by omega), if_pos c.2, e7, e9, e11, y1, Option.bind_some, z1', Option.bind_some] at e1
      dsimp only at e1
      rw [if_pos rfl, m_let] at e1
      rw [if_pos (show 0 ≤ n ∧ n ≤ S.w 4 - 1 by omega), if_neg (show ¬ (1 : Int) = 0 by decide)] at e2
      unfold fn297_28 at e2
      rw [a_2580, Option.bind_some] at e2
      dsimp only at e2
      rw [if_pos rfl, g0.1, y2, Option.bind_some, z2'] at e2
      exact a_ok e1 e2 (q_ud_s _ _ _ _) f
  · have e3 : some ((1 : Int), h) = some (v1, h1) := by
      rw [← e1]
      by_cases c5 : n < 0
      · rw [if_pos c5, Option.bind_some]; rfl
      · rw [if_neg c5, if_neg (show ¬ n < S.w 4 by omega), Option.bind_some]; rfl
    rw [if_neg (show ¬ (0 ≤ n ∧ n ≤ S.w 4 - 1) by omega), if_pos rfl] at e2
    unfold fn297_28 at e2
    rw [a_2581, Option.bind_some] at e2
    dsimp only at e2
    rw [if_neg (show ¬ (1 : Int) = 0 by decide)] at e2
    exact a_er e3 e2 (q_ud_s _ _ _ _) (by decide)
