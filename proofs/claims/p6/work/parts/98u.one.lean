/-! Part 98u: the statements, one by one. -/
theorem s_116 {k : Nat} (hk : k < 7) (h : q_F) : fn116 k h = some (if k < 3 then 6 else if k = 3 then 3 else if k = 4 then 1 else 0) := by
  obtain rfl | rfl | rfl | rfl | rfl | rfl | rfl : k = 0 ∨ k = 1 ∨ k = 2 ∨ k = 3 ∨ k = 4 ∨ k = 5 ∨ k = 6 := by omega
  all_goals rfl
theorem s_lgv : q_lgv 1 ((0 : Nat) : Int) = 1 ∧ q_lgv 1 ((1 : Nat) : Int) = 0 ∧ q_lgv 1 ((2 : Nat) : Int) = 1 ∧ q_lgv 1 ((3 : Nat) : Int) = 1 ∧ q_lgv 1 ((4 : Nat) : Int) = 0 ∧ q_lgv 1 ((5 : Nat) : Int) = 0 ∧ q_lgv 2 ((0 : Nat) : Int) = 2000 ∧ q_lgv 2 ((1 : Nat) : Int) = 20 ∧ q_lgv 2 ((2 : Nat) : Int) = 5000 ∧ q_lgv 2 ((3 : Nat) : Int) = 500 ∧ q_lgv 2 ((5 : Nat) : Int) = 20 := by decide +kernel
theorem s_J_E {B : Nat → Int} {n p : Nat} {F G : Option (Int × q_F)} {c' g' : q_F} (f : F = some (0, c')) (g : G = some (0, g')) (E : s_E c' g') : s_J B n p F G := Or.inr ⟨c', g', f, g, E⟩
theorem s_J_D {B : Nat → Int} {n p p0 s f nn : Nat} {a : Int} {c g : q_F} (h0 : p0 ≤ p) (R : s_R B n p s c g) (W : s_W s g) : s_J B n p0 (fn120_71 1 (f + 1) a nn nn c) (some (1, g)) := Or.inl ⟨c, g, p, s, s_71D, rfl, h0, R, W⟩
theorem s_W_or {s st : Nat} {g g' : q_F} (hs : s < 128) (hst : st < 5) (W : s_W s g) (e : g' 140 = g 140) : s_W (s_or s st) g' := by
  have B2 := s_bit2 s hs st (by omega)
  unfold s_W s_or
  rw [e, B2.2.2.1, B2.2.2.2, if_neg (by omega), if_neg (by omega)]
  exact W
/-- the numbers of an axis -/
theorem s_axis {B : Nat → Int} {n p s a : Nat} {c g : q_F} (ha : a < 3) (R : s_R B n p s c g) (W : s_W s g) : s_J B n p (fn120_71 1 q_fu a 6 0 c) ((fn348 (q_w32 ((8 : Int) + a)) (1 : Int) (2000 : Int) g).bind fun x4 =>
    if x4.1 = 0 then (
      fn314_91 a x4.2)
    else (
      (fn348 (q_w32 ((11 : Int) + a)) (0 : Int) (20 : Int) x4.2).bind fun x12 =>
      if x12.1 = 0 then (
        fn314_91 a x12.2)
      else (
        (fn348 (q_w32 ((14 : Int) + a)) (1 : Int) (5000 : Int) x12.2).bind fun x14 =>
        if x14.1 = 0 then (
          fn314_91 a x14.2)
        else (
          (fn348 (q_w32 ((17 : Int) + a)) (1 : Int) (500 : Int) x14.2).bind fun x16 =>
          if x16.1 = 0 then (
            fn314_91 a x16.2)
          else (
            fn314_92 a (1 : Int) x16.2))))) := by
  obtain ⟨f, hf⟩ : ∃ f', q_fu = f' + 7 := ⟨q_fu - 7, by have := q_fu_ge; omega⟩
  rw [hf]
  have L := s_lgv
  have pl : ∀ i : Nat, s_pl' a i = 8 + 3 * i + a := fun i => by unfold s_pl'; rw [if_pos ha]
  have mn : ∀ i : Nat, s_mn a i = q_lgv 1 i := fun i => by unfold s_mn; rw [if_pos ha]
  have mx : ∀ (N : Nat → Int) (i : Nat), i ≠ 4 → s_mx N a i = q_lgv 2 i := fun N i hi => by unfold s_mx; rw [if_pos ha, if_neg hi]
  have e91 : ∀ g', fn314_91 a g' = some (0, g') := fun g' => by unfold fn314_91 fn314_92; rw [if_pos rfl]
  have pp : ∀ i : Nat, i < 6 → q_w32 ((8 + 3 * i : Nat) + (a : Int)) = ((s_pl' a i : Nat) : Int) := fun i hi => by rw [pl, q_w32_id (by omega) (by omega)]; omega
  rw [show q_w32 ((8 : Int) + a) = ((s_pl' a 0 : Nat) : Int) from pp 0 (by omega)]
  refine s_next (i := 0) (nn := 6) R W (Nat.le_refl _) (by omega) (by omega) (by omega) (Or.inl ⟨ha, by omega⟩) (by rw [mn]; exact L.1.symm) (by rw [mx _ _ (by omega)]; exact L.2.2.2.2.2.2.1.symm) ?_ (fun g' => e91 g')
  intro c g p1 h1 R W
  dsimp only
  rw [if_neg (show ¬ (1 : Int) = 0 by decide), show q_w32 ((11 : Int) + a) = ((s_pl' a 1 : Nat) : Int) from pp 1 (by omega)]
  refine s_next (i := 1) (nn := 6) R W h1 (by omega) (by omega) (by omega) (Or.inl ⟨ha, by omega⟩) (by rw [mn]; exact L.2.1.symm) (by rw [mx _ _ (by omega)]; exact L.2.2.2.2.2.2.2.1.symm) ?_ (fun g' => e91 g')
  intro c g p1 h1 R W
  dsimp only
  rw [if_neg (show ¬ (1 : Int) = 0 by decide), show q_w32 ((14 : Int) + a) = ((s_pl' a 2 : Nat) : Int) from pp 2 (by omega)]
  refine s_next (i := 2) (nn := 6) R W h1 (by omega) (by omega) (by omega) (Or.inl ⟨ha, by omega⟩) (by rw [mn]; exact L.2.2.1.symm) (by rw [mx _ _ (by omega)]; exact L.2.2.2.2.2.2.2.2.1.symm) ?_ (fun g' => e91 g')
  intro c g p1 h1 R W
  dsimp only
  rw [if_neg (show ¬ (1 : Int) = 0 by decide), show q_w32 ((17 : Int) + a) = ((s_pl' a 3 : Nat) : Int) from pp 3 (by omega)]
  refine s_next (i := 3) (nn := 6) R W h1 (by omega) (by omega) (by omega) (Or.inl ⟨ha, by omega⟩) (by rw [mn]; exact L.2.2.2.1.symm) (by rw [mx _ _ (by omega)]; exact L.2.2.2.2.2.2.2.2.2.1.symm) ?_ (fun g' => e91 g')
  intro c g p1 h1 R W
  dsimp only
  unfold fn314_92
  have X0 : g 140 (8 + a) = c 4 (6 * a) := by
    have := R.2.2.2.1 a 0 (Or.inl ⟨ha, by omega⟩)
    rw [pl] at this
    unfold s_c1 s_c2 at this
    rw [if_pos ha, if_pos ha] at this
    exact this.symm
  rw [if_neg (show ¬ (1 : Int) = 0 by decide), if_neg (show ¬ (1 : Int) = 0 by decide), q_w32_id (z := 8 + (a : Int)) (by omega) (by omega), if_pos (by omega), show (8 + (a : Int)).toNat = 8 + a by omega, X0, show q_w32 ((20 : Int) + a) = ((s_pl' a 4 : Nat) : Int) from pp 4 (by omega)]
  refine s_next (i := 4) (nn := 6) R W h1 (by omega) (by omega) (by omega) (Or.inl ⟨ha, by omega⟩) (by rw [mn]; exact L.2.2.2.2.1.symm) (by unfold s_mx; rw [if_pos ha, if_pos rfl]) ?_ (fun g' => by dsimp only; rw [if_pos rfl])
  intro c g p1 h1 R W
  dsimp only
  rw [if_neg (show ¬ (1 : Int) = 0 by decide), show q_w32 ((23 : Int) + a) = ((s_pl' a 5 : Nat) : Int) from pp 5 (by omega)]
  refine s_next (i := 5) (nn := 6) R W h1 (by omega) (by omega) (by omega) (Or.inl ⟨ha, by omega⟩) (by rw [mn]; exact L.2.2.2.2.2.1.symm) (by rw [mx _ _ (by omega)]; exact L.2.2.2.2.2.2.2.2.2.2.symm) ?_ (fun g' => by dsimp only; rw [if_pos rfl])
  intro c g p1 h1 R W
  dsimp only
  rw [if_neg (show ¬ (1 : Int) = 0 by decide)]
  exact s_J_D h1 R W
/-- the numbers of begin -/
theorem s_begl {B : Nat → Int} {n p0 s : Nat} : ∀ (d i f f2 p : Nat) (c g : q_F), i + d = 3 → d < f → d < f2 → p0 ≤ p → s_R B n p s c g → s_W s g → s_J B n p0 (fn120_71 1 f 3 3 i c) (fn315_16 f2 1 i g) := by
  intro d
  induction d with
  | zero =>
    intro i f f2 p c g hd hf hf2 h0 R W
    obtain ⟨f, rfl⟩ : ∃ f', f = f' + 1 := ⟨f - 1, by omega⟩
    obtain ⟨f2, rfl⟩ : ∃ f', f2 = f' + 1 := ⟨f2 - 1, by omega⟩
    obtain rfl : i = 3 := by omega
    rw [fn315_16, if_pos (by omega)]
    exact s_J_D (nn := 3) h0 R W
  | succ d ih =>
    intro i f f2 p c g hd hf hf2 h0 R W
    obtain ⟨f, rfl⟩ : ∃ f', f = f' + 1 := ⟨f - 1, by omega⟩
    obtain ⟨f2, rfl⟩ : ∃ f', f2 = f' + 1 := ⟨f2 - 1, by omega⟩
    have X0 : g 140 (8 + i) = c 4 (6 * i) := by
      have := R.2.2.2.1 i 0 (Or.inl ⟨by omega, by omega⟩)
      unfold s_c1 s_c2 s_pl' at this
      rw [if_pos (by omega), if_pos (by omega), if_pos (by omega)] at this
      exact this.symm
    have e0 : ∀ g' : q_F, fn315_16 f2 0 (q_w32 ((i : Int) + 1)) g' = some (0, g') := fun g' => by
      obtain ⟨f3, rfl⟩ : ∃ f', f2 = f' + 1 := ⟨f2 - 1, by omega⟩
      rw [fn315_16]
      split
      · rfl
      · rw [if_pos rfl]
    rw [fn315_16, if_neg (by omega), if_neg (show ¬ (1 : Int) = 0 by decide), q_w32_id (z := 8 + (i : Int)) (by omega) (by omega), if_pos (by omega), show (8 + (i : Int)).toNat = 8 + i by omega, X0, q_w32_id (z := 26 + (i : Int)) (by omega) (by omega), show 26 + (i : Int) = ((s_pl' 3 i : Nat) : Int) by unfold s_pl'; rw [if_neg (by omega), if_pos rfl]; omega]
    refine s_next (st := 3) (i := i) (nn := 3) R W h0 (by omega) (by omega) (by omega) (Or.inr (Or.inl ⟨rfl, by omega⟩)) rfl rfl ?_ e0
    intro c g p1 h1 R W
    dsimp only
    rw [q_w32_id (z := (i : Int) + 1) (by omega) (by omega), ← m_s1]
    exact ih (i + 1) f f2 p1 c g (by omega) (by omega) (by omega) h1 R W
/-- start's number -/
theorem s_start {B : Nat → Int} {n p s : Nat} {c g : q_F} (R : s_R B n p s c g) (W : s_W s g) : s_J B n p (fn120_71 1 q_fu 4 1 0 c) ((fn348 (0 : Int) (1 : Int) (1000 : Int) g).bind fun x22 =>
              if x22.1 = 0 then (
                some ((0 : Int), x22.2))
              else (
                some ((1 : Int), x22.2))) := by
  obtain ⟨f, hf⟩ : ∃ f', q_fu = f' + 2 := ⟨q_fu - 2, by have := q_fu_ge; omega⟩
  rw [hf]
  refine s_next (st := 4) (i := 0) (nn := 1) R W (Nat.le_refl _) (by omega) (by omega) (by omega) (Or.inr (Or.inr ⟨rfl, rfl⟩)) rfl rfl ?_ (fun g' => by dsimp only; rw [if_pos rfl])
  intro c g p1 h1 R W
  dsimp only
  rw [if_neg (show ¬ (1 : Int) = 0 by decide)]
  exact s_J_D (nn := 1) h1 R W
