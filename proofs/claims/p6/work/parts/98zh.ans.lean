/-! Part 98zh: two long answers that are the same. -/
theorem y_lc {Γ : q_Γ} {P : Nat → q_V → q_F → Prop} {i n p x cl sl : Nat} {off a b : Int} {K : Nat → q_Ly} {lo : q_L} {st : List q_V} {hp : q_H} (c0 : q_cat i p .lcmp 1 0 0 0) (c1 : q_cat i (p + 1) (.ifCond .eq off) 3 x 0 0) (h : a = b) (k : q_R Γ K n i P (x, lo, st, hp, [], cl, sl)) : q_R Γ K n i P (p, lo, (1, b) :: (1, a) :: st, hp, [], cl, sl) := by
  subst h
  refine r_lcmp c0 rfl (fun h9 => absurd h9 (Int.lt_irrefl _)) (fun _ => ?_) (fun h9 => absurd h9 (Int.lt_irrefl _))
  exact r_if_eq (a' := 0) c1 rfl (q_w32_id (by decide) (by decide)) (fun _ => k) (fun h9 => absurd rfl h9.1)
