/-! Part 99g: the two constructors run by the kernel, whatever the script's length. -/
/-- an instruction that does not look at the script -/
noncomputable def t_ok (mi : q_MI) (c : q_C) : Bool := match (mi.1.2 c.1).1 with
  | .arraylength => (match c.2.2.1 with | [] => false | a :: _ => Nat.beq a.1 2)
  | .laload => (match c.2.2.1 with | [] => false | _ :: r => match r with | [] => false | a :: _ => Nat.beq a.1 2)
  | .aload_n _ => true
  | .aload _ => true
  | .iload_n _ => true
  | .iload _ => true
  | .astore_n _ => true
  | .astore _ => true
  | .istore_n _ => true
  | .istore _ => true
  | .iconst _ => true
  | .bipush _ => true
  | .sipush _ => true
  | .lconst _ => true
  | .ldc2_w _ => true
  | .dup => true
  | .iadd => true
  | .lcmp => true
  | .goto _ => true
  | .ifCond _ _ => true
  | .if_icmp _ _ => true
  | .iinc _ _ => true
  | .getfield _ => true
  | .putfield _ => true
  | .lastore => true
  | .aastore => true
  | .new _ => true
  | .newarray _ => true
  | .anewarray _ => true
  | .invokevirtual _ => true
  | .invokespecial _ => true
  | .return_ => true
  | _ => false
noncomputable def t_step (mt : Nat → q_MI) (df : Nat → List q_V) (cf : Nat → List q_V → q_H → q_I → Option (List q_Lf)) (mi : q_MI) (c : q_C) : q_O := q_if (t_ok mi c) (q_step mt df cf 0 mi c)
section t_s
variable {mt : Nat → q_MI} {df : Nat → List q_V} {cf cf' : Nat → List q_V → q_H → q_I → Option (List q_Lf)} {sL : Nat} {mi : q_MI}
theorem t_call (hc : ∀ x ar hp iv r, cf x ar hp iv = some r → cf' x ar hp iv = some r) {me : q_MI} {x y pc : Nat} {lo : q_L} {st : List q_V} {hp : q_H} {iv : q_I} {cl sl : Nat} {z : List q_C × List q_Lf} (h : q_oCall cf mi me x y pc lo st hp iv cl sl = some z) : q_oCall cf' mi me x y pc lo st hp iv cl sl = some z := by
  unfold q_oCall at h ⊢
  obtain ⟨ar, h1, h⟩ := q_bd_i h
  obtain ⟨h2, h⟩ := q_if_i h
  obtain ⟨h3, h⟩ := q_if_i h
  obtain ⟨l, h4, h⟩ := q_bd_i h
  rw [h1]
  show q_if _ (q_if _ _) = _
  rw [h2]
  show q_if _ _ = _
  rw [h3]
  show (cf' x ar.1 hp iv).bind _ = _
  rw [hc _ _ _ _ _ h4]
  exact h
theorem t_up (hc : ∀ x ar hp iv r, cf x ar hp iv = some r → cf' x ar hp iv = some r) {c : q_C} {z : List q_C × List q_Lf} (h : t_step mt df cf mi c = some z) : q_step mt df cf' sL mi c = some z := by
  obtain ⟨pc, lo, st, hp, iv, cl, sl⟩ := c
  obtain ⟨h1, h⟩ := q_if_i h
  rw [q_stB_e] at h ⊢
  obtain ⟨h2, h⟩ := q_if_i h
  rw [h2]
  show q_stB mt df cf' sL mi pc lo st hp iv cl sl (mi.1.2 pc).1 (mi.1.2 pc).2.1 (mi.1.2 pc).2.2.1 (mi.1.2 pc).2.2.2.1 (mi.1.2 pc).2.2.2.2 = some z
  unfold t_ok at h1
  dsimp only at h1
  generalize (mi.1.2 pc).2.1 = len at h ⊢
  generalize (mi.1.2 pc).2.2.1 = x at h ⊢
  generalize (mi.1.2 pc).2.2.2.1 = y at h ⊢
  generalize (mi.1.2 pc).2.2.2.2 = v at h ⊢
  generalize (mi.1.2 pc).1 = ins at h h1 ⊢
  cases ins
  case arraylength =>
    cases st with
    | nil => cases h1
    | cons a r =>
      obtain ⟨k, w⟩ := a
      have e : k = 2 := q_bq h1
      subst e
      exact h
  case laload =>
    cases st with
    | nil => cases h1
    | cons b r =>
      cases r with
      | nil => cases h1
      | cons a r =>
        obtain ⟨k, w⟩ := a
        have e : k = 2 := q_bq h1
        subst e
        exact h
  case invokevirtual =>
    show (bif Nat.beq y 1 then _ else bif Nat.beq y 2 then _ else q_oCall cf' mi (mt x) x y pc lo st hp iv cl sl) = some z
    have h : (bif Nat.beq y 1 then q_oSl mi.2.2.1.1 mi.2.2.1.2.1 mi.2.2.1.2.2.1 mi.2.2.1.2.2.2 (Nat.add pc len) lo st hp iv cl sl else bif Nat.beq y 2 then q_oSc mi.2.2.1.1 mi.2.2.1.2.1 mi.2.2.1.2.2.1 mi.2.2.1.2.2.2 (Nat.add pc len) lo st hp iv cl sl else q_oCall cf mi (mt x) x y pc lo st hp iv cl sl) = some z := h
    cases b1 : Nat.beq y 1 with
    | true => rw [b1] at h; exact h
    | false =>
      rw [b1] at h
      cases b2 : Nat.beq y 2 with
      | true => rw [b2] at h; exact h
      | false => rw [b2] at h; exact t_call hc h
  case invokespecial =>
    show (bif Nat.beq y 5 then _ else q_oCall cf' mi (mt x) x y pc lo st hp iv cl sl) = some z
    have h : (bif Nat.beq y 5 then q_oObj mi.2.2.1.1 mi.2.2.1.2.1 (Nat.add pc len) lo st hp iv cl sl else q_oCall cf mi (mt x) x y pc lo st hp iv cl sl) = some z := h
    cases b1 : Nat.beq y 5 with
    | true => rw [b1] at h; exact h
    | false => rw [b1] at h; exact t_call hc h
  all_goals first | exact h | cases h1
/-- as q_one1, q_it, q_rn -/
noncomputable def t_one1 (mt : Nat → q_MI) (df : Nat → List q_V) (cf : Nat → List q_V → q_H → q_I → Option (List q_Lf)) (mi : q_MI) (s : List q_C × List q_Lf) : Option (List q_C × List q_Lf) := match s with
  | ([], lf) => some ([], lf)
  | (c :: r, lf) => match t_step mt df cf mi c with
    | none => none
    | some z => some (q_app z.1 r, q_app z.2 lf)
noncomputable def t_it (mt : Nat → q_MI) (df : Nat → List q_V) (cf : Nat → List q_V → q_H → q_I → Option (List q_Lf)) (mi : q_MI) (k : Nat) : List q_C × List q_Lf → Option (List q_C × List q_Lf) :=
  Nat.rec (motive := fun _ => List q_C × List q_Lf → Option (List q_C × List q_Lf)) (fun s => t_one1 mt df cf mi s) (fun _ ih s => match ih s with
    | none => none
    | some z => match z with
      | ([], lf) => some ([], lf)
      | (c :: r, lf) => ih (c :: r, lf)) k
noncomputable def t_rn (mt : Nat → q_MI) (df : Nat → List q_V) (d : Nat) : Nat → List q_V → q_H → q_I → Option (List q_Lf) :=
  Nat.rec (motive := fun _ => Nat → List q_V → q_H → q_I → Option (List q_Lf)) (fun _ _ _ _ => none) (fun _ ih i ar hp iv => q_if (Nat.ble (q_wid ar) (mt i).2.1.1) (match t_it mt df ih (mt i) 14 ([(0, q_args ar 0, [], hp, iv, 0, 0)], []) with
    | none => none
    | some z => match z with
      | ([], lf) => some lf
      | (_ :: _, _) => none)) d
theorem t_it_up (hc : ∀ x ar hp iv r, cf x ar hp iv = some r → cf' x ar hp iv = some r) : ∀ (k : Nat) (a b : List q_C × List q_Lf), t_it mt df cf mi k a = some b → q_it mt df cf' sL mi k a = some b := by
  intro k
  induction k with
  | zero =>
    intro a b h
    have h : t_one1 mt df cf mi a = some b := h
    show q_one1 mt df cf' sL mi a = some b
    obtain ⟨l, lf⟩ := a
    cases l with
    | nil => exact h
    | cons c r =>
      have h : (match t_step mt df cf mi c with
        | none => none
        | some z => some (q_app z.1 r, q_app z.2 lf)) = some b := h
      show (match q_step mt df cf' sL mi c with
        | none => none
        | some z => some (q_app z.1 r, q_app z.2 lf)) = some b
      cases hs : t_step mt df cf mi c with
      | none => rw [hs] at h; cases h
      | some z => rw [hs] at h; rw [t_up hc hs]; exact h
  | succ k ih =>
    intro a b h
    have h : (match t_it mt df cf mi k a with
      | none => none
      | some z => match z with
        | ([], lf) => some ([], lf)
        | (c :: r, lf) => t_it mt df cf mi k (c :: r, lf)) = some b := h
    show (match q_it mt df cf' sL mi k a with
      | none => none
      | some z => match z with
        | ([], lf) => some ([], lf)
        | (c :: r, lf) => q_it mt df cf' sL mi k (c :: r, lf)) = some b
    cases hs : t_it mt df cf mi k a with
    | none => rw [hs] at h; cases h
    | some z =>
      rw [hs] at h
      rw [ih _ _ hs]
      obtain ⟨l, lf⟩ := z
      cases l with
      | nil => exact h
      | cons c r => exact ih _ _ h
theorem t_rn_up : ∀ (d : Nat) (x : Nat) (ar : List q_V) (hp : q_H) (iv : q_I) (r : List q_Lf), t_rn mt df d x ar hp iv = some r → q_rn mt df sL d x ar hp iv = some r := by
  intro d
  induction d with
  | zero => intro x ar hp iv r h; cases h
  | succ d ih =>
    intro x ar hp iv r h
    have h : q_if (Nat.ble (q_wid ar) (mt x).2.1.1) (match t_it mt df (t_rn mt df d) (mt x) 14 ([(0, q_args ar 0, [], hp, iv, 0, 0)], []) with
      | none => none
      | some z => match z with
        | ([], lf) => some lf
        | (_ :: _, _) => none) = some r := h
    show q_if (Nat.ble (q_wid ar) (mt x).2.1.1) (match q_it mt df (q_rn mt df sL d) sL (mt x) 14 ([(0, q_args ar 0, [], hp, iv, 0, 0)], []) with
      | none => none
      | some z => match z with
        | ([], lf) => some lf
        | (_ :: _, _) => none) = some r
    obtain ⟨h1, h⟩ := q_if_i h
    rw [h1]
    cases hs : t_it mt df (t_rn mt df d) (mt x) 14 ([(0, q_args ar 0, [], hp, iv, 0, 0)], []) with
    | none => rw [hs] at h; cases h
    | some z =>
      rw [hs] at h
      rw [t_it_up (sL := sL) ih 14 _ _ hs]
      exact h
end t_s
