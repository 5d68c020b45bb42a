section -- [99f.loop]
/-! Part 99f: the law's loop. -/
theorem y_loop {Γ : q_Γ} (hG : q_GG Γ) (hL : Γ.2.2.2.1 ≤ 3072) : ∀ (m i : Nat) (h : q_F) (cl sl : Nat), Γ.2.2.2.1 ≤ i + 6 * m + 5 → i ≤ Γ.2.2.2.1 → q_Al 0 155 h → t_J h → h 1 1 = h 139 14 → cl ≤ 700 + i → sl ≤ 20000 + 6 * i → q_R Γ q_K 155 369 y_P (28, y_lo i, [], q_hp q_K 155 h, [], cl, sl) := by
  intro m
  induction m with
  | zero =>
    intro i h cl sl hm hi hA J E hc hs
    refine r_iload c369_28 rfl rfl ?_
    refine r_aload9 c369_30 rfl rfl ?_
    refine r_alen9 c369_31 (by decide) rfl rfl ?_
    refine r_bipush c369_32 rfl ?_
    refine r_isub c369_34 (q_w32_id (by show _ ≤ (Γ.2.2.2.1 : Int) - 6; omega) (by show (Γ.2.2.2.1 : Int) - 6 < _; omega)) rfl ?_
    refine r_ic_gt c369_35 rfl (q_w32_id (by omega) (by omega)) (q_w32_id (by show _ ≤ (Γ.2.2.2.1 : Int) - 6; omega) (by show (Γ.2.2.2.1 : Int) - 6 < _; omega)) (fun _ => ?_) (fun h9 => ?_)
    · refine r_iconst c369_2223 rfl ?_
      exact r_zret c369_2224 ⟨rfl, y_ble1 (by omega), y_ble2 (by omega)⟩ (Or.inr rfl) ⟨rfl, rfl⟩
    · have h8 : (i : Int) ≤ (Γ.2.2.2.1 : Int) - 6 := h9.1
      omega
  | succ m ih =>
    intro i h cl sl hm hi hA J E hc hs
    refine r_iload c369_28 rfl rfl ?_
    refine r_aload9 c369_30 rfl rfl ?_
    refine r_alen9 c369_31 (by decide) rfl rfl ?_
    refine r_bipush c369_32 rfl ?_
    refine r_isub c369_34 (q_w32_id (by show _ ≤ (Γ.2.2.2.1 : Int) - 6; omega) (by show (Γ.2.2.2.1 : Int) - 6 < _; omega)) rfl ?_
    refine r_ic_gt c369_35 rfl (q_w32_id (by omega) (by omega)) (q_w32_id (by show _ ≤ (Γ.2.2.2.1 : Int) - 6; omega) (by show (Γ.2.2.2.1 : Int) - 6 < _; omega)) (fun _ => ?_) (fun h9 => ?_)
    · refine r_iconst c369_2223 rfl ?_
      exact r_zret c369_2224 ⟨rfl, y_ble1 (by omega), y_ble2 (by omega)⟩ (Or.inr rfl) ⟨rfl, rfl⟩
    · have h8 : (i : Int) ≤ (Γ.2.2.2.1 : Int) - 6 := h9.1
      refine r_aload9 c369_38 rfl rfl ?_
      refine r_iload c369_39 rfl rfl ?_
      refine r_sald c369_41 rfl (q_w32_id (by omega) (by omega)) (by omega) (by omega) rfl ?_
      refine r_bipush c369_42 rfl ?_
      refine r_iand c369_44 rfl rfl ?_
      have z9 := y_and63 (Γ.1 (Int.toNat (i : Int)))
      have kk : y_K Γ i cl sl := by
        intro h' cl' sl' hA' J' c1 s1
        refine r_iinc c369_2217 rfl (r := ((i + 6 : Nat) : Int)) (by rw [q_w32_id (by omega) (by omega)]; omega) (lo' := y_lo (i + 6)) rfl rfl rfl ?_
        refine r_goto c369_2220 ?_
        exact ih (i + 6) h' cl' sl' (by omega) (by omega) hA' J'.1 J'.2 (by omega) (by omega)
      refine r_tsw c369_45 (q_w32_id (by omega) (by omega)) rfl rfl (td := 2217) rfl rfl (fun _ => kk _ _ _ hA ⟨J, E⟩ (by omega) (by omega)) (fun a0 a1 => ?_)
      exact y_sw hG (by omega) hL hA J E (by omega) (by omega) kk rfl rfl rfl rfl _ a0 a1
end -- [99f.loop]
section -- [99g.start]
/-! Part 99g: the two constructors run by the kernel, whatever the script's length. -/
/-- an instruction that does not look at the script -/
noncomputable def t_ok (mi : q_MI) (c : q_C) : Bool := match (mi.1.2 c.1).1 with
  | .arraylength => (match c.2.2.1 with | [] => false | a :: _ => Nat.beq a.1 2)
  | .laload => (match c.2.2.1 with | [] => false | _ :: r => match r with | [] => false | a :: _ => Nat.beq a.1 2)
  | .aload_n _ => true
  | .aload _ => true
  | .iload_n _ => true
  | .iload _ => true
  | .astore_n _ => true
  | .astore _ => true
  | .istore_n _ => true
  | .istore _ => true
  | .iconst _ => true
  | .bipush _ => true
  | .sipush _ => true
  | .lconst _ => true
  | .ldc2_w _ => true
  | .dup => true
  | .iadd => true
  | .lcmp => true
  | .goto _ => true
  | .ifCond _ _ => true
  | .if_icmp _ _ => true
  | .iinc _ _ => true
  | .getfield _ => true
  | .putfield _ => true
  | .lastore => true
  | .aastore => true
  | .new _ => true
  | .newarray _ => true
  | .anewarray _ => true
  | .invokevirtual _ => true
  | .invokespecial _ => true
  | .return_ => true
  | _ => false
noncomputable def t_step (mt : Nat → q_MI) (df : Nat → List q_V) (cf : Nat → List q_V → q_H → q_I → Option (List q_Lf)) (mi : q_MI) (c : q_C) : q_O := q_if (t_ok mi c) (q_step mt df cf 0 mi c)
section t_s
variable {mt : Nat → q_MI} {df : Nat → List q_V} {cf cf' : Nat → List q_V → q_H → q_I → Option (List q_Lf)} {sL : Nat} {mi : q_MI}
theorem t_call (hc : ∀ x ar hp iv r, cf x ar hp iv = some r → cf' x ar hp iv = some r) {me : q_MI} {x y pc : Nat} {lo : q_L} {st : List q_V} {hp : q_H} {iv : q_I} {cl sl : Nat} {z : List q_C × List q_Lf} (h : q_oCall cf mi me x y pc lo st hp iv cl sl = some z) : q_oCall cf' mi me x y pc lo st hp iv cl sl = some z := by
  unfold q_oCall at h ⊢
  obtain ⟨ar, h1, h⟩ := q_bd_i h
  obtain ⟨h2, h⟩ := q_if_i h
  obtain ⟨h3, h⟩ := q_if_i h
  obtain ⟨l, h4, h⟩ := q_bd_i h
  rw [h1]
  show q_if _ (q_if _ _) = _
  rw [h2]
  show q_if _ _ = _
  rw [h3]
  show (cf' x ar.1 hp iv).bind _ = _
  rw [hc _ _ _ _ _ h4]
  exact h
theorem t_up (hc : ∀ x ar hp iv r, cf x ar hp iv = some r → cf' x ar hp iv = some r) {c : q_C} {z : List q_C × List q_Lf} (h : t_step mt df cf mi c = some z) : q_step mt df cf' sL mi c = some z := by
  obtain ⟨pc, lo, st, hp, iv, cl, sl⟩ := c
  obtain ⟨h1, h⟩ := q_if_i h
  rw [q_stB_e] at h ⊢
  obtain ⟨h2, h⟩ := q_if_i h
  rw [h2]
  show q_stB mt df cf' sL mi pc lo st hp iv cl sl (mi.1.2 pc).1 (mi.1.2 pc).2.1 (mi.1.2 pc).2.2.1 (mi.1.2 pc).2.2.2.1 (mi.1.2 pc).2.2.2.2 = some z
  unfold t_ok at h1
  dsimp only at h1
  generalize (mi.1.2 pc).2.1 = len at h ⊢
  generalize (mi.1.2 pc).2.2.1 = x at h ⊢
  generalize (mi.1.2 pc).2.2.2.1 = y at h ⊢
  generalize (mi.1.2 pc).2.2.2.2 = v at h ⊢
  generalize (mi.1.2 pc).1 = ins at h h1 ⊢
  cases ins
  case arraylength =>
    cases st with
    | nil => cases h1
    | cons a r =>
      obtain ⟨k, w⟩ := a
      have e : k = 2 := q_bq h1
      subst e
      exact h
  case laload =>
    cases st with
    | nil => cases h1
    | cons b r =>
      cases r with
      | nil => cases h1
      | cons a r =>
        obtain ⟨k, w⟩ := a
        have e : k = 2 := q_bq h1
        subst e
        exact h
  case invokevirtual =>
    show (bif Nat.beq y 1 then _ else bif Nat.beq y 2 then _ else q_oCall cf' mi (mt x) x y pc lo st hp iv cl sl) = some z
    have h : (bif Nat.beq y 1 then q_oSl mi.2.2.1.1 mi.2.2.1.2.1 mi.2.2.1.2.2.1 mi.2.2.1.2.2.2 (Nat.add pc len) lo st hp iv cl sl else bif Nat.beq y 2 then q_oSc mi.2.2.1.1 mi.2.2.1.2.1 mi.2.2.1.2.2.1 mi.2.2.1.2.2.2 (Nat.add pc len) lo st hp iv cl sl else q_oCall cf mi (mt x) x y pc lo st hp iv cl sl) = some z := h
    cases b1 : Nat.beq y 1 with
    | true => rw [b1] at h; exact h
    | false =>
      rw [b1] at h
      cases b2 : Nat.beq y 2 with
      | true => rw [b2] at h; exact h
      | false => rw [b2] at h; exact t_call hc h
  case invokespecial =>
    show (bif Nat.beq y 5 then _ else q_oCall cf' mi (mt x) x y pc lo st hp iv cl sl) = some z
    have h : (bif Nat.beq y 5 then q_oObj mi.2.2.1.1 mi.2.2.1.2.1 (Nat.add pc len) lo st hp iv cl sl else q_oCall cf mi (mt x) x y pc lo st hp iv cl sl) = some z := h
    cases b1 : Nat.beq y 5 with
    | true => rw [b1] at h; exact h
    | false => rw [b1] at h; exact t_call hc h
  all_goals first | exact h | cases h1
/-- as q_one1, q_it, q_rn -/
noncomputable def t_one1 (mt : Nat → q_MI) (df : Nat → List q_V) (cf : Nat → List q_V → q_H → q_I → Option (List q_Lf)) (mi : q_MI) (s : List q_C × List q_Lf) : Option (List q_C × List q_Lf) := match s with
  | ([], lf) => some ([], lf)
  | (c :: r, lf) => match t_step mt df cf mi c with
    | none => none
    | some z => some (q_app z.1 r, q_app z.2 lf)
noncomputable def t_it (mt : Nat → q_MI) (df : Nat → List q_V) (cf : Nat → List q_V → q_H → q_I → Option (List q_Lf)) (mi : q_MI) (k : Nat) : List q_C × List q_Lf → Option (List q_C × List q_Lf) :=
  Nat.rec (motive := fun _ => List q_C × List q_Lf → Option (List q_C × List q_Lf)) (fun s => t_one1 mt df cf mi s) (fun _ ih s => match ih s with
    | none => none
    | some z => match z with
      | ([], lf) => some ([], lf)
      | (c :: r, lf) => ih (c :: r, lf)) k
noncomputable def t_rn (mt : Nat → q_MI) (df : Nat → List q_V) (d : Nat) : Nat → List q_V → q_H → q_I → Option (List q_Lf) :=
  Nat.rec (motive := fun _ => Nat → List q_V → q_H → q_I → Option (List q_Lf)) (fun _ _ _ _ => none) (fun _ ih i ar hp iv => q_if (Nat.ble (q_wid ar) (mt i).2.1.1) (match t_it mt df ih (mt i) 14 ([(0, q_args ar 0, [], hp, iv, 0, 0)], []) with
    | none => none
    | some z => match z with
      | ([], lf) => some lf
      | (_ :: _, _) => none)) d
theorem t_it_up (hc : ∀ x ar hp iv r, cf x ar hp iv = some r → cf' x ar hp iv = some r) : ∀ (k : Nat) (a b : List q_C × List q_Lf), t_it mt df cf mi k a = some b → q_it mt df cf' sL mi k a = some b := by
  intro k
  induction k with
  | zero =>
    intro a b h
    have h : t_one1 mt df cf mi a = some b := h
    show q_one1 mt df cf' sL mi a = some b
    obtain ⟨l, lf⟩ := a
    cases l with
    | nil => exact h
    | cons c r =>
      have h : (match t_step mt df cf mi c with
        | none => none
        | some z => some (q_app z.1 r, q_app z.2 lf)) = some b := h
      show (match q_step mt df cf' sL mi c with
        | none => none
        | some z => some (q_app z.1 r, q_app z.2 lf)) = some b
      cases hs : t_step mt df cf mi c with
      | none => rw [hs] at h; cases h
      | some z => rw [hs] at h; rw [t_up hc hs]; exact h
  | succ k ih =>
    intro a b h
    have h : (match t_it mt df cf mi k a with
      | none => none
      | some z => match z with
        | ([], lf) => some ([], lf)
        | (c :: r, lf) => t_it mt df cf mi k (c :: r, lf)) = some b := h
    show (match q_it mt df cf' sL mi k a with
      | none => none
      | some z => match z with
        | ([], lf) => some ([], lf)
        | (c :: r, lf) => q_it mt df cf' sL mi k (c :: r, lf)) = some b
    cases hs : t_it mt df cf mi k a with
    | none => rw [hs] at h; cases h
    | some z =>
      rw [hs] at h
      rw [ih _ _ hs]
      obtain ⟨l, lf⟩ := z
      cases l with
      | nil => exact h
      | cons c r => exact ih _ _ h
theorem t_rn_up : ∀ (d : Nat) (x : Nat) (ar : List q_V) (hp : q_H) (iv : q_I) (r : List q_Lf), t_rn mt df d x ar hp iv = some r → q_rn mt df sL d x ar hp iv = some r := by
  intro d
  induction d with
  | zero => intro x ar hp iv r h; cases h
  | succ d ih =>
    intro x ar hp iv r h
    have h : q_if (Nat.ble (q_wid ar) (mt x).2.1.1) (match t_it mt df (t_rn mt df d) (mt x) 14 ([(0, q_args ar 0, [], hp, iv, 0, 0)], []) with
      | none => none
      | some z => match z with
        | ([], lf) => some lf
        | (_ :: _, _) => none) = some r := h
    show q_if (Nat.ble (q_wid ar) (mt x).2.1.1) (match q_it mt df (q_rn mt df sL d) sL (mt x) 14 ([(0, q_args ar 0, [], hp, iv, 0, 0)], []) with
      | none => none
      | some z => match z with
        | ([], lf) => some lf
        | (_ :: _, _) => none) = some r
    obtain ⟨h1, h⟩ := q_if_i h
    rw [h1]
    cases hs : t_it mt df (t_rn mt df d) (mt x) 14 ([(0, q_args ar 0, [], hp, iv, 0, 0)], []) with
    | none => rw [hs] at h; cases h
    | some z =>
      rw [hs] at h
      rw [t_it_up (sL := sL) ih 14 _ _ hs]
      exact h
end t_s
end -- [99g.start]
section -- [99h.weak]
/-! Part 99h: a state of the pure machine may be taken for one that says less. -/
noncomputable def q_veq (a b : q_V) : Bool := bif Nat.beq a.1 b.1 then q_ieq a.2 b.2 else false
theorem q_veq_i {a b : q_V} (h : q_veq a b = true) : a = b := by
  obtain ⟨h1, h2⟩ := q_and_i h
  exact Prod.ext (q_bq h1) (q_ieq_i h2)
/-- a known number for a script's int that is known to be it -/
noncomputable def q_vle (iv : q_I) (a b : q_V) : Bool := bif q_veq a b then true else bif (bif Nat.beq a.1 0 then Nat.beq b.1 6 else bif Nat.beq a.1 1 then Nat.beq b.1 7 else false) then (match q_nth iv b.2.toNat with
  | some p => bif q_ieq p.1 a.2 then q_ieq p.2 a.2 else false
  | none => false) else false
theorem q_vle_s {ρ : Nat → Int} {bs : Nat → Nat} {ws : va_W} {iv : q_I} {a b : q_V} {V : Value} (ho : q_ok ρ iv) (h : q_vle iv a b = true) (hv : q_rv ρ bs ws a V) : q_rv ρ bs ws b V := by
  rcases q_or_i h with h | h
  · rw [← q_veq_i h]; exact hv
  · cases c : (bif Nat.beq a.1 0 then Nat.beq b.1 6 else bif Nat.beq a.1 1 then Nat.beq b.1 7 else false) with
    | false => rw [c] at h; cases h
    | true =>
      rw [c] at h
      have h : (match q_nth iv b.2.toNat with
        | some p => bif q_ieq p.1 a.2 then q_ieq p.2 a.2 else false
        | none => false) = true := h
      cases hn : q_nth iv b.2.toNat with
      | none => rw [hn] at h; cases h
      | some p =>
        rw [hn] at h
        obtain ⟨g1, g2⟩ := q_and_i h
        have e1 := q_ieq_i g1
        have e2 := q_ieq_i g2
        obtain ⟨k1, k2⟩ := ho _ _ hn
        have e3 : ρ b.2.toNat = a.2 := by omega
        obtain ⟨t, z⟩ := a
        obtain ⟨u, y⟩ := b
        cases c0 : Nat.beq t 0 with
        | true =>
          have c : (bif Nat.beq t 0 then Nat.beq u 6 else bif Nat.beq t 1 then Nat.beq u 7 else false) = true := c
          rw [c0] at c
          have t0 : t = 0 := q_bq c0
          have u6 : u = 6 := q_bq c
          subst t0; subst u6
          show V = .int (Int32.ofInt (ρ y.toNat))
          rw [e3]; exact hv
        | false =>
          have c : (bif Nat.beq t 0 then Nat.beq u 6 else bif Nat.beq t 1 then Nat.beq u 7 else false) = true := c
          rw [c0] at c
          obtain ⟨c1, c2⟩ := q_and_i c
          have t1 : t = 1 := q_bq c1
          have u7 : u = 7 := q_bq c2
          subst t1; subst u7
          show V = .long (Int64.ofInt (ρ y.toNat))
          rw [e3]; exact hv
noncomputable def q_tle (iv : q_I) (d : Nat) : q_T q_V d → q_T q_V d → Bool :=
  Nat.rec (motive := fun d => q_T q_V d → q_T q_V d → Bool) (fun a b => q_vle iv a b) (fun _ ih t u => match t, u with
    | (a, b), (c, e) => bif ih a c then ih b e else false) d
theorem q_tle_s {ρ : Nat → Int} {bs : Nat → Nat} {ws : va_W} {iv : q_I} (ho : q_ok ρ iv) : ∀ (d : Nat) (t u : q_T q_V d), q_tle iv d t u = true → ∀ (j : Nat) (V : Value), q_rv ρ bs ws (q_get d t j) V → q_rv ρ bs ws (q_get d u j) V := by
  intro d
  induction d with
  | zero => intro t u h j V hv; exact q_vle_s ho h hv
  | succ d ih =>
    intro t u h j V hv
    have h : (bif q_tle iv d t.1 u.1 then q_tle iv d t.2 u.2 else false) = true := h
    obtain ⟨h1, h2⟩ := q_and_i h
    rw [q_get_s] at hv ⊢
    cases cc : Nat.beq (Nat.mod j 2) 1 with
    | true => rw [cc] at hv; exact ih t.2 u.2 h2 _ V hv
    | false => rw [cc] at hv; exact ih t.1 u.1 h1 _ V hv
/-- the first n places -/
noncomputable def q_nle (iv : q_I) (t u : q_T q_V 11) (n : Nat) : Bool := Nat.rec (motive := fun _ => Bool) true (fun k ih => bif ih then q_vle iv (q_get 11 t k) (q_get 11 u k) else false) n
theorem q_nle_s {ρ : Nat → Int} {bs : Nat → Nat} {ws : va_W} {iv : q_I} (ho : q_ok ρ iv) {t u : q_T q_V 11} : ∀ n : Nat, q_nle iv t u n = true → ∀ (j : Nat) (V : Value), j < n → q_rv ρ bs ws (q_get 11 t j) V → q_rv ρ bs ws (q_get 11 u j) V
  | 0, _, j, V, hj, _ => absurd hj (Nat.not_lt_zero j)
  | n + 1, h, j, V, hj, hv => by
    have h : (bif q_nle iv t u n then q_vle iv (q_get 11 t n) (q_get 11 u n) else false) = true := h
    obtain ⟨h1, h2⟩ := q_and_i h
    by_cases c : j = n
    · rw [c] at hv ⊢; exact q_vle_s ho h2 hv
    · exact q_nle_s ho n h1 j V (by omega) hv
noncomputable def q_lle (iv : q_I) : List q_V → List q_V → Bool := fun l => List.rec (motive := fun _ => List q_V → Bool) (fun m => match m with
  | [] => true
  | _ :: _ => false) (fun h _ ih m => match m with
  | [] => false
  | b :: r => bif q_vle iv h b then ih r else false) l
theorem q_lle_s {ρ : Nat → Int} {bs : Nat → Nat} {ws : va_W} {iv : q_I} (ho : q_ok ρ iv) : ∀ (l m : List q_V) (vs : List Value), q_lle iv l m = true → q_F2 (q_rv ρ bs ws) l vs → q_F2 (q_rv ρ bs ws) m vs
  | [], [], vs, _, hv => hv
  | [], _ :: _, vs, h, hv => by cases h
  | _ :: _, [], vs, h, hv => by cases h
  | a :: l, b :: m, vs, h, hv => by
    obtain ⟨V, r, rfl, g1, g2⟩ := q_F2_c hv
    have h : (bif q_vle iv a b then q_lle iv l m else false) = true := h
    obtain ⟨h1, h2⟩ := q_and_i h
    exact ⟨q_vle_s ho h1 g1, q_lle_s ho l m r h2 g2⟩
noncomputable def q_ole (iv : q_I) : q_L → q_L → Bool := fun l => List.rec (motive := fun _ => q_L → Bool) (fun m => match m with
  | [] => true
  | _ :: _ => false) (fun h _ ih m => match m with
  | [] => false
  | b :: r => bif Nat.beq h.1 b.1 then (bif q_vle iv h.2 b.2 then ih r else false) else false) l
theorem q_ole_s {ρ : Nat → Int} {bs : Nat → Nat} {ws : va_W} {iv : q_I} (ho : q_ok ρ iv) : ∀ (l m : q_L) (vs : List (Nat × Value)), q_ole iv l m = true → q_F2 (q_rl ρ bs ws) l vs → q_F2 (q_rl ρ bs ws) m vs
  | [], [], vs, _, hv => hv
  | [], _ :: _, vs, h, hv => by cases h
  | _ :: _, [], vs, h, hv => by cases h
  | a :: l, b :: m, vs, h, hv => by
    obtain ⟨V, r, rfl, g1, g2⟩ := q_F2_c hv
    have h : (bif Nat.beq a.1 b.1 then (bif q_vle iv a.2 b.2 then q_ole iv l m else false) else false) = true := h
    obtain ⟨h0, h⟩ := q_and_i h
    obtain ⟨h1, h2⟩ := q_and_i h
    exact ⟨⟨(q_bq h0).symm.trans g1.1, q_vle_s ho h1 g1.2⟩, q_ole_s ho l m r h2 g2⟩
noncomputable def q_cle (iv : q_I) (c e : q_Ce) : Bool := bif Nat.beq e.1 6 then true else bif Nat.beq c.1 e.1 then (bif Nat.beq c.2.1 e.2.1 then (bif q_lle iv c.2.2.1 e.2.2.1 then (bif Nat.beq c.1 0 then true else q_nle iv c.2.2.2 e.2.2.2 c.2.1) else false) else false) else false
theorem q_cle_s {ρ : Nat → Int} {bs : Nat → Nat} {ws : va_W} {tys : List (ClassId × FieldType)} {iv : q_I} {c e : q_Ce} {x : va_E} (ho : q_ok ρ iv) (h : q_cle iv c e = true) (hv : q_rc ρ bs ws tys c x) : q_rc ρ bs ws tys e x := by
  obtain ⟨k, n, fs, ar⟩ := c
  obtain ⟨k2, n2, fs2, ar2⟩ := e
  rcases q_or_i h with h | h
  · have e1 : k2 = 6 := q_bq h
    subst e1
    trivial
  · obtain ⟨h1, h⟩ := q_and_i h
    obtain ⟨h2, h⟩ := q_and_i h
    obtain ⟨h3, h⟩ := q_and_i h
    have e1 : k = k2 := q_bq h1
    have e2 : n = n2 := q_bq h2
    subst e1; subst e2
    match k, hv, h with
    | 0, hv, h =>
      obtain ⟨fs', g1, g2⟩ := hv
      exact ⟨fs', g1, q_lle_s ho _ _ _ h3 g2⟩
    | 1, hv, h =>
      obtain ⟨h0, cA, t, f, g1, g2, g3⟩ := hv
      exact ⟨h0, cA, t, f, g1, g2, fun j hj => q_nle_s ho _ h j _ hj (g3 j hj)⟩
    | 2, hv, h =>
      obtain ⟨h0, cA, t, f, g1, g2, g3⟩ := hv
      exact ⟨h0, cA, t, f, g1, g2, fun j hj => q_nle_s ho _ h j _ hj (g3 j hj)⟩
    | 3, hv, h =>
      obtain ⟨h0, cA, t, f, g1, g2, g3⟩ := hv
      exact ⟨h0, cA, t, f, g1, g2, fun j hj => q_nle_s ho _ h j _ hj (g3 j hj)⟩
    | 4, hv, h =>
      obtain ⟨h0, cA, t, f, g1, g2, g3⟩ := hv
      exact ⟨h0, cA, t, f, g1, g2, fun j hj => q_nle_s ho _ h j _ hj (g3 j hj)⟩
    | 5, hv, h =>
      obtain ⟨h0, cA, t, f, g1, g2, g3⟩ := hv
      exact ⟨h0, cA, t, f, g1, g2, fun j hj => q_nle_s ho _ h j _ hj (g3 j hj)⟩
    | 6, hv, h => trivial
    | k + 7, hv, h => exact absurd hv id
/-- the first n cells -/
noncomputable def q_hle (iv : q_I) (t u : q_T q_Ce 8) (n : Nat) : Bool := Nat.rec (motive := fun _ => Bool) true (fun k ih => bif ih then q_cle iv (q_get 8 t k) (q_get 8 u k) else false) n
theorem q_hle_s {iv : q_I} {t u : q_T q_Ce 8} : ∀ n : Nat, q_hle iv t u n = true → ∀ k, k < n → q_cle iv (q_get 8 t k) (q_get 8 u k) = true
  | 0, _, k, hk => absurd hk (Nat.not_lt_zero k)
  | n + 1, h, k, hk => by
    have h : (bif q_hle iv t u n then q_cle iv (q_get 8 t n) (q_get 8 u n) else false) = true := h
    obtain ⟨h1, h2⟩ := q_and_i h
    by_cases c : k = n
    · rw [c]; exact h2
    · exact q_hle_s n h1 k (by omega)
noncomputable def q_ile2 (iv : q_I) : q_I → Nat → Bool := fun jv => List.rec (motive := fun _ => Nat → Bool) (fun _ => true) (fun h _ ih n => bif (match q_nth iv n with
  | some p => bif q_ile h.1 p.1 then q_ile p.2 h.2 else false
  | none => false) then ih (Nat.succ n) else false) jv
theorem q_ile2_s {ρ : Nat → Int} {iv : q_I} (ho : q_ok ρ iv) : ∀ (jv : q_I) (n : Nat), q_ile2 iv jv n = true → ∀ i p, jv[i]? = some p → p.1 ≤ ρ (n + i) ∧ ρ (n + i) ≤ p.2
  | [], n, _, i, p, hp => by simp at hp
  | a :: jv, n, h, i, p, hp => by
    have h : (bif (match q_nth iv n with
      | some p => bif q_ile a.1 p.1 then q_ile p.2 a.2 else false
      | none => false) then q_ile2 iv jv (Nat.succ n) else false) = true := h
    obtain ⟨h1, h2⟩ := q_and_i h
    cases i with
    | zero =>
      cases hp
      cases hn : q_nth iv n with
      | none => rw [hn] at h1; cases h1
      | some q =>
        rw [hn] at h1
        obtain ⟨g1, g2⟩ := q_and_i h1
        have k1 := q_ile_i g1
        have k2 := q_ile_i g2
        obtain ⟨k3, k4⟩ := ho _ _ hn
        exact ⟨by show a.1 ≤ ρ n; omega, by show ρ n ≤ a.2; omega⟩
    | succ i =>
      have := q_ile2_s ho jv (n + 1) h2 i p hp
      rw [show n + (i + 1) = n + 1 + i by omega]
      exact this
/-- the state c says all that e says -/
noncomputable def q_Cle (c e : q_C) : Bool := bif Nat.beq c.1 e.1 then (bif q_ole c.2.2.2.2.1 c.2.1 e.2.1 then (bif q_lle c.2.2.2.2.1 c.2.2.1 e.2.2.1 then (bif Nat.beq c.2.2.2.1.1 e.2.2.2.1.1 then (bif q_hle c.2.2.2.2.1 c.2.2.2.1.2 e.2.2.2.1.2 c.2.2.2.1.1 then (bif q_ile2 c.2.2.2.2.1 e.2.2.2.2.1 0 then (bif Nat.beq c.2.2.2.2.2.1 e.2.2.2.2.2.1 then Nat.beq c.2.2.2.2.2.2 e.2.2.2.2.2.2 else false) else false) else false) else false) else false) else false) else false
theorem q_Cle_s {w : Heap → List Loc → Nat → Nat → Nat → Array Slot → List Value → Prop} {cl9 : List vw_C} {nL : Nat} {ρ : Nat → Int} {bs : Nat → Nat} {base : Nat} {D : va_G} {ws0 : va_W} {s : State} {c e : q_C} (h : q_Cle c e = true) (hG : q_G w cl9 nL ρ bs base D ws0 s e) : q_G w cl9 nL ρ bs base D ws0 s c := by
  obtain ⟨pc, lo, st, hp, iv, cl, sl⟩ := c
  obtain ⟨pc2, lo2, st2, hp2, iv2, cl2, sl2⟩ := e
  obtain ⟨h1, h⟩ := q_and_i h
  obtain ⟨h2, h⟩ := q_and_i h
  obtain ⟨h3, h⟩ := q_and_i h
  obtain ⟨h4, h⟩ := q_and_i h
  obtain ⟨h5, h⟩ := q_and_i h
  obtain ⟨h6, h⟩ := q_and_i h
  obtain ⟨h7, h8⟩ := q_and_i h
  have e1 : pc = pc2 := q_bq h1
  have e4 : hp.1 = hp2.1 := q_bq h4
  have e7 : cl = cl2 := q_bq h7
  have e8 : sl = sl2 := q_bq h8
  subst e1; subst e7; subst e8
  intro ho ws tys H locs ls lv sR hK hP hD hS hW hE hL hF hl
  have ho : q_ok ρ iv := ho
  have ho2 : q_ok ρ iv2 := fun i p hp9 => by
    have := q_ile2_s ho iv2 0 h6 i p (by rw [← q_nth_g]; exact hp9)
    rw [Nat.zero_add] at this
    exact this
  obtain ⟨w1, w2, w3⟩ := hW
  have w1 : ws.length = hp.1 := w1
  refine hG ho2 ws tys H locs ls lv sR hK hP hD hS ⟨by show ws.length = hp2.1; rw [w1, e4], by show hp2.1 ≤ 256; rw [← e4]; exact w2, fun k q hq => ?_⟩ hE (q_ole_s ho _ _ _ h2 hL) (q_lle_s ho _ _ _ h3 hF) hl
  have hk : k < hp.1 := by
    have := (List.getElem?_eq_some_iff.mp hq).1
    omega
  exact q_cle_s ho (q_hle_s _ h5 k hk) (w3 k q hq)
end -- [99h.weak]
section -- [99i.first]
/-! Part 99i: the heap behind the two constructors. -/
def y_ax (j : Nat) : Int := match j with
  | 0 => 200
  | 2 => 1000
  | 3 => 100
  | 4 => 5
  | 5 => 2
  | 8 => 1
  | 10 => 1
  | _ => 0
def y_t (r j : Nat) : Int := match r with
  | 0 => if j = 4 then 100 else 0
  | 1 => y_ax j
  | 3 => y_ax j
  | 5 => y_ax j
  | _ => 0
def y_N (k : Nat) : Int := match k % 6 with
  | 0 => 200
  | 1 => 0
  | 2 => 1000
  | 3 => 100
  | 4 => 5
  | _ => 2
def y_w0 : Nat → Int := m_new 100 0 0 y_N (fun _ => 0)
def y_h0 : q_F := fun k j => if k = 140 then y_w0 j else if 6 ≤ k ∧ k < 33 then y_t ((k - 6) % 9) j else if 35 ≤ k ∧ k < 125 then y_t ((k - 35) % 9) j else if k = 3 ∧ j = 5 then -1 else if k = 139 ∧ j = 16 then -1 else 0
noncomputable def y_hE : q_H := (0, q_mk (0, 0, [], q_zT) 8)
noncomputable def y_run : Option (List q_C × List q_Lf) := t_it q_mt q_df (t_rn q_mt q_df 8) (q_mt 369) 4 ([(0, q_args [(9, 0)] 0, [], y_hE, [], 0, 0)], [])
noncomputable def y_l28 : q_L := [(5, (0, ((0 : Nat) : Int))), (4, (2, Int.ofNat 154)), (3, (2, Int.ofNat 153)), (2, (2, Int.ofNat 139)), (1, (2, Int.ofNat 0)), (0, (9, 0))]
noncomputable def y_chk (o : Option (List q_C × List q_Lf)) : Bool := match o with
  | none => false
  | some z => match z.1 with
    | [] => false
    | c :: r => match r with
      | [] => (match z.2 with
        | [] => q_an (q_Cle c (28, y_l28, [], q_hp q_K 155 y_h0, [], c.2.2.2.2.2.1, c.2.2.2.2.2.2)) (q_an (Nat.ble c.2.2.2.2.2.1 700) (Nat.ble c.2.2.2.2.2.2 20000))
        | _ :: _ => false)
      | _ :: _ => false
theorem y_chk0 : y_chk y_run = true := by decide +kernel
end -- [99i.first]
section -- [99j.hold]
/-! Part 99j: what holds between two calls holds of the first heap. -/
theorem y_N_b (k : Nat) : 0 ≤ y_N k ∧ y_N k ≤ 1000 := by unfold y_N; split <;> omega
theorem y_w0_b (j : Nat) : 0 ≤ y_w0 j ∧ y_w0 j ≤ 1000 := by
  unfold y_w0 m_new
  have h := y_N_b (6 * ((j - 8) % 3) + (j - 8) / 3)
  repeat' split
  all_goals first | omega | exact h | (show (0 : Int) ≤ 0 ∧ (0 : Int) ≤ 1000; omega)
theorem y_ax_b (j : Nat) : 0 ≤ y_ax j ∧ y_ax j ≤ 1000 := by unfold y_ax; split <;> omega
theorem y_t_b (r j : Nat) : 0 ≤ y_t r j ∧ y_t r j ≤ 1000 := by
  have h := y_ax_b j
  unfold y_t
  repeat' split
  all_goals first | omega | exact h
theorem y_h0_b (k j : Nat) : -1 ≤ y_h0 k j ∧ y_h0 k j ≤ 1000 := by
  have h1 := y_w0_b j
  have h2 := y_t_b ((k - 6) % 9) j
  have h3 := y_t_b ((k - 35) % 9) j
  unfold y_h0
  repeat' split
  all_goals omega
theorem y_k_A : ∀ k, k < 155 → (q_K k).1 = 2 → k = 2 ∨ k = 138 := by decide +kernel
theorem y_k_B : ∀ k, k < 155 → ((q_K k).1 = 0 → (q_K k).2.2.all (fun d => Nat.ble d.1 2) = true) := by decide +kernel
theorem y_k_C : ∀ k, k < 155 → ∀ j, j < 12 → q_zf (q_K k) j = true → y_h0 k j = 0 ∨ y_h0 k j = 1 := by decide +kernel
theorem y_zf {L : q_Ly} {j : Nat} (h : q_zf L j = true) : L.1 = 0 ∧ j < 12 := by
  unfold q_zf at h
  obtain ⟨h1, h⟩ := q_and_i h
  refine ⟨q_bq h1, ?_⟩
  have key : ∀ m, m < 12 → Nat.beq j m = true → j < 12 := fun m hm h => by rw [q_bq h]; exact hm
  cases c1 : Nat.beq L.2.1 1 with
  | true =>
    rw [c1] at h
    rcases q_or_i h with h | h
    · exact key 10 (by omega) h
    · exact key 11 (by omega) h
  | false =>
    rw [c1] at h
    cases c2 : Nat.beq L.2.1 6 with
    | true =>
      rw [c2] at h
      rcases q_or_i h with h | h
      · exact key 5 (by omega) h
      · exact key 6 (by omega) h
    | false =>
      rw [c2] at h
      cases c3 : Nat.beq L.2.1 8 with
      | true => rw [c3] at h; exact key 9 (by omega) h
      | false =>
        rw [c3] at h
        obtain ⟨-, h⟩ := q_and_i h
        exact key 6 (by omega) h
theorem y_Al : q_Al 0 155 y_h0 := by
  intro k j _ hk
  have hb := y_h0_b k j
  have e : ∀ ty, q_tyL (q_K k) j = ty → q_in ty (y_h0 k j) := by
    intro ty hty
    unfold q_tyL at hty
    have z2 := y_k_A k hk
    have z0 := y_k_B k hk
    have zc := y_k_C k hk
    split at hty
    · rename_i e0
      cases cz : q_zf (q_K k) j with
      | true =>
        rw [cz] at hty
        have hty : 3 = ty := hty
        subst hty
        exact zc j (y_zf cz).2 cz
      | false =>
        rw [cz] at hty
        have hty : (match (q_K k).2.2[j]? with | some d => d.1 | none => 9) = ty := hty
        cases cd : (q_K k).2.2[j]? with
        | none => rw [cd] at hty; subst hty; trivial
        | some d =>
          rw [cd] at hty
          have hty : d.1 = ty := hty
          have h2 := Nat.le_of_ble_eq_true (List.all_eq_true.mp (z0 e0) d (List.mem_of_getElem? cd))
          subst hty
          obtain ⟨d1, d2⟩ := d
          have h2 : d1 ≤ 2 := h2
          show q_in d1 _
          match d1, h2 with
          | 0, _ => exact ⟨by omega, by omega⟩
          | 1, _ => exact ⟨by omega, by omega⟩
          | 2, _ => trivial
    · subst hty; exact ⟨by omega, by omega⟩
    · rename_i e2
      subst hty
      have e9 : y_h0 k j = 0 := by
        rcases z2 e2 with rfl | rfl
        · unfold y_h0; rw [if_neg (by omega), if_neg (by omega), if_neg (by omega), if_neg (by omega), if_neg (by omega)]
        · unfold y_h0; rw [if_neg (by omega), if_neg (by omega), if_neg (by omega), if_neg (by omega), if_neg (by omega)]
      rw [e9]; exact ⟨by omega, by omega⟩
    · subst hty; exact ⟨by omega, by omega⟩
    · subst hty; trivial
  exact e _ rfl
theorem y_nr : ∀ a, a < 3 → ∀ i, i < 6 → m_nr i (y_N (6 * a + i)) := by
  intro a _ i hi
  have e : (6 * a + i) % 6 = i := by omega
  unfold y_N
  rw [e]
  match i, hi with
  | 0, _ => exact ⟨fun _ => by decide, fun h => absurd h (by decide), fun h => absurd h (by decide), fun h => absurd h (by decide), fun h => absurd h (by decide), fun h => absurd h (by decide)⟩
  | 1, _ => exact ⟨fun h => absurd h (by decide), fun _ => by decide, fun h => absurd h (by decide), fun h => absurd h (by decide), fun h => absurd h (by decide), fun h => absurd h (by decide)⟩
  | 2, _ => exact ⟨fun h => absurd h (by decide), fun h => absurd h (by decide), fun _ => by decide, fun h => absurd h (by decide), fun h => absurd h (by decide), fun h => absurd h (by decide)⟩
  | 3, _ => exact ⟨fun h => absurd h (by decide), fun h => absurd h (by decide), fun h => absurd h (by decide), fun _ => by decide, fun h => absurd h (by decide), fun h => absurd h (by decide)⟩
  | 4, _ => exact ⟨fun h => absurd h (by decide), fun h => absurd h (by decide), fun h => absurd h (by decide), fun h => absurd h (by decide), fun _ => by decide, fun h => absurd h (by decide)⟩
  | 5, _ => exact ⟨fun h => absurd h (by decide), fun h => absurd h (by decide), fun h => absurd h (by decide), fun h => absurd h (by decide), fun h => absurd h (by decide), fun _ => by decide⟩
def y_S0 : m_St := m_mkS y_w0 0 (fun _ _ => 0) 0 (fun _ => 0)
theorem y_mI : m_I y_S0 := by
  refine ⟨m_RI_new (st := 100) (cp := 0) (dt := 0) (N := y_N) (B := fun _ => 0) (by omega) (Or.inl rfl) (Or.inl rfl) y_nr (fun a ha => ⟨Int.le_refl 0, ?_⟩), ⟨Nat.zero_le _, fun k hk => absurd hk (Nat.not_lt_zero k)⟩, Or.inl rfl, fun h9 => absurd rfl h9⟩
  exact (y_N_b (6 * a)).1
theorem y_tb1 : ∀ a, a < 3 → (∀ j, j < 14 → y_h0 (6 + 1 + 2 * a) j = y_w0 (c_f j + a)) ∧ ∀ j, j < 7 → y_h0 (6 + 1 + 2 * a + 1) j = q_w32 (y_w0 (c_g j + a)) := by decide +kernel
theorem y_cI : c_I y_h0 y_S0 := by
  refine ⟨⟨y_tb1, ?_, ?_, ?_⟩, ⟨rfl, by decide, by decide, fun k hk => absurd hk (Nat.not_lt_zero k)⟩, rfl, fun h9 => absurd rfl h9⟩
  · exact ⟨by decide +kernel, by decide +kernel, by decide +kernel, by decide +kernel, by decide +kernel, by decide +kernel, by decide +kernel⟩
  · decide +kernel
  · decide +kernel
theorem y_rI : r_I y_h0 y_S0 := ⟨by funext j; unfold y_h0; rw [if_pos rfl]; rfl, ⟨rfl, fun k hk => absurd hk (Nat.not_lt_zero k)⟩, rfl, fun h9 => absurd rfl h9⟩
theorem y_J0 : t_J y_h0 := ⟨y_S0, ⟨y_mI, y_cI⟩, ⟨y_mI, y_rI⟩, s_text0 (by decide) (by decide), ⟨by decide, by decide⟩, by decide, by decide⟩
theorem y_E0 : y_h0 1 1 = y_h0 139 14 := by decide
end -- [99j.hold]
section -- [99k.head]
/-! THE CLAIM OUT OF ONE WALK OF THE LAW'S BODY. Your part is whole_start (and what it stands on); all else here is the same for every law, but numbers. -/
def R_law : String := "StepperTableLaw"
def lw_P (b : Addr) (xs : List Int32) (args : Array Value) (s : State) : Prop := args = #[.ref b] ∧ s.IntsAt b xs ∧ xs.length ≤ 3072 ∧ (Jvm.Cond.and given_1 narrow_1).before args s = true
/-- what a walk over the start with the record d0 says of its end, said of the start itself -/
theorem lw_closed {s t : State} {o : Outcome} {d0 : Drawn} {L : List Loc} {k n : Nat} (hd0 : s.drawn.sameBut d0 lw_cs) (hv : ∃ v, o = .returned v) (hW : (s.setDrawn d0).WarmedH t.vm) (hs : (s.setDrawn d0).sameButNew ({ t with vm := s.vm } : State) L k n) : State.butDraws s t lw_cs (fun t1 => Framed s o t1 L k n) := by
  have h2 : t.drawn = d0 := congrArg State.drawn hs.1
  refine ⟨⟨hv, hW, State.sameButNew.setDrawn hs s.drawn⟩, ?_, by decide⟩
  rw [h2]
  exact hd0
def lw_Q (_ : Array Value) (s : State) (o : Outcome) (t : State) : Prop := o = .returned (some (.int 1)) ∧ State.butDraws s t lw_cs (fun t1 => Framed s o t1 [] 601024 7293034)
def lw_Z (below : List Frame) (a : Array Value) (s : State) : State → Prop := fun t => ∃ o, t.status = .running ∧ Ended t below o ∧ lw_Q a s o t
/-- the law's own end, with 1 on the stack, nothing written that was there before, its room as the claim has it; d0: the record of draws at this point (at the entry s.drawn: begin with 'refine W.base ?_' and 'have hd0 := Drawn.sameBut.refl s.drawn lw_cs') -/
theorem lw_ret {p : Program} {l : Launch} {e : Env} {s : State} {m : MethodId} {below : List Frame} {meth : Method} {c : Code} {b : Nat} {d0 : Drawn} (hd0 : s.drawn.sameBut d0 lw_cs) (hx : p.tables.exec = Jvm.exec) (hb : c.code = code) (hr : meth.sig.returnType = ret) (hlocks : meth.locks = false) {pc : Nat} {H : Heap} {ls : Array Slot} (hdg : decode code pc = .ok (.ireturn, 1)) : W p l e room_1 (s.setDrawn d0) m #[Value.ref b] below meth c H [] 601024 7293034 (lw_Z below #[Value.ref b] s) (F0 m pc ls [.int 1]) := by
  intro T hT X
  obtain ⟨fs, hret, hrun, hended, hW, hframe⟩ := X.leave (v := some (.int 1)) (hlocks := hlocks) (fun h => by rw [hr] at h; cases h)
  have hmeth' : T.vm.method? m = some meth := X.method'
  refine ⟨T.setFrames fs, ?_, .returned (some (.int 1)), hrun, hended, rfl, lw_closed hd0 ⟨_, rfl⟩ hW hframe⟩
  jvm_step X.here [X.here.top, hx, hb, hdg, hmeth', hr, ret, narrow_b1]
  (try refine ⟨rfl, ?_⟩); (try refine ⟨rfl, ?_⟩)
  first | (intro acts; rw [hret _ acts rfl rfl rfl]) | rw [hret _ _ rfl rfl rfl]
  exact Steps.refl _
/-- what holds at the law's entry: the machine, the code, the tables' words (any of lw_tbl by 'hts w (by decide +kernel)'), the script of L ints xs at the cell b, what the Statement gives of the start (any of its parts by flat_of_before) -/
def lw_At (p : Program) (s : State) (m : MethodId) (meth : Method) (c : Code) (b L : Nat) (xs : Nat → Int32) : Prop :=
  p.tables.exec = Jvm.exec ∧ c.code = code ∧ meth.sig.returnType = ret ∧ c.maxLocals = 10 ∧ s.vm.findClass R_law = some m.cls ∧ (∀ w ∈ lw_tbl, w.before #[Value.ref b] s = true) ∧ va_X b L xs s s.heap ∧ b < s.heap.size ∧ meth.locks = false ∧ (Jvm.Cond.and given_1 narrow_1).before #[Value.ref b] s = true
end -- [99k.head]
section -- [99l.given]
/-! Part 99l: the law's start: what the Statement gives of it. -/
def q_tx : List (Nat × String) := [(127, "what is out of range"), (176, "steps is out of range"), (205, "the queue is empty"), (211, "moves is out of range"), (213, "the queue holds fewer moves"), (226, "how is out of range"), (231, "start is out of range"), (233, "move is out of range"), (253, "the move has no such step"), (292, "there is no such place"), (322, "time is negative"), (406, "no state is saved"), (411, "there is no such axis"), (414, "there is no such move"), (419, "the axis is not homed"), (421, "an axis is not homed"), (423, "there is an alarm"), (425, "the queue is not empty"), (431, "a coordinate is out of range"), (433, "the queue is full"), (435, "a move would lead nowhere")]
theorem q_tx_l : (q_SL.all fun q => q_tx.any fun t => Nat.beq q.2 t.1 && Nat.beq q.1 8) = true := by decide +kernel
theorem q_tx_w : ∀ t ∈ q_tx, Cond.stringRef (q_on 8) t.1 t.2 ∈ lw_tbl := by decide +kernel
theorem q_tx_e : ∀ t ∈ q_tx, Cond.exactly (.string (q_on 8) t.1) "java/lang/String" ∈ flatC (Jvm.Cond.and given_1 narrow_1) := by decide +kernel
theorem q_BL_in : ∀ w ∈ q_BL, w ∈ lw_tbl := by decide +kernel
theorem q_nc_in : ∀ a, a < 4 → ∀ b, b < 4 → a ≠ b → Cond.not (.castable (q_ex a) (q_ex b)) ∈ flatC (Jvm.Cond.and given_1 narrow_1) := by decide +kernel
/-- the class's and the reference's words for the seven texts -/
def y_sk (i : Nat) : Nat := [121, 123, 125, 127, 129, 130, 132].getD i 0
def y_sm (i : Nat) : Nat := [234, 243, 245, 247, 252, 254, 256].getD i 0
def y_tm (i : Nat) : Term := .string q_su (y_sk i)
def y_tv (i : Nat) : Term := .field (y_tm i) "java/lang/String" "value" "[B"
theorem y_s1 : ∀ i, i < 7 → Cond.exactly (y_tm i) "java/lang/String" ∈ flatC (Jvm.Cond.and given_1 narrow_1) := by decide +kernel
theorem y_s2 : ∀ i, i < 7 → Cond.eq (.field (y_tm i) "java/lang/String" "coder" "B") (.int 0) ∈ flatC (Jvm.Cond.and given_1 narrow_1) := by decide +kernel
theorem y_s3 : ∀ i, i < 7 → Cond.arrayOf (y_tv i) .byte ∈ flatC (Jvm.Cond.and given_1 narrow_1) := by decide +kernel
theorem y_s4 : ∀ i, i < 7 → Cond.eq (.length (y_tv i)) (.int (Int32.ofNat (q_sL.getD i 0))) ∈ flatC (Jvm.Cond.and given_1 narrow_1) := by decide +kernel
theorem y_s5 : ∀ i, i < 7 → ∀ j, j < q_sL.getD i 0 → Cond.eq (.elem (y_tv i) (.int (Int32.ofNat j))) (.int ((q_sB.getD i []).getD j 0)) ∈ flatC (Jvm.Cond.and given_1 narrow_1) := by decide +kernel
theorem y_s6 : ∀ i, i < 7 → Cond.eq (y_tm i) (.string (q_on 9) (y_sm i)) ∈ flatC (Jvm.Cond.and given_1 narrow_1) := by decide +kernel
theorem y_s7 : ∀ i, i < 7 → Cond.stringRef q_su (y_sk i) (q_st9 i) ∈ lw_tbl := by decide +kernel
theorem y_s8 : ∀ i, i < 7 → Cond.stringRef (q_on 9) (y_sm i) (q_st9 i) ∈ lw_tbl := by decide +kernel
theorem y_sd : ∀ i, i < 7 → ∀ j, j < 7 → (q_sB.getD i []).getD 0 0 = (q_sB.getD j []).getD 0 0 → i = j := by decide +kernel
theorem y_sl : ∀ i, i < 7 → 0 < q_sL.getD i 0 ∧ q_sL.getD i 0 < 2 ^ 31 := by decide +kernel
theorem y_WL : ∀ q ∈ q_WL, (q.1 = 5 ∧ q.2.2 < 7 ∧ q.2.1 = y_sk q.2.2) ∨ (q.1 = 9 ∧ q.2.2 < 7 ∧ q.2.1 = y_sm q.2.2) := by decide +kernel
/-- the seven texts -/
theorem y_vkS {args : Array Value} {s : State} {A : Nat → Prop} (hf : ∀ w ∈ flatC (Jvm.Cond.and given_1 narrow_1), w.before args s = true) (hA : ∀ a : Nat, a < s.heap.size → ¬ A a) : ∃ adK adV : Nat → Nat, vk_S 7 q_sL q_sB adK adV A s s.heap ∧ ∀ i : Nat, i < 7 → (y_tm i).eval args s none [] s = some (.ref (adK i)) := by
  have h0 : ∀ i : Nat, ∃ q : Nat × Nat, i < 7 → (y_tm i).eval args s none [] s = some (.ref q.1) ∧ va_O "java/lang/String" q.1 A s s.heap ∧ va_OF "java/lang/String" "coder" "B" (.int 0) q.1 A s s.heap ∧ va_OF "java/lang/String" "value" "[B" (.ref q.2) q.1 A s s.heap ∧ va_T .byte q.2 (q_sL.getD i 0) (fun j => .int ((q_sB.getD i []).getD j 0)) A s s.heap := by
    intro i
    by_cases hi : i < 7
    · obtain ⟨a, c, cA, kA, q1, q2, q3, q4, q5, q6, -⟩ := Cond.exactly_spec (args := args) (first := s) (o := none) (s := s) (idx := []) (t := y_tm i) (cls := "java/lang/String") (hf _ (y_s1 i hi))
      obtain ⟨t, ht, hT⟩ := va_Tof (f := fun j => .int ((q_sB.getD i []).getD j 0)) (A := A) (y_sl i hi).2 (hf _ (y_s3 i hi)) (va_eqt (hf _ (y_s4 i hi))) (fun j hj => va_eqt (hf _ (y_s5 i hi j hj))) hA
      exact ⟨(a, t), fun _ => ⟨q1, ⟨cA, q3, q5, by rw [q6]; exact q2, hA a (Array.getElem?_eq_some_iff.mp q3).1⟩, vk_OFof q1 (va_eqt (hf _ (y_s2 i hi))) hA, vk_OFof q1 ht hA, hT⟩⟩
    · exact ⟨(0, 0), fun h => absurd h hi⟩
  obtain ⟨ad, had⟩ := Classical.axiomOfChoice h0
  refine ⟨fun i => (ad i).1, fun i => (ad i).2, ⟨fun i hi => (had i hi).2, fun i j hi hj e => ?_⟩, fun i hi => (had i hi).1⟩
  have e : (ad i).1 = (ad j).1 := e
  obtain ⟨-, -, -, ⟨c1, k1, i1, f1, cell1, a1, a2, a3, a4, a5, -⟩, ⟨d1, b1, -, -, -, -, b6, -⟩⟩ := had i hi
  obtain ⟨-, -, -, ⟨c2, k2, i2, f2, cell2, a1', a2', a3', a4', a5', -⟩, ⟨d2, b1', -, -, -, -, b6', -⟩⟩ := had j hj
  rw [← e] at a3'
  cases a3.symm.trans a3'
  cases a1.symm.trans a1'
  have e2 : (ad i).2 = (ad j).2 := by
    have := a5.symm.trans a5'
    exact Value.ref.inj (Option.some.inj this)
  rw [← e2] at b1'
  cases b1.symm.trans b1'
  have g1 := b6 0 (y_sl i hi).1
  have g2 := b6' 0 (y_sl j hj).1
  exact y_sd i hi j hj (Value.int.inj (Option.some.inj (g1.symm.trans g2)))
/-- a static array of ints, its length exact -/
theorem y_X {args : Array Value} {s : State} {tm : Term} {N : Nat} {f : Nat → Int32} (hN : N < 2 ^ 31) (harr : (Cond.arrayOf tm .int).before args s = true) (hlen : (Cond.eq (.length tm) (.int (Int32.ofNat N))).before args s = true) (hel : ∀ j : Nat, j < N → (Cond.eq (.elem tm (.int (Int32.ofNat j))) (.int (f j))).before args s = true) : ∃ t : Nat, tm.eval args s none [] s = some (.ref t) ∧ va_X t N f s s.heap ∧ t < s.heap.size := by
  have hv := va_eqt hlen
  obtain ⟨t0, ht0, hT⟩ := va_Tof (f := fun j => .int (f j)) (A := fun a => s.heap.size ≤ a) hN harr hv (fun j hj => va_eqt (hel j hj)) (fun a h h2 => absurd h (Nat.not_lt.mpr h2))
  obtain ⟨t, cell, ht, hat, -⟩ := Term.length_spec hv
  cases ht0.symm.trans ht
  obtain ⟨cell2, c1, c2, c3, c4, c5, c6, -⟩ := hT
  obtain ⟨hcell, -, -, -⟩ := State.arrayAt?_spec hat
  cases c1.symm.trans hcell
  have hsz : cell.slots.size < 2 ^ 31 := by
    simp only [Term.eval, ht, hat, Option.bind_eq_bind, Option.bind_some] at hv
    by_cases hlt : cell.slots.size < 2147483648
    · exact hlt
    · simp [hlt] at hv
  have e : cell.slots.size = N := by
    have h1 : (Int32.ofNat cell.slots.size).toInt = (Int32.ofNat N).toInt := congrArg Int32.toInt c5
    rw [Int32.toInt_ofNat_small hsz, Int32.toInt_ofNat_small hN] at h1
    omega
  exact ⟨t0, ht0, ⟨cell, c1, c2, c3, e, c6⟩, (Array.getElem?_eq_some_iff.mp c1).1⟩
def y_st (n : Nat) : Term := .static q_su (q_sf n) "[I"
theorem y_a1 : ∀ n, n < 3 → 1 ≤ n → Cond.arrayOf (y_st n) .int ∈ flatC (Jvm.Cond.and given_1 narrow_1) := by decide +kernel
theorem y_a2 : ∀ n, n < 3 → 1 ≤ n → Cond.eq (.length (y_st n)) (.int (Int32.ofNat 6)) ∈ flatC (Jvm.Cond.and given_1 narrow_1) := by decide +kernel
theorem y_a3 : ∀ n, n < 3 → 1 ≤ n → ∀ j, j < 6 → Cond.eq (.elem (y_st n) (.int (Int32.ofNat j))) (.int (Int32.ofInt (q_lg n j))) ∈ flatC (Jvm.Cond.and given_1 narrow_1) := by decide +kernel
theorem y_a4 : ∀ n, n < 3 → 1 ≤ n → Cond.laysStatic q_su (q_sf n) "[I" ∈ lw_tbl := by decide +kernel
theorem y_a5 : Cond.initialized q_su ∈ lw_tbl := by decide +kernel
theorem y_kx_s {s : State} {b L : Nat} {xs : Nat → Int32} (hts : ∀ w ∈ lw_tbl, w.before #[Value.ref b] s = true) (hX : va_X b L xs s s.heap) (hbl : b < s.heap.size) (hgv : (Jvm.Cond.and given_1 narrow_1).before #[Value.ref b] s = true) : ∃ bs : Nat → Nat, bs 0 = b ∧ q_KX s.heap.size bs L xs s := by
  have hf := flat_of_before _ hgv
  have hini : (Cond.initialized Bundle.tN).before #[Value.ref b] s = true := hts _ (by decide +kernel)
  have hA : ∀ a : Nat, a < s.heap.size → ¬ q_A s.heap.size a := fun a h h2 => absurd h (Nat.not_lt.mpr h2)
  obtain ⟨adK, adV, hS, hSe⟩ := y_vkS hf hA
  obtain ⟨t1, ht1, hX1, hl1⟩ := y_X (f := fun j => Int32.ofInt (q_lg 1 j)) (by decide) (hf _ (y_a1 1 (by omega) (by omega))) (hf _ (y_a2 1 (by omega) (by omega))) (fun j hj => hf _ (y_a3 1 (by omega) (by omega) j hj))
  obtain ⟨t2, ht2, hX2, hl2⟩ := y_X (f := fun j => Int32.ofInt (q_lg 2 j)) (by decide) (hf _ (y_a1 2 (by omega) (by omega))) (hf _ (y_a2 2 (by omega) (by omega))) (fun j hj => hf _ (y_a3 2 (by omega) (by omega) j hj))
  obtain ⟨vf, hvc, hvf⟩ : ∃ v9 : Value, v9.category = 1 ∧ va_Z "jdk/internal/util/Preconditions" "SIOOBE_FORMATTER" "Ljava/util/function/BiFunction;" v9 (q_A s.heap.size) s s.heap := by
    rcases va_Zqof (C := "jdk/internal/util/Preconditions") (n := "SIOOBE_FORMATTER") (d := "Ljava/util/function/BiFunction;") (hts _ (by decide +kernel)) (hts _ (by decide +kernel)) (hf _ (by decide +kernel)) hA with h | ⟨t, h⟩
    · exact ⟨_, rfl, h⟩
    · exact ⟨_, rfl, h⟩
  refine ⟨fun n => if n = 0 then b else if n = 1 then t1 else if n = 2 then t2 else adK (n - 3), rfl, fun w hw => va_Nw.of (q_bk_t (List.all_eq_true.mp q_BL_k w hw)) (hts w (q_BL_in w hw)), fun q hq => ?_, fun a c ha hc hac => va_Nc.of (hf _ (q_nc_in a ha c hc hac)), va_AO.of (hts _ (by decide +kernel)),
    vx_Zqof (hts _ (by decide +kernel)) hini (hf _ (by decide +kernel)) hA, vx_Zqof (hts _ (by decide +kernel)) hini (hf _ (by decide +kernel)) hA, fun n hn => ?_, fun n hn h1n => ?_, ⟨adV, ?_⟩, fun q hq => ?_, va_Zof (hts _ (by decide +kernel)) (hts _ (by decide +kernel)) (va_eqi (hf _ (by decide +kernel))) hA, ⟨vf, hvc, hvf⟩, va_Zof (hts _ (by decide +kernel)) (hts _ (by decide +kernel)) (va_eql (hf _ (by decide +kernel))) hA, fun n hn => ?_, Nat.le_refl _⟩
  · obtain ⟨t, ht, h⟩ := List.any_eq_true.mp (List.all_eq_true.mp q_tx_l q hq)
    obtain ⟨h1, h2⟩ := (Bool.and_eq_true _ _).mp h
    obtain ⟨cn, is⟩ := q
    have e1 : is = t.1 := q_bq h1
    have e2 : cn = 8 := q_bq h2
    subst e1; subst e2
    obtain ⟨a, c, ce, k, g1, -⟩ := Cond.exactly_spec (hf _ (q_tx_e t ht))
    exact ⟨t.2, a, vk_R.of (hts _ (q_tx_w t ht)) g1⟩
  · match n, hn with
    | 0, _ => exact hX
    | 1, _ => exact hX1
    | 2, _ => exact hX2
  · match n, hn, h1n with
    | 1, _, _ => exact va_Zref (hts _ (y_a4 1 (by omega) (by omega))) (hts _ y_a5) ht1 hA
    | 2, _, _ => exact va_Zref (hts _ (y_a4 2 (by omega) (by omega))) (hts _ y_a5) ht2 hA
  · have e : (fun i => (fun n => if n = 0 then b else if n = 1 then t1 else if n = 2 then t2 else adK (n - 3)) (3 + i)) = adK := by
      funext i
      show (if 3 + i = 0 then b else if 3 + i = 1 then t1 else if 3 + i = 2 then t2 else adK (3 + i - 3)) = adK i
      rw [if_neg (by omega), if_neg (by omega), if_neg (by omega)]
      congr 1; omega
    rw [e]; exact hS
  · show vk_R (q_on q.1) q.2.1 (q_st9 q.2.2) (if 3 + q.2.2 = 0 then b else if 3 + q.2.2 = 1 then t1 else if 3 + q.2.2 = 2 then t2 else adK (3 + q.2.2 - 3)) s
    rw [if_neg (by omega), if_neg (by omega), if_neg (by omega), show 3 + q.2.2 - 3 = q.2.2 by omega]
    obtain ⟨q1, q2, q3⟩ := q
    rcases y_WL _ hq with ⟨e1, e2, e3⟩ | ⟨e1, e2, e3⟩
    · have f1 : q1 = 5 := e1
      have f2 : q3 < 7 := e2
      have f3 : q2 = y_sk q3 := e3
      clear e1 e2 e3 hq
      subst f1; subst f3
      exact vk_R.of (hts _ (y_s7 q3 f2)) (hSe q3 f2)
    · have f1 : q1 = 9 := e1
      have f2 : q3 < 7 := e2
      have f3 : q2 = y_sm q3 := e3
      clear e1 e2 e3 hq
      subst f1; subst f3
      exact vk_R.of (hts _ (y_s8 q3 f2)) (va_eqR (hf _ (y_s6 q3 f2)) (hSe q3 f2))
  · match n, hn with
    | 0, _ => exact hbl
    | 1, _ => exact hl1
    | 2, _ => exact hl2
end -- [99l.given]
