/-! Part 99h: a state of the pure machine may be taken for one that says less. -/
noncomputable def q_veq (a b : q_V) : Bool := bif Nat.beq a.1 b.1 then q_ieq a.2 b.2 else false
theorem q_veq_i {a b : q_V} (h : q_veq a b = true) : a = b := by
  obtain ⟨h1, h2⟩ := q_and_i h
  exact Prod.ext (q_bq h1) (q_ieq_i h2)
/-- a known number for a script's int that is known to be it -/
noncomputable def q_vle (iv : q_I) (a b : q_V) : Bool := bif q_veq a b then true else bif (bif Nat.beq a.1 0 then Nat.beq b.1 6 else bif Nat.beq a.1 1 then Nat.beq b.1 7 else false) then (match q_nth iv b.2.toNat with
  | some p => bif q_ieq p.1 a.2 then q_ieq p.2 a.2 else false
  | none => false) else false
theorem q_vle_s {ρ : Nat → Int} {bs : Nat → Nat} {ws : va_W} {iv : q_I} {a b : q_V} {V : Value} (ho : q_ok ρ iv) (h : q_vle iv a b = true) (hv : q_rv ρ bs ws a V) : q_rv ρ bs ws b V := by
  rcases q_or_i h with h | h
  · rw [← q_veq_i h]; exact hv
  · cases c : (bif Nat.beq a.1 0 then Nat.beq b.1 6 else bif Nat.beq a.1 1 then Nat.beq b.1 7 else false) with
    | false => rw [c] at h; cases h
    | true =>
      rw [c] at h
      have h : (match q_nth iv b.2.toNat with
        | some p => bif q_ieq p.1 a.2 then q_ieq p.2 a.2 else false
        | none => false) = true := h
      cases hn : q_nth iv b.2.toNat with
      | none => rw [hn] at h; cases h
      | some p =>
        rw [hn] at h
        obtain ⟨g1, g2⟩ := q_and_i h
        have e1 := q_ieq_i g1
        have e2 := q_ieq_i g2
        obtain ⟨k1, k2⟩ := ho _ _ hn
        have e3 : ρ b.2.toNat = a.2 := by omega
        obtain ⟨t, z⟩ := a
        obtain ⟨u, y⟩ := b
        cases c0 : Nat.beq t 0 with
        | true =>
          have c : (bif Nat.beq t 0 then Nat.beq u 6 else bif Nat.beq t 1 then Nat.beq u 7 else false) = true := c
          rw [c0] at c
          have t0 : t = 0 := q_bq c0
          have u6 : u = 6 := q_bq c
          subst t0; subst u6
          show V = .int (Int32.ofInt (ρ y.toNat))
          rw [e3]; exact hv
        | false =>
          have c : (bif Nat.beq t 0 then Nat.beq u 6 else bif Nat.beq t 1 then Nat.beq u 7 else false) = true := c
          rw [c0] at c
          obtain ⟨c1, c2⟩ := q_and_i c
          have t1 : t = 1 := q_bq c1
          have u7 : u = 7 := q_bq c2
          subst t1; subst u7
          show V = .long (Int64.ofInt (ρ y.toNat))
          rw [e3]; exact hv
noncomputable def q_tle (iv : q_I) (d : Nat) : q_T q_V d → q_T q_V d → Bool :=
  Nat.rec (motive := fun d => q_T q_V d → q_T q_V d → Bool) (fun a b => q_vle iv a b) (fun _ ih t u => match t, u with
    | (a, b), (c, e) => bif ih a c then ih b e else false) d
theorem q_tle_s {ρ : Nat → Int} {bs : Nat → Nat} {ws : va_W} {iv : q_I} (ho : q_ok ρ iv) : ∀ (d : Nat) (t u : q_T q_V d), q_tle iv d t u = true → ∀ (j : Nat) (V : Value), q_rv ρ bs ws (q_get d t j) V → q_rv ρ bs ws (q_get d u j) V := by
  intro d
  induction d with
  | zero => intro t u h j V hv; exact q_vle_s ho h hv
  | succ d ih =>
    intro t u h j V hv
    have h : (bif q_tle iv d t.1 u.1 then q_tle iv d t.2 u.2 else false) = true := h
    obtain ⟨h1, h2⟩ := q_and_i h
    rw [q_get_s] at hv ⊢
    cases cc : Nat.beq (Nat.mod j 2) 1 with
    | true => rw [cc] at hv; exact ih t.2 u.2 h2 _ V hv
    | false => rw [cc] at hv; exact ih t.1 u.1 h1 _ V hv
/-- the first n places -/
noncomputable def q_nle (iv : q_I) (t u : q_T q_V 11) (n : Nat) : Bool := Nat.rec (motive := fun _ => Bool) true (fun k ih => bif ih then q_vle iv (q_get 11 t k) (q_get 11 u k) else false) n
theorem q_nle_s {ρ : Nat → Int} {bs : Nat → Nat} {ws : va_W} {iv : q_I} (ho : q_ok ρ iv) {t u : q_T q_V 11} : ∀ n : Nat, q_nle iv t u n = true → ∀ (j : Nat) (V : Value), j < n → q_rv ρ bs ws (q_get 11 t j) V → q_rv ρ bs ws (q_get 11 u j) V
  | 0, _, j, V, hj, _ => absurd hj (Nat.not_lt_zero j)
  | n + 1, h, j, V, hj, hv => by
    have h : (bif q_nle iv t u n then q_vle iv (q_get 11 t n) (q_get 11 u n) else false) = true := h
    obtain ⟨h1, h2⟩ := q_and_i h
    by_cases c : j = n
    · rw [c] at hv ⊢; exact q_vle_s ho h2 hv
    · exact q_nle_s ho n h1 j V (by omega) hv
noncomputable def q_lle (iv : q_I) : List q_V → List q_V → Bool := fun l => List.rec (motive := fun _ => List q_V → Bool) (fun m => match m with
  | [] => true
  | _ :: _ => false) (fun h _ ih m => match m with
  | [] => false
  | b :: r => bif q_vle iv h b then ih r else false) l
theorem q_lle_s {ρ : Nat → Int} {bs : Nat → Nat} {ws : va_W} {iv : q_I} (ho : q_ok ρ iv) : ∀ (l m : List q_V) (vs : List Value), q_lle iv l m = true → q_F2 (q_rv ρ bs ws) l vs → q_F2 (q_rv ρ bs ws) m vs
  | [], [], vs, _, hv => hv
  | [], _ :: _, vs, h, hv => by cases h
  | _ :: _, [], vs, h, hv => by cases h
  | a :: l, b :: m, vs, h, hv => by
    obtain ⟨V, r, rfl, g1, g2⟩ := q_F2_c hv
    have h : (bif q_vle iv a b then q_lle iv l m else false) = true := h
    obtain ⟨h1, h2⟩ := q_and_i h
    exact ⟨q_vle_s ho h1 g1, q_lle_s ho l m r h2 g2⟩
noncomputable def q_ole (iv : q_I) : q_L → q_L → Bool := fun l => List.rec (motive := fun _ => q_L → Bool) (fun m => match m with
  | [] => true
  | _ :: _ => false) (fun h _ ih m => match m with
  | [] => false
  | b :: r => bif Nat.beq h.1 b.1 then (bif q_vle iv h.2 b.2 then ih r else false) else false) l
theorem q_ole_s {ρ : Nat → Int} {bs : Nat → Nat} {ws : va_W} {iv : q_I} (ho : q_ok ρ iv) : ∀ (l m : q_L) (vs : List (Nat × Value)), q_ole iv l m = true → q_F2 (q_rl ρ bs ws) l vs → q_F2 (q_rl ρ bs ws) m vs
  | [], [], vs, _, hv => hv
  | [], _ :: _, vs, h, hv => by cases h
  | _ :: _, [], vs, h, hv => by cases h
  | a :: l, b :: m, vs, h, hv => by
    obtain ⟨V, r, rfl, g1, g2⟩ := q_F2_c hv
    have h : (bif Nat.beq a.1 b.1 then (bif q_vle iv a.2 b.2 then q_ole iv l m else false) else false) = true := h
    obtain ⟨h0, h⟩ := q_and_i h
    obtain ⟨h1, h2⟩ := q_and_i h
    exact ⟨⟨(q_bq h0).symm.trans g1.1, q_vle_s ho h1 g1.2⟩, q_ole_s ho l m r h2 g2⟩
noncomputable def q_cle (iv : q_I) (c e : q_Ce) : Bool := bif Nat.beq e.1 6 then true else bif Nat.beq c.1 e.1 then (bif Nat.beq c.2.1 e.2.1 then (bif q_lle iv c.2.2.1 e.2.2.1 then (bif Nat.beq c.1 0 then true else q_nle iv c.2.2.2 e.2.2.2 c.2.1) else false) else false) else false
theorem q_cle_s {ρ : Nat → Int} {bs : Nat → Nat} {ws : va_W} {tys : List (ClassId × FieldType)} {iv : q_I} {c e : q_Ce} {x : va_E} (ho : q_ok ρ iv) (h : q_cle iv c e = true) (hv : q_rc ρ bs ws tys c x) : q_rc ρ bs ws tys e x := by
  obtain ⟨k, n, fs, ar⟩ := c
  obtain ⟨k2, n2, fs2, ar2⟩ := e
  rcases q_or_i h with h | h
  · have e1 : k2 = 6 := q_bq h
    subst e1
    trivial
  · obtain ⟨h1, h⟩ := q_and_i h
    obtain ⟨h2, h⟩ := q_and_i h
    obtain ⟨h3, h⟩ := q_and_i h
    have e1 : k = k2 := q_bq h1
    have e2 : n = n2 := q_bq h2
    subst e1; subst e2
    match k, hv, h with
    | 0, hv, h =>
      obtain ⟨fs', g1, g2⟩ := hv
      exact ⟨fs', g1, q_lle_s ho _ _ _ h3 g2⟩
    | 1, hv, h =>
      obtain ⟨h0, cA, t, f, g1, g2, g3⟩ := hv
      exact ⟨h0, cA, t, f, g1, g2, fun j hj => q_nle_s ho _ h j _ hj (g3 j hj)⟩
    | 2, hv, h =>
      obtain ⟨h0, cA, t, f, g1, g2, g3⟩ := hv
      exact ⟨h0, cA, t, f, g1, g2, fun j hj => q_nle_s ho _ h j _ hj (g3 j hj)⟩
    | 3, hv, h =>
      obtain ⟨h0, cA, t, f, g1, g2, g3⟩ := hv
      exact ⟨h0, cA, t, f, g1, g2, fun j hj => q_nle_s ho _ h j _ hj (g3 j hj)⟩
    | 4, hv, h =>
      obtain ⟨h0, cA, t, f, g1, g2, g3⟩ := hv
      exact ⟨h0, cA, t, f, g1, g2, fun j hj => q_nle_s ho _ h j _ hj (g3 j hj)⟩
    | 5, hv, h =>
      obtain ⟨h0, cA, t, f, g1, g2, g3⟩ := hv
      exact ⟨h0, cA, t, f, g1, g2, fun j hj => q_nle_s ho _ h j _ hj (g3 j hj)⟩
    | 6, hv, h => trivial
    | k + 7, hv, h => exact absurd hv id
/-- the first n cells -/
noncomputable def q_hle (iv : q_I) (t u : q_T q_Ce 8) (n : Nat) : Bool := Nat.rec (motive := fun _ => Bool) true (fun k ih => bif ih then q_cle iv (q_get 8 t k) (q_get 8 u k) else false) n
theorem q_hle_s {iv : q_I} {t u : q_T q_Ce 8} : ∀ n : Nat, q_hle iv t u n = true → ∀ k, k < n → q_cle iv (q_get 8 t k) (q_get 8 u k) = true
  | 0, _, k, hk => absurd hk (Nat.not_lt_zero k)
  | n + 1, h, k, hk => by
    have h : (bif q_hle iv t u n then q_cle iv (q_get 8 t n) (q_get 8 u n) else false) = true := h
    obtain ⟨h1, h2⟩ := q_and_i h
    by_cases c : k = n
    · rw [c]; exact h2
    · exact q_hle_s n h1 k (by omega)
noncomputable def q_ile2 (iv : q_I) : q_I → Nat → Bool := fun jv => List.rec (motive := fun _ => Nat → Bool) (fun _ => true) (fun h _ ih n => bif (match q_nth iv n with
  | some p => bif q_ile h.1 p.1 then q_ile p.2 h.2 else false
  | none => false) then ih (Nat.succ n) else false) jv
theorem q_ile2_s {ρ : Nat → Int} {iv : q_I} (ho : q_ok ρ iv) : ∀ (jv : q_I) (n : Nat), q_ile2 iv jv n = true → ∀ i p, jv[i]? = some p → p.1 ≤ ρ (n + i) ∧ ρ (n + i) ≤ p.2
  | [], n, _, i, p, hp => by simp at hp
  | a :: jv, n, h, i, p, hp => by
    have h : (bif (match q_nth iv n with
      | some p => bif q_ile a.1 p.1 then q_ile p.2 a.2 else false
      | none => false) then q_ile2 iv jv (Nat.succ n) else false) = true := h
    obtain ⟨h1, h2⟩ := q_and_i h
    cases i with
    | zero =>
      cases hp
      cases hn : q_nth iv n with
      | none => rw [hn] at h1; cases h1
      | some q =>
        rw [hn] at h1
        obtain ⟨g1, g2⟩ := q_and_i h1
        have k1 := q_ile_i g1
        have k2 := q_ile_i g2
        obtain ⟨k3, k4⟩ := ho _ _ hn
        exact ⟨by show a.1 ≤ ρ n; omega, by show ρ n ≤ a.2; omega⟩
    | succ i =>
      have := q_ile2_s ho jv (n + 1) h2 i p hp
      rw [show n + (i + 1) = n + 1 + i by omega]
      exact this
/-- the state c says all that e says -/
noncomputable def q_Cle (c e : q_C) : Bool := bif Nat.beq c.1 e.1 then (bif q_ole c.2.2.2.2.1 c.2.1 e.2.1 then (bif q_lle c.2.2.2.2.1 c.2.2.1 e.2.2.1 then (bif Nat.beq c.2.2.2.1.1 e.2.2.2.1.1 then (bif q_hle c.2.2.2.2.1 c.2.2.2.1.2 e.2.2.2.1.2 c.2.2.2.1.1 then (bif q_ile2 c.2.2.2.2.1 e.2.2.2.2.1 0 then (bif Nat.beq c.2.2.2.2.2.1 e.2.2.2.2.2.1 then Nat.beq c.2.2.2.2.2.2 e.2.2.2.2.2.2 else false) else false) else false) else false) else false) else false) else false
theorem q_Cle_s {w : Heap → List Loc → Nat → Nat → Nat → Array Slot → List Value → Prop} {cl9 : List vw_C} {nL : Nat} {ρ : Nat → Int} {bs : Nat → Nat} {base : Nat} {D : va_G} {ws0 : va_W} {s : State} {c e : q_C} (h : q_Cle c e = true) (hG : q_G w cl9 nL ρ bs base D ws0 s e) : q_G w cl9 nL ρ bs base D ws0 s c := by
  obtain ⟨pc, lo, st, hp, iv, cl, sl⟩ := c
  obtain ⟨pc2, lo2, st2, hp2, iv2, cl2, sl2⟩ := e
  obtain ⟨h1, h⟩ := q_and_i h
  obtain ⟨h2, h⟩ := q_and_i h
  obtain ⟨h3, h⟩ := q_and_i h
  obtain ⟨h4, h⟩ := q_and_i h
  obtain ⟨h5, h⟩ := q_and_i h
  obtain ⟨h6, h⟩ := q_and_i h
  obtain ⟨h7, h8⟩ := q_and_i h
  have e1 : pc = pc2 := q_bq h1
  have e4 : hp.1 = hp2.1 := q_bq h4
  have e7 : cl = cl2 := q_bq h7
  have e8 : sl = sl2 := q_bq h8
  subst e1; subst e7; subst e8
  intro ho ws tys H locs ls lv sR hK hP hD hS hW hE hL hF hl
  have ho : q_ok ρ iv := ho
  have ho2 : q_ok ρ iv2 := fun i p hp9 => by
    have := q_ile2_s ho iv2 0 h6 i p (by rw [← q_nth_g]; exact hp9)
    rw [Nat.zero_add] at this
    exact this
  obtain ⟨w1, w2, w3⟩ := hW
  have w1 : ws.length = hp.1 := w1
  refine hG ho2 ws tys H locs ls lv sR hK hP hD hS ⟨by show ws.length = hp2.1; rw [w1, e4], by show hp2.1 ≤ 256; rw [← e4]; exact w2, fun k q hq => ?_⟩ hE (q_ole_s ho _ _ _ h2 hL) (q_lle_s ho _ _ _ h3 hF) hl
  have hk : k < hp.1 := by
    have := (List.getElem?_eq_some_iff.mp hq).1
    omega
  exact q_cle_s ho (q_hle_s _ h5 k hk) (w3 k q hq)
