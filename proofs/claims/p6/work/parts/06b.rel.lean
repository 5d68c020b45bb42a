/-! Part 06b: what a state of the pure machine says of the machine. -/
def q_F2 {α β : Type} (R : α → β → Prop) : List α → List β → Prop
  | [], [] => True
  | a :: l, b :: r => R a b ∧ q_F2 R l r
  | _, _ => False
def q_rv (ρ : Nat → Int) (bs : Nat → Nat) (ws : va_W) (v : q_V) (V : Value) : Prop :=
  match v.1 with
  | 0 => V = .int (Int32.ofInt v.2)
  | 1 => V = .long (Int64.ofInt v.2)
  | 2 => ∃ q, ws[v.2.toNat]? = some q ∧ V = .ref q.1
  | 3 => V = .null
  | 4 => V = .float (UInt32.ofNat v.2.toNat)
  | 5 => V = .double (UInt64.ofNat v.2.toNat)
  | 6 => V = .int (Int32.ofInt (ρ v.2.toNat))
  | 7 => V = .long (Int64.ofInt (ρ v.2.toNat))
  | 8 => ∃ x, V = .int x
  | 9 => V = .ref (bs v.2.toNat)
  | 10 => ∃ a, V = .ref a
  | 11 => V = .int (Int32.ofInt (ρ (v.2.toNat % 16) - ((v.2.toNat / 16 : Nat) : Int)))
  | _ => False
def q_rl (ρ : Nat → Int) (bs : Nat → Nat) (ws : va_W) (x : Nat × q_V) (y : Nat × Value) : Prop := x.1 = y.1 ∧ q_rv ρ bs ws x.2 y.2
def q_Ex (ws ws' : va_W) : Prop := ∀ (k : Nat) (q : Nat × va_E), ws[k]? = some q → ∃ q' : Nat × va_E, ws'[k]? = some q' ∧ q'.1 = q.1
def q_Et (tys tys' : List (ClassId × FieldType)) : Prop := ∀ (t : Nat) (x : ClassId × FieldType), tys[t]? = some x → tys'[t]? = some x
def q_tbl : String := "StepperTable$Table"
def q_rc (ρ : Nat → Int) (bs : Nat → Nat) (ws : va_W) (tys : List (ClassId × FieldType)) (c : q_Ce) (e : va_E) : Prop :=
  match c.1 with
  | 0 => ∃ fs, e = .inr (c.2.1, fs) ∧ q_F2 (q_rv ρ bs ws) c.2.2.1 fs
  | 1 => c.2.1 ≤ 2000 ∧ ∃ (cA : ClassId) (t : Nat) (f : Nat → Int32), e = .inl (cA, c.2.1, .inl f) ∧ tys[t]? = some (cA, .int) ∧ ∀ j, j < c.2.1 → q_rv ρ bs ws (q_get 11 c.2.2.2 j) (.int (f j))
  | 2 => c.2.1 ≤ 2000 ∧ ∃ (cA : ClassId) (t : Nat) (f : Nat → Int32), e = .inl (cA, c.2.1, .inl f) ∧ tys[t]? = some (cA, .byte) ∧ ∀ j, j < c.2.1 → q_rv ρ bs ws (q_get 11 c.2.2.2 j) (.int (f j))
  | 3 => c.2.1 ≤ 2000 ∧ ∃ (cA : ClassId) (t : Nat) (f : Nat → Int64), e = .inl (cA, c.2.1, .inr (.inl f)) ∧ tys[t]? = some (cA, .long) ∧ ∀ j, j < c.2.1 → q_rv ρ bs ws (q_get 11 c.2.2.2 j) (.long (f j))
  | 4 => c.2.1 ≤ 2000 ∧ ∃ (cA : ClassId) (t : Nat) (f : Nat → UInt64), e = .inl (cA, c.2.1, .inr (.inr (.inr (.inl f)))) ∧ tys[t]? = some (cA, .double) ∧ ∀ j, j < c.2.1 → q_rv ρ bs ws (q_get 11 c.2.2.2 j) (.double (f j))
  | 5 => c.2.1 ≤ 2000 ∧ ∃ (cA : ClassId) (t : Nat) (f : Nat → Option Nat), e = .inl (cA, c.2.1, .inr (.inr (.inr (.inr f)))) ∧ tys[t]? = some (cA, .object q_tbl) ∧ ∀ j, j < c.2.1 → q_rv ρ bs ws (q_get 11 c.2.2.2 j) (va_rf (f j))
  | 6 => True
  | _ => False
def q_W (ρ : Nat → Int) (bs : Nat → Nat) (ws : va_W) (tys : List (ClassId × FieldType)) (hp : q_H) : Prop := ws.length = hp.1 ∧ hp.1 ≤ 256 ∧ ∀ (k : Nat) (q : Nat × va_E), ws[k]? = some q → q_rc ρ bs ws tys (q_get 8 hp.2 k) q.2
def q_ok (ρ : Nat → Int) (iv : q_I) : Prop := ∀ i p, q_nth iv i = some p → p.1 ≤ ρ i ∧ ρ i ≤ p.2
def q_rg (ρ : Nat → Int) : Prop := ∀ i, -2147483648 ≤ ρ i ∧ ρ i < 2147483648
-- small inversions
theorem q_if_i {α : Type} {b : Bool} {k : Option α} {z : α} (h : q_if b k = some z) : b = true ∧ k = some z := by
  cases b
  · exact absurd h (by show ¬ (none : Option α) = some z; intro h; cases h)
  · exact ⟨rfl, h⟩
theorem q_or_i {a b : Bool} (h : (bif a then true else b) = true) : a = true ∨ b = true := by
  cases a
  · exact Or.inr h
  · exact Or.inl rfl
theorem q_not_i {a : Bool} (h : (bif a then false else true) = true) : a = false := by
  cases a
  · rfl
  · cases h
theorem q_bd_i {α β : Type} {o : Option α} {f : α → Option β} {z : β} (h : o.bind f = some z) : ∃ a, o = some a ∧ f a = some z := Option.bind_eq_some_iff.mp h
theorem q_pop_i {α : Type} {st : List α} {p : α × List α} (h : q_pop st = some p) : st = p.1 :: p.2 := by
  cases st with
  | nil => cases h
  | cons a r => cases h; rfl
theorem q_so {α : Type} {a b : α} (h : some a = some b) : a = b := Option.some.inj h
theorem q_ieq_n {a b : Int} (h : q_ieq a b = false) : a ≠ b := by
  rcases q_cmp_s a b with ⟨e, h1⟩ | ⟨e, h1⟩ | ⟨e, h1⟩
  · omega
  · unfold q_ieq at h; rw [e] at h; cases h
  · omega
theorem q_ile_i {a b : Int} (h : q_ile a b = true) : a ≤ b := by
  rcases q_cmp_s a b with ⟨e, h1⟩ | ⟨e, h1⟩ | ⟨e, h1⟩
  · omega
  · omega
  · unfold q_ile at h; rw [e] at h; cases h
theorem q_ile_n {a b : Int} (h : q_ile a b = false) : b < a := by
  rcases q_cmp_s a b with ⟨e, h1⟩ | ⟨e, h1⟩ | ⟨e, h1⟩
  · unfold q_ile at h; rw [e] at h; cases h
  · unfold q_ile at h; rw [e] at h; cases h
  · exact h1
-- lists
theorem q_nth_g {α : Type} : ∀ (l : List α) (n : Nat), q_nth l n = l[n]?
  | [], n => by cases n <;> rfl
  | a :: l, 0 => rfl
  | a :: l, n + 1 => by
    show q_nth l n = _
    rw [q_nth_g l n]; rfl
theorem q_up_g {α : Type} : ∀ (l : List α) (n : Nat) (v : α), q_up l n v = l.set n v
  | [], n, v => by cases n <;> rfl
  | a :: l, 0, v => rfl
  | a :: l, n + 1, v => by
    show a :: q_up l n v = _
    rw [q_up_g l n v]; rfl
theorem q_len_g {α : Type} : ∀ (l : List α), q_len l = l.length
  | [] => rfl
  | a :: l => by show Nat.succ (q_len l) = _; rw [q_len_g l]; rfl
theorem q_app_g {α : Type} : ∀ (l m : List α), q_app l m = l ++ m
  | [], m => rfl
  | a :: l, m => by show a :: q_app l m = _; rw [q_app_g l m]; rfl
theorem q_map_g {α β : Type} (f : α → β) : ∀ (l : List α), q_map f l = l.map f
  | [] => rfl
  | a :: l => by show f a :: q_map f l = _; rw [q_map_g f l]; rfl
theorem q_all_i {α β : Type} {f : α → Option β} : ∀ {l : List α} {bs : List β}, q_all f l = some bs → ∀ a ∈ l, ∃ b ∈ bs, f a = some b
  | [], bs, h, a, ha => by cases ha
  | x :: l, bs, h, a, ha => by
    obtain ⟨b, h1, h2⟩ := q_bd_i (show (f x).bind _ = some bs from h)
    obtain ⟨bs', h3, h4⟩ := q_bd_i h2
    cases q_so h4
    rcases List.mem_cons.mp ha with e | ha
    · subst e; exact ⟨b, List.mem_cons_self, h1⟩
    · obtain ⟨b', h5, h6⟩ := q_all_i (f := f) h3 a ha
      exact ⟨b', List.mem_cons_of_mem _ h5, h6⟩
theorem q_cat_m {α : Type} : ∀ {bs : List (List α)} {b : List α}, b ∈ bs → ∀ x ∈ b, x ∈ (List.rec (motive := fun _ => List α) [] (fun h _ ih => q_app h ih) bs : List α)
  | [], b, h, x, hx => by cases h
  | y :: bs, b, h, x, hx => by
    show x ∈ q_app y _
    rw [q_app_g]
    rcases List.mem_cons.mp h with e | h
    · subst e; exact List.mem_append_left _ hx
    · exact List.mem_append_right _ (q_cat_m h x hx)
theorem q_F2_c {α β : Type} {R : α → β → Prop} {a : α} {l : List α} {m : List β} (h : q_F2 R (a :: l) m) : ∃ b r, m = b :: r ∧ R a b ∧ q_F2 R l r := by
  cases m with
  | nil => exact absurd h id
  | cons b r => exact ⟨b, r, rfl, h.1, h.2⟩
theorem q_F2_n {α β : Type} {R : α → β → Prop} {m : List β} (h : q_F2 R [] m) : m = [] := by
  cases m with
  | nil => rfl
  | cons b r => exact absurd h id
theorem q_F2_m {α β : Type} {R S : α → β → Prop} (hRS : ∀ a b, R a b → S a b) : ∀ {l : List α} {m : List β}, q_F2 R l m → q_F2 S l m
  | [], m, h => by rw [q_F2_n h]; trivial
  | a :: l, m, h => by
    obtain ⟨b, r, rfl, h1, h2⟩ := q_F2_c h
    exact ⟨hRS a b h1, q_F2_m hRS h2⟩
theorem q_F2_l {α β : Type} {R : α → β → Prop} : ∀ {l : List α} {m : List β}, q_F2 R l m → l.length = m.length
  | [], m, h => by rw [q_F2_n h]; rfl
  | a :: l, m, h => by
    obtain ⟨b, r, rfl, h1, h2⟩ := q_F2_c h
    show _ + 1 = _ + 1
    rw [q_F2_l h2]
theorem q_F2_g {α β : Type} {R : α → β → Prop} : ∀ {l : List α} {m : List β}, q_F2 R l m → ∀ (n : Nat) (a : α), l[n]? = some a → ∃ b, m[n]? = some b ∧ R a b
  | [], m, h, n, a, ha => by simp at ha
  | x :: l, m, h, n, a, ha => by
    obtain ⟨b, r, rfl, h1, h2⟩ := q_F2_c h
    cases n with
    | zero => cases ha; exact ⟨b, rfl, h1⟩
    | succ n => exact q_F2_g h2 n a ha
theorem q_F2_s {α β : Type} {R : α → β → Prop} : ∀ {l : List α} {m : List β}, q_F2 R l m → ∀ (n : Nat) (a : α) (b : β), R a b → q_F2 R (l.set n a) (m.set n b)
  | [], m, h, n, a, b, hab => by rw [q_F2_n h]; trivial
  | x :: l, m, h, n, a, b, hab => by
    obtain ⟨y, r, rfl, h1, h2⟩ := q_F2_c h
    cases n with
    | zero => exact ⟨hab, h2⟩
    | succ n => exact ⟨h1, q_F2_s h2 n a b hab⟩
theorem q_F2_a {α β : Type} {R : α → β → Prop} : ∀ {l l2 : List α} {m m2 : List β}, q_F2 R l m → q_F2 R l2 m2 → q_F2 R (l ++ l2) (m ++ m2)
  | [], l2, m, m2, h, h2 => by rw [q_F2_n h]; exact h2
  | x :: l, l2, m, m2, h, h2 => by
    obtain ⟨y, r, rfl, h1, h3⟩ := q_F2_c h
    exact ⟨h1, q_F2_a h3 h2⟩
-- values
theorem q_Ex.rf (ws : va_W) : q_Ex ws ws := fun k q h => ⟨q, h, rfl⟩
theorem q_Ex.tr {a b c : va_W} (h1 : q_Ex a b) (h2 : q_Ex b c) : q_Ex a c := fun k q h => by
  obtain ⟨q1, h3, h4⟩ := h1 k q h
  obtain ⟨q2, h5, h6⟩ := h2 k q1 h3
  exact ⟨q2, h5, h6.trans h4⟩
theorem q_Ex.st {ws : va_W} {k a : Nat} {e0 e : va_E} (h : ws[k]? = some (a, e0)) : q_Ex ws (ws.set k (a, e)) := by
  intro j q hq
  by_cases hj : j = k
  · subst hj
    have hl := (List.getElem?_eq_some_iff.mp h).1
    rw [h] at hq; cases hq
    exact ⟨(a, e), by rw [List.getElem?_set_self hl], rfl⟩
  · exact ⟨q, by rw [List.getElem?_set_ne (Ne.symm hj)]; exact hq, rfl⟩
theorem q_Ex.pu (ws : va_W) (x : Nat × va_E) : q_Ex ws (ws ++ [x]) := by
  intro j q hq
  have hl := (List.getElem?_eq_some_iff.mp hq).1
  exact ⟨q, by rw [List.getElem?_append_left hl]; exact hq, rfl⟩
theorem q_rv.ex {ρ : Nat → Int} {bs : Nat → Nat} {ws ws' : va_W} (h : q_Ex ws ws') {v : q_V} {V : Value} (hv : q_rv ρ bs ws v V) : q_rv ρ bs ws' v V := by
  obtain ⟨t, z⟩ := v
  match t, hv with
  | 0, hv => exact hv
  | 1, hv => exact hv
  | 2, hv =>
    obtain ⟨q, h1, h2⟩ := hv
    obtain ⟨q', h3, h4⟩ := h _ q h1
    exact ⟨q', h3, by rw [h4]; exact h2⟩
  | 3, hv => exact hv
  | 4, hv => exact hv
  | 5, hv => exact hv
  | 6, hv => exact hv
  | 7, hv => exact hv
  | 8, hv => exact hv
  | 9, hv => exact hv
  | 10, hv => exact hv
  | 11, hv => exact hv
  | n + 12, hv => exact hv
theorem q_rc.ex {ρ : Nat → Int} {bs : Nat → Nat} {ws ws' : va_W} {tys tys' : List (ClassId × FieldType)} (h : q_Ex ws ws') (ht : q_Et tys tys') {c : q_Ce} {e : va_E} (hv : q_rc ρ bs ws tys c e) : q_rc ρ bs ws' tys' c e := by
  obtain ⟨k, n, fs, ar⟩ := c
  match k, hv with
  | 0, hv =>
    obtain ⟨fs', h1, h2⟩ := hv
    exact ⟨fs', h1, q_F2_m (fun _ _ h3 => h3.ex h) h2⟩
  | 1, hv =>
    obtain ⟨h0, cA, t, f, h1, h2, h3⟩ := hv
    exact ⟨h0, cA, t, f, h1, ht _ _ h2, fun j hj => (h3 j hj).ex h⟩
  | 2, hv =>
    obtain ⟨h0, cA, t, f, h1, h2, h3⟩ := hv
    exact ⟨h0, cA, t, f, h1, ht _ _ h2, fun j hj => (h3 j hj).ex h⟩
  | 3, hv =>
    obtain ⟨h0, cA, t, f, h1, h2, h3⟩ := hv
    exact ⟨h0, cA, t, f, h1, ht _ _ h2, fun j hj => (h3 j hj).ex h⟩
  | 4, hv =>
    obtain ⟨h0, cA, t, f, h1, h2, h3⟩ := hv
    exact ⟨h0, cA, t, f, h1, ht _ _ h2, fun j hj => (h3 j hj).ex h⟩
  | 5, hv =>
    obtain ⟨h0, cA, t, f, h1, h2, h3⟩ := hv
    exact ⟨h0, cA, t, f, h1, ht _ _ h2, fun j hj => (h3 j hj).ex h⟩
  | 6, hv => trivial
  | n + 7, hv => exact hv
theorem q_W.put {ρ : Nat → Int} {bs : Nat → Nat} {ws : va_W} {tys : List (ClassId × FieldType)} {hp : q_H} {k a : Nat} {e0 e : va_E} {c : q_Ce} (hW : q_W ρ bs ws tys hp) (hk : ws[k]? = some (a, e0)) (hc : q_rc ρ bs (ws.set k (a, e)) tys c e) : q_W ρ bs (ws.set k (a, e)) tys (q_put hp k c) := by
  obtain ⟨h1, h2, h3⟩ := hW
  have hl := (List.getElem?_eq_some_iff.mp hk).1
  refine ⟨by rw [List.length_set]; exact h1, h2, fun j q hq => ?_⟩
  have hjl : j < ws.length := by
    have := (List.getElem?_eq_some_iff.mp hq).1
    rwa [List.length_set] at this
  show q_rc ρ bs _ tys (q_get 8 (q_set 8 hp.2 k c) j) q.2
  rw [q_gs 8 hp.2 k j c (by omega) (by omega)]
  by_cases hj : j = k
  · subst hj
    rw [if_pos rfl]
    rw [List.getElem?_set_self hl] at hq
    cases hq
    exact hc
  · rw [if_neg hj]
    rw [List.getElem?_set_ne (Ne.symm hj)] at hq
    exact (h3 j q hq).ex (q_Ex.st hk) (fun _ _ h => h)
theorem q_W.new {ρ : Nat → Int} {bs : Nat → Nat} {ws : va_W} {tys tys' : List (ClassId × FieldType)} {hp : q_H} {a : Nat} {e : va_E} {c : q_Ce} (hW : q_W ρ bs ws tys hp) (hn : hp.1 + 1 ≤ 256) (ht : q_Et tys tys') (hc : q_rc ρ bs (ws ++ [(a, e)]) tys' c e) : q_W ρ bs (ws ++ [(a, e)]) tys' (q_new hp c) := by
  obtain ⟨h1, h2, h3⟩ := hW
  refine ⟨by rw [List.length_append, h1]; rfl, hn, fun j q hq => ?_⟩
  have hjl : j < ws.length + 1 := by
    have := (List.getElem?_eq_some_iff.mp hq).1
    rwa [List.length_append] at this
  show q_rc ρ bs _ tys' (q_get 8 (q_set 8 hp.2 hp.1 c) j) q.2
  rw [q_gs 8 hp.2 hp.1 j c (by omega) (by omega)]
  by_cases hj : j = hp.1
  · subst hj
    rw [if_pos rfl]
    rw [← h1, List.getElem?_append_right (Nat.le_refl _), Nat.sub_self] at hq
    cases hq
    exact hc
  · rw [if_neg hj]
    rw [List.getElem?_append_left (by omega)] at hq
    exact (h3 j q hq).ex (q_Ex.pu ws _) ht
/-- the cell of a reference -/
theorem q_at_i {ρ : Nat → Int} {bs : Nat → Nat} {ws : va_W} {tys : List (ClassId × FieldType)} {hp : q_H} {a : q_V} {c : q_Ce} {V : Value} (hW : q_W ρ bs ws tys hp) (h : q_at hp a = some c) (hv : q_rv ρ bs ws a V) : ∃ q e, ws[a.2.toNat]? = some (q, e) ∧ V = .ref q ∧ q_rc ρ bs ws tys c e := by
  obtain ⟨h1, h2⟩ := q_if_i h
  obtain ⟨h3, h4⟩ := q_and_i h1
  obtain ⟨t, z⟩ := a
  have e1 : t = 2 := q_bq h3
  subst e1
  obtain ⟨q, h5, h6⟩ := hv
  cases q_so h2
  exact ⟨q.1, q.2, h5, h6, hW.2.2 _ _ h5⟩
theorem q_isI_i {ρ : Nat → Int} {bs : Nat → Nat} {ws : va_W} {v : q_V} {V : Value} (h : q_isI v.1 = true) (hv : q_rv ρ bs ws v V) : ∃ x, V = .int x := by
  obtain ⟨t, z⟩ := v
  rcases q_or_i h with e | h
  · have e1 : t = 0 := q_bq e
    subst e1; exact ⟨_, hv⟩
  · rcases q_or_i h with e | e
    · have e1 : t = 6 := q_bq e
      subst e1; exact ⟨_, hv⟩
    · have e1 : t = 8 := q_bq e
      subst e1; exact hv
theorem q_isK_i {ρ : Nat → Int} {bs : Nat → Nat} {ws : va_W} {v : q_V} {V : Value} (h : q_isK v.1 = true) (hv : q_rv ρ bs ws v V) : ∃ x, V = .int x := by
  rcases q_or_i h with e | e
  · exact q_isI_i e hv
  · obtain ⟨t, z⟩ := v
    have e1 : t = 11 := q_bq e
    subst e1; exact ⟨_, hv⟩
theorem q_isJ_i {ρ : Nat → Int} {bs : Nat → Nat} {ws : va_W} {v : q_V} {V : Value} (h : q_isJ v.1 = true) (hv : q_rv ρ bs ws v V) : ∃ x, V = .long x := by
  obtain ⟨t, z⟩ := v
  rcases q_or_i h with e | e
  · have e1 : t = 1 := q_bq e
    subst e1; exact ⟨_, hv⟩
  · have e1 : t = 7 := q_bq e
    subst e1; exact ⟨_, hv⟩
theorem q_isR_i {ρ : Nat → Int} {bs : Nat → Nat} {ws : va_W} {v : q_V} {V : Value} (h : q_isR v.1 = true) (hv : q_rv ρ bs ws v V) : ∃ x, V = .ref x := by
  obtain ⟨t, z⟩ := v
  rcases q_or_i h with e | h
  · have e1 : t = 2 := q_bq e
    subst e1
    obtain ⟨q, -, h2⟩ := hv
    exact ⟨_, h2⟩
  · rcases q_or_i h with e | e
    · have e1 : t = 9 := q_bq e
      subst e1; exact ⟨_, hv⟩
    · have e1 : t = 10 := q_bq e
      subst e1; exact hv
theorem q_isN_i {ρ : Nat → Int} {bs : Nat → Nat} {ws : va_W} {v : q_V} {V : Value} (h : q_isN v.1 = true) (hv : q_rv ρ bs ws v V) : V = .null ∨ ∃ x, V = .ref x := by
  rcases q_or_i h with e | e
  · exact Or.inr (q_isR_i e hv)
  · obtain ⟨t, z⟩ := v
    have e1 : t = 3 := q_bq e
    subst e1; exact Or.inl hv
theorem q_is2_i {ρ : Nat → Int} {bs : Nat → Nat} {ws : va_W} {v : q_V} {V : Value} (hv : q_rv ρ bs ws v V) : V.category = bif q_is2 v.1 then 2 else 1 := by
  obtain ⟨t, z⟩ := v
  match t, hv with
  | 0, hv => rw [show V = _ from hv]; rfl
  | 1, hv => rw [show V = _ from hv]; rfl
  | 2, hv => obtain ⟨q, -, h2⟩ := hv; rw [h2]; rfl
  | 3, hv => rw [show V = _ from hv]; rfl
  | 4, hv => rw [show V = _ from hv]; rfl
  | 5, hv => rw [show V = _ from hv]; rfl
  | 6, hv => rw [show V = _ from hv]; rfl
  | 7, hv => rw [show V = _ from hv]; rfl
  | 8, hv => obtain ⟨q, h2⟩ := hv; rw [h2]; rfl
  | 9, hv => rw [show V = _ from hv]; rfl
  | 10, hv => obtain ⟨q, h2⟩ := hv; rw [h2]; rfl
  | 11, hv => rw [show V = _ from hv]; rfl
  | n + 12, hv => exact absurd hv id
theorem q_conc_rv {ρ : Nat → Int} {bs : Nat → Nat} {ws : va_W} {iv : q_I} {v : q_V} {V : Value} (ho : q_ok ρ iv) (hv : q_rv ρ bs ws v V) : q_rv ρ bs ws (q_conc iv v) V := by
  obtain ⟨t, z⟩ := v
  unfold q_conc
  dsimp only
  cases h6 : Nat.ble 6 t with
  | false => exact hv
  | true =>
    cases h7 : Nat.ble t 7 with
    | false => exact hv
    | true =>
      simp only [cond_true]
      cases hn : q_nth iv z.toNat with
      | none => exact hv
      | some q =>
        dsimp only
        cases hq : q_ieq q.1 q.2 with
        | false => exact hv
        | true =>
          obtain ⟨g1, g2⟩ := ho _ _ hn
          have e := q_ieq_i hq
          have e2 : ρ z.toNat = q.1 := by omega
          have hl := q_bl h6
          have hr := q_bl h7
          simp only [cond_true]
          have ht : t = 6 ∨ t = 7 := by omega
          rcases ht with rfl | rfl
          · show V = .int (Int32.ofInt q.1)
            rw [show V = .int (Int32.ofInt (ρ z.toNat)) from hv, e2]
          · show V = .long (Int64.ofInt q.1)
            rw [show V = .long (Int64.ofInt (ρ z.toNat)) from hv, e2]
-- comparisons
noncomputable def q_nv (ρ : Nat → Int) (a : q_V) : Int := match a.1 with
  | 0 => q_w32 a.2
  | 1 => q_w64 a.2
  | _ => ρ a.2.toNat
theorem q_ok_up {ρ : Nat → Int} {iv : q_I} {i : Nat} {x y : Int} (ho : q_ok ρ iv) (h1 : x ≤ ρ i) (h2 : ρ i ≤ y) : q_ok ρ (q_up iv i (x, y)) := by
  intro j p hp
  rw [q_up_g, q_nth_g] at hp
  by_cases hj : i = j
  · subst hj
    have hl : i < iv.length := by
      have := (List.getElem?_eq_some_iff.mp hp).1
      rwa [List.length_set] at this
    rw [List.getElem?_set_self hl] at hp
    cases hp
    exact ⟨h1, h2⟩
  · rw [List.getElem?_set_ne hj] at hp
    exact ho j p (by rw [q_nth_g]; exact hp)
theorem q_split_s {ρ : Nat → Int} {iv : q_I} {i : Nat} {k : Int} {l : List (Nat × q_I)} (ho : q_ok ρ iv) (h : q_split iv i k = some l) :
    ∃ q ∈ l, q_ok ρ q.2 ∧ ((q.1 = 0 ∧ ρ i < k) ∨ (q.1 = 1 ∧ ρ i = k) ∨ (q.1 = 2 ∧ k < ρ i)) := by
  obtain ⟨p, hp, h⟩ := q_bd_i h
  obtain ⟨g1, g2⟩ := ho _ _ hp
  cases q_so h
  rw [q_app_g, q_app_g]
  rcases Int.lt_trichotomy (ρ i) k with hlt | heq | hgt
  · refine ⟨(0, q_up iv i (p.1, bif q_ile p.2 (Int.sub k 1) then p.2 else Int.sub k 1)), ?_, ?_, Or.inl ⟨rfl, hlt⟩⟩
    · have e1 : q_ile p.1 p.2 = true := by
        cases e : q_ile p.1 p.2
        · have := q_ile_n e; omega
        · rfl
      have e2 : q_cmp p.1 k = 0 := by
        rcases q_cmp_s p.1 k with ⟨e, h1⟩ | ⟨e, h1⟩ | ⟨e, h1⟩
        · exact e
        · omega
        · omega
      rw [e1, e2]
      exact List.mem_append_left _ List.mem_cons_self
    · refine q_ok_up ho g1 ?_
      cases e : q_ile p.2 (Int.sub k 1)
      · show ρ i ≤ k - 1
        omega
      · exact g2
  · refine ⟨(1, q_up iv i (k, k)), ?_, q_ok_up ho (by omega) (by omega), Or.inr (Or.inl ⟨rfl, heq⟩)⟩
    have e1 : q_ile p.1 k = true := by
      cases e : q_ile p.1 k
      · have := q_ile_n e; omega
      · rfl
    have e2 : q_ile k p.2 = true := by
      cases e : q_ile k p.2
      · have := q_ile_n e; omega
      · rfl
    rw [e1, e2]
    exact List.mem_append_right _ (List.mem_append_left _ List.mem_cons_self)
  · refine ⟨(2, q_up iv i (bif q_ile (Int.add k 1) p.1 then p.1 else Int.add k 1, p.2)), ?_, ?_, Or.inr (Or.inr ⟨rfl, hgt⟩)⟩
    · have e2 : q_cmp k p.2 = 0 := by
        rcases q_cmp_s k p.2 with ⟨e, h1⟩ | ⟨e, h1⟩ | ⟨e, h1⟩
        · exact e
        · omega
        · omega
      rw [e2]
      exact List.mem_append_right _ (List.mem_append_right _ List.mem_cons_self)
    · refine q_ok_up ho ?_ g2
      cases e : q_ile (Int.add k 1) p.1
      · show k + 1 ≤ ρ i
        omega
      · exact g1
theorem q_c3_s {ρ : Nat → Int} {iv : q_I} {a b : q_V} {l : List (Nat × q_I)} (ho : q_ok ρ iv) (h : q_c3 iv a b = some l) :
    (((a.1 = 0 ∨ a.1 = 6) ∧ (b.1 = 0 ∨ b.1 = 6)) ∨ ((a.1 = 1 ∨ a.1 = 7) ∧ (b.1 = 1 ∨ b.1 = 7))) ∧ ∃ q ∈ l, q_ok ρ q.2 ∧ ((q.1 = 0 ∧ q_nv ρ a < q_nv ρ b) ∨ (q.1 = 1 ∧ q_nv ρ a = q_nv ρ b) ∨ (q.1 = 2 ∧ q_nv ρ b < q_nv ρ a)) := by
  obtain ⟨t, x⟩ := a
  obtain ⟨u, y⟩ := b
  unfold q_c3 at h
  dsimp only at h
  cases c1 : (bif Nat.beq t 0 then Nat.beq u 0 else false) with
  | true =>
    rw [c1] at h
    obtain ⟨d1, d2⟩ := q_and_i c1
    have e1 : t = 0 := q_bq d1
    have e2 : u = 0 := q_bq d2
    subst e1; subst e2
    cases q_so h
    exact ⟨Or.inl ⟨Or.inl rfl, Or.inl rfl⟩, _, List.mem_cons_self, ho, q_cmp_s _ _⟩
  | false =>
  rw [c1] at h
  cases c2 : (bif Nat.beq t 1 then Nat.beq u 1 else false) with
  | true =>
    rw [c2] at h
    obtain ⟨d1, d2⟩ := q_and_i c2
    have e1 : t = 1 := q_bq d1
    have e2 : u = 1 := q_bq d2
    subst e1; subst e2
    cases q_so h
    exact ⟨Or.inr ⟨Or.inl rfl, Or.inl rfl⟩, _, List.mem_cons_self, ho, q_cmp_s _ _⟩
  | false =>
  rw [c2] at h
  cases c3 : (bif Nat.beq t 6 then Nat.beq u 0 else false) with
  | true =>
    rw [c3] at h
    obtain ⟨d1, d2⟩ := q_and_i c3
    have e1 : t = 6 := q_bq d1
    have e2 : u = 0 := q_bq d2
    subst e1; subst e2
    exact ⟨Or.inl ⟨Or.inr rfl, Or.inl rfl⟩, q_split_s ho h⟩
  | false =>
  rw [c3] at h
  cases c4 : (bif Nat.beq t 7 then Nat.beq u 1 else false) with
  | true =>
    rw [c4] at h
    obtain ⟨d1, d2⟩ := q_and_i c4
    have e1 : t = 7 := q_bq d1
    have e2 : u = 1 := q_bq d2
    subst e1; subst e2
    exact ⟨Or.inr ⟨Or.inr rfl, Or.inl rfl⟩, q_split_s ho h⟩
  | false =>
  rw [c4] at h
  cases c5 : (bif Nat.beq u 6 then Nat.beq t 0 else false) with
  | true =>
    rw [c5] at h
    obtain ⟨d1, d2⟩ := q_and_i c5
    have e1 : u = 6 := q_bq d1
    have e2 : t = 0 := q_bq d2
    subst e1; subst e2
    obtain ⟨l0, h1, h2⟩ := q_bd_i h
    cases q_so h2
    obtain ⟨q, g1, g2, g3⟩ := q_split_s ho h1
    refine ⟨Or.inl ⟨Or.inl rfl, Or.inr rfl⟩, (Nat.sub 2 q.1, q.2), by rw [q_map_g]; exact List.mem_map.mpr ⟨q, g1, rfl⟩, g2, ?_⟩
    rcases g3 with ⟨e, g⟩ | ⟨e, g⟩ | ⟨e, g⟩ <;> rw [e]
    · exact Or.inr (Or.inr ⟨rfl, g⟩)
    · exact Or.inr (Or.inl ⟨rfl, g.symm⟩)
    · exact Or.inl ⟨rfl, g⟩
  | false =>
  rw [c5] at h
  cases c6 : (bif Nat.beq u 7 then Nat.beq t 1 else false) with
  | true =>
    rw [c6] at h
    obtain ⟨d1, d2⟩ := q_and_i c6
    have e1 : u = 7 := q_bq d1
    have e2 : t = 1 := q_bq d2
    subst e1; subst e2
    obtain ⟨l0, h1, h2⟩ := q_bd_i h
    cases q_so h2
    obtain ⟨q, g1, g2, g3⟩ := q_split_s ho h1
    refine ⟨Or.inr ⟨Or.inl rfl, Or.inr rfl⟩, (Nat.sub 2 q.1, q.2), by rw [q_map_g]; exact List.mem_map.mpr ⟨q, g1, rfl⟩, g2, ?_⟩
    rcases g3 with ⟨e, g⟩ | ⟨e, g⟩ | ⟨e, g⟩ <;> rw [e]
    · exact Or.inr (Or.inr ⟨rfl, g⟩)
    · exact Or.inr (Or.inl ⟨rfl, g.symm⟩)
    · exact Or.inl ⟨rfl, g⟩
  | false =>
  rw [c6] at h
  cases h
theorem q_cO_s {ρ : Nat → Int} {iv : q_I} {z : Int} {l : List (Nat × q_I)} (hr : q_rg ρ) (ho : q_ok ρ iv) (h : q_cO iv z = some l) :
    (Int32.ofInt (ρ (z.toNat % 16) - ((z.toNat / 16 : Nat) : Int))).toInt = ρ (z.toNat % 16) - ((z.toNat / 16 : Nat) : Int) ∧
      ∃ q ∈ l, q_ok ρ q.2 ∧ ((q.1 = 0 ∧ ρ (z.toNat % 16) - ((z.toNat / 16 : Nat) : Int) < 0) ∨ (q.1 = 1 ∧ ρ (z.toNat % 16) - ((z.toNat / 16 : Nat) : Int) = 0) ∨ (q.1 = 2 ∧ 0 < ρ (z.toNat % 16) - ((z.toNat / 16 : Nat) : Int))) := by
  obtain ⟨p, hp, h⟩ := q_bd_i h
  obtain ⟨h1, h⟩ := q_if_i h
  have h2 : ((z.toNat / 16 : Nat) : Int) - 2147483648 ≤ p.1 := q_ile_i h1
  have h3 : p.1 ≤ ρ (z.toNat % 16) := (ho _ _ hp).1
  have h4 := (hr (z.toNat % 16)).2
  refine ⟨by rw [q_w32_m, q_w32_id (by omega) (by omega)], ?_⟩
  obtain ⟨q, g1, g2, g3⟩ := q_split_s ho h
  have g3 : (q.1 = 0 ∧ ρ (z.toNat % 16) < ((z.toNat / 16 : Nat) : Int)) ∨ (q.1 = 1 ∧ ρ (z.toNat % 16) = ((z.toNat / 16 : Nat) : Int)) ∨ (q.1 = 2 ∧ ((z.toNat / 16 : Nat) : Int) < ρ (z.toNat % 16)) := g3
  refine ⟨q, g1, g2, ?_⟩
  rcases g3 with ⟨e, g⟩ | ⟨e, g⟩ | ⟨e, g⟩
  · exact Or.inl ⟨e, by omega⟩
  · exact Or.inr (Or.inl ⟨e, by omega⟩)
  · exact Or.inr (Or.inr ⟨e, by omega⟩)
theorem q_ic_s {ρ : Nat → Int} {bs : Nat → Nat} {ws : va_W} {n : Int} {a b : q_V} {V : Value} (h : q_ic n a = some b) (hv : q_rv ρ bs ws a V) : ∃ m : Int, V = .int (Int32.ofInt m) ∧ q_rv ρ bs ws b (.int (Int32.ofInt (q_w32 (m + n)))) := by
  obtain ⟨t, z⟩ := a
  unfold q_ic at h
  dsimp only at h
  cases c1 : Nat.beq t 0 with
  | true =>
    rw [c1] at h
    have e1 : t = 0 := q_bq c1
    subst e1
    cases q_so h
    exact ⟨z, hv, rfl⟩
  | false =>
    rw [c1] at h
    obtain ⟨h1, h7⟩ := q_if_i h
    have en : n = -1 := q_ieq_i h1
    subst en
    cases c2 : Nat.beq t 6 with
    | true =>
      rw [c2] at h7
      obtain ⟨h2, h8⟩ := q_if_i h7
      obtain ⟨h3, h4⟩ := q_and_i h2
      have h5 := q_ile_i h3
      have h6 := q_bl h4
      have e1 : t = 6 := q_bq c2
      subst e1
      cases q_so h8
      refine ⟨ρ z.toNat, hv, ?_⟩
      show Value.int _ = .int (Int32.ofInt (ρ ((z + 16).toNat % 16) - (((z + 16).toNat / 16 : Nat) : Int)))
      have e3 : (z + 16).toNat % 16 = z.toNat := by omega
      have e4 : (z + 16).toNat / 16 = 1 := by omega
      rw [e3, e4, q_o32]
      rfl
    | false =>
      rw [c2] at h7
      obtain ⟨h2, h8⟩ := q_if_i h7
      obtain ⟨h3, h4⟩ := q_and_i h2
      have h5 := q_ile_i h4
      have e1 : t = 11 := q_bq h3
      subst e1
      cases q_so h8
      refine ⟨ρ (z.toNat % 16) - ((z.toNat / 16 : Nat) : Int), hv, ?_⟩
      show Value.int _ = .int (Int32.ofInt (ρ ((z + 16).toNat % 16) - (((z + 16).toNat / 16 : Nat) : Int)))
      have e3 : (z + 16).toNat % 16 = z.toNat % 16 := by omega
      have e4 : (z + 16).toNat / 16 = z.toNat / 16 + 1 := by omega
      rw [e3, e4, q_o32]
      have e5 : ρ (z.toNat % 16) - ((z.toNat / 16 : Nat) : Int) + -1 = ρ (z.toNat % 16) - ((z.toNat / 16 + 1 : Nat) : Int) := by omega
      rw [e5]
theorem q_nv_i {ρ : Nat → Int} {bs : Nat → Nat} {ws : va_W} {a : q_V} {x : Int32} (hr : q_rg ρ) (ht : a.1 = 0 ∨ a.1 = 6) (hv : q_rv ρ bs ws a (.int x)) : x.toInt = q_nv ρ a := by
  obtain ⟨t, z⟩ := a
  rcases ht with e | e <;> (have e1 : t = _ := e) <;> subst e1
  · have e2 : Value.int x = .int (Int32.ofInt z) := hv
    cases e2
    exact q_w32_m z
  · have e2 : Value.int x = .int (Int32.ofInt (ρ z.toNat)) := hv
    cases e2
    rw [q_w32_m, q_w32_id (hr _).1 (hr _).2]; rfl
theorem q_nv_j {ρ : Nat → Int} {bs : Nat → Nat} {ws : va_W} {a : q_V} {x : Int64} (hr : q_rg ρ) (ht : a.1 = 1 ∨ a.1 = 7) (hv : q_rv ρ bs ws a (.long x)) : x.toInt = q_nv ρ a := by
  obtain ⟨t, z⟩ := a
  have hq := hr z.toNat
  rcases ht with e | e <;> (have e1 : t = _ := e) <;> subst e1
  · have e2 : Value.long x = .long (Int64.ofInt z) := hv
    cases e2
    exact q_w64_m z
  · have e2 : Value.long x = .long (Int64.ofInt (ρ z.toNat)) := hv
    cases e2
    rw [q_w64_m, q_w64_id (by omega) (by omega)]; rfl
