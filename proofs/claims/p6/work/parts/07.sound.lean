/-! Part 07: each instruction of the pure machine is the machine's. A row's own law is a premise here ('row'); part 10 gives them. -/
def q_A (base : Nat) : Nat → Prop := fun q => base ≤ q
def q_G (w : Heap → List Loc → Nat → Nat → Nat → Array Slot → List Value → Prop) (cl9 : List vw_C) (nL : Nat) (ρ : Nat → Int) (bs : Nat → Nat) (base : Nat) (D : va_G) (ws0 : va_W) (s : State) (c : q_C) : Prop :=
  q_ok ρ c.2.2.2.2.1 → ∀ (ws : va_W) (tys : List (ClassId × FieldType)) (H : Heap) (locs : List Loc) (ls : Array Slot) (lv : List (Nat × Value)) (sR : List Value),
    va_K D cl9 tys s → va_P D cl9 ws H → va_D (q_A base) ws → va_S (q_A base) s.heap H locs → q_W ρ bs ws tys c.2.2.2.1 → q_Ex ws0 ws → q_F2 (q_rl ρ bs ws) c.2.1 lv → q_F2 (q_rv ρ bs ws) c.2.2.1 sR → lv_has ls nL lv →
    w H locs c.2.2.2.2.2.1 c.2.2.2.2.2.2 c.1 ls sR
theorem q_lk_s {ρ : Nat → Int} {bs : Nat → Nat} {ws : va_W} {i : Nat} : ∀ {lo : q_L} {lv : List (Nat × Value)} {a : q_V}, q_lk i lo = some a → q_F2 (q_rl ρ bs ws) lo lv → ∃ V, (i, V) ∈ lv ∧ q_rv ρ bs ws a V
  | [], lv, a, h, hF => by cases h
  | x :: lo, lv, a, h, hF => by
    obtain ⟨y, r, rfl, h1, h2⟩ := q_F2_c hF
    have h' : (bif Nat.beq x.1 i then some x.2 else q_lk i lo) = some a := h
    cases hb : Nat.beq x.1 i with
    | true =>
      rw [hb] at h'
      cases q_so h'
      have e := q_bq hb
      exact ⟨y.2, by rw [← e, h1.1]; exact List.mem_cons_self, h1.2⟩
    | false =>
      rw [hb] at h'
      obtain ⟨V, g1, g2⟩ := q_lk_s h' h2
      exact ⟨V, List.mem_cons_of_mem _ g1, g2⟩
theorem q_fil_s {ρ : Nat → Int} {bs : Nat → Nat} {ws : va_W} {i : Nat} {w : Bool} {P : Nat × Value → Bool} (hP : ∀ q : Nat × Value, P q = (!(q.1 == i) && (!(w && q.1 == i + 1) && !(q.1 + 1 == i && q.2.category == 2)))) : ∀ {lo : q_L} {lv : List (Nat × Value)}, q_F2 (q_rl ρ bs ws) lo lv → q_F2 (q_rl ρ bs ws) (q_fil i w lo) (lv.filter P)
  | [], lv, hF => by rw [q_F2_n hF]; trivial
  | x :: lo, lv, hF => by
    obtain ⟨y, r, rfl, h1, h2⟩ := q_F2_c hF
    have ih := q_fil_s (i := i) (w := w) (P := P) hP h2
    have ec := q_is2_i h1.2
    have e1 := h1.1
    show q_F2 _ (bif Nat.beq x.1 i then q_fil i w lo else bif (bif w then Nat.beq x.1 (i + 1) else false) then q_fil i w lo else bif (bif Nat.beq (x.1 + 1) i then q_is2 x.2.1 else false) then q_fil i w lo else x :: q_fil i w lo) _
    have hb : ∀ a b : Nat, Nat.beq a b = (a == b) := fun a b => by
      cases h : Nat.beq a b
      · cases h2 : (a == b)
        · rfl
        · rw [beq_iff_eq] at h2; rw [h2, Nat.beq_refl] at h; cases h
      · have := q_bq h
        rw [this, beq_self_eq_true]
    have ec2 : (y.2.category == 2) = q_is2 x.2.1 := by rw [ec]; cases q_is2 x.2.1 <;> rfl
    rw [List.filter_cons, hP y, hb, hb, hb, e1, ec2]
    generalize (y.1 == i) = b1
    generalize (y.1 == i + 1) = b2
    generalize (y.1 + 1 == i) = b3
    generalize q_is2 x.2.1 = b4
    cases b1 <;> cases b2 <;> cases b3 <;> cases b4 <;> cases w <;> first | exact ih | exact ⟨h1, ih⟩
section q_sec
variable {w : Heap → List Loc → Nat → Nat → Nat → Array Slot → List Value → Prop} {cl9 : List vw_C} {nL : Nat} {ρ : Nat → Int} {bs : Nat → Nat} {base : Nat} {D : va_G} {ws0 : va_W} {s : State}
variable {pc nx : Nat} {lo : q_L} {st : List q_V} {hp : q_H} {iv : q_I} {cl sl : Nat} {z : List q_C × List q_Lf}
theorem q_s_one {v : q_V} {V : Value} (hV : ∀ ws, q_rv ρ bs ws v V) (row : ∀ H locs ls r, w H locs cl sl nx ls (V :: r) → w H locs cl sl pc ls r)
    (h : q_one v nx lo st hp iv cl sl = some z) (hz : ∀ c ∈ z.1, q_G w cl9 nL ρ bs base D ws0 s c) : q_G w cl9 nL ρ bs base D ws0 s (pc, lo, st, hp, iv, cl, sl) := by
  intro ho ws tys H locs ls lv sR hK hP hD hS hW hE hL hF hl
  cases q_so h
  exact row _ _ _ _ (hz _ List.mem_cons_self ho ws tys H locs ls lv (V :: sR) hK hP hD hS hW hE hL ⟨hV ws, hF⟩ hl)
theorem q_s_load {P : Nat → Bool} {x : Nat} {S : Value → Prop} (hPS : ∀ ws a V, P a.1 = true → q_rv ρ bs ws a V → S V) (row : ∀ H locs ls r V, S V → ls[x]? = some (.val V) → w H locs cl sl nx ls (V :: r) → w H locs cl sl pc ls r)
    (h : q_oLoad P x nx lo st hp iv cl sl = some z) (hz : ∀ c ∈ z.1, q_G w cl9 nL ρ bs base D ws0 s c) : q_G w cl9 nL ρ bs base D ws0 s (pc, lo, st, hp, iv, cl, sl) := by
  intro ho ws tys H locs ls lv sR hK hP hD hS hW hE hL hF hl
  obtain ⟨a, h1, h⟩ := q_bd_i h
  obtain ⟨h2, h⟩ := q_if_i h
  cases q_so h
  obtain ⟨V, g1, g2⟩ := q_lk_s h1 hL
  exact row _ _ _ _ V (hPS ws a V h2 g2) (hl.2.2 _ g1) (hz _ List.mem_cons_self ho ws tys H locs ls lv (V :: sR) hK hP hD hS hW hE hL ⟨q_conc_rv ho g2, hF⟩ hl)
theorem q_s_store {P : Nat → Bool} {wd : Bool} {x : Nat} {S : Value → Prop} (hPS : ∀ ws a V, P a.1 = true → q_rv ρ bs ws a V → S V)
    (row : ∀ H locs ls r V lv, S V → lv_has ls nL lv → (∀ ls', lv_has ls' nL ((x, V) :: lv.filter (fun q => !(q.1 == x) && (!(wd && q.1 == x + 1) && !(q.1 + 1 == x && q.2.category == 2)))) → w H locs cl sl nx ls' r) → w H locs cl sl pc ls (V :: r))
    (h : q_oStore P wd x nx lo st hp iv cl sl = some z) (hz : ∀ c ∈ z.1, q_G w cl9 nL ρ bs base D ws0 s c) : q_G w cl9 nL ρ bs base D ws0 s (pc, lo, st, hp, iv, cl, sl) := by
  intro ho ws tys H locs ls lv sR hK hP hD hS hW hE hL hF hl
  obtain ⟨q, h1, h⟩ := q_bd_i h
  obtain ⟨h2, h⟩ := q_if_i h
  obtain ⟨-, h⟩ := q_if_i h
  cases q_so h
  have e := q_pop_i h1
  rw [e] at hF
  obtain ⟨V, r, rfl, g1, g2⟩ := q_F2_c hF
  refine row _ _ _ _ V lv (hPS ws _ V h2 g1) hl (fun ls' hl' => ?_)
  exact hz _ List.mem_cons_self ho ws tys H locs ls' ((x, V) :: lv.filter (fun q => !(q.1 == x) && (!(wd && q.1 == x + 1) && !(q.1 + 1 == x && q.2.category == 2)))) r hK hP hD hS hW hE ⟨⟨rfl, g1⟩, q_fil_s (fun _ => rfl) hL⟩ g2 hl'
theorem q_s_bin0 {f : Int → Int → Int} (row : ∀ H locs ls r a b, w H locs cl sl nx ls (.int (Int32.ofInt (f a b)) :: r) → w H locs cl sl pc ls (.int (Int32.ofInt b) :: .int (Int32.ofInt a) :: r))
    (h : q_oBin 0 f nx lo st hp iv cl sl = some z) (hz : ∀ c ∈ z.1, q_G w cl9 nL ρ bs base D ws0 s c) : q_G w cl9 nL ρ bs base D ws0 s (pc, lo, st, hp, iv, cl, sl) := by
  intro ho ws tys H locs ls lv sR hK hP hD hS hW hE hL hF hl
  obtain ⟨q, h1, h⟩ := q_bd_i h
  obtain ⟨q2, h2, h⟩ := q_bd_i h
  obtain ⟨h3, h⟩ := q_if_i h
  obtain ⟨h4, h5⟩ := q_and_i h3
  cases q_so h
  have e := q_pop_i h1
  have e2 := q_pop_i h2
  rw [e, e2] at hF
  obtain ⟨V, r, rfl, g1, hF1⟩ := q_F2_c hF
  obtain ⟨V2, r2, rfl, g2, hF2⟩ := q_F2_c hF1
  obtain ⟨⟨t, b⟩, q9⟩ := q
  obtain ⟨⟨u, a⟩, q8⟩ := q2
  have e3 : t = 0 := q_bq h4
  have e4 : u = 0 := q_bq h5
  subst e3; subst e4
  have e5 : V = .int (Int32.ofInt b) := g1
  have e6 : V2 = .int (Int32.ofInt a) := g2
  subst e5; subst e6
  exact row _ _ _ _ a b (hz _ List.mem_cons_self ho ws tys H locs ls lv _ hK hP hD hS hW hE hL ⟨rfl, hF2⟩ hl)
theorem q_s_bin1 {f : Int → Int → Int} (row : ∀ H locs ls r a b, w H locs cl sl nx ls (.long (Int64.ofInt (f a b)) :: r) → w H locs cl sl pc ls (.long (Int64.ofInt b) :: .long (Int64.ofInt a) :: r))
    (h : q_oBin 1 f nx lo st hp iv cl sl = some z) (hz : ∀ c ∈ z.1, q_G w cl9 nL ρ bs base D ws0 s c) : q_G w cl9 nL ρ bs base D ws0 s (pc, lo, st, hp, iv, cl, sl) := by
  intro ho ws tys H locs ls lv sR hK hP hD hS hW hE hL hF hl
  obtain ⟨q, h1, h⟩ := q_bd_i h
  obtain ⟨q2, h2, h⟩ := q_bd_i h
  obtain ⟨h3, h⟩ := q_if_i h
  obtain ⟨h4, h5⟩ := q_and_i h3
  cases q_so h
  have e := q_pop_i h1
  have e2 := q_pop_i h2
  rw [e, e2] at hF
  obtain ⟨V, r, rfl, g1, hF1⟩ := q_F2_c hF
  obtain ⟨V2, r2, rfl, g2, hF2⟩ := q_F2_c hF1
  obtain ⟨⟨t, b⟩, q9⟩ := q
  obtain ⟨⟨u, a⟩, q8⟩ := q2
  have e3 : t = 1 := q_bq h4
  have e4 : u = 1 := q_bq h5
  subst e3; subst e4
  have e5 : V = .long (Int64.ofInt b) := g1
  have e6 : V2 = .long (Int64.ofInt a) := g2
  subst e5; subst e6
  exact row _ _ _ _ a b (hz _ List.mem_cons_self ho ws tys H locs ls lv _ hK hP hD hS hW hE hL ⟨rfl, hF2⟩ hl)
theorem q_s_div0 {f : Int → Int → Int} (row : ∀ H locs ls r a b, ¬ Int32.ofInt b = 0 → w H locs cl sl nx ls (.int (Int32.ofInt (f a b)) :: r) → w H locs cl sl pc ls (.int (Int32.ofInt b) :: .int (Int32.ofInt a) :: r))
    (h : q_oDiv 0 f q_w32 nx lo st hp iv cl sl = some z) (hz : ∀ c ∈ z.1, q_G w cl9 nL ρ bs base D ws0 s c) : q_G w cl9 nL ρ bs base D ws0 s (pc, lo, st, hp, iv, cl, sl) := by
  intro ho ws tys H locs ls lv sR hK hP hD hS hW hE hL hF hl
  obtain ⟨q, h1, h⟩ := q_bd_i h
  obtain ⟨q2, h2, h⟩ := q_bd_i h
  obtain ⟨h3, h⟩ := q_if_i h
  obtain ⟨h4, h5⟩ := q_and_i h3
  obtain ⟨h5q1, h6⟩ := q_and_i h5
  cases q_so h
  have e := q_pop_i h1
  have e2 := q_pop_i h2
  rw [e, e2] at hF
  obtain ⟨V, r, rfl, g1, hF1⟩ := q_F2_c hF
  obtain ⟨V2, r2, rfl, g2, hF2⟩ := q_F2_c hF1
  obtain ⟨⟨t, b⟩, q9⟩ := q
  obtain ⟨⟨u, a⟩, q8⟩ := q2
  have e3 : t = 0 := q_bq h4
  have e4 : u = 0 := q_bq h5q1
  subst e3; subst e4
  have e5 : V = .int (Int32.ofInt b) := g1
  have e6 : V2 = .int (Int32.ofInt a) := g2
  subst e5; subst e6
  refine row _ _ _ _ a b (fun hb => ?_) (hz _ List.mem_cons_self ho ws tys H locs ls lv _ hK hP hD hS hW hE hL ⟨rfl, hF2⟩ hl)
  have h7 := q_ieq_n (q_not_i h6)
  have h8 := congrArg Int32.toInt hb
  rw [q_w32_m] at h8
  exact h7 h8
theorem q_s_div1 {f : Int → Int → Int} (row : ∀ H locs ls r a b, ¬ Int64.ofInt b = 0 → w H locs cl sl nx ls (.long (Int64.ofInt (f a b)) :: r) → w H locs cl sl pc ls (.long (Int64.ofInt b) :: .long (Int64.ofInt a) :: r))
    (h : q_oDiv 1 f q_w64 nx lo st hp iv cl sl = some z) (hz : ∀ c ∈ z.1, q_G w cl9 nL ρ bs base D ws0 s c) : q_G w cl9 nL ρ bs base D ws0 s (pc, lo, st, hp, iv, cl, sl) := by
  intro ho ws tys H locs ls lv sR hK hP hD hS hW hE hL hF hl
  obtain ⟨q, h1, h⟩ := q_bd_i h
  obtain ⟨q2, h2, h⟩ := q_bd_i h
  obtain ⟨h3, h⟩ := q_if_i h
  obtain ⟨h4, h5⟩ := q_and_i h3
  obtain ⟨h5q1, h6⟩ := q_and_i h5
  cases q_so h
  have e := q_pop_i h1
  have e2 := q_pop_i h2
  rw [e, e2] at hF
  obtain ⟨V, r, rfl, g1, hF1⟩ := q_F2_c hF
  obtain ⟨V2, r2, rfl, g2, hF2⟩ := q_F2_c hF1
  obtain ⟨⟨t, b⟩, q9⟩ := q
  obtain ⟨⟨u, a⟩, q8⟩ := q2
  have e3 : t = 1 := q_bq h4
  have e4 : u = 1 := q_bq h5q1
  subst e3; subst e4
  have e5 : V = .long (Int64.ofInt b) := g1
  have e6 : V2 = .long (Int64.ofInt a) := g2
  subst e5; subst e6
  refine row _ _ _ _ a b (fun hb => ?_) (hz _ List.mem_cons_self ho ws tys H locs ls lv _ hK hP hD hS hW hE hL ⟨rfl, hF2⟩ hl)
  have h7 := q_ieq_n (q_not_i h6)
  have h8 := congrArg Int64.toInt hb
  rw [q_w64_m] at h8
  exact h7 h8
theorem q_s_any {g : Int32 → Int32 → Int32} (row : ∀ H locs ls r a b, w H locs cl sl nx ls (.int (g a b) :: r) → w H locs cl sl pc ls (.int b :: .int a :: r))
    (h : q_oAny (fun a b => (g (Int32.ofInt a) (Int32.ofInt b)).toInt) nx lo st hp iv cl sl = some z) (hz : ∀ c ∈ z.1, q_G w cl9 nL ρ bs base D ws0 s c) : q_G w cl9 nL ρ bs base D ws0 s (pc, lo, st, hp, iv, cl, sl) := by
  intro ho ws tys H locs ls lv sR hK hP hD hS hW hE hL hF hl
  obtain ⟨q, h1, h⟩ := q_bd_i h
  obtain ⟨q2, h2, h⟩ := q_bd_i h
  have e := q_pop_i h1
  have e2 := q_pop_i h2
  rw [e, e2] at hF
  obtain ⟨V, r, rfl, g1, hF1⟩ := q_F2_c hF
  obtain ⟨V2, r2, rfl, g2, hF2⟩ := q_F2_c hF1
  cases hb : (bif Nat.beq q.1.1 0 then Nat.beq q2.1.1 0 else false) with
  | true =>
    rw [hb] at h
    cases q_so h
    obtain ⟨h4, h5⟩ := q_and_i hb
    obtain ⟨⟨t, b⟩, q9⟩ := q
    obtain ⟨⟨u, a⟩, q8⟩ := q2
    have e3 : t = 0 := q_bq h4
    have e4 : u = 0 := q_bq h5
    subst e3; subst e4
    have e5 : V = .int (Int32.ofInt b) := g1
    have e6 : V2 = .int (Int32.ofInt a) := g2
    subst e5; subst e6
    exact row _ _ _ _ _ _ (hz _ List.mem_cons_self ho ws tys H locs ls lv _ hK hP hD hS hW hE hL ⟨(by show Value.int _ = .int (Int32.ofInt (Int32.toInt _)); rw [Int32.ofInt_toInt]), hF2⟩ hl)
  | false =>
    rw [hb] at h
    obtain ⟨h3, h⟩ := q_if_i h
    obtain ⟨h4, h5⟩ := q_and_i h3
    cases q_so h
    obtain ⟨x, rfl⟩ := q_isI_i h4 g1
    obtain ⟨y, rfl⟩ := q_isI_i h5 g2
    exact row _ _ _ _ _ _ (hz _ List.mem_cons_self ho ws tys H locs ls lv _ hK hP hD hS hW hE hL ⟨⟨_, rfl⟩, hF2⟩ hl)
theorem q_s_and (row : ∀ H locs ls r a b, w H locs cl sl nx ls (.int (a &&& b) :: r) → w H locs cl sl pc ls (.int b :: .int a :: r))
    (h : q_oAnd nx lo st hp iv cl sl = some z) (hz : ∀ c ∈ z.1, q_G w cl9 nL ρ bs base D ws0 s c) : q_G w cl9 nL ρ bs base D ws0 s (pc, lo, st, hp, iv, cl, sl) := q_s_any (g := fun a b => a &&& b) row h hz
theorem q_s_un0 {g : Int32 → Int32} (row : ∀ H locs ls r a, w H locs cl sl nx ls (.int (g a) :: r) → w H locs cl sl pc ls (.int a :: r))
    (h : q_oUn 0 0 (fun a => (g (Int32.ofInt a)).toInt) nx lo st hp iv cl sl = some z) (hz : ∀ c ∈ z.1, q_G w cl9 nL ρ bs base D ws0 s c) : q_G w cl9 nL ρ bs base D ws0 s (pc, lo, st, hp, iv, cl, sl) := by
  intro ho ws tys H locs ls lv sR hK hP hD hS hW hE hL hF hl
  obtain ⟨q, h1, h⟩ := q_bd_i h
  obtain ⟨h3, h⟩ := q_if_i h
  cases q_so h
  have e := q_pop_i h1
  rw [e] at hF
  obtain ⟨V, r, rfl, g1, hF1⟩ := q_F2_c hF
  obtain ⟨⟨t, b⟩, q9⟩ := q
  have e3 : t = 0 := q_bq h3
  subst e3
  have e5 : V = .int (Int32.ofInt b) := g1
  subst e5
  exact row _ _ _ _ _ (hz _ List.mem_cons_self ho ws tys H locs ls lv _ hK hP hD hS hW hE hL ⟨(by show Value.int _ = .int (Int32.ofInt (Int32.toInt _)); rw [Int32.ofInt_toInt]), hF1⟩ hl)
theorem q_s_i2l (hr : q_rg ρ) (row : ∀ H locs ls r a, w H locs cl sl nx ls (.long a.toInt64 :: r) → w H locs cl sl pc ls (.int a :: r))
    (h : q_oI2l nx lo st hp iv cl sl = some z) (hz : ∀ c ∈ z.1, q_G w cl9 nL ρ bs base D ws0 s c) : q_G w cl9 nL ρ bs base D ws0 s (pc, lo, st, hp, iv, cl, sl) := by
  intro ho ws tys H locs ls lv sR hK hP hD hS hW hE hL hF hl
  obtain ⟨q, h1, h⟩ := q_bd_i h
  have e := q_pop_i h1
  rw [e] at hF
  obtain ⟨V, r, rfl, g1, hF1⟩ := q_F2_c hF
  obtain ⟨⟨t, b⟩, q9⟩ := q
  dsimp only at h g1
  cases hb : Nat.beq t 0 with
  | true =>
    rw [hb] at h
    cases q_so h
    have e3 : t = 0 := q_bq hb
    subst e3
    have e5 : V = .int (Int32.ofInt b) := g1
    subst e5
    exact row _ _ _ _ _ (hz _ List.mem_cons_self ho ws tys H locs ls lv _ hK hP hD hS hW hE hL ⟨(by show Value.long _ = .long (Int64.ofInt (q_w32 b)); rw [q_il]), hF1⟩ hl)
  | false =>
    rw [hb] at h
    obtain ⟨h3, h⟩ := q_if_i h
    cases q_so h
    have e3 : t = 6 := q_bq h3
    subst e3
    have e5 : V = .int (Int32.ofInt (ρ b.toNat)) := g1
    subst e5
    exact row _ _ _ _ _ (hz _ List.mem_cons_self ho ws tys H locs ls lv _ hK hP hD hS hW hE hL ⟨(by show Value.long _ = .long (Int64.ofInt (ρ b.toNat)); rw [q_il, q_w32_id (hr _).1 (hr _).2]), hF1⟩ hl)
theorem q_s_l2i (hr : q_rg ρ) (row : ∀ H locs ls r a, w H locs cl sl nx ls (.int a.toInt32 :: r) → w H locs cl sl pc ls (.long a :: r))
    (h : q_oL2i nx lo st hp iv cl sl = some z) (hz : ∀ c ∈ z.1, q_G w cl9 nL ρ bs base D ws0 s c) : q_G w cl9 nL ρ bs base D ws0 s (pc, lo, st, hp, iv, cl, sl) := by
  intro ho ws tys H locs ls lv sR hK hP hD hS hW hE hL hF hl
  obtain ⟨q, h1, h⟩ := q_bd_i h
  have e := q_pop_i h1
  rw [e] at hF
  obtain ⟨V, r, rfl, g1, hF1⟩ := q_F2_c hF
  obtain ⟨⟨t, b⟩, q9⟩ := q
  dsimp only at h g1
  cases hb : Nat.beq t 1 with
  | true =>
    rw [hb] at h
    cases q_so h
    have e3 : t = 1 := q_bq hb
    subst e3
    have e5 : V = .long (Int64.ofInt b) := g1
    subst e5
    exact row _ _ _ _ _ (hz _ List.mem_cons_self ho ws tys H locs ls lv _ hK hP hD hS hW hE hL ⟨(by show Value.int _ = .int (Int32.ofInt (q_w32 b)); rw [q_li]), hF1⟩ hl)
  | false =>
    rw [hb] at h
    obtain ⟨h3, h⟩ := q_if_i h
    cases q_so h
    have e3 : t = 7 := q_bq h3
    subst e3
    have e5 : V = .long (Int64.ofInt (ρ b.toNat)) := g1
    subst e5
    exact row _ _ _ _ _ (hz _ List.mem_cons_self ho ws tys H locs ls lv _ hK hP hD hS hW hE hL ⟨(by show Value.int _ = .int (Int32.ofInt (ρ b.toNat)); rw [q_li, q_o32]), hF1⟩ hl)
theorem q_s_unG {t u : Nat} {f : Int → Int} {V1 V2 : Int → Value} (hV1 : ∀ ws a V, q_rv ρ bs ws (t, a) V → V = V1 a) (hV2 : ∀ ws a, q_rv ρ bs ws (u, f a) (V2 a)) (row : ∀ H locs ls r a, w H locs cl sl nx ls (V2 a :: r) → w H locs cl sl pc ls (V1 a :: r))
    (h : q_oUn t u f nx lo st hp iv cl sl = some z) (hz : ∀ c ∈ z.1, q_G w cl9 nL ρ bs base D ws0 s c) : q_G w cl9 nL ρ bs base D ws0 s (pc, lo, st, hp, iv, cl, sl) := by
  intro ho ws tys H locs ls lv sR hK hP hD hS hW hE hL hF hl
  obtain ⟨q, h1, h⟩ := q_bd_i h
  obtain ⟨h3, h⟩ := q_if_i h
  cases q_so h
  have e := q_pop_i h1
  rw [e] at hF
  obtain ⟨V, r, rfl, g1, hF1⟩ := q_F2_c hF
  obtain ⟨⟨t9, b⟩, q9⟩ := q
  have e3 : t9 = t := q_bq h3
  subst e3
  have e5 := hV1 ws b V g1
  subst e5
  exact row _ _ _ _ _ (hz _ List.mem_cons_self ho ws tys H locs ls lv _ hK hP hD hS hW hE hL ⟨hV2 ws b, hF1⟩ hl)
theorem q_n32_i {r : UInt32} (h : q_n32 r = true) : vf_n32 r := by
  unfold q_n32 at h
  unfold vf_n32
  exact of_decide_eq_true h
theorem q_n64_i {r : UInt64} (h : q_n64 r = true) : vf_n64 r := by
  unfold q_n64 at h
  unfold vf_n64
  exact of_decide_eq_true h
theorem q_u32 (x : UInt32) : UInt32.ofNat (Int.ofNat x.toNat).toNat = x := by
  show UInt32.ofNat x.toNat = x
  exact UInt32.ofNat_toNat
theorem q_u64 (x : UInt64) : UInt64.ofNat (Int.ofNat x.toNat).toNat = x := by
  show UInt64.ofNat x.toNat = x
  exact UInt64.ofNat_toNat
theorem q_s_f2 {f : UInt32 → UInt32 → UInt32} (row : ∀ H locs ls r a b, vf_n32 (f a b) → w H locs cl sl nx ls (.float (f a b) :: r) → w H locs cl sl pc ls (.float b :: .float a :: r))
    (h : q_oF2 f nx lo st hp iv cl sl = some z) (hz : ∀ c ∈ z.1, q_G w cl9 nL ρ bs base D ws0 s c) : q_G w cl9 nL ρ bs base D ws0 s (pc, lo, st, hp, iv, cl, sl) := by
  intro ho ws tys H locs ls lv sR hK hP hD hS hW hE hL hF hl
  obtain ⟨q, h1, h⟩ := q_bd_i h
  obtain ⟨q2, h2, h⟩ := q_bd_i h
  obtain ⟨h3, h⟩ := q_if_i h
  obtain ⟨h3q1, h4⟩ := q_and_i h3
  obtain ⟨h4q2, h5⟩ := q_and_i h4
  cases q_so h
  have e := q_pop_i h1
  have e2 := q_pop_i h2
  rw [e, e2] at hF
  obtain ⟨V, r, rfl, g1, hF1⟩ := q_F2_c hF
  obtain ⟨V2, r2, rfl, g2, hF2⟩ := q_F2_c hF1
  obtain ⟨⟨t, b⟩, q9⟩ := q
  obtain ⟨⟨u, a⟩, q8⟩ := q2
  have e3 : t = 4 := q_bq h3q1
  have e4 : u = 4 := q_bq h4q2
  subst e3; subst e4
  have e5 : V = .float (UInt32.ofNat b.toNat) := g1
  have e6 : V2 = .float (UInt32.ofNat a.toNat) := g2
  subst e5; subst e6
  exact row _ _ _ _ _ _ (q_n32_i h5) (hz _ List.mem_cons_self ho ws tys H locs ls lv _ hK hP hD hS hW hE hL ⟨(by show Value.float _ = .float (UInt32.ofNat (Int.ofNat _).toNat); rw [q_u32]), hF2⟩ hl)
theorem q_s_d2 {f : UInt64 → UInt64 → UInt64} (row : ∀ H locs ls r a b, vf_n64 (f a b) → w H locs cl sl nx ls (.double (f a b) :: r) → w H locs cl sl pc ls (.double b :: .double a :: r))
    (h : q_oD2 f nx lo st hp iv cl sl = some z) (hz : ∀ c ∈ z.1, q_G w cl9 nL ρ bs base D ws0 s c) : q_G w cl9 nL ρ bs base D ws0 s (pc, lo, st, hp, iv, cl, sl) := by
  intro ho ws tys H locs ls lv sR hK hP hD hS hW hE hL hF hl
  obtain ⟨q, h1, h⟩ := q_bd_i h
  obtain ⟨q2, h2, h⟩ := q_bd_i h
  obtain ⟨h3, h⟩ := q_if_i h
  obtain ⟨h3q1, h4⟩ := q_and_i h3
  obtain ⟨h4q2, h5⟩ := q_and_i h4
  cases q_so h
  have e := q_pop_i h1
  have e2 := q_pop_i h2
  rw [e, e2] at hF
  obtain ⟨V, r, rfl, g1, hF1⟩ := q_F2_c hF
  obtain ⟨V2, r2, rfl, g2, hF2⟩ := q_F2_c hF1
  obtain ⟨⟨t, b⟩, q9⟩ := q
  obtain ⟨⟨u, a⟩, q8⟩ := q2
  have e3 : t = 5 := q_bq h3q1
  have e4 : u = 5 := q_bq h4q2
  subst e3; subst e4
  have e5 : V = .double (UInt64.ofNat b.toNat) := g1
  have e6 : V2 = .double (UInt64.ofNat a.toNat) := g2
  subst e5; subst e6
  exact row _ _ _ _ _ _ (q_n64_i h5) (hz _ List.mem_cons_self ho ws tys H locs ls lv _ hK hP hD hS hW hE hL ⟨(by show Value.double _ = .double (UInt64.ofNat (Int.ofNat _).toNat); rw [q_u64]), hF2⟩ hl)
theorem q_s_fc {o : CmpOp} (row : ∀ H locs ls r a b, w H locs cl sl nx ls (.int (Op.cmpValue (FP.fcmp a b) o) :: r) → w H locs cl sl pc ls (.float b :: .float a :: r))
    (h : q_oFc o nx lo st hp iv cl sl = some z) (hz : ∀ c ∈ z.1, q_G w cl9 nL ρ bs base D ws0 s c) : q_G w cl9 nL ρ bs base D ws0 s (pc, lo, st, hp, iv, cl, sl) := by
  intro ho ws tys H locs ls lv sR hK hP hD hS hW hE hL hF hl
  obtain ⟨q, h1, h⟩ := q_bd_i h
  obtain ⟨q2, h2, h⟩ := q_bd_i h
  obtain ⟨h3, h⟩ := q_if_i h
  obtain ⟨h3q1, h4q2⟩ := q_and_i h3
  cases q_so h
  have e := q_pop_i h1
  have e2 := q_pop_i h2
  rw [e, e2] at hF
  obtain ⟨V, r, rfl, g1, hF1⟩ := q_F2_c hF
  obtain ⟨V2, r2, rfl, g2, hF2⟩ := q_F2_c hF1
  obtain ⟨⟨t, b⟩, q9⟩ := q
  obtain ⟨⟨u, a⟩, q8⟩ := q2
  have e3 : t = 4 := q_bq h3q1
  have e4 : u = 4 := q_bq h4q2
  subst e3; subst e4
  have e5 : V = .float (UInt32.ofNat b.toNat) := g1
  have e6 : V2 = .float (UInt32.ofNat a.toNat) := g2
  subst e5; subst e6
  exact row _ _ _ _ _ _ (hz _ List.mem_cons_self ho ws tys H locs ls lv _ hK hP hD hS hW hE hL ⟨(by show Value.int _ = .int (Int32.ofInt (Int32.toInt _)); rw [Int32.ofInt_toInt]), hF2⟩ hl)
theorem q_s_dc {o : CmpOp} (row : ∀ H locs ls r a b, w H locs cl sl nx ls (.int (Op.cmpValue (FP.dcmp a b) o) :: r) → w H locs cl sl pc ls (.double b :: .double a :: r))
    (h : q_oDc o nx lo st hp iv cl sl = some z) (hz : ∀ c ∈ z.1, q_G w cl9 nL ρ bs base D ws0 s c) : q_G w cl9 nL ρ bs base D ws0 s (pc, lo, st, hp, iv, cl, sl) := by
  intro ho ws tys H locs ls lv sR hK hP hD hS hW hE hL hF hl
  obtain ⟨q, h1, h⟩ := q_bd_i h
  obtain ⟨q2, h2, h⟩ := q_bd_i h
  obtain ⟨h3, h⟩ := q_if_i h
  obtain ⟨h3q1, h4q2⟩ := q_and_i h3
  cases q_so h
  have e := q_pop_i h1
  have e2 := q_pop_i h2
  rw [e, e2] at hF
  obtain ⟨V, r, rfl, g1, hF1⟩ := q_F2_c hF
  obtain ⟨V2, r2, rfl, g2, hF2⟩ := q_F2_c hF1
  obtain ⟨⟨t, b⟩, q9⟩ := q
  obtain ⟨⟨u, a⟩, q8⟩ := q2
  have e3 : t = 5 := q_bq h3q1
  have e4 : u = 5 := q_bq h4q2
  subst e3; subst e4
  have e5 : V = .double (UInt64.ofNat b.toNat) := g1
  have e6 : V2 = .double (UInt64.ofNat a.toNat) := g2
  subst e5; subst e6
  exact row _ _ _ _ _ _ (hz _ List.mem_cons_self ho ws tys H locs ls lv _ hK hP hD hS hW hE hL ⟨(by show Value.int _ = .int (Int32.ofInt (Int32.toInt _)); rw [Int32.ofInt_toInt]), hF2⟩ hl)
theorem q_s_f2d (row : ∀ H locs ls r a, vf_n64 (FP.f2d a) → w H locs cl sl nx ls (.double (FP.f2d a) :: r) → w H locs cl sl pc ls (.float a :: r))
    (h : q_oF2d nx lo st hp iv cl sl = some z) (hz : ∀ c ∈ z.1, q_G w cl9 nL ρ bs base D ws0 s c) : q_G w cl9 nL ρ bs base D ws0 s (pc, lo, st, hp, iv, cl, sl) := by
  intro ho ws tys H locs ls lv sR hK hP hD hS hW hE hL hF hl
  obtain ⟨q, h1, h⟩ := q_bd_i h
  obtain ⟨h3, h⟩ := q_if_i h
  obtain ⟨h3q1, h4⟩ := q_and_i h3
  cases q_so h
  have e := q_pop_i h1
  rw [e] at hF
  obtain ⟨V, r, rfl, g1, hF1⟩ := q_F2_c hF
  obtain ⟨⟨t, b⟩, q9⟩ := q
  have e3 : t = 4 := q_bq h3q1
  subst e3
  have e5 : V = .float (UInt32.ofNat b.toNat) := g1
  subst e5
  exact row _ _ _ _ _ (q_n64_i h4) (hz _ List.mem_cons_self ho ws tys H locs ls lv _ hK hP hD hS hW hE hL ⟨(by show Value.double _ = .double (UInt64.ofNat (Int.ofNat _).toNat); rw [q_u64]), hF1⟩ hl)
theorem q_s_lcmp (hr : q_rg ρ) (row : ∀ H locs ls r a b, w H locs cl sl nx ls (.int (lg_cmp a b) :: r) → w H locs cl sl pc ls (.long b :: .long a :: r))
    (h : q_oLcmp nx lo st hp iv cl sl = some z) (hz : ∀ c ∈ z.1, q_G w cl9 nL ρ bs base D ws0 s c) : q_G w cl9 nL ρ bs base D ws0 s (pc, lo, st, hp, iv, cl, sl) := by
  intro ho ws tys H locs ls lv sR hK hP hD hS hW hE hL hF hl
  obtain ⟨q, h1, h⟩ := q_bd_i h
  obtain ⟨q2, h2, h⟩ := q_bd_i h
  obtain ⟨h3, h⟩ := q_if_i h
  obtain ⟨h3q1, h4⟩ := q_and_i h3
  obtain ⟨l, h5, h⟩ := q_bd_i h
  cases q_so h
  have e := q_pop_i h1
  have e2 := q_pop_i h2
  rw [e, e2] at hF
  obtain ⟨V, r, rfl, g1, hF1⟩ := q_F2_c hF
  obtain ⟨V2, r2, rfl, g2, hF2⟩ := q_F2_c hF1
  obtain ⟨b, rfl⟩ := q_isJ_i h3q1 g1
  obtain ⟨a, rfl⟩ := q_isJ_i h4 g2
  obtain ⟨hk, q3, h6, h7, h8⟩ := q_c3_s ho h5
  have hk2 : (q2.1.1 = 1 ∨ q2.1.1 = 7) ∧ (q.1.1 = 1 ∨ q.1.1 = 7) := by
    rcases hk with hk | hk
    · exfalso
      rcases q_or_i h4 with e9 | e9 <;> (have e9 := q_bq e9) <;> omega
    · exact hk
  have ha := q_nv_j hr hk2.1 g2
  have hb := q_nv_j hr hk2.2 g1
  refine row _ _ _ _ a b ?_
  have hm := hz (nx, lo, (0, Int.sub (Int.ofNat q3.1) 1) :: q2.2, hp, q3.2, cl, sl) (by rw [q_map_g]; exact List.mem_map.mpr ⟨q3, h6, rfl⟩) h7 ws tys H locs ls lv (.int (lg_cmp a b) :: r2) hK hP hD hS hW hE hL ⟨?_, hF2⟩ hl
  · exact hm
  · show Value.int (lg_cmp a b) = .int (Int32.ofInt (Int.sub (Int.ofNat q3.1) 1))
    have e8 : lg_cmp a b = Int32.ofInt (Int.sub (Int.ofNat q3.1) 1) := by
      unfold lg_cmp
      rcases h8 with ⟨e9, h9⟩ | ⟨e9, h9⟩ | ⟨e9, h9⟩ <;> rw [e9]
      · have h10 : ¬ a > b := fun h => by have := Int64.lt_iff_toInt_lt.mp h; omega
        have h11 : ¬ a = b := fun h => by rw [h] at ha; omega
        rw [if_neg h10, if_neg h11]; rfl
      · have h10 : ¬ a > b := fun h => by have := Int64.lt_iff_toInt_lt.mp h; omega
        have h11 : a = b := Int64.toInt_inj.mp (by omega)
        rw [if_neg h10, if_pos h11]; rfl
      · have h10 : a > b := Int64.lt_iff_toInt_lt.mpr (by omega)
        rw [if_pos h10]; rfl
    rw [e8]
def q_cd (c : ClassFile.Cond) (x y : Int32) : Prop := match c with
  | .eq => x = y
  | .ne => ¬ x = y
  | .lt => x < y
  | .ge => y ≤ x
  | .gt => y < x
  | .le => x ≤ y
theorem q_tk_s {c : ClassFile.Cond} {x y : Int32} {r : Nat} (h : (r = 0 ∧ x.toInt < y.toInt) ∨ (r = 1 ∧ x.toInt = y.toInt) ∨ (r = 2 ∧ y.toInt < x.toInt)) : (q_tk c r = true ∧ q_cd c x y) ∨ (q_tk c r = false ∧ ¬ q_cd c x y) := by
  have hl : x < y ↔ x.toInt < y.toInt := Int32.lt_iff_toInt_lt
  have hg : y < x ↔ y.toInt < x.toInt := Int32.lt_iff_toInt_lt
  have hle : x ≤ y ↔ x.toInt ≤ y.toInt := Int32.le_iff_toInt_le
  have hge : y ≤ x ↔ y.toInt ≤ x.toInt := Int32.le_iff_toInt_le
  have he : x = y ↔ x.toInt = y.toInt := Int32.toInt_inj.symm
  rcases h with ⟨rfl, h⟩ | ⟨rfl, h⟩ | ⟨rfl, h⟩ <;> cases c <;> simp only [q_cd, hl, hg, hle, hge, he] <;> first
    | exact Or.inl ⟨rfl, by omega⟩
    | exact Or.inr ⟨rfl, by omega⟩
theorem q_s_if {c : ClassFile.Cond} {x : Nat} (hr : q_rg ρ) (row : ∀ H locs ls r a, (q_cd c a 0 → w H locs cl sl x ls r) → (¬ q_cd c a 0 → w H locs cl sl nx ls r) → w H locs cl sl pc ls (.int a :: r))
    (h : q_oIf c x nx lo st hp iv cl sl = some z) (hz : ∀ c ∈ z.1, q_G w cl9 nL ρ bs base D ws0 s c) : q_G w cl9 nL ρ bs base D ws0 s (pc, lo, st, hp, iv, cl, sl) := by
  intro ho ws tys H locs ls lv sR hK hP hD hS hW hE hL hF hl
  obtain ⟨q, h1, h⟩ := q_bd_i h
  obtain ⟨l, h5, h⟩ := q_bd_i h
  cases q_so h
  have e := q_pop_i h1
  rw [e] at hF
  obtain ⟨V, r, rfl, g1, hF1⟩ := q_F2_c hF
  have hmain : ∃ (a : Int32) (q3 : Nat × q_I), V = .int a ∧ q3 ∈ l ∧ q_ok ρ q3.2 ∧ ((q3.1 = 0 ∧ a.toInt < (0 : Int32).toInt) ∨ (q3.1 = 1 ∧ a.toInt = (0 : Int32).toInt) ∨ (q3.1 = 2 ∧ (0 : Int32).toInt < a.toInt)) := by
    cases c11 : Nat.beq q.1.1 11 with
    | true =>
      rw [c11] at h5
      obtain ⟨⟨t, b⟩, q9⟩ := q
      have e1 : t = 11 := q_bq c11
      subst e1
      obtain ⟨k1, q3, k2, k3, k4⟩ := q_cO_s hr ho h5
      exact ⟨_, q3, g1, k2, k3, by rw [k1]; exact k4⟩
    | false =>
      rw [c11] at h5
      obtain ⟨h3, h5⟩ := q_if_i h5
      obtain ⟨a, rfl⟩ := q_isI_i h3 g1
      obtain ⟨hk, q3, h6, h7, h8⟩ := q_c3_s ho h5
      have hk2 : q.1.1 = 0 ∨ q.1.1 = 6 := by
        rcases hk with hk | hk
        · exact hk.1
        · have := hk.2; simp at this
      have ha := q_nv_i hr hk2 g1
      have hb : (0 : Int32).toInt = q_nv ρ (0, 0) := rfl
      rw [← ha, ← hb] at h8
      exact ⟨a, q3, rfl, h6, h7, h8⟩
  obtain ⟨a, q3, rfl, h6, h7, h8⟩ := hmain
  have hm := hz (bif q_tk c q3.1 then x else nx, lo, q.2, hp, q3.2, cl, sl) (by rw [q_map_g]; exact List.mem_map.mpr ⟨q3, h6, rfl⟩) h7 ws tys H locs ls lv r hK hP hD hS hW hE hL hF1 hl
  rcases q_tk_s (c := c) h8 with ⟨e9, h9⟩ | ⟨e9, h9⟩
  · rw [e9] at hm
    exact row _ _ _ _ a (fun _ => hm) (fun h => absurd h9 h)
  · rw [e9] at hm
    exact row _ _ _ _ a (fun h => absurd h h9) (fun _ => hm)
theorem q_s_ic {c : ClassFile.Cond} {x : Nat} (hr : q_rg ρ) (row : ∀ H locs ls r a b, (q_cd c a b → w H locs cl sl x ls r) → (¬ q_cd c a b → w H locs cl sl nx ls r) → w H locs cl sl pc ls (.int b :: .int a :: r))
    (h : q_oIc c x nx lo st hp iv cl sl = some z) (hz : ∀ c ∈ z.1, q_G w cl9 nL ρ bs base D ws0 s c) : q_G w cl9 nL ρ bs base D ws0 s (pc, lo, st, hp, iv, cl, sl) := by
  intro ho ws tys H locs ls lv sR hK hP hD hS hW hE hL hF hl
  obtain ⟨q, h1, h⟩ := q_bd_i h
  obtain ⟨q2, h2, h⟩ := q_bd_i h
  obtain ⟨h3, h⟩ := q_if_i h
  obtain ⟨h3q1, h4⟩ := q_and_i h3
  obtain ⟨l, h5, h⟩ := q_bd_i h
  cases q_so h
  have e := q_pop_i h1
  have e2 := q_pop_i h2
  rw [e, e2] at hF
  obtain ⟨V, r, rfl, g1, hF1⟩ := q_F2_c hF
  obtain ⟨V2, r2, rfl, g2, hF2⟩ := q_F2_c hF1
  obtain ⟨b, rfl⟩ := q_isI_i h3q1 g1
  obtain ⟨a, rfl⟩ := q_isI_i h4 g2
  obtain ⟨hk, q3, h6, h7, h8⟩ := q_c3_s ho h5
  have hk2 : (q2.1.1 = 0 ∨ q2.1.1 = 6) ∧ (q.1.1 = 0 ∨ q.1.1 = 6) := by
    rcases hk with hk | hk
    · exact hk
    · exfalso
      rcases q_or_i h4 with e9 | e9
      · have e9 := q_bq e9; omega
      · rcases q_or_i e9 with e9 | e9 <;> (have e9 := q_bq e9) <;> omega
  have ha := q_nv_i hr hk2.1 g2
  have hb := q_nv_i hr hk2.2 g1
  rw [← ha, ← hb] at h8
  have hm := hz (bif q_tk c q3.1 then x else nx, lo, q2.2, hp, q3.2, cl, sl) (by rw [q_map_g]; exact List.mem_map.mpr ⟨q3, h6, rfl⟩) h7 ws tys H locs ls lv r2 hK hP hD hS hW hE hL hF2 hl
  rcases q_tk_s (c := c) h8 with ⟨e9, h9⟩ | ⟨e9, h9⟩
  · rw [e9] at hm
    exact row _ _ _ _ a b (fun _ => hm) (fun h => absurd h9 h)
  · rw [e9] at hm
    exact row _ _ _ _ a b (fun h => absurd h h9) (fun _ => hm)
theorem q_s_ifn {x : Nat} (rowN : ∀ H locs ls r, w H locs cl sl x ls r → w H locs cl sl pc ls (.null :: r)) (rowR : ∀ H locs ls r a, w H locs cl sl nx ls r → w H locs cl sl pc ls (.ref a :: r))
    (h : q_oIfn x nx lo st hp iv cl sl = some z) (hz : ∀ c ∈ z.1, q_G w cl9 nL ρ bs base D ws0 s c) : q_G w cl9 nL ρ bs base D ws0 s (pc, lo, st, hp, iv, cl, sl) := by
  intro ho ws tys H locs ls lv sR hK hP hD hS hW hE hL hF hl
  obtain ⟨q, h1, h⟩ := q_bd_i h
  have e := q_pop_i h1
  rw [e] at hF
  obtain ⟨V, r, rfl, g1, hF1⟩ := q_F2_c hF
  cases hb : Nat.beq q.1.1 3 with
  | true =>
    rw [hb] at h
    cases q_so h
    have e3 := q_bq hb
    obtain ⟨⟨t, b⟩, q9⟩ := q
    have e3 : t = 3 := e3
    subst e3
    have e5 : V = .null := g1
    subst e5
    exact rowN _ _ _ _ (hz _ List.mem_cons_self ho ws tys H locs ls lv _ hK hP hD hS hW hE hL hF1 hl)
  | false =>
    rw [hb] at h
    obtain ⟨h3, h⟩ := q_if_i h
    cases q_so h
    obtain ⟨a, rfl⟩ := q_isR_i h3 g1
    exact rowR _ _ _ _ a (hz _ List.mem_cons_self ho ws tys H locs ls lv _ hK hP hD hS hW hE hL hF1 hl)
theorem q_s_goto {x : Nat} (row : ∀ H locs ls r, w H locs cl sl x ls r → w H locs cl sl pc ls r)
    (h : q_nx x lo st hp iv cl sl = some z) (hz : ∀ c ∈ z.1, q_G w cl9 nL ρ bs base D ws0 s c) : q_G w cl9 nL ρ bs base D ws0 s (pc, lo, st, hp, iv, cl, sl) := by
  intro ho ws tys H locs ls lv sR hK hP hD hS hW hE hL hF hl
  cases q_so h
  exact row _ _ _ _ (hz _ List.mem_cons_self ho ws tys H locs ls lv _ hK hP hD hS hW hE hL hF hl)
theorem q_s_dup (row : ∀ H locs ls r V, V.category = 1 → w H locs cl sl nx ls (V :: V :: r) → w H locs cl sl pc ls (V :: r))
    (h : q_oDup nx lo st hp iv cl sl = some z) (hz : ∀ c ∈ z.1, q_G w cl9 nL ρ bs base D ws0 s c) : q_G w cl9 nL ρ bs base D ws0 s (pc, lo, st, hp, iv, cl, sl) := by
  intro ho ws tys H locs ls lv sR hK hP hD hS hW hE hL hF hl
  obtain ⟨q, h1, h⟩ := q_bd_i h
  have e := q_pop_i h1
  rw [e] at hF
  obtain ⟨V, r, rfl, g1, hF1⟩ := q_F2_c hF
  have hc := q_is2_i g1
  cases hb : q_is2 q.1.1 with
  | true => rw [hb] at h; cases h
  | false =>
    rw [hb] at h hc
    cases q_so h
    exact row _ _ _ _ V hc (hz _ List.mem_cons_self ho ws tys H locs ls lv _ hK hP hD hS hW hE hL ⟨g1, g1, hF1⟩ hl)
theorem q_s_pop (row : ∀ H locs ls r V, V.category = 1 → w H locs cl sl nx ls r → w H locs cl sl pc ls (V :: r))
    (h : q_oPop nx lo st hp iv cl sl = some z) (hz : ∀ c ∈ z.1, q_G w cl9 nL ρ bs base D ws0 s c) : q_G w cl9 nL ρ bs base D ws0 s (pc, lo, st, hp, iv, cl, sl) := by
  intro ho ws tys H locs ls lv sR hK hP hD hS hW hE hL hF hl
  obtain ⟨q, h1, h⟩ := q_bd_i h
  have e := q_pop_i h1
  rw [e] at hF
  obtain ⟨V, r, rfl, g1, hF1⟩ := q_F2_c hF
  have hc := q_is2_i g1
  cases hb : q_is2 q.1.1 with
  | true => rw [hb] at h; cases h
  | false =>
    rw [hb] at h hc
    cases q_so h
    exact row _ _ _ _ V hc (hz _ List.mem_cons_self ho ws tys H locs ls lv _ hK hP hD hS hW hE hL hF1 hl)
theorem q_s_pop2 (row : ∀ H locs ls r V, V.category = 2 → w H locs cl sl nx ls r → w H locs cl sl pc ls (V :: r))
    (h : q_oPop2 nx lo st hp iv cl sl = some z) (hz : ∀ c ∈ z.1, q_G w cl9 nL ρ bs base D ws0 s c) : q_G w cl9 nL ρ bs base D ws0 s (pc, lo, st, hp, iv, cl, sl) := by
  intro ho ws tys H locs ls lv sR hK hP hD hS hW hE hL hF hl
  obtain ⟨q, h1, h⟩ := q_bd_i h
  have e := q_pop_i h1
  rw [e] at hF
  obtain ⟨V, r, rfl, g1, hF1⟩ := q_F2_c hF
  have hc := q_is2_i g1
  cases hb : q_is2 q.1.1 with
  | false => rw [hb] at h; cases h
  | true =>
    rw [hb] at h hc
    cases q_so h
    exact row _ _ _ _ V hc (hz _ List.mem_cons_self ho ws tys H locs ls lv _ hK hP hD hS hW hE hL hF1 hl)
theorem q_s_dup2 (row2 : ∀ H locs ls r V, V.category = 2 → w H locs cl sl nx ls (V :: V :: r) → w H locs cl sl pc ls (V :: r)) (row1 : ∀ H locs ls r V V2, V.category = 1 → V2.category = 1 → w H locs cl sl nx ls (V :: V2 :: V :: V2 :: r) → w H locs cl sl pc ls (V :: V2 :: r))
    (h : q_oDup2 nx lo st hp iv cl sl = some z) (hz : ∀ c ∈ z.1, q_G w cl9 nL ρ bs base D ws0 s c) : q_G w cl9 nL ρ bs base D ws0 s (pc, lo, st, hp, iv, cl, sl) := by
  intro ho ws tys H locs ls lv sR hK hP hD hS hW hE hL hF hl
  obtain ⟨q, h1, h⟩ := q_bd_i h
  have e := q_pop_i h1
  rw [e] at hF
  obtain ⟨V, r, rfl, g1, hF1⟩ := q_F2_c hF
  have hc := q_is2_i g1
  cases hb : q_is2 q.1.1 with
  | true =>
    rw [hb] at h hc
    cases q_so h
    exact row2 _ _ _ _ V hc (hz _ List.mem_cons_self ho ws tys H locs ls lv _ hK hP hD hS hW hE hL ⟨g1, g1, hF1⟩ hl)
  | false =>
    rw [hb] at h hc
    obtain ⟨q2, h2, h⟩ := q_bd_i h
    have e2 := q_pop_i h2
    rw [e2] at hF1
    obtain ⟨V2, r2, rfl, g2, hF2⟩ := q_F2_c hF1
    have hc2 := q_is2_i g2
    cases hb2 : q_is2 q2.1.1 with
    | true => rw [hb2] at h; cases h
    | false =>
      rw [hb2] at h hc2
      cases q_so h
      exact row1 _ _ _ _ V V2 hc hc2 (hz _ List.mem_cons_self ho ws tys H locs ls lv _ hK hP hD hS hW hE hL ⟨g1, g2, g1, g2, hF2⟩ hl)
theorem q_s_inc {x : Nat} {n : Int} (row : ∀ H locs ls r (a : Int) lv (k : Nat), lv_has ls nL lv → lv[k]? = some (x, .int (Int32.ofInt a)) → (∀ ls', lv_has ls' nL ((x, .int (Int32.ofInt (q_w32 (a + n)))) :: lv.filter (fun q => !(q.1 == x) && (!(false && q.1 == x + 1) && !(q.1 + 1 == x && q.2.category == 2)))) → w H locs cl sl nx ls' r) → w H locs cl sl pc ls r)
    (h : q_oInc x n nx lo st hp iv cl sl = some z) (hz : ∀ c ∈ z.1, q_G w cl9 nL ρ bs base D ws0 s c) : q_G w cl9 nL ρ bs base D ws0 s (pc, lo, st, hp, iv, cl, sl) := by
  intro ho ws tys H locs ls lv sR hK hP hD hS hW hE hL hF hl
  obtain ⟨a, h1, h⟩ := q_bd_i h
  obtain ⟨b, h2, h⟩ := q_bd_i h
  obtain ⟨-, h⟩ := q_if_i h
  cases q_so h
  obtain ⟨V, g1, g2⟩ := q_lk_s h1 hL
  obtain ⟨m, rfl, g4⟩ := q_ic_s h2 (q_conc_rv ho g2)
  obtain ⟨k, hk⟩ := List.getElem?_of_mem g1
  refine row _ _ _ _ m lv k hl hk (fun ls' hl' => ?_)
  exact hz _ List.mem_cons_self ho ws tys H locs ls' ((x, .int (Int32.ofInt (q_w32 (m + n)))) :: lv.filter (fun q => !(q.1 == x) && (!(false && q.1 == x + 1) && !(q.1 + 1 == x && q.2.category == 2)))) sR hK hP hD hS hW hE ⟨⟨rfl, g4⟩, q_fil_s (fun _ => rfl) hL⟩ hF hl'
theorem q_s_neg (row : ∀ H locs ls r a, w H locs cl sl nx ls (.int (-a) :: r) → w H locs cl sl pc ls (.int a :: r))
    (h : q_oNeg nx lo st hp iv cl sl = some z) (hz : ∀ c ∈ z.1, q_G w cl9 nL ρ bs base D ws0 s c) : q_G w cl9 nL ρ bs base D ws0 s (pc, lo, st, hp, iv, cl, sl) := q_s_un0 (g := fun a => -a) row h hz
theorem q_s_m2 {mx : Bool} {fr lc mc ms : Nat} {g : Int32 → Int32 → Int32} (hg : ∀ a b : Int, g (Int32.ofInt a) (Int32.ofInt b) = Int32.ofInt (bif q_ile (q_w32 a) (q_w32 b) then (bif mx then b else a) else (bif mx then a else b)))
    (hwid : ∀ ws r rR, q_F2 (q_rv ρ bs ws) r rR → (rR.map fun v => v.category).sum = q_wid r)
    (row : ∀ H locs ls r a b, ls.size = nL → 1 ≤ fr → (r.map fun v => v.category).sum + 13 ≤ lc → cl ≤ mc → sl ≤ ms → w H locs cl sl nx ls (.int (g a b) :: r) → w H locs cl sl pc ls (.int b :: .int a :: r))
    (h : q_oM2 mx fr lc mc ms nx lo st hp iv cl sl = some z) (hz : ∀ c ∈ z.1, q_G w cl9 nL ρ bs base D ws0 s c) : q_G w cl9 nL ρ bs base D ws0 s (pc, lo, st, hp, iv, cl, sl) := by
  intro ho ws tys H locs ls lv sR hK hP hD hS hW hE hL hF hl
  obtain ⟨q, h1, h⟩ := q_bd_i h
  obtain ⟨q2, h2, h⟩ := q_bd_i h
  obtain ⟨h3, h⟩ := q_if_i h
  obtain ⟨h3q1, h4⟩ := q_and_i h3
  obtain ⟨h4q2, h5⟩ := q_and_i h4
  obtain ⟨h5q3, h6⟩ := q_and_i h5
  obtain ⟨h6q4, h7⟩ := q_and_i h6
  obtain ⟨h7q5, h8⟩ := q_and_i h7
  cases q_so h
  have e := q_pop_i h1
  have e2 := q_pop_i h2
  rw [e, e2] at hF
  obtain ⟨V, r, rfl, g1, hF1⟩ := q_F2_c hF
  obtain ⟨V2, r2, rfl, g2, hF2⟩ := q_F2_c hF1
  obtain ⟨⟨t, b⟩, q9⟩ := q
  obtain ⟨⟨u, a⟩, q8⟩ := q2
  have e3 : t = 0 := q_bq h3q1
  have e4 : u = 0 := q_bq h4q2
  subst e3; subst e4
  have e5 : V = .int (Int32.ofInt b) := g1
  have e6 : V2 = .int (Int32.ofInt a) := g2
  subst e5; subst e6
  refine row _ _ _ _ _ _ hl.1 (q_bl h5q3) (by rw [hwid _ _ _ hF2]; exact q_bl h6q4) (q_bl h7q5) (q_bl h8) (hz _ List.mem_cons_self ho ws tys H locs ls lv _ hK hP hD hS hW hE hL ⟨?_, hF2⟩ hl)
  rw [hg]
  cases q_ile (q_w32 a) (q_w32 b) <;> cases mx <;> rfl
theorem q_s_abs {fr lc mc ms : Nat} (hr : q_rg ρ) (hwid : ∀ ws r rR, q_F2 (q_rv ρ bs ws) r rR → (rR.map fun v => v.category).sum = q_wid r)
    (row : ∀ H locs ls r a, ls.size = nL → 1 ≤ fr → (r.map fun v => v.category).sum + 13 ≤ lc → cl ≤ mc → sl ≤ ms → w H locs cl sl nx ls (.int (if 0 ≤ a then a else 0 - a) :: r) → w H locs cl sl pc ls (.int a :: r))
    (h : q_oAbs fr lc mc ms nx lo st hp iv cl sl = some z) (hz : ∀ c ∈ z.1, q_G w cl9 nL ρ bs base D ws0 s c) : q_G w cl9 nL ρ bs base D ws0 s (pc, lo, st, hp, iv, cl, sl) := by
  intro ho ws tys H locs ls lv sR hK hP hD hS hW hE hL hF hl
  obtain ⟨q, h1, h⟩ := q_bd_i h
  obtain ⟨h2, h9⟩ := q_if_i h
  obtain ⟨g3, h4⟩ := q_and_i h2
  obtain ⟨g4, h5⟩ := q_and_i h4
  obtain ⟨g5, g6⟩ := q_and_i h5
  have e := q_pop_i h1
  rw [e] at hF
  obtain ⟨V, r, rfl, g1, hF1⟩ := q_F2_c hF
  have hrow : ∀ a, w H locs cl sl nx ls (.int (if 0 ≤ a then a else 0 - a) :: r) → w H locs cl sl pc ls (.int a :: r) := fun a k9 => row _ _ _ _ a hl.1 (q_bl g3) (by rw [hwid _ _ _ hF1]; exact q_bl g4) (q_bl g5) (q_bl g6) k9
  have hge : ∀ x : Int32, 0 ≤ x ↔ 0 ≤ x.toInt := fun x => by rw [Int32.le_iff_toInt_le]; rfl
  obtain ⟨⟨t, b⟩, q9⟩ := q
  obtain ⟨c0, h9⟩ := q_if_i h9
  have e3 : t = 0 := q_bq c0
  subst e3
  have e5 : V = .int (Int32.ofInt b) := g1
  subst e5
  cases q_so h9
  refine hrow _ ?_
  refine hz _ List.mem_cons_self ho ws tys H locs ls lv _ hK hP hD hS hW hE hL ⟨?_, hF1⟩ hl
  show Value.int _ = .int (Int32.ofInt _)
  cases cg : q_ile 0 (q_w32 b) with
  | true => rw [if_pos ((hge _).mpr (by rw [q_w32_m]; exact q_ile_i cg))]; rfl
  | false =>
    rw [if_neg (fun h => by have h3 := (hge _).mp h; rw [q_w32_m] at h3; have := q_ile_n cg; omega)]
    show _ = Value.int (Int32.ofInt (Int32.toInt _))
    rw [Int32.ofInt_toInt]
theorem q_s_mj {fr lc mc ms : Nat} (hwid : ∀ ws r rR, q_F2 (q_rv ρ bs ws) r rR → (rR.map fun v => v.category).sum = q_wid r)
    (row : ∀ H locs ls r a b, ls.size = nL → 1 ≤ fr → (r.map fun v => v.category).sum + 15 ≤ lc → cl ≤ mc → sl ≤ ms → w H locs cl sl nx ls (.long (if b < a then a else b) :: r) → w H locs cl sl pc ls (.long b :: .long a :: r))
    (h : q_oMJ fr lc mc ms nx lo st hp iv cl sl = some z) (hz : ∀ c ∈ z.1, q_G w cl9 nL ρ bs base D ws0 s c) : q_G w cl9 nL ρ bs base D ws0 s (pc, lo, st, hp, iv, cl, sl) := by
  intro ho ws tys H locs ls lv sR hK hP hD hS hW hE hL hF hl
  obtain ⟨q, h1, h⟩ := q_bd_i h
  obtain ⟨q2, h2, h⟩ := q_bd_i h
  obtain ⟨h3, h⟩ := q_if_i h
  obtain ⟨h3q1, h4⟩ := q_and_i h3
  obtain ⟨h4q2, h5⟩ := q_and_i h4
  obtain ⟨h5q3, h6⟩ := q_and_i h5
  obtain ⟨h6q4, h7⟩ := q_and_i h6
  obtain ⟨h7q5, h8⟩ := q_and_i h7
  cases q_so h
  have e := q_pop_i h1
  have e2 := q_pop_i h2
  rw [e, e2] at hF
  obtain ⟨V, r, rfl, g1, hF1⟩ := q_F2_c hF
  obtain ⟨V2, r2, rfl, g2, hF2⟩ := q_F2_c hF1
  obtain ⟨⟨t, b⟩, q9⟩ := q
  obtain ⟨⟨u, a⟩, q8⟩ := q2
  have e3 : t = 1 := q_bq h3q1
  have e4 : u = 1 := q_bq h4q2
  subst e3; subst e4
  have e5 : V = .long (Int64.ofInt b) := g1
  have e6 : V2 = .long (Int64.ofInt a) := g2
  subst e5; subst e6
  have hl64 : Int64.ofInt b < Int64.ofInt a ↔ q_w64 b < q_w64 a := by rw [Int64.lt_iff_toInt_lt, q_w64_m, q_w64_m]
  refine row _ _ _ _ _ _ hl.1 (q_bl h5q3) (by rw [hwid _ _ _ hF2]; exact q_bl h6q4) (q_bl h7q5) (q_bl h8) (hz _ List.mem_cons_self ho ws tys H locs ls lv _ hK hP hD hS hW hE hL ⟨?_, hF2⟩ hl)
  show q_rv ρ bs ws (bif q_ile (q_w64 a) (q_w64 b) then (1, b) else (1, a)) _
  cases hc : q_ile (q_w64 a) (q_w64 b) with
  | true =>
    have := q_ile_i hc
    rw [if_neg (fun h9 => by have := hl64.mp h9; omega)]; rfl
  | false =>
    have := q_ile_n hc
    rw [if_pos (hl64.mpr this)]; rfl
theorem q_s_aj {fr lc mc ms : Nat} (hwid : ∀ ws r rR, q_F2 (q_rv ρ bs ws) r rR → (rR.map fun v => v.category).sum = q_wid r)
    (row : ∀ H locs ls r a, ls.size = nL → 1 ≤ fr → (r.map fun v => v.category).sum + 13 ≤ lc → cl ≤ mc → sl ≤ ms → w H locs cl sl nx ls (.long (if 0 < a then a else -a) :: r) → w H locs cl sl pc ls (.long a :: r))
    (h : q_oAJ fr lc mc ms nx lo st hp iv cl sl = some z) (hz : ∀ c ∈ z.1, q_G w cl9 nL ρ bs base D ws0 s c) : q_G w cl9 nL ρ bs base D ws0 s (pc, lo, st, hp, iv, cl, sl) := by
  intro ho ws tys H locs ls lv sR hK hP hD hS hW hE hL hF hl
  obtain ⟨q, h1, h⟩ := q_bd_i h
  obtain ⟨h3, h⟩ := q_if_i h
  obtain ⟨h3q1, h5⟩ := q_and_i h3
  obtain ⟨h5q3, h6⟩ := q_and_i h5
  obtain ⟨h6q4, h7⟩ := q_and_i h6
  obtain ⟨h7q5, h8⟩ := q_and_i h7
  cases q_so h
  have e := q_pop_i h1
  rw [e] at hF
  obtain ⟨V, r, rfl, g1, hF1⟩ := q_F2_c hF
  obtain ⟨⟨t, b⟩, q9⟩ := q
  have e3 : t = 1 := q_bq h3q1
  subst e3
  have e5 : V = .long (Int64.ofInt b) := g1
  subst e5
  have h0 : (0 : Int64) < Int64.ofInt b ↔ 0 < q_w64 b := by rw [Int64.lt_iff_toInt_lt, q_w64_m]; rfl
  refine row _ _ _ _ _ hl.1 (q_bl h5q3) (by rw [hwid _ _ _ hF1]; exact q_bl h6q4) (q_bl h7q5) (q_bl h8) (hz _ List.mem_cons_self ho ws tys H locs ls lv _ hK hP hD hS hW hE hL ⟨?_, hF1⟩ hl)
  show Value.long _ = .long (Int64.ofInt (bif q_ile (q_w64 b) 0 then q_w64 (Int.neg b) else b))
  cases hc : q_ile (q_w64 b) 0 with
  | true =>
    have := q_ile_i hc
    rw [if_neg (fun h9 => by have := h0.mp h9; omega)]
    show Value.long (-Int64.ofInt b) = .long (Int64.ofInt (q_w64 (-b)))
    rw [q_o64, Int64.ofInt_neg]
  | false =>
    have := q_ile_n hc
    rw [if_pos (h0.mpr this)]; rfl
theorem q_s_mf {fr lc mc ms : Nat} (hwid : ∀ ws r rR, q_F2 (q_rv ρ bs ws) r rR → (rR.map fun v => v.category).sum = q_wid r)
    (row : ∀ H locs ls r a b, q_n32 a = true → q_n32 b = true → va_S (q_A base) s.heap H locs → ls.size = nL → 5 ≤ fr → (r.map fun v => v.category).sum + 150 ≤ lc → cl ≤ mc → sl ≤ ms → w H locs cl sl nx ls (.float (q_fmx a b) :: r) → w H locs cl sl pc ls (.float b :: .float a :: r))
    (h : q_oMF fr lc mc ms nx lo st hp iv cl sl = some z) (hz : ∀ c ∈ z.1, q_G w cl9 nL ρ bs base D ws0 s c) : q_G w cl9 nL ρ bs base D ws0 s (pc, lo, st, hp, iv, cl, sl) := by
  intro ho ws tys H locs ls lv sR hK hP hD hS hW hE hL hF hl
  obtain ⟨q, h1, h⟩ := q_bd_i h
  obtain ⟨q2, h2, h⟩ := q_bd_i h
  obtain ⟨h3, h⟩ := q_if_i h
  obtain ⟨h3q1, h4⟩ := q_and_i h3
  obtain ⟨h4q2, h5⟩ := q_and_i h4
  obtain ⟨h5q3, h6⟩ := q_and_i h5
  obtain ⟨h6q4, h7⟩ := q_and_i h6
  obtain ⟨h7q5, h8⟩ := q_and_i h7
  obtain ⟨hn, h⟩ := q_if_i h
  obtain ⟨hn1, hn2⟩ := q_and_i hn
  cases q_so h
  have e := q_pop_i h1
  have e2 := q_pop_i h2
  rw [e, e2] at hF
  obtain ⟨V, r, rfl, g1, hF1⟩ := q_F2_c hF
  obtain ⟨V2, r2, rfl, g2, hF2⟩ := q_F2_c hF1
  obtain ⟨⟨t, b⟩, q9⟩ := q
  obtain ⟨⟨u, a⟩, q8⟩ := q2
  have e3 : t = 4 := q_bq h3q1
  have e4 : u = 4 := q_bq h4q2
  subst e3; subst e4
  have e5 : V = .float (UInt32.ofNat b.toNat) := g1
  have e6 : V2 = .float (UInt32.ofNat a.toNat) := g2
  subst e5; subst e6
  exact row _ _ _ _ _ _ hn1 hn2 hS hl.1 (q_bl h5q3) (by rw [hwid _ _ _ hF2]; exact q_bl h6q4) (q_bl h7q5) (q_bl h8) (hz _ List.mem_cons_self ho ws tys H locs ls lv _ hK hP hD hS hW hE hL ⟨(by show Value.float _ = .float (UInt32.ofNat (Int.ofNat _).toNat); rw [q_u32]), hF2⟩ hl)
theorem q_s_oneS {v : q_V} {V : Value} (hV : ∀ ws, q_rv ρ bs ws v V) (row : ∀ H locs ls r, va_S (q_A base) s.heap H locs → w H locs cl sl nx ls (V :: r) → w H locs cl sl pc ls r)
    (h : q_one v nx lo st hp iv cl sl = some z) (hz : ∀ c ∈ z.1, q_G w cl9 nL ρ bs base D ws0 s c) : q_G w cl9 nL ρ bs base D ws0 s (pc, lo, st, hp, iv, cl, sl) := by
  intro ho ws tys H locs ls lv sR hK hP hD hS hW hE hL hF hl
  cases q_so h
  exact row _ _ _ _ hS (hz _ List.mem_cons_self ho ws tys H locs ls lv (V :: sR) hK hP hD hS hW hE hL ⟨hV ws, hF⟩ hl)
theorem q_s_sl {fr lc mc ms : Nat} (hwid : ∀ ws r rR, q_F2 (q_rv ρ bs ws) r rR → (rR.map fun v => v.category).sum = q_wid r)
    (row : ∀ H locs ls r (i9 : Nat), i9 < 7 → va_S (q_A base) s.heap H locs → ls.size = nL → 5 ≤ fr → (r.map fun v => v.category).sum + 150 ≤ lc → cl ≤ mc → sl ≤ ms → w H locs cl sl nx ls (.int (Int32.ofInt (Int.ofNat (q_sb i9).length)) :: r) → w H locs cl sl pc ls (.ref (bs (3 + i9)) :: r))
    (h : q_oSl fr lc mc ms nx lo st hp iv cl sl = some z) (hz : ∀ c ∈ z.1, q_G w cl9 nL ρ bs base D ws0 s c) : q_G w cl9 nL ρ bs base D ws0 s (pc, lo, st, hp, iv, cl, sl) := by
  intro ho ws tys H locs ls lv sR hK hP hD hS hW hE hL hF hl
  obtain ⟨q, h1, h⟩ := q_bd_i h
  obtain ⟨h3, h⟩ := q_if_i h
  obtain ⟨h3q1, h4⟩ := q_and_i h3
  obtain ⟨h4a, h4b⟩ := q_and_i h4
  obtain ⟨h4c, h5⟩ := q_and_i h4b
  obtain ⟨h5q3, h6⟩ := q_and_i h5
  obtain ⟨h6q4, h7⟩ := q_and_i h6
  obtain ⟨h7q5, h8⟩ := q_and_i h7
  cases q_so h
  have e := q_pop_i h1
  rw [e] at hF
  obtain ⟨V, r, rfl, g1, hF1⟩ := q_F2_c hF
  obtain ⟨⟨t, b⟩, q9⟩ := q
  have e3 : t = 9 := q_bq h3q1
  subst e3
  have e5 : V = .ref (bs b.toNat) := g1
  have h43 : 3 ≤ b.toNat := q_bl h4a
  have h49 : b.toNat ≤ 9 := q_bl h4c
  have e6 : b.toNat = 3 + q_sw b := by show _ = 3 + (b.toNat - 3); omega
  rw [e6] at e5
  subst e5
  refine row _ _ _ _ (q_sw b) (by show b.toNat - 3 < 7; omega) hS hl.1 (q_bl h5q3) (by rw [hwid _ _ _ hF1]; exact q_bl h6q4) (q_bl h7q5) (q_bl h8) (hz _ List.mem_cons_self ho ws tys H locs ls lv _ hK hP hD hS hW hE hL ⟨?_, hF1⟩ hl)
  show Value.int _ = .int (Int32.ofInt (Int.ofNat (q_len (q_sb (q_sw b)))))
  rw [q_len_g]
theorem q_wid_s {ws : va_W} : ∀ (r : List q_V) (rR : List Value), q_F2 (q_rv ρ bs ws) r rR → (rR.map fun v => v.category).sum = q_wid r
  | [], rR, h => by rw [q_F2_n h]; rfl
  | a :: r, rR, h => by
    obtain ⟨b, m, rfl, h1, h2⟩ := q_F2_c h
    have ih := q_wid_s r m h2
    have hc := q_is2_i h1
    show b.category + (m.map fun v => v.category).sum = bif q_is2 a.1 then Nat.succ (Nat.succ (q_wid r)) else Nat.succ (q_wid r)
    rw [ih, hc]
    cases q_is2 a.1
    · show 1 + q_wid r = q_wid r + 1; omega
    · show 2 + q_wid r = q_wid r + 2; omega
theorem q_s_obj {fr lc : Nat} (row : ∀ H locs ls r a, ls.size = nL → 1 ≤ fr → (r.map fun v => v.category).sum + 12 ≤ lc → w H locs cl sl nx ls r → w H locs cl sl pc ls (.ref a :: r))
    (h : q_oObj fr lc nx lo st hp iv cl sl = some z) (hz : ∀ c ∈ z.1, q_G w cl9 nL ρ bs base D ws0 s c) : q_G w cl9 nL ρ bs base D ws0 s (pc, lo, st, hp, iv, cl, sl) := by
  intro ho ws tys H locs ls lv sR hK hP hD hS hW hE hL hF hl
  obtain ⟨q, h1, h⟩ := q_bd_i h
  obtain ⟨h3, h⟩ := q_if_i h
  obtain ⟨h3q1, h4⟩ := q_and_i h3
  obtain ⟨h4q2, h5⟩ := q_and_i h4
  cases q_so h
  have e := q_pop_i h1
  rw [e] at hF
  obtain ⟨V, r, rfl, g1, hF1⟩ := q_F2_c hF
  obtain ⟨a, rfl⟩ := q_isR_i (v := q.1) (by unfold q_isR; rw [h3q1]; rfl) g1
  exact row _ _ _ _ a hl.1 (q_bl h4q2) (by rw [q_wid_s _ _ hF1]; exact q_bl h5) (hz _ List.mem_cons_self ho ws tys H locs ls lv _ hK hP hD hS hW hE hL hF1 hl)
end q_sec
