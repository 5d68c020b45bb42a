/-! Part 08: the instructions that read and write cells. Printed in part by wip/tools/gen08.py. -/
theorem q_enum_s {ρ : Nat → Int} {bs : Nat → Nat} {ws : va_W} {iv : q_I} {a : q_V} {l : List (Int × q_I)} {V : Value} (hr : q_rg ρ) (ho : q_ok ρ iv) (h : q_enum iv a = some l) (hv : q_rv ρ bs ws a V) : ∃ x : Int32, V = .int x ∧ ∃ q ∈ l, q_ok ρ q.2 ∧ x.toInt = q.1 := by
  obtain ⟨t, v⟩ := a
  unfold q_enum at h
  dsimp only at h
  cases hb : Nat.beq t 0 with
  | true =>
    rw [hb] at h
    have e : t = 0 := q_bq hb
    subst e
    cases q_so h
    exact ⟨_, hv, _, List.mem_cons_self, ho, q_w32_m v⟩
  | false =>
    rw [hb] at h
    cases hb2 : Nat.beq t 6 with
    | false => rw [hb2] at h; cases h
    | true =>
      rw [hb2] at h
      have e : t = 6 := q_bq hb2
      subst e
      obtain ⟨p, h1, h⟩ := q_bd_i h
      obtain ⟨h2, h⟩ := q_if_i h
      cases q_so h
      obtain ⟨g1, g2⟩ := ho _ _ h1
      have key : ∀ n : Nat, ∀ m : Nat, m < n → (Int.add p.1 (Int.ofNat m), q_up iv v.toNat (Int.add p.1 (Int.ofNat m), Int.add p.1 (Int.ofNat m))) ∈ q_span iv v.toNat p.1 n := by
        intro n
        induction n with
        | zero => intro m hm; omega
        | succ n ih =>
          intro m hm
          show _ ∈ (_ :: q_span iv v.toNat p.1 n)
          by_cases e : m = n
          · subst e; exact List.mem_cons_self
          · exact List.mem_cons_of_mem _ (ih m (by omega))
      have e0 : Int.add p.1 (Int.ofNat (ρ v.toNat - p.1).toNat) = ρ v.toNat := by
        show p.1 + ((ρ v.toNat - p.1).toNat : Int) = _
        omega
      have hm := key (Nat.succ (Int.sub p.2 p.1).toNat) (ρ v.toNat - p.1).toNat (by
        show _ < (p.2 - p.1).toNat + 1
        omega)
      rw [e0] at hm
      refine ⟨_, hv, _, hm, q_ok_up ho (Int.le_refl _) (Int.le_refl _), ?_⟩
      rw [q_w32_m, q_w32_id (hr _).1 (hr _).2]
theorem q_ix {x : Int32} {z : Int} {n : Nat} (h : x.toInt = z) (hb : (bif q_ile 0 z then Nat.ble (Nat.succ z.toNat) n else false) = true) : vp_in x n ∧ x.toNatClampNeg = z.toNat ∧ z.toNat < n := by
  obtain ⟨h1, h2⟩ := q_and_i hb
  have h1 := q_ile_i h1
  have h2 : z.toNat + 1 ≤ n := q_bl h2
  refine ⟨vp_in_iff.mpr ⟨by omega, by omega⟩, ?_, by omega⟩
  show x.toInt.toNat = _
  rw [h]
section q_hsec
variable {w : Heap → List Loc → Nat → Nat → Nat → Array Slot → List Value → Prop} {cl9 : List vw_C} {nL : Nat} {ρ : Nat → Int} {bs : Nat → Nat} {base : Nat} {D : va_G} {ws0 : va_W} {s : State}
variable {pc nx : Nat} {lo : q_L} {st : List q_V} {hp : q_H} {iv : q_I} {cl sl : Nat} {z : List q_C × List q_Lf}
theorem q_s_sc {fr lc mc ms : Nat} (hwid : ∀ ws r rR, q_F2 (q_rv ρ bs ws) r rR → (rR.map fun v => v.category).sum = q_wid r)
    (row : ∀ H locs ls r (i9 : Nat) (j9 : Int32) (c9 : Int), i9 < 7 → vp_in j9 (q_sb i9).length → (q_sb i9)[j9.toNatClampNeg]? = some c9 → va_S (q_A base) s.heap H locs → ls.size = nL → 5 ≤ fr → (r.map fun v => v.category).sum + 150 ≤ lc → cl ≤ mc → sl ≤ ms → w H locs cl sl nx ls (.int (Int32.ofInt c9) :: r) → w H locs cl sl pc ls (.int j9 :: .ref (bs (3 + i9)) :: r))
    (h : q_oSc fr lc mc ms nx lo st hp iv cl sl = some z) (hz : ∀ c ∈ z.1, q_G w cl9 nL ρ bs base D ws0 s c) : q_G w cl9 nL ρ bs base D ws0 s (pc, lo, st, hp, iv, cl, sl) := by
  intro ho ws tys H locs ls lv sR hK hP hD hS hW hE hL hF hl
  obtain ⟨q, h1, h⟩ := q_bd_i h
  obtain ⟨q2, h2, h⟩ := q_bd_i h
  obtain ⟨h3, h⟩ := q_if_i h
  obtain ⟨h3q0, h3⟩ := q_and_i h3
  obtain ⟨h3q1, h4⟩ := q_and_i h3
  obtain ⟨h4a, h4b⟩ := q_and_i h4
  obtain ⟨h4c, h5⟩ := q_and_i h4b
  obtain ⟨h5q3, h6⟩ := q_and_i h5
  obtain ⟨h6q4, h7⟩ := q_and_i h6
  obtain ⟨h7q5, h8⟩ := q_and_i h7
  obtain ⟨hin, h⟩ := q_if_i h
  obtain ⟨c, hc, h⟩ := q_bd_i h
  cases q_so h
  have e := q_pop_i h1
  have e2 := q_pop_i h2
  rw [e, e2] at hF
  obtain ⟨V, r, rfl, g1, hF1⟩ := q_F2_c hF
  obtain ⟨V2, r2, rfl, g2, hF2⟩ := q_F2_c hF1
  obtain ⟨⟨t, j⟩, q9⟩ := q
  obtain ⟨⟨u, b⟩, q8⟩ := q2
  have e3 : t = 0 := q_bq h3q0
  have e4 : u = 9 := q_bq h3q1
  subst e3; subst e4
  have e5 : V = .int (Int32.ofInt j) := g1
  have e7 : V2 = .ref (bs b.toNat) := g2
  have h43 : 3 ≤ b.toNat := q_bl h4a
  have h49 : b.toNat ≤ 9 := q_bl h4c
  have e6 : b.toNat = 3 + q_sw b := by show _ = 3 + (b.toNat - 3); omega
  rw [e6] at e7
  subst e5; subst e7
  have hin : (bif q_ile 0 (q_w32 j) then Nat.ble (Nat.succ (q_w32 j).toNat) (q_len (q_sb (q_sw b))) else false) = true := hin
  rw [q_len_g] at hin
  have hc : q_nth (q_sb (q_sw b)) (q_w32 j).toNat = some c := hc
  rw [q_nth_g] at hc
  obtain ⟨i1, i2, i3⟩ := q_ix (q_w32_m j) hin
  exact row _ _ _ _ (q_sw b) _ c (by show b.toNat - 3 < 7; omega) i1 (by rw [i2]; exact hc) hS hl.1 (q_bl h5q3) (by rw [hwid _ _ _ hF2]; exact q_bl h6q4) (q_bl h7q5) (q_bl h8) (hz _ List.mem_cons_self ho ws tys H locs ls lv _ hK hP hD hS hW hE hL ⟨rfl, hF2⟩ hl)
theorem q_s_get {x y : Nat} (row : ∀ (ws : va_W) (tys : List (ClassId × FieldType)) (H : Heap) (locs : List Loc) (ls : Array Slot) (r : List Value) (k a : Nat) (fs : List Value) (V : Value), va_K D cl9 tys s → va_P D cl9 ws H → ws[k]? = some (a, .inr (x, fs)) → fs[y]? = some V → w H locs cl sl nx ls (V :: r) → w H locs cl sl pc ls (.ref a :: r))
    (h : q_oGet x y nx lo st hp iv cl sl = some z) (hz : ∀ c ∈ z.1, q_G w cl9 nL ρ bs base D ws0 s c) : q_G w cl9 nL ρ bs base D ws0 s (pc, lo, st, hp, iv, cl, sl) := by
  intro ho ws tys H locs ls lv sR hK hP hD hS hW hE hL hF hl
  obtain ⟨q, h1, h⟩ := q_bd_i h
  obtain ⟨c, h2, h⟩ := q_bd_i h
  obtain ⟨h3, h⟩ := q_if_i h
  obtain ⟨h4, h5⟩ := q_and_i h3
  obtain ⟨a, h6, h⟩ := q_bd_i h
  cases q_so h
  have e := q_pop_i h1
  rw [e] at hF
  obtain ⟨V, r, rfl, g1, hF1⟩ := q_F2_c hF
  obtain ⟨b, e9, k1, rfl, k3⟩ := q_at_i hW h2 g1
  obtain ⟨kd, n, fs, ar⟩ := c
  have e3 : kd = 0 := q_bq h4
  have e4 : n = x := q_bq h5
  subst e3; subst e4
  obtain ⟨fsR, rfl, hf⟩ := k3
  rw [q_nth_g] at h6
  obtain ⟨V, hv1, hv2⟩ := q_F2_g hf _ _ h6
  exact row ws tys _ _ _ _ _ b fsR V hK hP k1 hv1 (hz _ List.mem_cons_self ho ws tys H locs ls lv _ hK hP hD hS hW hE hL ⟨q_conc_rv ho hv2, hF1⟩ hl)
theorem q_s_put {x y t : Nat} {S : Value → Prop} (hfit : ∀ ws v V, q_fit t v = true → q_rv ρ bs ws v V → S V)
    (row : ∀ (ws : va_W) (tys : List (ClassId × FieldType)) (H : Heap) (locs : List Loc) (ls : Array Slot) (r : List Value) (k a : Nat) (fs : List Value) (V : Value), va_K D cl9 tys s → va_P D cl9 ws H → va_D (q_A base) ws → va_S (q_A base) s.heap H locs → ws[k]? = some (a, .inr (x, fs)) → y < fs.length → S V →
      (∀ H1 locs1, va_P D cl9 (ws.set k (a, .inr (x, fs.set y V))) H1 → va_D (q_A base) (ws.set k (a, .inr (x, fs.set y V))) → va_S (q_A base) s.heap H1 locs1 → w H1 locs1 cl sl nx ls r) → w H locs cl sl pc ls (V :: .ref a :: r))
    (h : q_oPut x y t nx lo st hp iv cl sl = some z) (hz : ∀ c ∈ z.1, q_G w cl9 nL ρ bs base D ws0 s c) : q_G w cl9 nL ρ bs base D ws0 s (pc, lo, st, hp, iv, cl, sl) := by
  intro ho ws tys H locs ls lv sR hK hP hD hS hW hE hL hF hl
  obtain ⟨q, h1, h⟩ := q_bd_i h
  obtain ⟨q2, h2, h⟩ := q_bd_i h
  obtain ⟨c, h3, h⟩ := q_bd_i h
  obtain ⟨h4, h⟩ := q_if_i h
  obtain ⟨h5, h6⟩ := q_and_i h4
  obtain ⟨h7, h8⟩ := q_and_i h6
  obtain ⟨h9, h10⟩ := q_and_i h8
  cases q_so h
  have e := q_pop_i h1
  have e2 := q_pop_i h2
  rw [e, e2] at hF
  obtain ⟨V, r, rfl, g1, hF1⟩ := q_F2_c hF
  obtain ⟨V2, r2, rfl, g2, hF2⟩ := q_F2_c hF1
  obtain ⟨b, e9, k1, rfl, k3⟩ := q_at_i hW h3 g2
  obtain ⟨kd, n, fs, ar⟩ := c
  have e3 : kd = 0 := q_bq h5
  have e4 : n = x := q_bq h7
  subst e3; subst e4
  obtain ⟨fsR, rfl, hf⟩ := k3
  have hlen : y < fsR.length := by
    have := q_bl h10
    rw [q_len_g, q_F2_l hf] at this
    exact this
  refine row ws tys _ _ _ _ _ b fsR V hK hP hD hS k1 hlen (hfit ws _ V h9 g1) (fun H1 locs1 hP1 hD1 hS1 => ?_)
  have hex : q_Ex ws (ws.set q2.1.2.toNat (b, .inr (n, fsR.set y V))) := q_Ex.st k1
  refine hz _ List.mem_cons_self ho _ tys H1 locs1 ls lv _ hK hP1 hD1 hS1 (hW.put k1 ⟨_, rfl, ?_⟩) (hE.tr hex) (q_F2_m (fun a b h => ⟨h.1, h.2.ex hex⟩) hL) (q_F2_m (fun a b h => h.ex hex) hF2) hl
  show q_F2 _ (q_up fs y q.1) _
  rw [q_up_g]
  exact q_F2_s (q_F2_m (fun a b h => h.ex hex) hf) y _ _ (g1.ex hex)
theorem q_s_new {x mc ms : Nat} {fs : List q_V} {fsR : List Value} (hfs : ∀ ws, q_F2 (q_rv ρ bs ws) fs fsR)
    (row : ∀ (ws : va_W) (tys : List (ClassId × FieldType)) (H : Heap) (locs : List Loc) (ls : Array Slot) (r : List Value), va_K D cl9 tys s → va_P D cl9 ws H → va_D (q_A base) ws → va_S (q_A base) s.heap H locs → cl + 1 ≤ mc → sl + fs.length ≤ ms →
      (∀ q H1, va_P D cl9 (ws ++ [(q, .inr (x, fsR))]) H1 → va_D (q_A base) (ws ++ [(q, .inr (x, fsR))]) → va_S (q_A base) s.heap H1 locs → w H1 locs (cl + 1) (sl + fs.length) nx ls (.ref q :: r)) → w H locs cl sl pc ls r)
    (h : q_oNew x fs mc ms nx lo st hp iv cl sl = some z) (hz : ∀ c ∈ z.1, q_G w cl9 nL ρ bs base D ws0 s c) : q_G w cl9 nL ρ bs base D ws0 s (pc, lo, st, hp, iv, cl, sl) := by
  intro ho ws tys H locs ls lv sR hK hP hD hS hW hE hL hF hl
  obtain ⟨h1, h⟩ := q_if_i h
  obtain ⟨h2, h3⟩ := q_and_i h1
  obtain ⟨h4, h5⟩ := q_and_i h3
  cases q_so h
  have h4' : sl + q_len fs ≤ ms := q_bl h4
  rw [q_len_g] at h4'
  refine row ws tys _ _ _ _ hK hP hD hS (q_bl h2) h4' (fun q H1 hP1 hD1 hS1 => ?_)
  have hex : q_Ex ws (ws ++ [(q, .inr (x, fsR))]) := q_Ex.pu ws _
  have hm := hz _ List.mem_cons_self ho (ws ++ [(q, .inr (x, fsR))]) tys H1 locs ls lv (.ref q :: sR) hK hP1 hD1 hS1 (hW.new (q_bl h5) (fun _ _ h => h) ⟨_, rfl, hfs _⟩) (hE.tr hex) (q_F2_m (fun a b h => ⟨h.1, h.2.ex hex⟩) hL) ⟨⟨(q, .inr (x, fsR)), ?_, rfl⟩, q_F2_m (fun a b h => h.ex hex) hF⟩ hl
  · have e : Nat.add sl (q_len fs) = sl + fs.length := by rw [q_len_g]; rfl
    rw [← e]
    exact hm
  · show (ws ++ [(q, _)])[(Int.ofNat hp.1).toNat]? = _
    rw [show (Int.ofNat hp.1).toNat = ws.length from hW.1.symm, List.getElem?_append_right (Nat.le_refl _), Nat.sub_self]
    rfl
theorem q_s_nwa {k mc ms : Nat} {v0 : q_V} {ty : FieldType} {c0 : Nat → va_E → Prop} (hrc : ∀ (ws : va_W) (tys : List (ClassId × FieldType)) (N : Nat) (e : va_E) (t : Nat), N ≤ 2000 → c0 N e → (∀ cA x, e = .inl (cA, x) → tys[t]? = some (cA, ty)) → q_rc ρ bs ws tys (k, N, [], q_mk v0 11) e)
    (row : ∀ (ws : va_W) (tys : List (ClassId × FieldType)) (H : Heap) (locs : List Loc) (ls : Array Slot) (r : List Value) (n : Int32), va_K D cl9 tys s → va_P D cl9 ws H → va_D (q_A base) ws → va_S (q_A base) s.heap H locs → 0 ≤ n.toInt → n.toInt ≤ 2000 → cl + 1 ≤ mc → sl + n.toInt.toNat ≤ ms →
      (∀ q cA a0 H1, c0 n.toInt.toNat (.inl (cA, a0)) → va_K D cl9 (tys ++ [(cA, ty)]) s → va_P D cl9 (ws ++ [(q, .inl (cA, a0))]) H1 → va_D (q_A base) (ws ++ [(q, .inl (cA, a0))]) → va_S (q_A base) s.heap H1 locs → w H1 locs (cl + 1) (sl + n.toInt.toNat) nx ls (.ref q :: r)) → w H locs cl sl pc ls (.int n :: r))
    (h : q_oNwa k v0 mc ms nx lo st hp iv cl sl = some z) (hz : ∀ c ∈ z.1, q_G w cl9 nL ρ bs base D ws0 s c) : q_G w cl9 nL ρ bs base D ws0 s (pc, lo, st, hp, iv, cl, sl) := by
  intro ho ws tys H locs ls lv sR hK hP hD hS hW hE hL hF hl
  obtain ⟨q, h1, h⟩ := q_bd_i h
  obtain ⟨h2, h⟩ := q_if_i h
  obtain ⟨h3, h4⟩ := q_and_i h2
  obtain ⟨h5, h6⟩ := q_and_i h4
  obtain ⟨h7, h8⟩ := q_and_i h6
  obtain ⟨h9, h10⟩ := q_and_i h8
  obtain ⟨h11, h12⟩ := q_and_i h10
  cases q_so h
  have e := q_pop_i h1
  rw [e] at hF
  obtain ⟨V, r, rfl, g1, hF1⟩ := q_F2_c hF
  obtain ⟨⟨t, b⟩, q9⟩ := q
  have e3 : t = 0 := q_bq h3
  subst e3
  have e5 : V = .int (Int32.ofInt b) := g1
  subst e5
  have hi5 := q_ile_i h5
  have hi7 := q_ile_i h7
  have hi11 : sl + (q_w32 b).toNat ≤ ms := q_bl h11
  dsimp only at hi5 hi7
  refine row ws tys _ _ _ _ (Int32.ofInt b) hK hP hD hS (by rw [q_w32_m]; exact hi5) (by rw [q_w32_m]; exact hi7) (q_bl h9) (by rw [q_w32_m]; exact hi11) (fun q cA a0 H1 hc0 hK1 hP1 hD1 hS1 => ?_)
  rw [q_w32_m] at hc0 ⊢
  have hex : q_Ex ws (ws ++ [(q, .inl (cA, a0))]) := q_Ex.pu ws _
  have hty : q_Et tys (tys ++ [(cA, ty)]) := fun t x hx => by
    have hl := (List.getElem?_eq_some_iff.mp hx).1
    rw [List.getElem?_append_left hl]; exact hx
  refine hz _ List.mem_cons_self ho (ws ++ [(q, .inl (cA, a0))]) (tys ++ [(cA, ty)]) H1 locs ls lv (.ref q :: r) hK1 hP1 hD1 hS1 (hW.new (q_bl h12) hty (hrc _ _ _ _ tys.length (by dsimp only; omega) hc0 (fun cB x hx => ?_))) (hE.tr hex) (q_F2_m (fun a b h => ⟨h.1, h.2.ex hex⟩) hL) ⟨⟨(q, .inl (cA, a0)), ?_, rfl⟩, q_F2_m (fun a b h => h.ex hex) hF1⟩ hl
  · have hx2 := Sum.inl.inj hx
    rw [← (Prod.mk.inj hx2).1, List.getElem?_append_right (Nat.le_refl _), Nat.sub_self]
    rfl
  · show (ws ++ [(q, _)])[(Int.ofNat hp.1).toNat]? = _
    rw [show (Int.ofNat hp.1).toNat = ws.length from hW.1.symm, List.getElem?_append_right (Nat.le_refl _), Nat.sub_self]
    rfl
theorem q_s_len {sL : Nat} (rowS : ∀ H locs ls r (m9 : Nat), m9 ≤ 2 → va_S (q_A base) s.heap H locs → w H locs cl sl nx ls (.int (Int32.ofInt (Int.ofNat (q_ln sL m9))) :: r) → w H locs cl sl pc ls (.ref (bs m9) :: r))
    (row : ∀ (ws : va_W) (tys : List (ClassId × FieldType)) (H : Heap) (locs : List Loc) (ls : Array Slot) (r : List Value) (k a : Nat) (cA : ClassId) (x : vp_A) (t : Nat) (ty : FieldType), va_K D cl9 tys s → va_P D cl9 ws H → ws[k]? = some (a, .inl (cA, x)) → tys[t]? = some (cA, ty) → w H locs cl sl nx ls (.int (Int32.ofInt (Int.ofNat x.1)) :: r) → w H locs cl sl pc ls (.ref a :: r))
    (h : q_oLen sL nx lo st hp iv cl sl = some z) (hz : ∀ c ∈ z.1, q_G w cl9 nL ρ bs base D ws0 s c) : q_G w cl9 nL ρ bs base D ws0 s (pc, lo, st, hp, iv, cl, sl) := by
  intro ho ws tys H locs ls lv sR hK hP hD hS hW hE hL hF hl
  obtain ⟨q, h1, h⟩ := q_bd_i h
  have e := q_pop_i h1
  rw [e] at hF
  obtain ⟨V, r, rfl, g1, hF1⟩ := q_F2_c hF
  cases hb : Nat.beq q.1.1 9 with
  | true =>
    rw [hb] at h
    obtain ⟨h2m, h⟩ := q_if_i h
    cases q_so h
    obtain ⟨⟨t, b⟩, q9⟩ := q
    have e3 : t = 9 := q_bq hb
    subst e3
    have e5 : V = .ref (bs b.toNat) := g1
    subst e5
    exact rowS _ _ _ _ _ (q_bl h2m) hS (hz _ List.mem_cons_self ho ws tys H locs ls lv _ hK hP hD hS hW hE hL ⟨rfl, hF1⟩ hl)
  | false =>
    rw [hb] at h
    obtain ⟨c, h2, h⟩ := q_bd_i h
    obtain ⟨h3, h⟩ := q_if_i h
    cases q_so h
    obtain ⟨b, e9, k1, rfl, k3⟩ := q_at_i hW h2 g1
    obtain ⟨kd, n, fs, ar⟩ := c
    obtain ⟨h3a, h3b⟩ := q_and_i h3
    have h33 : 1 ≤ kd ∧ kd ≤ 5 := ⟨q_bl h3a, q_bl h3b⟩
    clear h3 h3a h3b
    match kd, k3, h33 with
    | 1, k3, _ =>
      obtain ⟨-, cA, t, f, rfl, ht, -⟩ := k3
      exact row ws tys _ _ _ _ _ _ cA _ t _ hK hP k1 ht (hz _ List.mem_cons_self ho ws tys H locs ls lv _ hK hP hD hS hW hE hL ⟨rfl, hF1⟩ hl)
    | 2, k3, _ =>
      obtain ⟨-, cA, t, f, rfl, ht, -⟩ := k3
      exact row ws tys _ _ _ _ _ _ cA _ t _ hK hP k1 ht (hz _ List.mem_cons_self ho ws tys H locs ls lv _ hK hP hD hS hW hE hL ⟨rfl, hF1⟩ hl)
    | 3, k3, _ =>
      obtain ⟨-, cA, t, f, rfl, ht, -⟩ := k3
      exact row ws tys _ _ _ _ _ _ cA _ t _ hK hP k1 ht (hz _ List.mem_cons_self ho ws tys H locs ls lv _ hK hP hD hS hW hE hL ⟨rfl, hF1⟩ hl)
    | 4, k3, _ =>
      obtain ⟨-, cA, t, f, rfl, ht, -⟩ := k3
      exact row ws tys _ _ _ _ _ _ cA _ t _ hK hP k1 ht (hz _ List.mem_cons_self ho ws tys H locs ls lv _ hK hP hD hS hW hE hL ⟨rfl, hF1⟩ hl)
    | 5, k3, _ =>
      obtain ⟨-, cA, t, f, rfl, ht, -⟩ := k3
      exact row ws tys _ _ _ _ _ _ cA _ t _ hK hP k1 ht (hz _ List.mem_cons_self ho ws tys H locs ls lv _ hK hP hD hS hW hE hL ⟨rfl, hF1⟩ hl)
    | kd + 6, k3, h33 => exact absurd h33.2 (by omega)
theorem q_s_ald1 {sL : Nat} (hr : q_rg ρ) (rowS : ∀ H locs ls r (i : Int32) (m9 : Nat), m9 ≤ 2 → va_S (q_A base) s.heap H locs → vp_in i (q_ln sL m9) → w H locs cl sl nx ls (.int (Int32.ofInt (bif Nat.beq m9 0 then ρ i.toNatClampNeg else q_lg m9 i.toNatClampNeg)) :: r) → w H locs cl sl pc ls (.int i :: .ref (bs m9) :: r))
    (row : ∀ (ws : va_W) (tys : List (ClassId × FieldType)) (H : Heap) (locs : List Loc) (ls : Array Slot) (r : List Value) (k a : Nat) (cA : ClassId) (n t : Nat) (f : Nat → Int32) (i : Int32), va_K D cl9 tys s → va_P D cl9 ws H → ws[k]? = some (a, .inl (cA, n, .inl f)) → tys[t]? = some (cA, .int) → vp_in i n → w H locs cl sl nx ls (.int (f i.toNatClampNeg) :: r) → w H locs cl sl pc ls (.int i :: .ref a :: r))
    (h : q_oAld 1 sL nx lo st hp iv cl sl = some z) (hz : ∀ c ∈ z.1, q_G w cl9 nL ρ bs base D ws0 s c) : q_G w cl9 nL ρ bs base D ws0 s (pc, lo, st, hp, iv, cl, sl) := by
  intro ho ws tys H locs ls lv sR hK hP hD hS hW hE hL hF hl
  obtain ⟨q, h1, h⟩ := q_bd_i h
  obtain ⟨q2, h2, h⟩ := q_bd_i h
  have e := q_pop_i h1
  have e2 := q_pop_i h2
  rw [e, e2] at hF
  obtain ⟨V, r, rfl, g1, hF1⟩ := q_F2_c hF
  obtain ⟨V2, r2, rfl, g2, hF2⟩ := q_F2_c hF1
  cases hb : Nat.beq q2.1.1 9 with
  | true =>
    rw [hb] at h
    obtain ⟨h3, h⟩ := q_if_i h
    obtain ⟨h2m, h3⟩ := q_and_i h3
    obtain ⟨-, h4⟩ := q_and_i h3
    obtain ⟨h5, h6⟩ := q_and_i h4
    cases q_so h
    obtain ⟨⟨t, b⟩, q9⟩ := q
    obtain ⟨⟨u, a⟩, q8⟩ := q2
    have e3 : u = 9 := q_bq hb
    have e4 : t = 0 := q_bq h5
    subst e3; subst e4
    have e5 : V = .int (Int32.ofInt b) := g1
    have e6 : V2 = .ref (bs a.toNat) := g2
    subst e5; subst e6
    obtain ⟨i1, i2, i3⟩ := q_ix (q_w32_m b) h6
    refine rowS _ _ _ _ _ a.toNat (q_bl h2m) hS i1 (hz _ List.mem_cons_self ho ws tys H locs ls lv _ hK hP hD hS hW hE hL ⟨?_, hF2⟩ hl)
    show q_rv ρ bs ws (bif Nat.beq a.toNat 0 then q_conc iv (6, q_w32 b) else (0, q_lg a.toNat (q_w32 b).toNat)) _
    cases Nat.beq a.toNat 0 with
    | true =>
      have h66 : q_rv ρ bs ws (6, q_w32 b) (.int (Int32.ofInt (ρ (Int32.ofInt b).toNatClampNeg))) := by
        show Value.int _ = .int (Int32.ofInt (ρ (q_w32 b).toNat))
        rw [i2]
      exact q_conc_rv ho h66
    | false => show Value.int _ = .int (Int32.ofInt _); rw [i2]; rfl
  | false =>
    rw [hb] at h
    obtain ⟨c, h3, h⟩ := q_bd_i h
    obtain ⟨h4, h⟩ := q_if_i h
    obtain ⟨l, h5, h⟩ := q_bd_i h
    obtain ⟨cs, h6, h⟩ := q_bd_i h
    cases q_so h
    obtain ⟨b, e9, k1, rfl, k3⟩ := q_at_i hW h3 g2
    obtain ⟨kd, n, fs, ar⟩ := c
    have e3 : kd = 1 := q_bq h4
    subst e3
    obtain ⟨hn, cA, t, f, rfl, ht, hel⟩ := k3
    obtain ⟨x, rfl, q3, h7, h8, h9⟩ := q_enum_s hr ho h5 g1
    obtain ⟨c1, h10, h11⟩ := q_all_i h6 q3 h7
    obtain ⟨h12, h13⟩ := q_if_i h11
    obtain ⟨i1, i2, i3⟩ := q_ix h9 h12
    have hm := hz c1 h10
    cases q_so h13
    refine row ws tys _ _ _ _ _ _ cA n t f x hK hP k1 ht i1 (hm h8 ws tys H locs ls lv _ hK hP hD hS hW hE hL ⟨q_conc_rv h8 ?_, hF2⟩ hl)
    rw [i2]
    exact hel _ i3
theorem q_s_ald2 {sL : Nat} (hr : q_rg ρ) (rowS : True)
    (row : ∀ (ws : va_W) (tys : List (ClassId × FieldType)) (H : Heap) (locs : List Loc) (ls : Array Slot) (r : List Value) (k a : Nat) (cA : ClassId) (n t : Nat) (f : Nat → Int32) (i : Int32), va_K D cl9 tys s → va_P D cl9 ws H → ws[k]? = some (a, .inl (cA, n, .inl f)) → tys[t]? = some (cA, .byte) → vp_in i n → w H locs cl sl nx ls (.int (f i.toNatClampNeg) :: r) → w H locs cl sl pc ls (.int i :: .ref a :: r))
    (h : q_oAld 2 sL nx lo st hp iv cl sl = some z) (hz : ∀ c ∈ z.1, q_G w cl9 nL ρ bs base D ws0 s c) : q_G w cl9 nL ρ bs base D ws0 s (pc, lo, st, hp, iv, cl, sl) := by
  intro ho ws tys H locs ls lv sR hK hP hD hS hW hE hL hF hl
  obtain ⟨q, h1, h⟩ := q_bd_i h
  obtain ⟨q2, h2, h⟩ := q_bd_i h
  have e := q_pop_i h1
  have e2 := q_pop_i h2
  rw [e, e2] at hF
  obtain ⟨V, r, rfl, g1, hF1⟩ := q_F2_c hF
  obtain ⟨V2, r2, rfl, g2, hF2⟩ := q_F2_c hF1
  cases hb : Nat.beq q2.1.1 9 with
  | true =>
    rw [hb] at h
    obtain ⟨h3, h⟩ := q_if_i h
    obtain ⟨-, h3⟩ := q_and_i h3
    cases h3
  | false =>
    rw [hb] at h
    obtain ⟨c, h3, h⟩ := q_bd_i h
    obtain ⟨h4, h⟩ := q_if_i h
    obtain ⟨l, h5, h⟩ := q_bd_i h
    obtain ⟨cs, h6, h⟩ := q_bd_i h
    cases q_so h
    obtain ⟨b, e9, k1, rfl, k3⟩ := q_at_i hW h3 g2
    obtain ⟨kd, n, fs, ar⟩ := c
    have e3 : kd = 2 := q_bq h4
    subst e3
    obtain ⟨hn, cA, t, f, rfl, ht, hel⟩ := k3
    obtain ⟨x, rfl, q3, h7, h8, h9⟩ := q_enum_s hr ho h5 g1
    obtain ⟨c1, h10, h11⟩ := q_all_i h6 q3 h7
    obtain ⟨h12, h13⟩ := q_if_i h11
    obtain ⟨i1, i2, i3⟩ := q_ix h9 h12
    have hm := hz c1 h10
    cases q_so h13
    refine row ws tys _ _ _ _ _ _ cA n t f x hK hP k1 ht i1 (hm h8 ws tys H locs ls lv _ hK hP hD hS hW hE hL ⟨q_conc_rv h8 ?_, hF2⟩ hl)
    rw [i2]
    exact hel _ i3
theorem q_s_ald3 {sL : Nat} (hr : q_rg ρ) (rowS : True)
    (row : ∀ (ws : va_W) (tys : List (ClassId × FieldType)) (H : Heap) (locs : List Loc) (ls : Array Slot) (r : List Value) (k a : Nat) (cA : ClassId) (n t : Nat) (f : Nat → Int64) (i : Int32), va_K D cl9 tys s → va_P D cl9 ws H → ws[k]? = some (a, .inl (cA, n, .inr (.inl f))) → tys[t]? = some (cA, .long) → vp_in i n → w H locs cl sl nx ls (.long (f i.toNatClampNeg) :: r) → w H locs cl sl pc ls (.int i :: .ref a :: r))
    (h : q_oAld 3 sL nx lo st hp iv cl sl = some z) (hz : ∀ c ∈ z.1, q_G w cl9 nL ρ bs base D ws0 s c) : q_G w cl9 nL ρ bs base D ws0 s (pc, lo, st, hp, iv, cl, sl) := by
  intro ho ws tys H locs ls lv sR hK hP hD hS hW hE hL hF hl
  obtain ⟨q, h1, h⟩ := q_bd_i h
  obtain ⟨q2, h2, h⟩ := q_bd_i h
  have e := q_pop_i h1
  have e2 := q_pop_i h2
  rw [e, e2] at hF
  obtain ⟨V, r, rfl, g1, hF1⟩ := q_F2_c hF
  obtain ⟨V2, r2, rfl, g2, hF2⟩ := q_F2_c hF1
  cases hb : Nat.beq q2.1.1 9 with
  | true =>
    rw [hb] at h
    obtain ⟨h3, h⟩ := q_if_i h
    obtain ⟨-, h3⟩ := q_and_i h3
    cases h3
  | false =>
    rw [hb] at h
    obtain ⟨c, h3, h⟩ := q_bd_i h
    obtain ⟨h4, h⟩ := q_if_i h
    obtain ⟨l, h5, h⟩ := q_bd_i h
    obtain ⟨cs, h6, h⟩ := q_bd_i h
    cases q_so h
    obtain ⟨b, e9, k1, rfl, k3⟩ := q_at_i hW h3 g2
    obtain ⟨kd, n, fs, ar⟩ := c
    have e3 : kd = 3 := q_bq h4
    subst e3
    obtain ⟨hn, cA, t, f, rfl, ht, hel⟩ := k3
    obtain ⟨x, rfl, q3, h7, h8, h9⟩ := q_enum_s hr ho h5 g1
    obtain ⟨c1, h10, h11⟩ := q_all_i h6 q3 h7
    obtain ⟨h12, h13⟩ := q_if_i h11
    obtain ⟨i1, i2, i3⟩ := q_ix h9 h12
    have hm := hz c1 h10
    cases q_so h13
    refine row ws tys _ _ _ _ _ _ cA n t f x hK hP k1 ht i1 (hm h8 ws tys H locs ls lv _ hK hP hD hS hW hE hL ⟨q_conc_rv h8 ?_, hF2⟩ hl)
    rw [i2]
    exact hel _ i3
theorem q_s_ald4 {sL : Nat} (hr : q_rg ρ) (rowS : True)
    (row : ∀ (ws : va_W) (tys : List (ClassId × FieldType)) (H : Heap) (locs : List Loc) (ls : Array Slot) (r : List Value) (k a : Nat) (cA : ClassId) (n t : Nat) (f : Nat → UInt64) (i : Int32), va_K D cl9 tys s → va_P D cl9 ws H → ws[k]? = some (a, .inl (cA, n, .inr (.inr (.inr (.inl f))))) → tys[t]? = some (cA, .double) → vp_in i n → w H locs cl sl nx ls (.double (f i.toNatClampNeg) :: r) → w H locs cl sl pc ls (.int i :: .ref a :: r))
    (h : q_oAld 4 sL nx lo st hp iv cl sl = some z) (hz : ∀ c ∈ z.1, q_G w cl9 nL ρ bs base D ws0 s c) : q_G w cl9 nL ρ bs base D ws0 s (pc, lo, st, hp, iv, cl, sl) := by
  intro ho ws tys H locs ls lv sR hK hP hD hS hW hE hL hF hl
  obtain ⟨q, h1, h⟩ := q_bd_i h
  obtain ⟨q2, h2, h⟩ := q_bd_i h
  have e := q_pop_i h1
  have e2 := q_pop_i h2
  rw [e, e2] at hF
  obtain ⟨V, r, rfl, g1, hF1⟩ := q_F2_c hF
  obtain ⟨V2, r2, rfl, g2, hF2⟩ := q_F2_c hF1
  cases hb : Nat.beq q2.1.1 9 with
  | true =>
    rw [hb] at h
    obtain ⟨h3, h⟩ := q_if_i h
    obtain ⟨-, h3⟩ := q_and_i h3
    cases h3
  | false =>
    rw [hb] at h
    obtain ⟨c, h3, h⟩ := q_bd_i h
    obtain ⟨h4, h⟩ := q_if_i h
    obtain ⟨l, h5, h⟩ := q_bd_i h
    obtain ⟨cs, h6, h⟩ := q_bd_i h
    cases q_so h
    obtain ⟨b, e9, k1, rfl, k3⟩ := q_at_i hW h3 g2
    obtain ⟨kd, n, fs, ar⟩ := c
    have e3 : kd = 4 := q_bq h4
    subst e3
    obtain ⟨hn, cA, t, f, rfl, ht, hel⟩ := k3
    obtain ⟨x, rfl, q3, h7, h8, h9⟩ := q_enum_s hr ho h5 g1
    obtain ⟨c1, h10, h11⟩ := q_all_i h6 q3 h7
    obtain ⟨h12, h13⟩ := q_if_i h11
    obtain ⟨i1, i2, i3⟩ := q_ix h9 h12
    have hm := hz c1 h10
    cases q_so h13
    refine row ws tys _ _ _ _ _ _ cA n t f x hK hP k1 ht i1 (hm h8 ws tys H locs ls lv _ hK hP hD hS hW hE hL ⟨q_conc_rv h8 ?_, hF2⟩ hl)
    rw [i2]
    exact hel _ i3
theorem q_s_ald5 {sL : Nat} (hr : q_rg ρ) (rowS : True)
    (row : ∀ (ws : va_W) (tys : List (ClassId × FieldType)) (H : Heap) (locs : List Loc) (ls : Array Slot) (r : List Value) (k a : Nat) (cA : ClassId) (n t : Nat) (f : Nat → Option Nat) (i : Int32), va_K D cl9 tys s → va_P D cl9 ws H → ws[k]? = some (a, .inl (cA, n, .inr (.inr (.inr (.inr f))))) → tys[t]? = some (cA, .object q_tbl) → vp_in i n → w H locs cl sl nx ls (va_rf (f i.toNatClampNeg) :: r) → w H locs cl sl pc ls (.int i :: .ref a :: r))
    (h : q_oAld 5 sL nx lo st hp iv cl sl = some z) (hz : ∀ c ∈ z.1, q_G w cl9 nL ρ bs base D ws0 s c) : q_G w cl9 nL ρ bs base D ws0 s (pc, lo, st, hp, iv, cl, sl) := by
  intro ho ws tys H locs ls lv sR hK hP hD hS hW hE hL hF hl
  obtain ⟨q, h1, h⟩ := q_bd_i h
  obtain ⟨q2, h2, h⟩ := q_bd_i h
  have e := q_pop_i h1
  have e2 := q_pop_i h2
  rw [e, e2] at hF
  obtain ⟨V, r, rfl, g1, hF1⟩ := q_F2_c hF
  obtain ⟨V2, r2, rfl, g2, hF2⟩ := q_F2_c hF1
  cases hb : Nat.beq q2.1.1 9 with
  | true =>
    rw [hb] at h
    obtain ⟨h3, h⟩ := q_if_i h
    obtain ⟨-, h3⟩ := q_and_i h3
    cases h3
  | false =>
    rw [hb] at h
    obtain ⟨c, h3, h⟩ := q_bd_i h
    obtain ⟨h4, h⟩ := q_if_i h
    obtain ⟨l, h5, h⟩ := q_bd_i h
    obtain ⟨cs, h6, h⟩ := q_bd_i h
    cases q_so h
    obtain ⟨b, e9, k1, rfl, k3⟩ := q_at_i hW h3 g2
    obtain ⟨kd, n, fs, ar⟩ := c
    have e3 : kd = 5 := q_bq h4
    subst e3
    obtain ⟨hn, cA, t, f, rfl, ht, hel⟩ := k3
    obtain ⟨x, rfl, q3, h7, h8, h9⟩ := q_enum_s hr ho h5 g1
    obtain ⟨c1, h10, h11⟩ := q_all_i h6 q3 h7
    obtain ⟨h12, h13⟩ := q_if_i h11
    obtain ⟨i1, i2, i3⟩ := q_ix h9 h12
    have hm := hz c1 h10
    cases q_so h13
    refine row ws tys _ _ _ _ _ _ cA n t f x hK hP k1 ht i1 (hm h8 ws tys H locs ls lv _ hK hP hD hS hW hE hL ⟨q_conc_rv h8 ?_, hF2⟩ hl)
    rw [i2]
    exact hel _ i3
theorem q_s_ast1 (hr : q_rg ρ)
    (row : ∀ (ws : va_W) (tys : List (ClassId × FieldType)) (H : Heap) (locs : List Loc) (ls : Array Slot) (r : List Value) (k a : Nat) (cA : ClassId) (n t : Nat) (f : Nat → Int32) (i : Int32) (x : Int32), va_K D cl9 tys s → va_P D cl9 ws H → va_D (q_A base) ws → va_S (q_A base) s.heap H locs → ws[k]? = some (a, .inl (cA, n, .inl f)) → tys[t]? = some (cA, .int) → vp_in i n →
      (∀ H1 locs1, va_P D cl9 (ws.set k (a, .inl (cA, n, .inl (upd f i.toNatClampNeg x)))) H1 → va_D (q_A base) (ws.set k (a, .inl (cA, n, .inl (upd f i.toNatClampNeg x)))) → va_S (q_A base) s.heap H1 locs1 → w H1 locs1 cl sl nx ls r) → w H locs cl sl pc ls (.int x :: .int i :: .ref a :: r))
    (h : q_oAst 1 nx lo st hp iv cl sl = some z) (hz : ∀ c ∈ z.1, q_G w cl9 nL ρ bs base D ws0 s c) : q_G w cl9 nL ρ bs base D ws0 s (pc, lo, st, hp, iv, cl, sl) := by
  intro ho ws tys H locs ls lv sR hK hP hD hS hW hE hL hF hl
  obtain ⟨v, h0, h⟩ := q_bd_i h
  obtain ⟨wv, hkp, h⟩ := q_bd_i h
  obtain ⟨q, h1, h⟩ := q_bd_i h
  obtain ⟨q2, h2, h⟩ := q_bd_i h
  obtain ⟨c, h3, h⟩ := q_bd_i h
  obtain ⟨h4, h⟩ := q_if_i h
  obtain ⟨l, h5, h⟩ := q_bd_i h
  obtain ⟨cs, h6, h⟩ := q_bd_i h
  cases q_so h
  have e0 := q_pop_i h0
  have e := q_pop_i h1
  have e2 := q_pop_i h2
  rw [e0, e, e2] at hF
  obtain ⟨X, r0, rfl, g0, hF0⟩ := q_F2_c hF
  obtain ⟨V, r, rfl, g1, hF1⟩ := q_F2_c hF0
  obtain ⟨V2, r2, rfl, g2, hF2⟩ := q_F2_c hF1
  obtain ⟨b, e9, k1, rfl, k3⟩ := q_at_i hW h3 g2
  obtain ⟨kd, n, fs, ar⟩ := c
  have e3 : kd = 1 := q_bq h4
  subst e3
  obtain ⟨hn, cA, t, f, rfl, ht, hel⟩ := k3
  obtain ⟨i, rfl, q3, h7, h8, h9⟩ := q_enum_s hr ho h5 g1
  obtain ⟨c1, h10, h11⟩ := q_all_i h6 q3 h7
  obtain ⟨h12, h13⟩ := q_if_i h11
  obtain ⟨i1, i2, i3⟩ := q_ix h9 h12
  have hm := hz c1 h10
  cases q_so h13
  obtain ⟨hk1, hk2⟩ := q_if_i (show q_if (q_isI v.1.1) (some v.1) = some wv from hkp)
  obtain ⟨x, rfl⟩ := q_isI_i hk1 g0
  cases q_so hk2
  refine row ws tys _ _ _ _ _ _ cA n t f i x hK hP hD hS k1 ht i1 (fun H1 locs1 hP1 hD1 hS1 => ?_)
  have hex : q_Ex ws (ws.set q2.1.2.toNat (b, .inl (cA, n, .inl (upd f i.toNatClampNeg x)))) := q_Ex.st k1
  refine hm h8 _ tys H1 locs1 ls lv _ hK hP1 hD1 hS1 (hW.put k1 ⟨hn, cA, t, upd f i.toNatClampNeg x, rfl, ht, fun j hj => ?_⟩) (hE.tr hex) (q_F2_m (fun a b h => ⟨h.1, h.2.ex hex⟩) hL) (q_F2_m (fun a b h => h.ex hex) hF2) hl
  show q_rv ρ bs _ (q_get 11 (q_set 11 ar q3.1.toNat _) j) _
  have hj : j < n := hj
  have hi3 : q3.1.toNat < n := i3
  have hnn : n ≤ 2000 := hn
  rw [q_gs 11 ar _ j _ (by show _ < 2048; omega) (by show _ < 2048; omega)]
  by_cases ej : j = q3.1.toNat
  · rw [if_pos ej]
    have hu : upd f i.toNatClampNeg x j = x := by unfold upd; rw [if_pos (by rw [i2]; exact ej)]
    rw [hu]
    exact g0.ex hex
  · rw [if_neg ej]
    have hu : upd f i.toNatClampNeg x j = f j := by unfold upd; rw [if_neg (by rw [i2]; exact ej)]
    rw [hu]
    exact (hel j hj).ex hex
theorem q_s_ast2 (hr : q_rg ρ)
    (row : ∀ (ws : va_W) (tys : List (ClassId × FieldType)) (H : Heap) (locs : List Loc) (ls : Array Slot) (r : List Value) (k a : Nat) (cA : ClassId) (n t : Nat) (f : Nat → Int32) (i : Int32) (x : Int32), va_K D cl9 tys s → va_P D cl9 ws H → va_D (q_A base) ws → va_S (q_A base) s.heap H locs → ws[k]? = some (a, .inl (cA, n, .inl f)) → tys[t]? = some (cA, .byte) → vp_in i n →
      (∀ H1 locs1, va_P D cl9 (ws.set k (a, .inl (cA, n, .inl (upd f i.toNatClampNeg (vp_nar .byte x))))) H1 → va_D (q_A base) (ws.set k (a, .inl (cA, n, .inl (upd f i.toNatClampNeg (vp_nar .byte x))))) → va_S (q_A base) s.heap H1 locs1 → w H1 locs1 cl sl nx ls r) → w H locs cl sl pc ls (.int x :: .int i :: .ref a :: r))
    (h : q_oAst 2 nx lo st hp iv cl sl = some z) (hz : ∀ c ∈ z.1, q_G w cl9 nL ρ bs base D ws0 s c) : q_G w cl9 nL ρ bs base D ws0 s (pc, lo, st, hp, iv, cl, sl) := by
  intro ho ws tys H locs ls lv sR hK hP hD hS hW hE hL hF hl
  obtain ⟨v, h0, h⟩ := q_bd_i h
  obtain ⟨wv, hkp, h⟩ := q_bd_i h
  obtain ⟨q, h1, h⟩ := q_bd_i h
  obtain ⟨q2, h2, h⟩ := q_bd_i h
  obtain ⟨c, h3, h⟩ := q_bd_i h
  obtain ⟨h4, h⟩ := q_if_i h
  obtain ⟨l, h5, h⟩ := q_bd_i h
  obtain ⟨cs, h6, h⟩ := q_bd_i h
  cases q_so h
  have e0 := q_pop_i h0
  have e := q_pop_i h1
  have e2 := q_pop_i h2
  rw [e0, e, e2] at hF
  obtain ⟨X, r0, rfl, g0, hF0⟩ := q_F2_c hF
  obtain ⟨V, r, rfl, g1, hF1⟩ := q_F2_c hF0
  obtain ⟨V2, r2, rfl, g2, hF2⟩ := q_F2_c hF1
  obtain ⟨b, e9, k1, rfl, k3⟩ := q_at_i hW h3 g2
  obtain ⟨kd, n, fs, ar⟩ := c
  have e3 : kd = 2 := q_bq h4
  subst e3
  obtain ⟨hn, cA, t, f, rfl, ht, hel⟩ := k3
  obtain ⟨i, rfl, q3, h7, h8, h9⟩ := q_enum_s hr ho h5 g1
  obtain ⟨c1, h10, h11⟩ := q_all_i h6 q3 h7
  obtain ⟨h12, h13⟩ := q_if_i h11
  obtain ⟨i1, i2, i3⟩ := q_ix h9 h12
  have hm := hz c1 h10
  cases q_so h13
  obtain ⟨hk1, hk2⟩ := q_if_i (show q_if (Nat.beq v.1.1 0) (some ((0, ((Int32.ofInt v.1.2).toInt8.toInt32).toInt) : q_V)) = some wv from hkp)
  obtain ⟨⟨t0, b0⟩, v9⟩ := v
  have e33 : t0 = 0 := q_bq hk1
  subst e33
  have e34 : X = .int (Int32.ofInt b0) := g0
  subst e34
  cases q_so hk2
  generalize hxx : Int32.ofInt b0 = x at *
  refine row ws tys _ _ _ _ _ _ cA n t f i x hK hP hD hS k1 ht i1 (fun H1 locs1 hP1 hD1 hS1 => ?_)
  have hex : q_Ex ws (ws.set q2.1.2.toNat (b, .inl (cA, n, .inl (upd f i.toNatClampNeg (vp_nar .byte x))))) := q_Ex.st k1
  refine hm h8 _ tys H1 locs1 ls lv _ hK hP1 hD1 hS1 (hW.put k1 ⟨hn, cA, t, upd f i.toNatClampNeg (vp_nar .byte x), rfl, ht, fun j hj => ?_⟩) (hE.tr hex) (q_F2_m (fun a b h => ⟨h.1, h.2.ex hex⟩) hL) (q_F2_m (fun a b h => h.ex hex) hF2) hl
  show q_rv ρ bs _ (q_get 11 (q_set 11 ar q3.1.toNat _) j) _
  have hj : j < n := hj
  have hi3 : q3.1.toNat < n := i3
  have hnn : n ≤ 2000 := hn
  rw [q_gs 11 ar _ j _ (by show _ < 2048; omega) (by show _ < 2048; omega)]
  by_cases ej : j = q3.1.toNat
  · rw [if_pos ej]
    have hu : upd f i.toNatClampNeg (vp_nar .byte x) j = vp_nar .byte x := by unfold upd; rw [if_pos (by rw [i2]; exact ej)]
    rw [hu, vp_nar_byte]
    show Value.int _ = .int (Int32.ofInt (Int32.toInt _))
    rw [Int32.ofInt_toInt]
  · rw [if_neg ej]
    have hu : upd f i.toNatClampNeg (vp_nar .byte x) j = f j := by unfold upd; rw [if_neg (by rw [i2]; exact ej)]
    rw [hu]
    exact (hel j hj).ex hex
theorem q_s_ast3 (hr : q_rg ρ)
    (row : ∀ (ws : va_W) (tys : List (ClassId × FieldType)) (H : Heap) (locs : List Loc) (ls : Array Slot) (r : List Value) (k a : Nat) (cA : ClassId) (n t : Nat) (f : Nat → Int64) (i : Int32) (x : Int64), va_K D cl9 tys s → va_P D cl9 ws H → va_D (q_A base) ws → va_S (q_A base) s.heap H locs → ws[k]? = some (a, .inl (cA, n, .inr (.inl f))) → tys[t]? = some (cA, .long) → vp_in i n →
      (∀ H1 locs1, va_P D cl9 (ws.set k (a, .inl (cA, n, .inr (.inl (vp_updL f i.toNatClampNeg x))))) H1 → va_D (q_A base) (ws.set k (a, .inl (cA, n, .inr (.inl (vp_updL f i.toNatClampNeg x))))) → va_S (q_A base) s.heap H1 locs1 → w H1 locs1 cl sl nx ls r) → w H locs cl sl pc ls (.long x :: .int i :: .ref a :: r))
    (h : q_oAst 3 nx lo st hp iv cl sl = some z) (hz : ∀ c ∈ z.1, q_G w cl9 nL ρ bs base D ws0 s c) : q_G w cl9 nL ρ bs base D ws0 s (pc, lo, st, hp, iv, cl, sl) := by
  intro ho ws tys H locs ls lv sR hK hP hD hS hW hE hL hF hl
  obtain ⟨v, h0, h⟩ := q_bd_i h
  obtain ⟨wv, hkp, h⟩ := q_bd_i h
  obtain ⟨q, h1, h⟩ := q_bd_i h
  obtain ⟨q2, h2, h⟩ := q_bd_i h
  obtain ⟨c, h3, h⟩ := q_bd_i h
  obtain ⟨h4, h⟩ := q_if_i h
  obtain ⟨l, h5, h⟩ := q_bd_i h
  obtain ⟨cs, h6, h⟩ := q_bd_i h
  cases q_so h
  have e0 := q_pop_i h0
  have e := q_pop_i h1
  have e2 := q_pop_i h2
  rw [e0, e, e2] at hF
  obtain ⟨X, r0, rfl, g0, hF0⟩ := q_F2_c hF
  obtain ⟨V, r, rfl, g1, hF1⟩ := q_F2_c hF0
  obtain ⟨V2, r2, rfl, g2, hF2⟩ := q_F2_c hF1
  obtain ⟨b, e9, k1, rfl, k3⟩ := q_at_i hW h3 g2
  obtain ⟨kd, n, fs, ar⟩ := c
  have e3 : kd = 3 := q_bq h4
  subst e3
  obtain ⟨hn, cA, t, f, rfl, ht, hel⟩ := k3
  obtain ⟨i, rfl, q3, h7, h8, h9⟩ := q_enum_s hr ho h5 g1
  obtain ⟨c1, h10, h11⟩ := q_all_i h6 q3 h7
  obtain ⟨h12, h13⟩ := q_if_i h11
  obtain ⟨i1, i2, i3⟩ := q_ix h9 h12
  have hm := hz c1 h10
  cases q_so h13
  obtain ⟨hk1, hk2⟩ := q_if_i (show q_if (q_isJ v.1.1) (some v.1) = some wv from hkp)
  obtain ⟨x, rfl⟩ := q_isJ_i hk1 g0
  cases q_so hk2
  refine row ws tys _ _ _ _ _ _ cA n t f i x hK hP hD hS k1 ht i1 (fun H1 locs1 hP1 hD1 hS1 => ?_)
  have hex : q_Ex ws (ws.set q2.1.2.toNat (b, .inl (cA, n, .inr (.inl (vp_updL f i.toNatClampNeg x))))) := q_Ex.st k1
  refine hm h8 _ tys H1 locs1 ls lv _ hK hP1 hD1 hS1 (hW.put k1 ⟨hn, cA, t, vp_updL f i.toNatClampNeg x, rfl, ht, fun j hj => ?_⟩) (hE.tr hex) (q_F2_m (fun a b h => ⟨h.1, h.2.ex hex⟩) hL) (q_F2_m (fun a b h => h.ex hex) hF2) hl
  show q_rv ρ bs _ (q_get 11 (q_set 11 ar q3.1.toNat _) j) _
  have hj : j < n := hj
  have hi3 : q3.1.toNat < n := i3
  have hnn : n ≤ 2000 := hn
  rw [q_gs 11 ar _ j _ (by show _ < 2048; omega) (by show _ < 2048; omega)]
  by_cases ej : j = q3.1.toNat
  · rw [if_pos ej]
    have hu : vp_updL f i.toNatClampNeg x j = x := by unfold vp_updL; rw [if_pos (by rw [i2]; exact ej)]
    rw [hu]
    exact g0.ex hex
  · rw [if_neg ej]
    have hu : vp_updL f i.toNatClampNeg x j = f j := by unfold vp_updL; rw [if_neg (by rw [i2]; exact ej)]
    rw [hu]
    exact (hel j hj).ex hex
theorem q_s_ast4 (hr : q_rg ρ)
    (row : ∀ (ws : va_W) (tys : List (ClassId × FieldType)) (H : Heap) (locs : List Loc) (ls : Array Slot) (r : List Value) (k a : Nat) (cA : ClassId) (n t : Nat) (f : Nat → UInt64) (i : Int32) (x : UInt64), va_K D cl9 tys s → va_P D cl9 ws H → va_D (q_A base) ws → va_S (q_A base) s.heap H locs → ws[k]? = some (a, .inl (cA, n, .inr (.inr (.inr (.inl f))))) → tys[t]? = some (cA, .double) → vp_in i n →
      (∀ H1 locs1, va_P D cl9 (ws.set k (a, .inl (cA, n, .inr (.inr (.inr (.inl (vf_upd f i.toNatClampNeg x))))))) H1 → va_D (q_A base) (ws.set k (a, .inl (cA, n, .inr (.inr (.inr (.inl (vf_upd f i.toNatClampNeg x))))))) → va_S (q_A base) s.heap H1 locs1 → w H1 locs1 cl sl nx ls r) → w H locs cl sl pc ls (.double x :: .int i :: .ref a :: r))
    (h : q_oAst 4 nx lo st hp iv cl sl = some z) (hz : ∀ c ∈ z.1, q_G w cl9 nL ρ bs base D ws0 s c) : q_G w cl9 nL ρ bs base D ws0 s (pc, lo, st, hp, iv, cl, sl) := by
  intro ho ws tys H locs ls lv sR hK hP hD hS hW hE hL hF hl
  obtain ⟨v, h0, h⟩ := q_bd_i h
  obtain ⟨wv, hkp, h⟩ := q_bd_i h
  obtain ⟨q, h1, h⟩ := q_bd_i h
  obtain ⟨q2, h2, h⟩ := q_bd_i h
  obtain ⟨c, h3, h⟩ := q_bd_i h
  obtain ⟨h4, h⟩ := q_if_i h
  obtain ⟨l, h5, h⟩ := q_bd_i h
  obtain ⟨cs, h6, h⟩ := q_bd_i h
  cases q_so h
  have e0 := q_pop_i h0
  have e := q_pop_i h1
  have e2 := q_pop_i h2
  rw [e0, e, e2] at hF
  obtain ⟨X, r0, rfl, g0, hF0⟩ := q_F2_c hF
  obtain ⟨V, r, rfl, g1, hF1⟩ := q_F2_c hF0
  obtain ⟨V2, r2, rfl, g2, hF2⟩ := q_F2_c hF1
  obtain ⟨b, e9, k1, rfl, k3⟩ := q_at_i hW h3 g2
  obtain ⟨kd, n, fs, ar⟩ := c
  have e3 : kd = 4 := q_bq h4
  subst e3
  obtain ⟨hn, cA, t, f, rfl, ht, hel⟩ := k3
  obtain ⟨i, rfl, q3, h7, h8, h9⟩ := q_enum_s hr ho h5 g1
  obtain ⟨c1, h10, h11⟩ := q_all_i h6 q3 h7
  obtain ⟨h12, h13⟩ := q_if_i h11
  obtain ⟨i1, i2, i3⟩ := q_ix h9 h12
  have hm := hz c1 h10
  cases q_so h13
  obtain ⟨hk1, hk2⟩ := q_if_i (show q_if (Nat.beq v.1.1 5) (some v.1) = some wv from hkp)
  obtain ⟨⟨tt, vv⟩, v9⟩ := v
  have e8 : tt = 5 := q_bq hk1
  subst e8
  have e7 : X = .double (UInt64.ofNat vv.toNat) := g0
  obtain ⟨x, hx⟩ : ∃ x, x = UInt64.ofNat vv.toNat := ⟨_, rfl⟩
  rw [← hx] at e7
  subst e7
  cases q_so hk2
  refine row ws tys _ _ _ _ _ _ cA n t f i x hK hP hD hS k1 ht i1 (fun H1 locs1 hP1 hD1 hS1 => ?_)
  have hex : q_Ex ws (ws.set q2.1.2.toNat (b, .inl (cA, n, .inr (.inr (.inr (.inl (vf_upd f i.toNatClampNeg x))))))) := q_Ex.st k1
  refine hm h8 _ tys H1 locs1 ls lv _ hK hP1 hD1 hS1 (hW.put k1 ⟨hn, cA, t, vf_upd f i.toNatClampNeg x, rfl, ht, fun j hj => ?_⟩) (hE.tr hex) (q_F2_m (fun a b h => ⟨h.1, h.2.ex hex⟩) hL) (q_F2_m (fun a b h => h.ex hex) hF2) hl
  show q_rv ρ bs _ (q_get 11 (q_set 11 ar q3.1.toNat _) j) _
  have hj : j < n := hj
  have hi3 : q3.1.toNat < n := i3
  have hnn : n ≤ 2000 := hn
  rw [q_gs 11 ar _ j _ (by show _ < 2048; omega) (by show _ < 2048; omega)]
  by_cases ej : j = q3.1.toNat
  · rw [if_pos ej]
    have hu : vf_upd f i.toNatClampNeg x j = x := by unfold vf_upd; rw [if_pos (by rw [i2]; exact ej)]
    rw [hu]
    exact g0.ex hex
  · rw [if_neg ej]
    have hu : vf_upd f i.toNatClampNeg x j = f j := by unfold vf_upd; rw [if_neg (by rw [i2]; exact ej)]
    rw [hu]
    exact (hel j hj).ex hex
theorem q_s_asr {cc9 : Nat}
    (row : ∀ (ws : va_W) (tys : List (ClassId × FieldType)) (H : Heap) (locs : List Loc) (ls : Array Slot) (r : List Value) (k kv a v : Nat) (vs : List Value) (cA : ClassId) (n t : Nat) (f : Nat → Option Nat) (i : Int32), va_K D cl9 tys s → va_P D cl9 ws H → va_D (q_A base) ws → va_S (q_A base) s.heap H locs → ws[k]? = some (a, .inl (cA, n, .inr (.inr (.inr (.inr f))))) → tys[t]? = some (cA, .object q_tbl) → ws[kv]? = some (v, .inr (cc9, vs)) → vp_in i n →
      (∀ H1 locs1, va_P D cl9 (ws.set k (a, .inl (cA, n, .inr (.inr (.inr (.inr (va_up f i.toNatClampNeg (some v)))))))) H1 → va_D (q_A base) (ws.set k (a, .inl (cA, n, .inr (.inr (.inr (.inr (va_up f i.toNatClampNeg (some v)))))))) → va_S (q_A base) s.heap H1 locs1 → w H1 locs1 cl sl nx ls r) → w H locs cl sl pc ls (.ref v :: .int i :: .ref a :: r))
    (h : q_oAsr cc9 nx lo st hp iv cl sl = some z) (hz : ∀ c ∈ z.1, q_G w cl9 nL ρ bs base D ws0 s c) : q_G w cl9 nL ρ bs base D ws0 s (pc, lo, st, hp, iv, cl, sl) := by
  intro ho ws tys H locs ls lv sR hK hP hD hS hW hE hL hF hl
  obtain ⟨v, h0, h⟩ := q_bd_i h
  obtain ⟨co, hco, h⟩ := q_bd_i h
  obtain ⟨ha, h⟩ := q_if_i h
  obtain ⟨ha1, ha2⟩ := q_and_i ha
  obtain ⟨q, h1, h⟩ := q_bd_i h
  obtain ⟨q2, h2, h⟩ := q_bd_i h
  obtain ⟨c, h3, h⟩ := q_bd_i h
  obtain ⟨h4, h⟩ := q_if_i h
  obtain ⟨h5, h6⟩ := q_and_i h4
  obtain ⟨h7, h8⟩ := q_and_i h6
  cases q_so h
  have e0 := q_pop_i h0
  have e := q_pop_i h1
  have e2 := q_pop_i h2
  rw [e0, e, e2] at hF
  obtain ⟨X, r0, rfl, g0, hF0⟩ := q_F2_c hF
  obtain ⟨V, r, rfl, g1, hF1⟩ := q_F2_c hF0
  obtain ⟨V2, r2, rfl, g2, hF2⟩ := q_F2_c hF1
  obtain ⟨b, e9, k1, rfl, k3⟩ := q_at_i hW h3 g2
  obtain ⟨bo, e8, o1, rfl, o3⟩ := q_at_i hW hco g0
  obtain ⟨kd, n, fs, ar⟩ := c
  have e3 : kd = 5 := q_bq h5
  subst e3
  obtain ⟨ko, no, fo, ao⟩ := co
  have e4 : ko = 0 := q_bq ha1
  have e5 : no = cc9 := q_bq ha2
  subst e4; subst e5
  obtain ⟨vs, rfl, -⟩ := o3
  obtain ⟨hn, cA, t, f, rfl, ht, hel⟩ := k3
  obtain ⟨⟨tt, bb⟩, q9⟩ := q
  have e6 : tt = 0 := q_bq h7
  subst e6
  have e7 : V = .int (Int32.ofInt bb) := g1
  subst e7
  obtain ⟨i1, i2, i3⟩ := q_ix (q_w32_m bb) h8
  refine row ws tys _ _ _ _ _ _ _ _ vs cA n t f (Int32.ofInt bb) hK hP hD hS k1 ht o1 i1 (fun H1 locs1 hP1 hD1 hS1 => ?_)
  have hex : q_Ex ws (ws.set q2.1.2.toNat (b, .inl (cA, n, .inr (.inr (.inr (.inr (va_up f (Int32.ofInt bb).toNatClampNeg (some bo)))))))) := q_Ex.st k1
  refine hz _ List.mem_cons_self ho _ tys H1 locs1 ls lv _ hK hP1 hD1 hS1 (hW.put k1 ⟨hn, cA, t, _, rfl, ht, fun j hj => ?_⟩) (hE.tr hex) (q_F2_m (fun a b h => ⟨h.1, h.2.ex hex⟩) hL) (q_F2_m (fun a b h => h.ex hex) hF2) hl
  show q_rv ρ bs _ (q_get 11 (q_set 11 ar (q_w32 bb).toNat _) j) _
  have hj : j < n := hj
  have hi3 : (q_w32 bb).toNat < n := i3
  have hnn : n ≤ 2000 := hn
  rw [q_gs 11 ar _ j _ (by show _ < 2048; omega) (by show _ < 2048; omega)]
  by_cases ej : j = (q_w32 bb).toNat
  · rw [if_pos ej]
    have hu : va_up f (Int32.ofInt bb).toNatClampNeg (some bo) j = some bo := by unfold va_up; rw [if_pos (by rw [i2]; exact ej)]
    rw [hu]
    exact g0.ex hex
  · rw [if_neg ej]
    have hu : va_up f (Int32.ofInt bb).toNatClampNeg (some bo) j = f j := by unfold va_up; rw [if_neg (by rw [i2]; exact ej)]
    rw [hu]
    exact (hel j hj).ex hex
theorem q_tgt_s {d l9 h9 n : Int} {offs : Array Int} {t : Nat} (h : q_tgt pc d l9 h9 offs n = some t) : (l9 ≤ n ∧ n ≤ h9 ∧ ∃ off, offs[(n - l9).toNat]? = some off ∧ (pc : Int) + off = (t : Int)) ∨ ((n < l9 ∨ h9 < n) ∧ (pc : Int) + d = (t : Int)) := by
  unfold q_tgt at h
  cases hb : (bif q_ile l9 n then q_ile n h9 else false) with
  | true =>
    rw [hb] at h
    obtain ⟨h1, h2⟩ := q_and_i hb
    obtain ⟨o, h3, h⟩ := q_bd_i h
    obtain ⟨h4, h⟩ := q_if_i h
    have h4 := q_ile_i h4
    cases q_so h
    refine Or.inl ⟨q_ile_i h1, q_ile_i h2, o, by rw [q_nth_g, Array.getElem?_toList] at h3; exact h3, ?_⟩
    change (0 : Int) ≤ (pc : Int) + o at h4
    show (pc : Int) + o = (((pc : Int) + o).toNat : Int)
    omega
  | false =>
    rw [hb] at h
    obtain ⟨h4, h⟩ := q_if_i h
    have h4 := q_ile_i h4
    cases q_so h
    refine Or.inr ⟨?_, ?_⟩
    · cases h1 : q_ile l9 n with
      | false => exact Or.inl (q_ile_n h1)
      | true => rw [h1] at hb; exact Or.inr (q_ile_n hb)
    · change (0 : Int) ≤ (pc : Int) + d at h4
      show (pc : Int) + d = (((pc : Int) + d).toNat : Int)
      omega
theorem q_s_sw {d l9 h9 : Int} {offs : Array Int} (hr : q_rg ρ) (hl9 : q_w32 l9 = l9) (hh9 : q_w32 h9 = h9) (hlh : l9 ≤ h9)
    (rowI : ∀ H locs ls r (x : Int32) (off : Int) (t : Nat), ¬ x.toInt < l9 → ¬ h9 < x.toInt → offs[(x.toInt - l9).toNat]? = some off → (pc : Int) + off = (t : Int) → w H locs cl sl t ls r → w H locs cl sl pc ls (.int x :: r))
    (rowO : ∀ H locs ls r (x : Int32) (t : Nat), (x.toInt < l9 ∨ h9 < x.toInt) → (pc : Int) + d = (t : Int) → w H locs cl sl t ls r → w H locs cl sl pc ls (.int x :: r))
    (h : q_oSw d l9 h9 offs pc lo st hp iv cl sl = some z) (hz : ∀ c ∈ z.1, q_G w cl9 nL ρ bs base D ws0 s c) : q_G w cl9 nL ρ bs base D ws0 s (pc, lo, st, hp, iv, cl, sl) := by
  intro ho ws tys H locs ls lv sR hK hP hD hS hW hE hL hF hl
  obtain ⟨q, h1, h⟩ := q_bd_i h
  obtain ⟨h3, h⟩ := q_if_i h
  obtain ⟨l1, h5, h⟩ := q_bd_i h
  obtain ⟨bs1, h6, h⟩ := q_bd_i h
  cases q_so h
  have e := q_pop_i h1
  rw [e] at hF
  obtain ⟨V, r, rfl, g1, hF1⟩ := q_F2_c hF
  obtain ⟨x, rfl⟩ := q_isI_i h3 g1
  obtain ⟨hk, q1, m1, ho1, hc1⟩ := q_c3_s ho h5
  have hk2 : q.1.1 = 0 ∨ q.1.1 = 6 := by
    rcases hk with hk | hk
    · exact hk.1
    · have := hk.2; simp at this
  have hx := q_nv_i hr hk2 g1
  rw [← hx, show q_nv ρ (0, l9) = l9 from hl9] at hc1
  obtain ⟨b1, m2, hb1⟩ := q_all_i h6 q1 m1
  have hfin : ∀ t iv2, (t, lo, q.2, hp, iv2, cl, sl) ∈ b1 → q_ok ρ iv2 → w H locs cl sl t ls r := fun t iv2 hmem hok =>
    hz _ (q_cat_m m2 _ hmem) hok ws tys H locs ls lv r hK hP hD hS hW hE hL hF1 hl
  cases hb : Nat.beq q1.1 0 with
  | true =>
    rw [hb] at hb1
    have e0 := q_bq hb
    have hlt : x.toInt < l9 := by
      rcases hc1 with ⟨_, h⟩ | ⟨e1, _⟩ | ⟨e1, _⟩
      · exact h
      · omega
      · omega
    obtain ⟨t, ht, hb1⟩ := q_bd_i hb1
    cases q_so hb1
    rcases q_tgt_s ht with ⟨g, _⟩ | ⟨_, g⟩
    · change l9 ≤ l9 - 1 at g; omega
    · exact rowO _ _ _ _ x t (Or.inl hlt) g (hfin t _ List.mem_cons_self ho1)
  | false =>
    rw [hb] at hb1
    have hge : l9 ≤ x.toInt := by
      rcases hc1 with ⟨e1, _⟩ | ⟨_, h⟩ | ⟨_, h⟩
      · rw [e1] at hb; cases hb
      · omega
      · omega
    obtain ⟨l2, h7, hb1⟩ := q_bd_i hb1
    obtain ⟨bs2, h8, hb1⟩ := q_bd_i hb1
    cases q_so hb1
    have g1' := q_conc_rv ho1 g1
    obtain ⟨hk', q2, m3, ho2, hc2⟩ := q_c3_s ho1 h7
    have hk3 : (q_conc q1.2 q.1).1 = 0 ∨ (q_conc q1.2 q.1).1 = 6 := by
      rcases hk' with hk | hk
      · exact hk.1
      · have := hk.2; simp at this
    have hx2 := q_nv_i hr hk3 g1'
    rw [← hx2, show q_nv ρ (0, h9) = h9 from hh9] at hc2
    obtain ⟨b2, m4, hb2⟩ := q_all_i h8 q2 m3
    cases hb3 : Nat.beq q2.1 2 with
    | true =>
      rw [hb3] at hb2
      have e0 := q_bq hb3
      have hgt : h9 < x.toInt := by
        rcases hc2 with ⟨e1, _⟩ | ⟨e1, _⟩ | ⟨_, h⟩
        · omega
        · omega
        · exact h
      obtain ⟨t, ht, hb2⟩ := q_bd_i hb2
      cases q_so hb2
      rcases q_tgt_s ht with ⟨_, g, _⟩ | ⟨_, g⟩
      · change h9 + 1 ≤ h9 at g; omega
      · exact rowO _ _ _ _ x t (Or.inr hgt) g (hfin t _ (q_cat_m m4 _ List.mem_cons_self) ho2)
    | false =>
      rw [hb3] at hb2
      have hle : x.toInt ≤ h9 := by
        rcases hc2 with ⟨_, h⟩ | ⟨_, h⟩ | ⟨e1, _⟩
        · omega
        · omega
        · rw [e1] at hb3; cases hb3
      obtain ⟨l3, h10, hb2⟩ := q_bd_i hb2
      have g1'' := q_conc_rv ho2 g1
      obtain ⟨x', hx', q3, m5, ho3, hc3⟩ := q_enum_s hr ho2 h10 g1''
      cases hx'
      obtain ⟨c3, m6, hb4⟩ := q_all_i hb2 q3 m5
      obtain ⟨t, ht, hb4⟩ := q_bd_i hb4
      cases q_so hb4
      rcases q_tgt_s ht with ⟨_, _, off, g3, g4⟩ | ⟨g3, _⟩
      · exact rowI _ _ _ _ x off t (by omega) (by omega) (by rw [hc3]; exact g3) g4 (hfin t _ (q_cat_m m4 _ m6) ho3)
      · omega
end q_hsec
