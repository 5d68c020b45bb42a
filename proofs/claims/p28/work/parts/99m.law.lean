/-! Part 99m: the law from its entry. -/
theorem q_dc_s {s : State} {args : Array Value} (c0 : ClassId) (hts : ∀ w ∈ q_GL2, w.before args s = true) : ∃ D : va_G, va_K D q_cl [] s := by
  have hk : ∀ c : Nat, ∃ (cC : ClassId) (iS : Nat → Nat), c < 10 → u_Kn s (q_on c) (q_cF c) (q_cN c) cC iS := by
    intro c
    by_cases h : c < 10
    · obtain ⟨cC, iS, hK⟩ := u_known (ws := q_GL2) hts (q_uin c h) (hts (.instantiable (q_on c) (q_cN c)) (q_g1 (q_G_i_m (List.mem_map.mpr ⟨c, List.mem_range.mpr h, rfl⟩))))
      exact ⟨cC, iS, fun _ => hK⟩
    · exact ⟨c0, fun _ => 0, fun h9 => absurd h9 h⟩
  obtain ⟨f, hf⟩ := Classical.skolem.mp hk
  obtain ⟨g, hg⟩ := Classical.skolem.mp hf
  refine ⟨(f, g), fun c q hq => ?_, fun k q hq => by cases hq⟩
  have hc : c < 10 := (List.getElem?_eq_some_iff.mp hq).1
  rw [q_cl_g c hc] at hq
  cases q_so hq
  exact hg c hc
/-- the script's ints -/
def y_ρ (xs : Nat → Int32) (i : Nat) : Int := (xs i).toInt
theorem y_cn : q_cn 369 = 10 := by decide +kernel
theorem y_on : q_on (q_cn 369) = R_law := by rw [y_cn]; rfl
theorem y_hh : (q_mt 369).2.2.2 = [] := by decide +kernel
theorem y_rm : (q_mt 369).2.2.1 = (12, 440, 601024, 7293034) := by decide +kernel
theorem y_room : room_1 = q_rm 369 := by
  unfold q_rm
  rw [y_rm]
  rfl
theorem y_mL : q_mL 369 = 10 := by decide +kernel
theorem y_rt : q_rt 369 = some .boolean := by decide +kernel
theorem y_bc : q_bc 369 = code := rfl
theorem y_chk_i {o : Option (List q_C × List q_Lf)} (h : y_chk o = true) : ∃ c1, o = some ([c1], []) ∧ q_Cle c1 (28, y_l28, [], q_hp q_K 155 y_h0, [], c1.2.2.2.2.2.1, c1.2.2.2.2.2.2) = true ∧ c1.2.2.2.2.2.1 ≤ 700 ∧ c1.2.2.2.2.2.2 ≤ 20000 := by
  cases o with
  | none => cases h
  | some z =>
    obtain ⟨l1, l2⟩ := z
    cases l1 with
    | nil => cases h
    | cons c1 r =>
      cases r with
      | cons _ _ => cases h
      | nil =>
        cases l2 with
        | cons _ _ => cases h
        | nil =>
          obtain ⟨h1, h⟩ := q_and_i h
          obtain ⟨h2, h3⟩ := q_and_i h
          exact ⟨c1, rfl, h1, Nat.le_of_ble_eq_true h2, Nat.le_of_ble_eq_true h3⟩
/-- the state behind the constructors -/
theorem y_first : ∃ c1, (∀ L : Nat, q_it q_mt q_df (q_rn q_mt q_df L 8) L (q_mt 369) 4 ([(0, q_args [(9, 0)] 0, [], y_hE, [], 0, 0)], []) = some ([c1], [])) ∧ q_Cle c1 (28, y_l28, [], q_hp q_K 155 y_h0, [], c1.2.2.2.2.2.1, c1.2.2.2.2.2.2) = true ∧ c1.2.2.2.2.2.1 ≤ 700 ∧ c1.2.2.2.2.2.2 ≤ 20000 := by
  obtain ⟨c1, h, h1⟩ := y_chk_i y_chk0
  unfold y_run at h
  exact ⟨c1, fun L => t_it_up (fun x ar hp iv r h => t_rn_up 8 x ar hp iv r h) 4 _ _ h, h1⟩
theorem y_mv7 : Nat.beq (q_rkk (q_rt 369)) (q_mt 369).2.1.2.2.2 = true := by
  have h := q_mv_law
  unfold q_mvL at h
  obtain ⟨h1, h⟩ := q_and_i h
  obtain ⟨h2, h⟩ := q_and_i h
  exact (q_and_i h).1
theorem y_mv8 : q_hrelB (q_cn 369) (q_mt 369).2.2.2 (q_hh 369) = true := by
  have h := q_mv_law
  unfold q_mvL at h
  obtain ⟨h1, h⟩ := q_and_i h
  obtain ⟨h2, h⟩ := q_and_i h
  exact (q_and_i h).2
/-- from the loop's head with the first heap -/
theorem y_head {Γ : q_Γ} (hG : q_GG Γ) (hL : Γ.2.2.2.1 ≤ 3072) {cl sl : Nat} (hc : cl ≤ 700) (hs : sl ≤ 20000) : ∃ hE, q_To Γ 369 [(1, (0, 1), q_hp q_K 155 hE, [])] (28, y_l28, [], q_hp q_K 155 y_h0, [], cl, sl) := by
  obtain ⟨t, v, h', ⟨rfl, rfl⟩, hT⟩ := y_loop hG hL 512 0 y_h0 cl sl (by omega) (Nat.zero_le _) y_Al y_J0 y_E0 (by omega) (by omega)
  refine ⟨h', q_To.wk (lo' := y_lo 0) (fun q hq => ?_) hT⟩
  unfold y_lo at hq
  unfold y_l28
  simp only [List.mem_cons, List.not_mem_nil, or_false] at hq ⊢
  rcases hq with h | h | h | h | h | h
  · exact Or.inl h
  · exact Or.inr (Or.inr (Or.inr (Or.inr (Or.inr h))))
  · exact Or.inr (Or.inr (Or.inr (Or.inr (Or.inl h))))
  · exact Or.inr (Or.inr (Or.inr (Or.inl h)))
  · exact Or.inr (Or.inr (Or.inl h))
  · exact Or.inr (Or.inl h)
set_option maxHeartbeats 4000000 in
theorem whole_start {p : Program} {e : Env} {s : State} {m : MethodId} {below : List Frame} {meth : Method} {c : Code} (l : Launch) (hflags : l.flags = flags0) {b L : Nat} {xs : Nat → Int32} (hL : L ≤ 3072) (C0 : lw_At p s m meth c b L xs) : W p l e room_1 s m #[Value.ref b] below meth c s.heap [] 0 0 (lw_Z below #[Value.ref b] s) (entryFrame m ([Value.ref b] : List Value).toArray 10) := by
  obtain ⟨hx, hb, hret, hml, hown, hts, hX, hbl, hlocks, hgv⟩ := C0
  have hts2 : ∀ w ∈ q_GL2, w.before #[Value.ref b] s = true := fun w hw => hts w (q_GL2_g w hw).1
  have hst : l.stackTraces = false := by
    unfold Launch.stackTraces
    rw [hflags]
    decide +kernel
  obtain ⟨D, hK⟩ := q_dc_s m.cls hts2
  obtain ⟨bs, hbs, hKX⟩ := y_kx_s hts hX hbl hgv
  have hr : q_rg (y_ρ xs) := fun i => ⟨Int32.le_toInt _, Int32.toInt_lt _⟩
  have hxs : ∀ j, j < L → Int32.ofInt (y_ρ xs j) = xs j := fun j _ => Int32.ofInt_toInt (xs j)
  have hb9 : c.code = q_bc 369 := by rw [y_bc]; exact hb
  have hCx : q_Cx 369 p l room_1 s m #[Value.ref b] meth c s.heap.size bs L xs := ⟨hx, hb9, by rw [hml, y_mL], by rw [y_on]; exact hown, hts2, hlocks, fun h => absurd h (by rw [y_cn]; decide), fun h => absurd h (by decide), hKX, hst, y_room, Or.inr y_hh⟩
  have a7 := y_mv7
  have a8 := y_mv8
  -- the state behind the constructors
  obtain ⟨c1, hrun, hle, hcl, hsl⟩ := y_first
  have hG : q_GG (y_ρ xs, bs, s.heap.size, L, xs, D, l) := ⟨hr, hxs, hst⟩
  obtain ⟨hE, hT⟩ := y_head hG hL hcl hsl
  have hEnd : q_Ends p l e room_1 s m #[Value.ref b] below meth c (lw_Z below #[Value.ref b] s) (y_ρ xs) bs s.heap.size D [] 369 [(1, (0, 1), q_hp q_K 155 hE, [])] := by
    refine ⟨?_, ?_, ?_⟩
    · intro lf pc ins st o ws' tys' H locs ls cl sl hlf hdec hsh ho' hK' hP' hD' hS' hW' hE' hc hs hout
      cases List.mem_singleton.mp hlf
      rcases hout with ⟨e0, -⟩ | ⟨-, V, e1, hv⟩
      · cases e0
      · have hv : V = .int (Int32.ofInt 1) := hv
        subst hv
        subst e1
        have hfin : ins = .ireturn ∧ st = [.int 1] := by
          rcases hsh with ⟨r1, r2, r3, r4, r5⟩ | ⟨r1, r2, r3, r4, r5, r6⟩ | ⟨r1, r2, r3, r4, r5⟩ | ⟨r1, r2, r3, r4, r5⟩ | ⟨r1, r2, r3, r4, r5⟩ | ⟨r1, ⟨n, r2⟩, r3, r4, r5, r6⟩ | ⟨r1, r2, r3, r4⟩
          · rw [y_rt] at r2; cases r2
          · cases q_so r6
            exact ⟨r1, r5⟩
          · rw [y_rt] at r2; cases r2
          · rw [y_rt] at r2; cases r2
          · rw [y_rt] at r2; cases r2
          · rw [y_rt] at r2; cases r2
          · rw [y_rt] at r2; cases r2
        obtain ⟨rfl, rfl⟩ := hfin
        refine va_forget (fun q hq => hS'.2.2 q hq) (W.widen (k := 601024) (n := 7293034) hc hs ?_)
        refine W.base ?_
        exact lw_ret (Drawn.sameBut.refl s.drawn lw_cs) hx hb hret hlocks (by rw [← y_bc]; exact hdec)
    · intro lf k pc ws' tys' H locs ls rest cl sl q9 ce hlf he
      cases List.mem_singleton.mp hlf
      cases he
    · intro lf k pc ik ws' tys' H locs ls st cl sl hlf he
      cases List.mem_singleton.mp hlf
      cases he
  have hargs : q_F2 (q_rv (y_ρ xs) bs []) [((9, 0) : q_V)] [Value.ref b] := ⟨by show Value.ref b = Value.ref (bs 0); rw [hbs], trivial⟩
  have hl := lv_entry [Value.ref b] (n := q_mL 369) (by rw [y_mL]; exact Nat.le_of_ble_eq_true rfl)
  rw [show (10 : Nat) = q_mL 369 from y_mL.symm, lg_entry_eq]
  generalize (lg_sl [Value.ref b] ++ List.replicate (q_mL 369 - (lg_sl [Value.ref b]).length) Slot.unset).toArray = ls at hl ⊢
  have step := fun (c9 : q_C) (z : List q_C × List q_Lf) (cf : Nat → List q_V → q_H → q_I → Option (List q_Lf)) (hcf : q_Con (y_ρ xs) bs s.heap.size L xs D l cf) (hz : q_step q_mt q_df cf L (q_mt 369) c9 = some z) (hG : ∀ c' ∈ z.1, q_G (q_w p l e (q_rm 369) s m #[Value.ref b] below meth c (lw_Z below #[Value.ref b] s)) q_cl (q_mL 369) (y_ρ xs) bs s.heap.size D [] s c') (hLF : ∀ lf ∈ z.2, lf ∈ [(1, (0, 1), q_hp q_K 155 hE, [])]) =>
    q_step_s (by decide) (y_room ▸ hCx) hr rfl hxs (q_bq a7) (q_hrel_i a8) hcf (y_room ▸ hEnd) hz hG hLF
  have g28 := hT (fun c9 => q_G (q_w p l e (q_rm 369) s m #[Value.ref b] below meth c (lw_Z below #[Value.ref b] s)) q_cl (q_mL 369) (y_ρ xs) bs s.heap.size D [] s c9)
    (fun c9 z cf hcf hz hG hLF => step c9 z cf hcf hz hG hLF)
    (fun pc lo j st hp9 cl sl hG ho ws9 tys9 H9 locs9 ls9 lv9 sR9 hK9 hP9 hD9 hS9 hW9 hE9 hL9 hF9 hl9 => by
      obtain ⟨V, r, rfl, g1, g2⟩ := q_F2_c hF9
      exact hG ho ws9 tys9 H9 locs9 ls9 lv9 (V :: r) hK9 hP9 hD9 hS9 hW9 hE9 hL9 ⟨(show V = .int (Int32.ofInt ((y_ρ xs) j)) from g1), g2⟩ hl9)
    (fun pc lo lo' st hp9 cl sl hsub hG ho ws9 tys9 H9 locs9 ls9 lv9 sR9 hK9 hP9 hD9 hS9 hW9 hE9 hL9 hF9 hl9 => by
      obtain ⟨lv', k1, k2⟩ := q_F2_sb hL9 lo' hsub
      exact hG ho ws9 tys9 H9 locs9 ls9 lv' sR9 hK9 hP9 hD9 hS9 hW9 hE9 k1 hF9 ⟨hl9.1, hl9.2.1, fun q hq => hl9.2.2 q (k2 q hq)⟩)
  have g1 := q_Cle_s hle g28
  have hq := hrun L
  have g0 := (q_it_s (G := fun c9 => q_G (q_w p l e (q_rm 369) s m #[Value.ref b] below meth c (lw_Z below #[Value.ref b] s)) q_cl (q_mL 369) (y_ρ xs) bs s.heap.size D [] s c9) (LF := [(1, (0, 1), q_hp q_K 155 hE, [])]) (fun c9 z hz hG hLF => step c9 z _ (q_con_s hr hxs hst 8) hz hG hLF) 4 _ _ hq (fun c9 hc9 => by cases List.mem_singleton.mp hc9; exact g1) (fun lf hlf => by cases hlf)).1 _ List.mem_cons_self
  rw [y_room]
  exact g0 (fun i p h => by cases i <;> cases h) [] [] s.heap [] ls (lv_args 0 [Value.ref b]) [] hK (fun k q hk => (by cases hk)) ⟨fun i j p q h => (by cases h), fun k q h => (by cases h)⟩ va_S.rf ⟨rfl, Nat.zero_le _, fun k q hk => (by cases hk)⟩ (q_Ex.rf []) (q_args_s _ _ hargs 0) trivial hl
