/-! Part 14: whole runs of methods: what the pure machine says of one, its contract says. -/
/-- a method's run: how it can end (with the look at the arguments' width) -/
noncomputable def q_rn (mt : Nat → q_MI) (df : Nat → List q_V) (sL : Nat) (d : Nat) : Nat → List q_V → q_H → q_I → Option (List q_Lf) :=
  Nat.rec (motive := fun _ => Nat → List q_V → q_H → q_I → Option (List q_Lf)) (fun _ _ _ _ => none) (fun _ ih i ar hp iv => q_if (Nat.ble (q_wid ar) (mt i).2.1.1) (match q_it mt df ih sL (mt i) 14 ([(0, q_args ar 0, [], hp, iv, 0, 0)], []) with
    | none => none
    | some z => match z with
      | ([], lf) => some lf
      | (_ :: _, _) => none)) d
section q_itS
variable {mt : Nat → q_MI} {df : Nat → List q_V} {cf : Nat → List q_V → q_H → q_I → Option (List q_Lf)} {sL : Nat} {mi : q_MI}
theorem q_it_s {G : q_C → Prop} {LF : List q_Lf} (hst : ∀ c z, q_step mt df cf sL mi c = some z → (∀ c' ∈ z.1, G c') → (∀ lf ∈ z.2, lf ∈ LF) → G c) :
    ∀ (k : Nat) (a b : List q_C × List q_Lf), q_it mt df cf sL mi k a = some b → (∀ c ∈ b.1, G c) → (∀ lf ∈ b.2, lf ∈ LF) → (∀ c ∈ a.1, G c) ∧ (∀ lf ∈ a.2, lf ∈ LF) := by
  intro k
  induction k with
  | zero =>
    intro a b h h1 h2
    have h : q_one1 mt df cf sL mi a = some b := h
    obtain ⟨l, lf⟩ := a
    cases l with
    | nil =>
      have h : some (([] : List q_C), lf) = some b := h
      cases q_so h
      exact ⟨h1, h2⟩
    | cons c r =>
      have h : (match q_step mt df cf sL mi c with
        | none => none
        | some z => some (q_app z.1 r, q_app z.2 lf)) = some b := h
      cases hs : q_step mt df cf sL mi c with
      | none => rw [hs] at h; cases h
      | some z =>
        rw [hs] at h
        have h : some (q_app z.1 r, q_app z.2 lf) = some b := h
        cases q_so h
        have h1 : ∀ c ∈ q_app z.1 r, G c := h1
        have h2 : ∀ x ∈ q_app z.2 lf, x ∈ LF := h2
        rw [q_app_g] at h1 h2
        refine ⟨fun c' hc => ?_, fun x hx => h2 x (List.mem_append_right _ hx)⟩
        rcases List.mem_cons.mp hc with rfl | hc
        · exact hst _ _ hs (fun c'' h => h1 _ (List.mem_append_left _ h)) (fun x h => h2 _ (List.mem_append_left _ h))
        · exact h1 _ (List.mem_append_right _ hc)
  | succ k ih =>
    intro a b h h1 h2
    have h : (match q_it mt df cf sL mi k a with
      | none => none
      | some z => match z with
        | ([], lf) => some ([], lf)
        | (c :: r, lf) => q_it mt df cf sL mi k (c :: r, lf)) = some b := h
    cases hs : q_it mt df cf sL mi k a with
    | none => rw [hs] at h; cases h
    | some z =>
      rw [hs] at h
      obtain ⟨l, lf⟩ := z
      cases l with
      | nil =>
        have h : some (([] : List q_C), lf) = some b := h
        cases q_so h
        exact ih _ _ hs h1 h2
      | cons c r =>
        have h : q_it mt df cf sL mi k (c :: r, lf) = some b := h
        obtain ⟨g1, g2⟩ := ih _ _ h h1 h2
        exact ih _ _ hs g1 g2
theorem q_rn_s {d i : Nat} {ar : List q_V} {hp : q_H} {iv : q_I} {lf : List q_Lf} (h : q_rn mt df sL (d + 1) i ar hp iv = some lf) :
    q_wid ar ≤ (mt i).2.1.1 ∧ ∀ G : q_C → Prop, (∀ c z, q_step mt df (q_rn mt df sL d) sL (mt i) c = some z → (∀ c' ∈ z.1, G c') → (∀ x ∈ z.2, x ∈ lf) → G c) → G (0, q_args ar 0, [], hp, iv, 0, 0) := by
  have h : q_if (Nat.ble (q_wid ar) (mt i).2.1.1) (match q_it mt df (q_rn mt df sL d) sL (mt i) 14 ([(0, q_args ar 0, [], hp, iv, 0, 0)], []) with
    | none => none
    | some z => match z with
      | ([], lf) => some lf
      | (_ :: _, _) => none) = some lf := h
  obtain ⟨h1, h⟩ := q_if_i h
  refine ⟨q_bl h1, fun G hst => ?_⟩
  cases hs : q_it mt df (q_rn mt df sL d) sL (mt i) 14 ([(0, q_args ar 0, [], hp, iv, 0, 0)], []) with
  | none => rw [hs] at h; cases h
  | some z =>
    rw [hs] at h
    obtain ⟨l, lf2⟩ := z
    cases l with
    | nil =>
      have h : some lf2 = some lf := h
      cases q_so h
      exact (q_it_s hst 14 _ _ hs (fun c hc => by cases hc) (fun x hx => hx)).1 _ List.mem_cons_self
    | cons c r =>
      have h : (none : Option (List q_Lf)) = some lf := h
      cases h
end q_itS
theorem q_args_s {ρ : Nat → Int} {bs : Nat → Nat} {ws : va_W} : ∀ (ar : List q_V) (arR : List Value), q_F2 (q_rv ρ bs ws) ar arR → ∀ n : Nat, q_F2 (q_rl ρ bs ws) (q_args ar n) (lv_args n arR)
  | [], arR, h, n => by rw [q_F2_n h]; trivial
  | a :: ar, arR, h, n => by
    obtain ⟨b, r, rfl, h1, h2⟩ := q_F2_c h
    have hc := q_is2_i h1
    show q_F2 (q_rl ρ bs ws) ((n, a) :: q_args ar (bif q_is2 a.1 then Nat.succ (Nat.succ n) else Nat.succ n)) ((n, b) :: lv_args (if b.category = 2 then n + 2 else n + 1) r)
    rw [hc]
    cases q_is2 a.1
    · exact ⟨⟨rfl, h1⟩, q_args_s ar r h2 (n + 1)⟩
    · exact ⟨⟨rfl, h1⟩, q_args_s ar r h2 (n + 2)⟩
theorem q_slen_s {ρ : Nat → Int} {bs : Nat → Nat} {ws : va_W} : ∀ (ar : List q_V) (arR : List Value), q_F2 (q_rv ρ bs ws) ar arR → (lg_sl arR).length = q_wid ar
  | [], arR, h => by rw [q_F2_n h]; rfl
  | a :: ar, arR, h => by
    obtain ⟨b, r, rfl, h1, h2⟩ := q_F2_c h
    have hc := q_is2_i h1
    have ih := q_slen_s ar r h2
    have e : lg_sl (b :: r) = (if b.category = 2 then [.val b, .second] else [.val b]) ++ lg_sl r := by unfold lg_sl; rw [List.flatMap_cons]
    show _ = bif q_is2 a.1 then Nat.succ (Nat.succ (q_wid ar)) else Nat.succ (q_wid ar)
    rw [e, List.length_append, ih, hc]
    cases q_is2 a.1
    · show 1 + q_wid ar = q_wid ar + 1; omega
    · show 2 + q_wid ar = q_wid ar + 2; omega
section q_cn9
variable {ρ : Nat → Int} {bs : Nat → Nat} {base L : Nat} {xs : Nat → Int32} {D : va_G} {l : Launch}
/-- the ends of a method's run are what its contract says -/
theorem q_ends_m {x : Nat} {p : Program} {e : Env} {s : State} {m : MethodId} {args : Array Value} {below : List Frame} {meth : Method} {c : Code} {lfs : List q_Lf} {ws : va_W} (hi : x < 368) (hX : q_Cx x p l (q_rm x) s m args meth c base bs L xs) (hr : meth.sig.returnType = q_rt x) :
    q_Ends p l e (q_rm x) s m args below meth c (vx_MQ below (q_Qc ρ bs base D ws lfs) (q_XC ρ bs base D ws lfs) args s (q_rm x).cells (q_rm x).slots (q_A base)) ρ bs base D ws x lfs := by
  have hX' := hX
  obtain ⟨hx, hb, hml, hown, hts, hlocks, hnm, htab, hKX, hst, hR, h276⟩ := hX
  refine ⟨?_, ?_, ?_⟩
  · intro lf pc ins st o ws' tys' H locs ls cl sl hlf hdec hsh ho' hK' hP' hD' hS' hW' hE' hc hs hout
    have hq : ∀ t : State, t.heap = H → s.WarmedH t.vm → q_Qc ρ bs base D ws lfs args s (.returned o) t := fun t ht hWm => ⟨⟨lf, hlf, ws', tys', ⟨ho', va_K.moved hWm.alike hK', by rw [ht]; exact hP', hD', hW', hE'⟩, by
      rcases hout with ⟨e0, e1⟩ | ⟨e0, V, e1, hv⟩
      · exact Or.inl ⟨e0, by rw [e1]⟩
      · exact Or.inr ⟨e0, V, by rw [e1], hv⟩⟩, hS'.F ht⟩
    refine vx_ret (W.widen hc hs ?_)
    rcases hsh with ⟨rfl, h1, x9, rfl, rfl⟩ | ⟨rfl, h1, x9, h2, rfl, rfl⟩ | ⟨rfl, h1, x9, rfl, rfl⟩ | ⟨rfl, h1, x9, rfl, rfl⟩ | ⟨rfl, h1, x9, rfl, rfl⟩ | ⟨rfl, ⟨n, h1⟩, v, h2, rfl, rfl⟩ | ⟨rfl, h1, rfl, rfl⟩
    · exact W.iret hx hb (hr.trans h1) hq hS'.2.2 hdec hlocks
    · exact W.zret hx hb (hr.trans h1) (by rcases h2 with rfl | rfl <;> decide +kernel) hq hS'.2.2 hdec hlocks
    · exact W.lret hx hb (hr.trans h1) hq hS'.2.2 hdec hlocks
    · exact W.fret hx hb (hr.trans h1) hq hS'.2.2 hdec hlocks
    · exact W.dret hx hb (hr.trans h1) hq hS'.2.2 hdec hlocks
    · exact W.aret hx hb (hr.trans h1) (Or.inl ⟨n, rfl⟩) h2 hq hS'.2.2 hdec hlocks
    · exact W.vret hx hb (hr.trans h1) hq hS'.2.2 hdec hlocks
  · intro lf k pc ws' tys' H locs ls rest cl sl q9 ce hlf he hk4 ho' hK' hP' hD' hS' hW' hE' hc hs hce hcv hcl hpass
    exact vx_outP hown hlocks (hpass hi) hce hcv hcl (fun t ht hal => ⟨⟨lf, hlf, ws', tys', ⟨ho', va_K.moved hal hK', by rw [ht]; exact hP', hD', hW', hE'⟩, k, hk4, he, rfl⟩, hS'.F ht⟩) hS'.2.2 hc hs
  · intro lf k pc ik ws' tys' H locs ls st cl sl hlf he hk4 ho' hK' hP' hD' hS' hW' hE' hc hs hsz hfr hlc htb hthr
    exact q_thrown hX' hthr hk4 hS' hsz hfr hlc hc hs (htb hi) (fun t hal g1 g2 => ⟨⟨lf, hlf, ws', tys', ⟨ho', va_K.moved hal hK', hP'.kept (fun k9 q hk9 => g2 q.1 (vx_lt hP' hk9)), hD', hW', hE'⟩, k, hk4, he, rfl⟩,
      Nat.le_trans hS'.1 g1, fun q h1 h2 => (g2 q (Nat.lt_of_lt_of_le h1 hS'.1)).trans (hS'.2.1 q h1 h2)⟩) hS'.2.2 hc hs
/-- the body of a method -/
theorem q_body (hr : q_rg ρ) (hxs : ∀ j, j < L → Int32.ofInt (ρ j) = xs j) (hst : l.stackTraces = false) {d : Nat} (hcf : q_Con ρ bs base L xs D l (q_rn q_mt q_df L d))
    {x : Nat} {ar : List q_V} {hp : q_H} {iv : q_I} {lfs : List q_Lf} (h : q_rn q_mt q_df L (d + 1) x ar hp iv = some lfs) (hx9 : x < 368) (ho : q_ok ρ iv) {ws : va_W} {tys : List (ClassId × FieldType)} {arR : List Value} (hD : va_D (q_A base) ws) (hW : q_W ρ bs ws tys hp) (hF : q_F2 (q_rv ρ bs ws) ar arR)
    {p : Program} {e : Env} {s s₁ : State} {m : MethodId} {args : Array Value} {below : List Frame} {meth : Method} {c : Code} (B : BodyLoose p l (q_y x) (headSpec (q_wsM x) (q_rm x)) (q_bc x) (q_mL x) (q_rt x) e s m args below meth c s₁) (hml : c.maxLocals = q_mL x) (htab : c.exceptionTable.toList = tableOf (q_hh x))
    (hP : q_Pre bs base L xs D ws tys arR args s) :
    W p l e (headSpec (q_wsM x) (q_rm x)).room s m args below meth c s.heap [] 0 0 (vx_MQ below (q_Qc ρ bs base D ws lfs) (q_XC ρ bs base D ws lfs) args s (q_rm x).cells (q_rm x).slots (q_A base)) (entryFrame m args (q_mL x)) := by
  obtain ⟨rfl, hK, hPP, hKX⟩ := hP
  obtain ⟨hwid, hrun⟩ := q_rn_s h
  have hmv := q_mv_ok x hx9
  obtain ⟨a1, hmv⟩ := q_and_i hmv
  obtain ⟨a2, hmv⟩ := q_and_i hmv
  obtain ⟨a3, hmv⟩ := q_and_i hmv
  obtain ⟨a4, hmv⟩ := q_and_i hmv
  obtain ⟨a5, hmv⟩ := q_and_i hmv
  obtain ⟨a6, hmv⟩ := q_and_i hmv
  obtain ⟨a7, hmv⟩ := q_and_i hmv
  obtain ⟨a8, a9⟩ := q_and_i hmv
  have hts0 := atoms_spec (ws := q_wsM x) B.pre
  have hts : ∀ w ∈ q_GL2, w.before arR.toArray s = true := fun w hw => hts0 w (List.mem_cons_of_mem _ hw)
  have hown : s.vm.findClass (q_on (q_cn x)) = some m.cls := by
    rw [← of_decide_eq_true a2]
    exact findClass_of_methodNamed B.named
  have hnm : meth.name = (q_y x).name := (name_of_methodNamed B.named B.method).1
  have hCx : q_Cx x p l (q_rm x) s m arR.toArray meth c base bs L xs := ⟨B.exec, B.bytes, hml, hown, hts, B.notSynchronized, fun _ => hnm, fun _ => htab, hKX, hst, rfl, Or.inl hx9⟩
  have hl := lv_entry arR (n := q_mL x) (by rw [q_slen_s ar arR hF, ← q_bq a1]; exact hwid)
  rw [lg_entry_eq]
  generalize (lg_sl arR ++ List.replicate (q_mL x - (lg_sl arR).length) Slot.unset).toArray = ls at hl ⊢
  have hmain := hrun (fun c9 => q_G (q_w p l e (q_rm x) s m arR.toArray below meth c (vx_MQ below (q_Qc ρ bs base D ws lfs) (q_XC ρ bs base D ws lfs) arR.toArray s (q_rm x).cells (q_rm x).slots (q_A base))) q_cl (q_mL x) ρ bs base D ws s c9)
    (fun c9 z hz hG hLF => q_step_s (Nat.lt_succ_of_lt hx9) hCx hr rfl hxs (q_bq a7) (q_hrel_i a8) hcf (q_ends_m hx9 hCx B.returns) hz hG hLF)
  exact hmain ho ws tys s.heap [] ls (lv_args 0 arR) [] hK hPP hD va_S.rf hW (q_Ex.rf ws) (q_args_s ar arR hF 0) trivial hl
/-- every run of a method is its contract -/
theorem q_con_s (hr : q_rg ρ) (hxs : ∀ j, j < L → Int32.ofInt (ρ j) = xs j) (hst : l.stackTraces = false) : ∀ d : Nat, q_Con ρ bs base L xs D l (q_rn q_mt q_df L d) := by
  intro d
  induction d with
  | zero => intro x ar hp iv lfs h; cases h
  | succ d ih =>
    intro x ar hp iv lfs h hx9 ho ws tys arR hD hW hF
    have hmv := q_mv_ok x hx9
    obtain ⟨a1, hmv⟩ := q_and_i hmv
    obtain ⟨a2, hmv⟩ := q_and_i hmv
    obtain ⟨a3, hmv⟩ := q_and_i hmv
    cases hh : q_hh x with
    | nil =>
      refine vx_ofW (cc := q_bc x) (maxL := q_mL x) (ret := q_rt x) (ws' := q_GL2) a3 (by unfold q_wsM; rw [q_cw_c hh]) ?_
      intro p e s m args below meth c s₁ B hml ht hP
      refine q_body hr hxs hst ih h hx9 ho hD hW hF B hml ?_ hP
      rw [hh]
      cases hl : c.exceptionTable.toList with
      | nil => rfl
      | cons a r => exact (ht a (by rw [hl]; exact List.mem_cons_self)).elim
    | cons a r =>
      refine vx_ofWH (cc := q_bc x) (maxL := q_mL x) (ret := q_rt x) (hh := q_hh x) (ws' := q_GL2) a3 (by unfold q_wsM; rw [q_cw_h hh]) ?_
      intro p e s m args below meth c s₁ B hml hP
      refine q_body hr hxs hst ih h hx9 ho hD hW hF B hml ?_ hP
      refine vx_table (x := q_y x) B (y := q_y x) (bytes := q_bc x) (maxL' := q_mL x) (ret' := q_rt x) ?_
      have hc := atoms_spec (ws := q_wsM x) B.pre _ List.mem_cons_self
      rw [q_cw_h hh] at hc
      exact hc
end q_cn9
