/-! Part 32: the class: its input, exact. Printed by wip/tools/k32.py. -/
theorem r_putik {Γ : q_Γ} {i pc len nx x y idx cl sl kk : Nat} {v d2 w : Int} {P : Nat → q_V → q_F → Prop} {lo : q_L} {st : List q_V} {h : q_F} {ds : List q_Ds} (he : q_cat i pc (.putfield idx) len x y v) (hk : kk < 155) (hK : q_K kk = (0, x, ds)) (hd : ds[y]? = some (0, d2)) (hf : q_fit v.toNat (0, w) = true) (hz : q_zf (0, x, ds) y = false) (hb : q_Rv kk y w) (hn : Nat.add pc len = nx) (k : ∀ g, q_Gr (fun k' j' => k' = kk ∧ j' = y) h g → g kk y = w → q_R Γ q_K 155 i P (nx, lo, st, q_hp q_K 155 g, [], cl, sl)) : q_R Γ q_K 155 i P (pc, lo, (0, w) :: (2, Int.ofNat kk) :: st, q_hp q_K 155 h, [], cl, sl) :=
  r_puti he hk (by decide) hK hd hf hn (k _ (q_Gr1 hK hz hb) (q_ud_s ..))
theorem r_bastk {Γ : q_Γ} {i pc len nx x y cl sl kk N : Nat} {v j j' w : Int} {P : Nat → q_V → q_F → Prop} {lo : q_L} {st : List q_V} {h : q_F} {ds : List q_Ds} (he : q_cat i pc .bastore len x y v) (hk : kk < 139) (hK : q_K kk = (2, N, ds)) (hN2 : N ≤ 2048) (hj : q_w32 j = j') (hj0 : 0 ≤ j') (hj1 : j' < N) (hn : Nat.add pc len = nx) (k : ∀ g, q_Gr (fun k' j9 => k' = kk ∧ j9 = j'.toNat) h g → q_R Γ q_K 155 i P (nx, lo, st, q_hp q_K 155 g, [], cl, sl)) : q_R Γ q_K 155 i P (pc, lo, (0, w) :: (0, j) :: (2, Int.ofNat kk) :: st, q_hp q_K 155 h, [], cl, sl) :=
  r_bast he (by omega) (by decide) hK hN2 rfl hj hj0 hj1 hn (k _ (q_Gr1 hK (q_zf3 rfl) (q_Rv0 (fun h9 => absurd h9 (by omega)) (fun h9 => absurd h9 (by omega)) (fun h9 => absurd h9 (by omega)) (fun h9 => absurd h9 (by omega)))))

theorem e60 {Γ : q_Γ} (hG : q_GG Γ) {h : q_F} (hZ : q_Bz h) (hR : q_Rb h) {v1 : Int} (hr1 : q_r32 v1) (hp0 : 0 ≤ h 1 1 ∧ h 1 1 < 600) :
    q_M Γ q_K 155 60 [(2, Int.ofNat 1), (0, v1)] h (fun t w h' => (t = 0 ∧ (h' 1 1 = h 1 1 + 1) ∧ q_Gr (fun k j => k = 2 ∨ (k = 1 ∧ j = 1)) h h')) := by
  refine q_M.of (by decide) (Nat.le_of_ble_eq_true rfl) hG ?_
  refine r_aload_n c60_0 rfl rfl ?_
  refine r_geti c60_1 (by first | assumption | omega) (by decide) (by first | assumption | rfl) rfl rfl ?_
  refine r_if_lt c60_4 rfl (by first | exact q_w32_id (by omega) (by omega) | exact q_w32w _ | exact rfl) ?_ ?_
  · intro b1
    exact r_vret c60_40 ⟨rfl, rfl, rfl⟩ ⟨rfl, (by omega), (by repeat (first | exact q_Gr.rf | refine q_Gr.tr ?_ (by assumption) (by intro k9 j9 hk9; omega)))⟩
  · intro b1
    refine r_aload_n c60_7 rfl rfl ?_
    refine r_geti c60_8 (by first | assumption | omega) (by decide) (by first | assumption | rfl) rfl rfl ?_
    refine r_aload_n c60_11 rfl rfl ?_
    refine r_getr c60_12 (by first | assumption | omega) (by decide) (by first | assumption | rfl) rfl rfl ?_
    refine r_alen c60_15 (by first | assumption | omega) (by decide) (by first | assumption | rfl) (by decide) rfl ?_
    refine r_ic_ge c60_16 rfl (by first | exact q_w32_id (by omega) (by omega) | exact q_w32w _ | exact rfl) (by first | exact q_w32_id (by omega) (by omega) | exact q_w32w _ | exact rfl) ?_ ?_
    · intro b2
      exact r_vret c60_40 ⟨rfl, rfl, rfl⟩ ⟨rfl, (by omega), (by repeat (first | exact q_Gr.rf | refine q_Gr.tr ?_ (by assumption) (by intro k9 j9 hk9; omega)))⟩
    · intro b2
      refine r_aload_n c60_19 rfl rfl ?_
      refine r_getr c60_20 (by first | assumption | omega) (by decide) (by first | assumption | rfl) rfl rfl ?_
      refine r_aload_n c60_23 rfl rfl ?_
      refine r_geti c60_24 (by first | assumption | omega) (by decide) (by first | assumption | rfl) rfl rfl ?_
      refine r_iload_n c60_27 rfl rfl ?_
      refine r_i2b c60_28 rfl rfl ?_
      refine r_bastk c60_29 (by decide) rfl (by decide) (by first | exact q_w32_id (by omega) (by omega) | exact q_w32w _ | exact rfl) (by first | assumption | omega) (by first | assumption | omega) rfl ?_
      intro g3 f3
      have m1001f3 := f3.1 1 1 (by omega)
      refine r_aload_n c60_30 rfl rfl ?_
      refine r_dup c60_31 rfl rfl ?_
      refine r_geti c60_32 (by first | assumption | omega) (by decide) (by first | assumption | rfl) rfl rfl ?_
      refine r_iconst c60_35 rfl ?_
      refine r_iadd c60_36 (by first | exact q_w32_id (by omega) (by omega) | exact q_w32w _ | exact rfl) rfl ?_
      refine r_putik c60_37 (by decide) rfl rfl rfl rfl (q_Rv0 (fun h9 => absurd h9 (by decide)) (fun h9 => absurd h9 (by decide)) (fun _ _ => (by first | assumption | omega | exact ⟨q_rg1 _, q_rg2 _⟩ | exact ⟨q_rh1 _, q_rh2 _⟩ | exact q_rj ⟨q_rg1 _, q_rg2 _⟩ | exact q_rgi _ | exact q_rgj _ | exact q_rj (q_rgi _) | exact q_rj (by assumption))) (fun h9 h8 => absurd h9 (by decide))) rfl ?_
      intro g4 f4 w4
      exact r_vret c60_40 ⟨rfl, rfl, rfl⟩ ⟨rfl, (by omega), (by repeat (first | exact q_Gr.rf | refine q_Gr.tr ?_ (by assumption) (by intro k9 j9 hk9; omega)))⟩
theorem e62 {Γ : q_Γ} (hG : q_GG Γ) {h : q_F} (hZ : q_Bz h) (hR : q_Rb h) {v1 : Int} (hr1 : q_r32 v1) (hp0 : 0 ≤ h 1 1 ∧ h 1 1 ≤ 596) :
    q_M Γ q_K 155 62 [(2, Int.ofNat 1), (0, v1)] h (fun t w h' => (t = 0 ∧ (h' 1 1 = h 1 1 + 4) ∧ q_Gr (fun k j => k = 2 ∨ (k = 1 ∧ j = 1)) h h')) := by
  refine q_M.of (by decide) (Nat.le_of_ble_eq_true rfl) hG ?_
  refine r_aload_n c62_0 rfl rfl ?_
  refine r_iload_n c62_1 rfl rfl ?_
  refine r_bipush c62_2 rfl ?_
  refine r_iushr c62_4 rfl rfl ?_
  refine r_vcG c62_5 (by first | assumption | omega) (by decide) (by first | assumption | rfl) rfl rfl rfl (e60 hG (q_Gr.bz (S := fun k j => k = 2 ∨ (k = 1 ∧ j = 1)) hZ (by repeat (first | exact q_Gr.rf | refine q_Gr.tr ?_ (by assumption) (by intro k9 j9 hk9; omega)))) (q_Gr.rb (S := fun k j => k = 2 ∨ (k = 1 ∧ j = 1)) hR (by repeat (first | exact q_Gr.rf | refine q_Gr.tr ?_ (by assumption) (by intro k9 j9 hk9; omega)))) (by first | assumption | omega | exact ⟨q_rg1 _, q_rg2 _⟩ | exact ⟨q_rh1 _, q_rh2 _⟩ | exact q_rj ⟨q_rg1 _, q_rg2 _⟩ | exact q_rgi _ | exact q_rgj _ | exact q_rj (q_rgi _) | exact q_rj (by assumption)) (by first | assumption | omega)) ?_
  intro t1 w1 g1 p1
  obtain ⟨rfl, hs1, e1⟩ := p1
  refine Or.inl ⟨rfl, ?_⟩
  refine r_aload_n c62_8 rfl rfl ?_
  refine r_iload_n c62_9 rfl rfl ?_
  refine r_bipush c62_10 rfl ?_
  refine r_iushr c62_12 rfl rfl ?_
  refine r_vcG c62_13 (by first | assumption | omega) (by decide) (by first | assumption | rfl) rfl rfl rfl (e60 hG (q_Gr.bz (S := fun k j => k = 2 ∨ (k = 1 ∧ j = 1)) hZ (by repeat (first | exact q_Gr.rf | refine q_Gr.tr ?_ (by assumption) (by intro k9 j9 hk9; omega)))) (q_Gr.rb (S := fun k j => k = 2 ∨ (k = 1 ∧ j = 1)) hR (by repeat (first | exact q_Gr.rf | refine q_Gr.tr ?_ (by assumption) (by intro k9 j9 hk9; omega)))) (by first | assumption | omega | exact ⟨q_rg1 _, q_rg2 _⟩ | exact ⟨q_rh1 _, q_rh2 _⟩ | exact q_rj ⟨q_rg1 _, q_rg2 _⟩ | exact q_rgi _ | exact q_rgj _ | exact q_rj (q_rgi _) | exact q_rj (by assumption)) (by first | assumption | omega)) ?_
  intro t2 w2 g2 p2
  obtain ⟨rfl, hs2, e2⟩ := p2
  refine Or.inl ⟨rfl, ?_⟩
  refine r_aload_n c62_16 rfl rfl ?_
  refine r_iload_n c62_17 rfl rfl ?_
  refine r_bipush c62_18 rfl ?_
  refine r_iushr c62_20 rfl rfl ?_
  refine r_vcG c62_21 (by first | assumption | omega) (by decide) (by first | assumption | rfl) rfl rfl rfl (e60 hG (q_Gr.bz (S := fun k j => k = 2 ∨ (k = 1 ∧ j = 1)) hZ (by repeat (first | exact q_Gr.rf | refine q_Gr.tr ?_ (by assumption) (by intro k9 j9 hk9; omega)))) (q_Gr.rb (S := fun k j => k = 2 ∨ (k = 1 ∧ j = 1)) hR (by repeat (first | exact q_Gr.rf | refine q_Gr.tr ?_ (by assumption) (by intro k9 j9 hk9; omega)))) (by first | assumption | omega | exact ⟨q_rg1 _, q_rg2 _⟩ | exact ⟨q_rh1 _, q_rh2 _⟩ | exact q_rj ⟨q_rg1 _, q_rg2 _⟩ | exact q_rgi _ | exact q_rgj _ | exact q_rj (q_rgi _) | exact q_rj (by assumption)) (by first | assumption | omega)) ?_
  intro t3 w3 g3 p3
  obtain ⟨rfl, hs3, e3⟩ := p3
  refine Or.inl ⟨rfl, ?_⟩
  refine r_aload_n c62_24 rfl rfl ?_
  refine r_iload_n c62_25 rfl rfl ?_
  refine r_vcG c62_26 (by first | assumption | omega) (by decide) (by first | assumption | rfl) rfl rfl rfl (e60 hG (q_Gr.bz (S := fun k j => k = 2 ∨ (k = 1 ∧ j = 1)) hZ (by repeat (first | exact q_Gr.rf | refine q_Gr.tr ?_ (by assumption) (by intro k9 j9 hk9; omega)))) (q_Gr.rb (S := fun k j => k = 2 ∨ (k = 1 ∧ j = 1)) hR (by repeat (first | exact q_Gr.rf | refine q_Gr.tr ?_ (by assumption) (by intro k9 j9 hk9; omega)))) (by first | assumption | omega | exact ⟨q_rg1 _, q_rg2 _⟩ | exact ⟨q_rh1 _, q_rh2 _⟩ | exact q_rj ⟨q_rg1 _, q_rg2 _⟩ | exact q_rgi _ | exact q_rgj _ | exact q_rj (q_rgi _) | exact q_rj (by assumption)) (by first | assumption | omega)) ?_
  intro t4 w4 g4 p4
  obtain ⟨rfl, hs4, e4⟩ := p4
  refine Or.inl ⟨rfl, ?_⟩
  exact r_vret c62_29 ⟨rfl, rfl, rfl⟩ ⟨rfl, (by omega), (by repeat (first | exact q_Gr.rf | refine q_Gr.tr ?_ (by assumption) (by intro k9 j9 hk9; omega)))⟩
theorem c156_0 : q_cat 156 0 (.aload_n 0) 1 0 0 (0) := ⟨rfl, rfl⟩
theorem c156_1 : q_cat 156 1 (.getfield 10) 3 8 0 (3) := ⟨rfl, rfl⟩
theorem c156_4 : q_cat 156 4 (.getfield 60) 3 2 1 (0) := ⟨rfl, rfl⟩
theorem c156_7 : q_cat 156 7 (.sipush 580) 3 0 0 (0) := ⟨rfl, rfl⟩
theorem c156_10 : q_cat 156 10 (.if_icmp .le 5) 3 15 0 (0) := ⟨rfl, rfl⟩
theorem c156_13 : q_cat 156 13 (.iconst (-1)) 1 0 0 (0) := ⟨rfl, rfl⟩
theorem c156_14 : q_cat 156 14 (.ireturn) 1 0 0 (0) := ⟨rfl, rfl⟩
theorem c156_15 : q_cat 156 15 (.aload_n 0) 1 0 0 (0) := ⟨rfl, rfl⟩
theorem c156_16 : q_cat 156 16 (.getfield 10) 3 8 0 (3) := ⟨rfl, rfl⟩
theorem c156_19 : q_cat 156 19 (.iload_n 1) 1 1 0 (0) := ⟨rfl, rfl⟩
theorem c156_20 : q_cat 156 20 (.invokevirtual 64) 3 62 0 (0) := ⟨rfl, rfl⟩
theorem c156_23 : q_cat 156 23 (.aload_n 0) 1 0 0 (0) := ⟨rfl, rfl⟩
theorem c156_24 : q_cat 156 24 (.getfield 10) 3 8 0 (3) := ⟨rfl, rfl⟩
theorem c156_27 : q_cat 156 27 (.iload_n 2) 1 2 0 (0) := ⟨rfl, rfl⟩
theorem c156_28 : q_cat 156 28 (.invokevirtual 64) 3 62 0 (0) := ⟨rfl, rfl⟩
theorem c156_31 : q_cat 156 31 (.aload_n 0) 1 0 0 (0) := ⟨rfl, rfl⟩
theorem c156_32 : q_cat 156 32 (.getfield 10) 3 8 0 (3) := ⟨rfl, rfl⟩
theorem c156_35 : q_cat 156 35 (.iload_n 3) 1 3 0 (0) := ⟨rfl, rfl⟩
theorem c156_36 : q_cat 156 36 (.invokevirtual 64) 3 62 0 (0) := ⟨rfl, rfl⟩
theorem c156_39 : q_cat 156 39 (.aload_n 0) 1 0 0 (0) := ⟨rfl, rfl⟩
theorem c156_40 : q_cat 156 40 (.getfield 10) 3 8 0 (3) := ⟨rfl, rfl⟩
theorem c156_43 : q_cat 156 43 (.iload 4) 2 4 0 (0) := ⟨rfl, rfl⟩
theorem c156_45 : q_cat 156 45 (.invokevirtual 64) 3 62 0 (0) := ⟨rfl, rfl⟩
theorem c156_48 : q_cat 156 48 (.aload_n 0) 1 0 0 (0) := ⟨rfl, rfl⟩
theorem c156_49 : q_cat 156 49 (.getfield 10) 3 8 0 (3) := ⟨rfl, rfl⟩
theorem c156_52 : q_cat 156 52 (.iload 5) 2 5 0 (0) := ⟨rfl, rfl⟩
theorem c156_54 : q_cat 156 54 (.invokevirtual 64) 3 62 0 (0) := ⟨rfl, rfl⟩
theorem c156_57 : q_cat 156 57 (.aload_n 0) 1 0 0 (0) := ⟨rfl, rfl⟩
theorem c156_58 : q_cat 156 58 (.getfield 10) 3 8 0 (3) := ⟨rfl, rfl⟩
theorem c156_61 : q_cat 156 61 (.getfield 60) 3 2 1 (0) := ⟨rfl, rfl⟩
theorem c156_64 : q_cat 156 64 (.ireturn) 1 0 0 (0) := ⟨rfl, rfl⟩
theorem e156 {Γ : q_Γ} (hG : q_GG Γ) {h : q_F} (hZ : q_Bz h) (hR : q_Rb h) {v1 : Int} {v2 : Int} {v3 : Int} {v4 : Int} {v5 : Int} (hr1 : q_r32 v1) (hr2 : q_r32 v2) (hr3 : q_r32 v3) (hr4 : q_r32 v4) (hr5 : q_r32 v5) (hp0 : 0 ≤ h 1 1 ∧ h 1 1 ≤ 600) :
    q_M Γ q_K 155 156 [(2, Int.ofNat 0), (0, v1), (0, v2), (0, v3), (0, v4), (0, v5)] h (fun t w h' => (t = 1 ∧ (∃ z, w = ((0, z) : q_V) ∧ q_r32 z ∧ ((580 < h 1 1 ∧ z = -1 ∧ h' 1 1 = h 1 1) ∨ (h 1 1 ≤ 580 ∧ z = h 1 1 + 20 ∧ h' 1 1 = z))) ∧ q_Gr (fun k j => k = 2 ∨ (k = 1 ∧ j = 1)) h h')) := by
  refine q_M.of (by decide) (Nat.le_of_ble_eq_true rfl) hG ?_
  refine r_aload_n c156_0 rfl rfl ?_
  refine r_getr c156_1 (by first | assumption | omega) (by decide) (by first | assumption | rfl) rfl rfl ?_
  refine r_geti c156_4 (by first | assumption | omega) (by decide) (by first | assumption | rfl) rfl rfl ?_
  refine r_sipush c156_7 rfl ?_
  refine r_ic_le c156_10 rfl (by first | exact q_w32_id (by omega) (by omega) | exact q_w32w _ | exact rfl) (show q_w32 (580) = 580 from rfl) ?_ ?_
  · intro b1
    refine r_aload_n c156_15 rfl rfl ?_
    refine r_getr c156_16 (by first | assumption | omega) (by decide) (by first | assumption | rfl) rfl rfl ?_
    refine r_iload_n c156_19 rfl rfl ?_
    refine r_vcG c156_20 (by first | assumption | omega) (by decide) (by first | assumption | rfl) rfl rfl rfl (e62 hG (q_Gr.bz (S := fun k j => k = 2 ∨ (k = 1 ∧ j = 1)) hZ (by repeat (first | exact q_Gr.rf | refine q_Gr.tr ?_ (by assumption) (by intro k9 j9 hk9; omega)))) (q_Gr.rb (S := fun k j => k = 2 ∨ (k = 1 ∧ j = 1)) hR (by repeat (first | exact q_Gr.rf | refine q_Gr.tr ?_ (by assumption) (by intro k9 j9 hk9; omega)))) (by first | assumption | omega | exact ⟨q_rg1 _, q_rg2 _⟩ | exact ⟨q_rh1 _, q_rh2 _⟩ | exact q_rj ⟨q_rg1 _, q_rg2 _⟩ | exact q_rgi _ | exact q_rgj _ | exact q_rj (q_rgi _) | exact q_rj (by assumption)) (by first | assumption | omega)) ?_
    intro t2 w2 g2 p2
    obtain ⟨rfl, hs2, e2⟩ := p2
    refine Or.inl ⟨rfl, ?_⟩
    refine r_aload_n c156_23 rfl rfl ?_
    refine r_getr c156_24 (by first | assumption | omega) (by decide) (by first | assumption | rfl) rfl rfl ?_
    refine r_iload_n c156_27 rfl rfl ?_
    refine r_vcG c156_28 (by first | assumption | omega) (by decide) (by first | assumption | rfl) rfl rfl rfl (e62 hG (q_Gr.bz (S := fun k j => k = 2 ∨ (k = 1 ∧ j = 1)) hZ (by repeat (first | exact q_Gr.rf | refine q_Gr.tr ?_ (by assumption) (by intro k9 j9 hk9; omega)))) (q_Gr.rb (S := fun k j => k = 2 ∨ (k = 1 ∧ j = 1)) hR (by repeat (first | exact q_Gr.rf | refine q_Gr.tr ?_ (by assumption) (by intro k9 j9 hk9; omega)))) (by first | assumption | omega | exact ⟨q_rg1 _, q_rg2 _⟩ | exact ⟨q_rh1 _, q_rh2 _⟩ | exact q_rj ⟨q_rg1 _, q_rg2 _⟩ | exact q_rgi _ | exact q_rgj _ | exact q_rj (q_rgi _) | exact q_rj (by assumption)) (by first | assumption | omega)) ?_
    intro t3 w3 g3 p3
    obtain ⟨rfl, hs3, e3⟩ := p3
    refine Or.inl ⟨rfl, ?_⟩
    refine r_aload_n c156_31 rfl rfl ?_
    refine r_getr c156_32 (by first | assumption | omega) (by decide) (by first | assumption | rfl) rfl rfl ?_
    refine r_iload_n c156_35 rfl rfl ?_
    refine r_vcG c156_36 (by first | assumption | omega) (by decide) (by first | assumption | rfl) rfl rfl rfl (e62 hG (q_Gr.bz (S := fun k j => k = 2 ∨ (k = 1 ∧ j = 1)) hZ (by repeat (first | exact q_Gr.rf | refine q_Gr.tr ?_ (by assumption) (by intro k9 j9 hk9; omega)))) (q_Gr.rb (S := fun k j => k = 2 ∨ (k = 1 ∧ j = 1)) hR (by repeat (first | exact q_Gr.rf | refine q_Gr.tr ?_ (by assumption) (by intro k9 j9 hk9; omega)))) (by first | assumption | omega | exact ⟨q_rg1 _, q_rg2 _⟩ | exact ⟨q_rh1 _, q_rh2 _⟩ | exact q_rj ⟨q_rg1 _, q_rg2 _⟩ | exact q_rgi _ | exact q_rgj _ | exact q_rj (q_rgi _) | exact q_rj (by assumption)) (by first | assumption | omega)) ?_
    intro t4 w4 g4 p4
    obtain ⟨rfl, hs4, e4⟩ := p4
    refine Or.inl ⟨rfl, ?_⟩
    refine r_aload_n c156_39 rfl rfl ?_
    refine r_getr c156_40 (by first | assumption | omega) (by decide) (by first | assumption | rfl) rfl rfl ?_
    refine r_iload c156_43 rfl rfl ?_
    refine r_vcG c156_45 (by first | assumption | omega) (by decide) (by first | assumption | rfl) rfl rfl rfl (e62 hG (q_Gr.bz (S := fun k j => k = 2 ∨ (k = 1 ∧ j = 1)) hZ (by repeat (first | exact q_Gr.rf | refine q_Gr.tr ?_ (by assumption) (by intro k9 j9 hk9; omega)))) (q_Gr.rb (S := fun k j => k = 2 ∨ (k = 1 ∧ j = 1)) hR (by repeat (first | exact q_Gr.rf | refine q_Gr.tr ?_ (by assumption) (by intro k9 j9 hk9; omega)))) (by first | assumption | omega | exact ⟨q_rg1 _, q_rg2 _⟩ | exact ⟨q_rh1 _, q_rh2 _⟩ | exact q_rj ⟨q_rg1 _, q_rg2 _⟩ | exact q_rgi _ | exact q_rgj _ | exact q_rj (q_rgi _) | exact q_rj (by assumption)) (by first | assumption | omega)) ?_
    intro t5 w5 g5 p5
    obtain ⟨rfl, hs5, e5⟩ := p5
    refine Or.inl ⟨rfl, ?_⟩
    refine r_aload_n c156_48 rfl rfl ?_
    refine r_getr c156_49 (by first | assumption | omega) (by decide) (by first | assumption | rfl) rfl rfl ?_
    refine r_iload c156_52 rfl rfl ?_
    refine r_vcG c156_54 (by first | assumption | omega) (by decide) (by first | assumption | rfl) rfl rfl rfl (e62 hG (q_Gr.bz (S := fun k j => k = 2 ∨ (k = 1 ∧ j = 1)) hZ (by repeat (first | exact q_Gr.rf | refine q_Gr.tr ?_ (by assumption) (by intro k9 j9 hk9; omega)))) (q_Gr.rb (S := fun k j => k = 2 ∨ (k = 1 ∧ j = 1)) hR (by repeat (first | exact q_Gr.rf | refine q_Gr.tr ?_ (by assumption) (by intro k9 j9 hk9; omega)))) (by first | assumption | omega | exact ⟨q_rg1 _, q_rg2 _⟩ | exact ⟨q_rh1 _, q_rh2 _⟩ | exact q_rj ⟨q_rg1 _, q_rg2 _⟩ | exact q_rgi _ | exact q_rgj _ | exact q_rj (q_rgi _) | exact q_rj (by assumption)) (by first | assumption | omega)) ?_
    intro t6 w6 g6 p6
    obtain ⟨rfl, hs6, e6⟩ := p6
    refine Or.inl ⟨rfl, ?_⟩
    refine r_aload_n c156_57 rfl rfl ?_
    refine r_getr c156_58 (by first | assumption | omega) (by decide) (by first | assumption | rfl) rfl rfl ?_
    refine r_geti c156_61 (by first | assumption | omega) (by decide) (by first | assumption | rfl) rfl rfl ?_
    exact r_iret c156_64 ⟨rfl, rfl, rfl⟩ ⟨rfl, ⟨_, rfl, (by first | assumption | omega | exact ⟨q_rg1 _, q_rg2 _⟩ | exact ⟨q_rh1 _, q_rh2 _⟩ | exact q_rj ⟨q_rg1 _, q_rg2 _⟩ | exact q_rgi _ | exact q_rgj _ | exact q_rj (q_rgi _) | exact q_rj (by assumption)), (by omega)⟩, (by repeat (first | exact q_Gr.rf | refine q_Gr.tr ?_ (by assumption) (by intro k9 j9 hk9; omega)))⟩
  · intro b1
    refine r_iconst c156_13 rfl ?_
    exact r_iret c156_14 ⟨rfl, rfl, rfl⟩ ⟨rfl, ⟨_, rfl, (by first | assumption | omega | exact ⟨q_rg1 _, q_rg2 _⟩ | exact ⟨q_rh1 _, q_rh2 _⟩ | exact q_rj ⟨q_rg1 _, q_rg2 _⟩ | exact q_rgi _ | exact q_rgj _ | exact q_rj (q_rgi _) | exact q_rj (by assumption)), (by omega)⟩, (by repeat (first | exact q_Gr.rf | refine q_Gr.tr ?_ (by assumption) (by intro k9 j9 hk9; omega)))⟩
theorem c226_0 : q_cat 226 0 (.iload_n 1) 1 1 0 (0) := ⟨rfl, rfl⟩
theorem c226_1 : q_cat 226 1 (.ifCond .lt 14) 3 15 0 (0) := ⟨rfl, rfl⟩
theorem c226_4 : q_cat 226 4 (.iload_n 1) 1 1 0 (0) := ⟨rfl, rfl⟩
theorem c226_5 : q_cat 226 5 (.aload_n 0) 1 0 0 (0) := ⟨rfl, rfl⟩
theorem c226_6 : q_cat 226 6 (.getfield 10) 3 8 0 (3) := ⟨rfl, rfl⟩
theorem c226_9 : q_cat 226 9 (.getfield 60) 3 2 1 (0) := ⟨rfl, rfl⟩
theorem c226_12 : q_cat 226 12 (.if_icmp .le 5) 3 17 0 (0) := ⟨rfl, rfl⟩
theorem c226_15 : q_cat 226 15 (.iconst 0) 1 0 0 (0) := ⟨rfl, rfl⟩
theorem c226_16 : q_cat 226 16 (.ireturn) 1 0 0 (0) := ⟨rfl, rfl⟩
theorem c226_17 : q_cat 226 17 (.aload_n 0) 1 0 0 (0) := ⟨rfl, rfl⟩
theorem c226_18 : q_cat 226 18 (.getfield 10) 3 8 0 (3) := ⟨rfl, rfl⟩
theorem c226_21 : q_cat 226 21 (.iload_n 1) 1 1 0 (0) := ⟨rfl, rfl⟩
theorem c226_22 : q_cat 226 22 (.putfield 60) 3 2 1 (0) := ⟨rfl, rfl⟩
theorem c226_25 : q_cat 226 25 (.iconst 1) 1 0 0 (0) := ⟨rfl, rfl⟩
theorem c226_26 : q_cat 226 26 (.ireturn) 1 0 0 (0) := ⟨rfl, rfl⟩
theorem e226 {Γ : q_Γ} (hG : q_GG Γ) {h : q_F} (hZ : q_Bz h) (hR : q_Rb h) {v1 : Int} (hr1 : q_r32 v1) (hp0 : 0 ≤ h 1 1 ∧ h 1 1 ≤ 600) :
    q_M Γ q_K 155 226 [(2, Int.ofNat 0), (0, v1)] h (fun t w h' => (t = 1 ∧ (∃ z, w = ((0, z) : q_V) ∧ (z = 0 ∨ z = 1) ∧ ((z = 1 ∧ 0 ≤ v1 ∧ v1 ≤ h 1 1 ∧ h' 1 1 = v1) ∨ (z = 0 ∧ (v1 < 0 ∨ h 1 1 < v1) ∧ h' 1 1 = h 1 1))) ∧ q_Gr (fun k j => k = 1 ∧ j = 1) h h')) := by
  refine q_M.of (by decide) (Nat.le_of_ble_eq_true rfl) hG ?_
  refine r_iload_n c226_0 rfl rfl ?_
  refine r_if_lt c226_1 rfl (by first | exact q_w32_id (by omega) (by omega) | exact q_w32w _ | exact rfl) ?_ ?_
  · intro b1
    refine r_iconst c226_15 rfl ?_
    exact r_zret c226_16 ⟨rfl, rfl, rfl⟩ (by decide) ⟨rfl, ⟨_, rfl, (by decide), (by omega)⟩, (by repeat (first | exact q_Gr.rf | refine q_Gr.tr ?_ (by assumption) (by intro k9 j9 hk9; omega)))⟩
  · intro b1
    refine r_iload_n c226_4 rfl rfl ?_
    refine r_aload_n c226_5 rfl rfl ?_
    refine r_getr c226_6 (by first | assumption | omega) (by decide) (by first | assumption | rfl) rfl rfl ?_
    refine r_geti c226_9 (by first | assumption | omega) (by decide) (by first | assumption | rfl) rfl rfl ?_
    refine r_ic_le c226_12 rfl (by first | exact q_w32_id (by omega) (by omega) | exact q_w32w _ | exact rfl) (by first | exact q_w32_id (by omega) (by omega) | exact q_w32w _ | exact rfl) ?_ ?_
    · intro b2
      refine r_aload_n c226_17 rfl rfl ?_
      refine r_getr c226_18 (by first | assumption | omega) (by decide) (by first | assumption | rfl) rfl rfl ?_
      refine r_iload_n c226_21 rfl rfl ?_
      refine r_putik c226_22 (by decide) rfl rfl rfl rfl (q_Rv0 (fun h9 => absurd h9 (by decide)) (fun h9 => absurd h9 (by decide)) (fun _ _ => (by first | assumption | omega | exact ⟨q_rg1 _, q_rg2 _⟩ | exact ⟨q_rh1 _, q_rh2 _⟩ | exact q_rj ⟨q_rg1 _, q_rg2 _⟩ | exact q_rgi _ | exact q_rgj _ | exact q_rj (q_rgi _) | exact q_rj (by assumption))) (fun h9 h8 => absurd h9 (by decide))) rfl ?_
      intro g3 f3 w3
      refine r_iconst c226_25 rfl ?_
      exact r_zret c226_26 ⟨rfl, rfl, rfl⟩ (by decide) ⟨rfl, ⟨_, rfl, (by decide), (by omega)⟩, (by repeat (first | exact q_Gr.rf | refine q_Gr.tr ?_ (by assumption) (by intro k9 j9 hk9; omega)))⟩
    · intro b2
      refine r_iconst c226_15 rfl ?_
      exact r_zret c226_16 ⟨rfl, rfl, rfl⟩ (by decide) ⟨rfl, ⟨_, rfl, (by decide), (by omega)⟩, (by repeat (first | exact q_Gr.rf | refine q_Gr.tr ?_ (by assumption) (by intro k9 j9 hk9; omega)))⟩
