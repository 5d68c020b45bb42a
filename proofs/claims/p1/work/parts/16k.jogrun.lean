/-! Part 16k: jog's runs, by the kernel: 100 and -100 alone (the range's ends are looked at by themselves), the others by one run of either side. -/
theorem q_jA0 : q_tA 0 1 99 1 (7, 2) = true := by decide +kernel
theorem q_jB0 : q_tB 0 1 99 1 (7, 2) = true := by decide +kernel
theorem q_jE0 : q_tsI 6 (q_ivk (0, 0) (100, 100)) = true := by decide +kernel
theorem q_jC0 : q_tA 0 (-99) (-1) (-1) (1, 0) = true := by decide +kernel
theorem q_jD0 : q_tB 0 (-99) (-1) (-1) (1, 0) = true := by decide +kernel
theorem q_jF0 : q_tsI 6 (q_ivk (0, 0) (-100, -100)) = true := by decide +kernel
theorem q_jA1 : q_tA 1 1 99 1 (7, 2) = true := by decide +kernel
theorem q_jB1 : q_tB 1 1 99 1 (7, 2) = true := by decide +kernel
theorem q_jE1 : q_tsI 6 (q_ivk (1, 1) (100, 100)) = true := by decide +kernel
theorem q_jC1 : q_tA 1 (-99) (-1) (-1) (1, 0) = true := by decide +kernel
theorem q_jD1 : q_tB 1 (-99) (-1) (-1) (1, 0) = true := by decide +kernel
theorem q_jF1 : q_tsI 6 (q_ivk (1, 1) (-100, -100)) = true := by decide +kernel
theorem q_jA2 : q_tA 2 1 99 1 (7, 2) = true := by decide +kernel
theorem q_jB2 : q_tB 2 1 99 1 (7, 2) = true := by decide +kernel
theorem q_jE2 : q_tsI 6 (q_ivk (2, 2) (100, 100)) = true := by decide +kernel
theorem q_jC2 : q_tA 2 (-99) (-1) (-1) (1, 0) = true := by decide +kernel
theorem q_jD2 : q_tB 2 (-99) (-1) (-1) (1, 0) = true := by decide +kernel
theorem q_jF2 : q_tsI 6 (q_ivk (2, 2) (-100, -100)) = true := by decide +kernel
theorem q_jog {p : Program} {e : Env} {s : State} {m : MethodId} {below : List Frame} {meth : Method} {c : Code} (l : Launch) (hflags : l.flags = flags0) {b : Nat} {xs : Nat → Int32} (C0 : lw_At p s m meth c b 6 xs) (h12 : q_ρ xs 6 = 12) :
    W p l e room_1 s m #[Value.ref b] below meth c s.heap [] 0 0 (lw_Z below #[Value.ref b] s) (entryFrame m ([Value.ref b] : List Value).toArray 10) := by
  have r1 := q_ρ_rg xs 1
  have r2 := q_ρ_rg xs 2
  by_cases a0 : q_ρ xs 1 ≤ -1
  · exact q_law l hflags (Nat.le_refl 6) C0 (q_okk xs h12 ⟨r1.1, a0⟩ ⟨r2.1, by show _ ≤ (2147483647 : Int); omega⟩) q_j0
  by_cases a3 : 3 ≤ q_ρ xs 1
  · exact q_law l hflags (Nat.le_refl 6) C0 (q_okk xs h12 ⟨a3, by show _ ≤ (2147483647 : Int); omega⟩ ⟨r2.1, by show _ ≤ (2147483647 : Int); omega⟩) q_j1
  by_cases b0 : q_ρ xs 2 ≤ -101
  · exact q_law l hflags (Nat.le_refl 6) C0 (q_okk xs h12 ⟨by show (0 : Int) ≤ _; omega, by show _ ≤ (2 : Int); omega⟩ ⟨r2.1, b0⟩) q_j2
  by_cases b1 : 101 ≤ q_ρ xs 2
  · exact q_law l hflags (Nat.le_refl 6) C0 (q_okk xs h12 ⟨by show (0 : Int) ≤ _; omega, by show _ ≤ (2 : Int); omega⟩ ⟨b1, by show _ ≤ (2147483647 : Int); omega⟩) q_j4
  by_cases b2 : q_ρ xs 2 = 0
  · exact q_law l hflags (Nat.le_refl 6) C0 (q_okk xs h12 ⟨by show (0 : Int) ≤ _; omega, by show _ ≤ (2 : Int); omega⟩ ⟨by show (0 : Int) ≤ _; omega, by show _ ≤ (0 : Int); omega⟩) q_j3
  by_cases b4 : q_ρ xs 2 = 100
  · have ok : ∀ a : Int, q_ρ xs 1 = a → q_ok (q_ρ xs) (q_ivk (a, a) (100, 100)) := fun a ha => q_okk xs h12 ⟨by show a ≤ _; omega, by show _ ≤ a; omega⟩ ⟨by show (100 : Int) ≤ _; omega, by show _ ≤ (100 : Int); omega⟩
    by_cases c0 : q_ρ xs 1 = 0
    · exact q_law l hflags (Nat.le_refl 6) C0 (ok 0 c0) q_jE0
    by_cases c1 : q_ρ xs 1 = 1
    · exact q_law l hflags (Nat.le_refl 6) C0 (ok 1 c1) q_jE1
    · exact q_law l hflags (Nat.le_refl 6) C0 (ok 2 (by omega)) q_jE2
  by_cases b5 : q_ρ xs 2 = -100
  · have ok : ∀ a : Int, q_ρ xs 1 = a → q_ok (q_ρ xs) (q_ivk (a, a) (-100, -100)) := fun a ha => q_okk xs h12 ⟨by show a ≤ _; omega, by show _ ≤ a; omega⟩ ⟨by show (-100 : Int) ≤ _; omega, by show _ ≤ (-100 : Int); omega⟩
    by_cases c0 : q_ρ xs 1 = 0
    · exact q_law l hflags (Nat.le_refl 6) C0 (ok 0 c0) q_jF0
    by_cases c1 : q_ρ xs 1 = 1
    · exact q_law l hflags (Nat.le_refl 6) C0 (ok 1 c1) q_jF1
    · exact q_law l hflags (Nat.le_refl 6) C0 (ok 2 (by omega)) q_jF2
  by_cases b3 : 1 ≤ q_ρ xs 2
  · have ok : ∀ a : Int, q_ρ xs 1 = a → q_ok (q_ρ xs) (q_ivk (a, a) (1, 99)) := fun a ha => q_okk xs h12 ⟨by show a ≤ _; omega, by show _ ≤ a; omega⟩ ⟨b3, by show _ ≤ (99 : Int); omega⟩
    by_cases c0 : q_ρ xs 1 = 0
    · exact q_jog_s l hflags C0 (ok 0 c0) q_jA0 q_jB0
    by_cases c1 : q_ρ xs 1 = 1
    · exact q_jog_s l hflags C0 (ok 1 c1) q_jA1 q_jB1
    · exact q_jog_s l hflags C0 (ok 2 (by omega)) q_jA2 q_jB2
  · have ok : ∀ a : Int, q_ρ xs 1 = a → q_ok (q_ρ xs) (q_ivk (a, a) (-99, -1)) := fun a ha => q_okk xs h12 ⟨by show a ≤ _; omega, by show _ ≤ a; omega⟩ ⟨by show (-99 : Int) ≤ _; omega, by show _ ≤ (-1 : Int); omega⟩
    by_cases c0 : q_ρ xs 1 = 0
    · exact q_jog_s l hflags C0 (ok 0 c0) q_jC0 q_jD0
    by_cases c1 : q_ρ xs 1 = 1
    · exact q_jog_s l hflags C0 (ok 1 c1) q_jC1 q_jD1
    · exact q_jog_s l hflags C0 (ok 2 (by omega)) q_jC2 q_jD2
