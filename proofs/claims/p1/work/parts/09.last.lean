noncomputable def q_h0 : q_H := (0, q_mk (0, 0, [], q_zT) 8)
noncomputable def q_ivf (k : Int) : q_I := [(-2147483648, 2147483647), (-2147483648, 2147483647), (-2147483648, 2147483647), (-2147483648, 2147483647), (-2147483648, 2147483647), (-2147483648, 2147483647), (k, k)]
noncomputable def q_okl (l : List q_Lf) : Bool := List.rec (motive := fun _ => Bool) true (fun h _ ih => bif Nat.beq h.1 1 then (bif Nat.beq h.2.1.1 0 then (bif q_ieq h.2.1.2 1 then ih else false) else false) else false) l
noncomputable def q_tst (k : Int) : Bool := match q_run q_mt q_df 6 9 275 [(9, 0)] q_h0 (q_ivf k) with
  | none => false
  | some l => q_okl l
theorem tst_59 : q_tst 59 = true := by decide +kernel
