/-! Part 99i: the heap behind the two constructors. -/
def y_ax (j : Nat) : Int := match j with
  | 0 => 200
  | 2 => 1000
  | 3 => 100
  | 4 => 5
  | 5 => 2
  | 8 => 1
  | 10 => 1
  | _ => 0
def y_t (r j : Nat) : Int := match r with
  | 0 => if j = 4 then 100 else 0
  | 1 => y_ax j
  | 3 => y_ax j
  | 5 => y_ax j
  | _ => 0
def y_N (k : Nat) : Int := match k % 6 with
  | 0 => 200
  | 1 => 0
  | 2 => 1000
  | 3 => 100
  | 4 => 5
  | _ => 2
def y_w0 : Nat → Int := m_new 100 0 0 y_N (fun _ => 0)
def y_h0 : q_F := fun k j => if k = 140 then y_w0 j else if 6 ≤ k ∧ k < 33 then y_t ((k - 6) % 9) j else if 35 ≤ k ∧ k < 125 then y_t ((k - 35) % 9) j else if k = 3 ∧ j = 5 then -1 else if k = 139 ∧ j = 16 then -1 else 0
noncomputable def y_hE : q_H := (0, q_mk (0, 0, [], q_zT) 8)
noncomputable def y_run : Option (List q_C × List q_Lf) := t_it q_mt q_df (t_rn q_mt q_df 8) (q_mt 368) 4 ([(0, q_args [(9, 0)] 0, [], y_hE, [], 0, 0)], [])
noncomputable def y_l28 : q_L := [(5, (0, ((0 : Nat) : Int))), (4, (2, Int.ofNat 154)), (3, (2, Int.ofNat 153)), (2, (2, Int.ofNat 139)), (1, (2, Int.ofNat 0)), (0, (9, 0))]
noncomputable def y_chk (o : Option (List q_C × List q_Lf)) : Bool := match o with
  | none => false
  | some z => match z.1 with
    | [] => false
    | c :: r => match r with
      | [] => (match z.2 with
        | [] => q_an (q_Cle c (28, y_l28, [], q_hp q_K 155 y_h0, [], c.2.2.2.2.2.1, c.2.2.2.2.2.2)) (q_an (Nat.ble c.2.2.2.2.2.1 700) (Nat.ble c.2.2.2.2.2.2 20000))
        | _ :: _ => false)
      | _ :: _ => false
theorem y_chk0 : y_chk y_run = true := by decide +kernel
