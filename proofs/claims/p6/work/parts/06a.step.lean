/-! Part 06a: the pure machine: its steps. -/
noncomputable def q_if {α : Type} (b : Bool) (k : Option α) : Option α := bif b then k else none
noncomputable def q_lk (i : Nat) : q_L → Option q_V := fun lo => List.rec (motive := fun _ => Option q_V) none (fun h _ ih => bif Nat.beq h.1 i then some h.2 else ih) lo
noncomputable def q_up {α : Type} : List α → Nat → α → List α := fun l => List.rec (motive := fun _ => Nat → α → List α) (fun _ _ => []) (fun h t ih n v => Nat.rec (motive := fun _ => List α) (v :: t) (fun m _ => h :: ih m v) n) l
noncomputable def q_len {α : Type} : List α → Nat := fun l => List.rec (motive := fun _ => Nat) 0 (fun _ _ ih => Nat.succ ih) l
noncomputable def q_app {α : Type} : List α → List α → List α := fun l m => List.rec (motive := fun _ => List α) m (fun h _ ih => h :: ih) l
noncomputable def q_map {α β : Type} (f : α → β) : List α → List β := fun l => List.rec (motive := fun _ => List β) [] (fun h _ ih => f h :: ih) l
noncomputable def q_pop {α : Type} (st : List α) : Option (α × List α) := match st with
  | [] => none
  | a :: r => some (a, r)
noncomputable def q_isI (t : Nat) : Bool := bif Nat.beq t 0 then true else bif Nat.beq t 6 then true else Nat.beq t 8
noncomputable def q_isK (t : Nat) : Bool := bif q_isI t then true else Nat.beq t 11
noncomputable def q_isJ (t : Nat) : Bool := bif Nat.beq t 1 then true else Nat.beq t 7
noncomputable def q_isR (t : Nat) : Bool := bif Nat.beq t 2 then true else bif Nat.beq t 9 then true else Nat.beq t 10
noncomputable def q_isN (t : Nat) : Bool := bif q_isR t then true else Nat.beq t 3
noncomputable def q_is2 (t : Nat) : Bool := bif Nat.beq t 1 then true else bif Nat.beq t 7 then true else Nat.beq t 5
/-- a script's int that is known by now -/
noncomputable def q_conc (iv : q_I) (a : q_V) : q_V := bif Nat.ble 6 a.1 then (bif Nat.ble a.1 7 then (match q_nth iv a.2.toNat with
  | some p => bif q_ieq p.1 p.2 then (bif Nat.beq a.1 6 then (0, p.1) else (1, p.1)) else a
  | none => a) else a) else a
/-- a store of one word; of two -/
noncomputable def q_fil (i : Nat) (w : Bool) (lo : q_L) : q_L := List.rec (motive := fun _ => q_L) [] (fun h _ ih => bif Nat.beq h.1 i then ih else bif (bif w then Nat.beq h.1 (Nat.succ i) else false) then ih else bif (bif Nat.beq (Nat.succ h.1) i then q_is2 h.2.1 else false) then ih else h :: ih) lo
noncomputable def q_sto (i : Nat) (w : Bool) (a : q_V) (lo : q_L) : q_L := (i, a) :: q_fil i w lo
abbrev q_O := Option (List q_C × List q_Lf)
noncomputable def q_nx (pc : Nat) (lo : q_L) (st : List q_V) (hp : q_H) (iv : q_I) (cl sl : Nat) : q_O := some ([(pc, lo, st, hp, iv, cl, sl)], [])
/-- the pieces of an interval below, at and above a number -/
noncomputable def q_split (iv : q_I) (i : Nat) (k : Int) : Option (List (Nat × q_I)) := (q_nth iv i).bind fun p =>
  some (q_app (bif (bif q_ile p.1 p.2 then Nat.beq (q_cmp p.1 k) 0 else false) then [(0, q_up iv i (p.1, bif q_ile p.2 (Int.sub k 1) then p.2 else Int.sub k 1))] else [])
    (q_app (bif (bif q_ile p.1 k then q_ile k p.2 else false) then [(1, q_up iv i (k, k))] else [])
      (bif Nat.beq (q_cmp k p.2) 0 then [(2, q_up iv i (bif q_ile (Int.add k 1) p.1 then p.1 else Int.add k 1, p.2))] else [])))
/-- comparison: 0 less, 1 equal, 2 greater, each with the intervals then -/
noncomputable def q_c3 (iv : q_I) (a b : q_V) : Option (List (Nat × q_I)) :=
  bif (bif Nat.beq a.1 0 then Nat.beq b.1 0 else false) then some [(q_cmp (q_w32 a.2) (q_w32 b.2), iv)]
  else bif (bif Nat.beq a.1 1 then Nat.beq b.1 1 else false) then some [(q_cmp (q_w64 a.2) (q_w64 b.2), iv)]
  else bif (bif Nat.beq a.1 6 then Nat.beq b.1 0 else false) then q_split iv a.2.toNat (q_w32 b.2)
  else bif (bif Nat.beq a.1 7 then Nat.beq b.1 1 else false) then q_split iv a.2.toNat (q_w64 b.2)
  else bif (bif Nat.beq b.1 6 then Nat.beq a.1 0 else false) then (q_split iv b.2.toNat (q_w32 a.2)).bind fun l => some (q_map (fun q => (Nat.sub 2 q.1, q.2)) l)
  else bif (bif Nat.beq b.1 7 then Nat.beq a.1 1 else false) then (q_split iv b.2.toNat (q_w64 a.2)).bind fun l => some (q_map (fun q => (Nat.sub 2 q.1, q.2)) l)
  else none
/-- every number of a short interval -/
noncomputable def q_span (iv : q_I) (i : Nat) (lo : Int) : Nat → List (Int × q_I) := fun n => Nat.rec (motive := fun _ => List (Int × q_I)) [] (fun m ih => (Int.add lo (Int.ofNat m), q_up iv i (Int.add lo (Int.ofNat m), Int.add lo (Int.ofNat m))) :: ih) n
noncomputable def q_enum (iv : q_I) (a : q_V) : Option (List (Int × q_I)) :=
  bif Nat.beq a.1 0 then some [(q_w32 a.2, iv)] else
  bif Nat.beq a.1 6 then (q_nth iv a.2.toNat).bind fun p => q_if (bif q_ile p.1 p.2 then q_ile (Int.sub p.2 p.1) 70 else false) (some (q_span iv a.2.toNat p.1 (Nat.succ (Int.sub p.2 p.1).toNat)))
  else none
noncomputable def q_tk (c : ClassFile.Cond) (r : Nat) : Bool := match c with
  | .eq => Nat.beq r 1
  | .ne => bif Nat.beq r 1 then false else true
  | .lt => Nat.beq r 0
  | .ge => bif Nat.beq r 0 then false else true
  | .gt => Nat.beq r 2
  | .le => bif Nat.beq r 2 then false else true
/-- the cell of a reference -/
noncomputable def q_at (hp : q_H) (a : q_V) : Option q_Ce := q_if (bif Nat.beq a.1 2 then Nat.ble (Nat.succ a.2.toNat) hp.1 else false) (some (q_get 8 hp.2 a.2.toNat))
noncomputable def q_put (hp : q_H) (k : Nat) (e : q_Ce) : q_H := (hp.1, q_set 8 hp.2 k e)
noncomputable def q_new (hp : q_H) (e : q_Ce) : q_H := (Nat.succ hp.1, q_set 8 hp.2 hp.1 e)
noncomputable def q_z0 : q_V := (0, 0)
noncomputable def q_zT : q_T q_V 11 := q_mk q_z0 11
-- the instructions
noncomputable def q_oLoad (P : Nat → Bool) (x : Nat) (nx : Nat) (lo : q_L) (st : List q_V) (hp : q_H) (iv : q_I) (cl sl : Nat) : q_O :=
  (q_lk x lo).bind fun a => q_if (P a.1) (q_nx nx lo (q_conc iv a :: st) hp iv cl sl)
noncomputable def q_oStore (P : Nat → Bool) (w : Bool) (x : Nat) (nx : Nat) (lo : q_L) (st : List q_V) (hp : q_H) (iv : q_I) (cl sl : Nat) : q_O :=
  (q_pop st).bind fun p => q_if (P p.1.1) (q_if (Nat.ble (q_len (q_sto x w p.1 lo)) 32) (q_nx nx (q_sto x w p.1 lo) p.2 hp iv cl sl))
noncomputable def q_oBin (t : Nat) (f : Int → Int → Int) (nx : Nat) (lo : q_L) (st : List q_V) (hp : q_H) (iv : q_I) (cl sl : Nat) : q_O :=
  (q_pop st).bind fun p => (q_pop p.2).bind fun r => q_if (bif Nat.beq p.1.1 t then Nat.beq r.1.1 t else false) (q_nx nx lo ((t, f r.1.2 p.1.2) :: r.2) hp iv cl sl)
noncomputable def q_oDiv (t : Nat) (f : Int → Int → Int) (w : Int → Int) (nx : Nat) (lo : q_L) (st : List q_V) (hp : q_H) (iv : q_I) (cl sl : Nat) : q_O :=
  (q_pop st).bind fun p => (q_pop p.2).bind fun r => q_if (bif Nat.beq p.1.1 t then (bif Nat.beq r.1.1 t then (bif q_ieq (w p.1.2) 0 then false else true) else false) else false) (q_nx nx lo ((t, f r.1.2 p.1.2) :: r.2) hp iv cl sl)
/-- of known ints the answer; of others some int -/
noncomputable def q_oAny (f : Int → Int → Int) (nx : Nat) (lo : q_L) (st : List q_V) (hp : q_H) (iv : q_I) (cl sl : Nat) : q_O :=
  (q_pop st).bind fun p => (q_pop p.2).bind fun r => bif (bif Nat.beq p.1.1 0 then Nat.beq r.1.1 0 else false) then q_nx nx lo ((0, f r.1.2 p.1.2) :: r.2) hp iv cl sl
    else q_if (bif q_isI p.1.1 then q_isI r.1.1 else false) (q_nx nx lo ((8, 0) :: r.2) hp iv cl sl)
noncomputable def q_oAnd (nx : Nat) (lo : q_L) (st : List q_V) (hp : q_H) (iv : q_I) (cl sl : Nat) : q_O := q_oAny (fun a b => (Int32.ofInt a &&& Int32.ofInt b).toInt) nx lo st hp iv cl sl
noncomputable def q_oUn (t u : Nat) (f : Int → Int) (nx : Nat) (lo : q_L) (st : List q_V) (hp : q_H) (iv : q_I) (cl sl : Nat) : q_O :=
  (q_pop st).bind fun p => q_if (Nat.beq p.1.1 t) (q_nx nx lo ((u, f p.1.2) :: p.2) hp iv cl sl)
noncomputable def q_oI2l (nx : Nat) (lo : q_L) (st : List q_V) (hp : q_H) (iv : q_I) (cl sl : Nat) : q_O :=
  (q_pop st).bind fun p => bif Nat.beq p.1.1 0 then q_nx nx lo ((1, q_w32 p.1.2) :: p.2) hp iv cl sl else q_if (Nat.beq p.1.1 6) (q_nx nx lo ((7, p.1.2) :: p.2) hp iv cl sl)
noncomputable def q_oL2i (nx : Nat) (lo : q_L) (st : List q_V) (hp : q_H) (iv : q_I) (cl sl : Nat) : q_O :=
  (q_pop st).bind fun p => bif Nat.beq p.1.1 1 then q_nx nx lo ((0, q_w32 p.1.2) :: p.2) hp iv cl sl else q_if (Nat.beq p.1.1 7) (q_nx nx lo ((6, p.1.2) :: p.2) hp iv cl sl)
noncomputable def q_oI2b (nx : Nat) (lo : q_L) (st : List q_V) (hp : q_H) (iv : q_I) (cl sl : Nat) : q_O :=
  (q_pop st).bind fun p => q_if (q_isI p.1.1) (q_nx nx lo ((8, 0) :: p.2) hp iv cl sl)
noncomputable def q_oLcmp (nx : Nat) (lo : q_L) (st : List q_V) (hp : q_H) (iv : q_I) (cl sl : Nat) : q_O :=
  (q_pop st).bind fun p => (q_pop p.2).bind fun r => q_if (bif q_isJ p.1.1 then q_isJ r.1.1 else false) ((q_c3 iv r.1 p.1).bind fun l => some (q_map (fun q => (nx, lo, (0, Int.sub (Int.ofNat q.1) 1) :: r.2, hp, q.2, cl, sl)) l, []))
/-- a lessened int against 0 -/
noncomputable def q_cO (iv : q_I) (z : Int) : Option (List (Nat × q_I)) := (q_nth iv (Nat.mod z.toNat 16)).bind fun p => q_if (q_ile (Int.sub (Int.ofNat (Nat.div z.toNat 16)) 2147483648) p.1) (q_split iv (Nat.mod z.toNat 16) (Int.ofNat (Nat.div z.toNat 16)))
noncomputable def q_oIf (c : ClassFile.Cond) (x : Nat) (nx : Nat) (lo : q_L) (st : List q_V) (hp : q_H) (iv : q_I) (cl sl : Nat) : q_O :=
  (q_pop st).bind fun p => (bif Nat.beq p.1.1 11 then q_cO iv p.1.2 else q_if (q_isI p.1.1) (q_c3 iv p.1 (0, 0))).bind fun l => some (q_map (fun q => (bif q_tk c q.1 then x else nx, lo, p.2, hp, q.2, cl, sl)) l, [])
noncomputable def q_oIc (c : ClassFile.Cond) (x : Nat) (nx : Nat) (lo : q_L) (st : List q_V) (hp : q_H) (iv : q_I) (cl sl : Nat) : q_O :=
  (q_pop st).bind fun p => (q_pop p.2).bind fun r => q_if (bif q_isI p.1.1 then q_isI r.1.1 else false) ((q_c3 iv r.1 p.1).bind fun l => some (q_map (fun q => (bif q_tk c q.1 then x else nx, lo, r.2, hp, q.2, cl, sl)) l, []))
noncomputable def q_oIfn (x : Nat) (nx : Nat) (lo : q_L) (st : List q_V) (hp : q_H) (iv : q_I) (cl sl : Nat) : q_O :=
  (q_pop st).bind fun p => bif Nat.beq p.1.1 3 then q_nx x lo p.2 hp iv cl sl else q_if (q_isR p.1.1) (q_nx nx lo p.2 hp iv cl sl)
/-- a switch: the targets by the values -/
noncomputable def q_tgt (pc : Nat) (d lo hi : Int) (offs : Array Int) (n : Int) : Option Nat :=
  bif (bif q_ile lo n then q_ile n hi else false) then (q_nth offs.toList (Int.sub n lo).toNat).bind fun o => q_if (q_ile 0 (Int.add (Int.ofNat pc) o)) (some (Int.add (Int.ofNat pc) o).toNat)
  else q_if (q_ile 0 (Int.add (Int.ofNat pc) d)) (some (Int.add (Int.ofNat pc) d).toNat)
noncomputable def q_all {α β : Type} (f : α → Option β) : List α → Option (List β) := fun l => List.rec (motive := fun _ => Option (List β)) (some []) (fun h _ ih => (f h).bind fun b => ih.bind fun bs => some (b :: bs)) l
noncomputable def q_oSw (d lo hi : Int) (offs : Array Int) (pc : Nat) (loc : q_L) (st : List q_V) (hp : q_H) (iv : q_I) (cl sl : Nat) : q_O :=
  (q_pop st).bind fun p => q_if (q_isI p.1.1) ((q_c3 iv p.1 (0, lo)).bind fun l1 => (q_all (fun q1 => bif Nat.beq q1.1 0 then (q_tgt pc d lo hi offs (Int.sub lo 1)).bind fun t => some [(t, loc, p.2, hp, q1.2, cl, sl)]
    else (q_c3 q1.2 (q_conc q1.2 p.1) (0, hi)).bind fun l2 => (q_all (fun q2 => bif Nat.beq q2.1 2 then (q_tgt pc d lo hi offs (Int.add hi 1)).bind fun t => some [(t, loc, p.2, hp, q2.2, cl, sl)]
      else (q_enum q2.2 (q_conc q2.2 p.1)).bind fun l3 => q_all (fun q3 => (q_tgt pc d lo hi offs q3.1).bind fun t => some (t, loc, p.2, hp, q3.2, cl, sl)) l3) l2).bind fun bs => some (List.rec (motive := fun _ => List q_C) [] (fun h _ ih => q_app h ih) bs)) l1).bind fun bs => some (List.rec (motive := fun _ => List q_C) [] (fun h _ ih => q_app h ih) bs, []))
noncomputable def q_oGet (x y : Nat) (nx : Nat) (lo : q_L) (st : List q_V) (hp : q_H) (iv : q_I) (cl sl : Nat) : q_O :=
  (q_pop st).bind fun p => (q_at hp p.1).bind fun e => q_if (bif Nat.beq e.1 0 then Nat.beq e.2.1 x else false) ((q_nth e.2.2.1 y).bind fun a => q_nx nx lo (q_conc iv a :: p.2) hp iv cl sl)
/-- may a field of this type hold it: 0 int, 1 boolean, 2 long, 3 a reference -/
noncomputable def q_fit (t : Nat) (a : q_V) : Bool := bif Nat.beq t 0 then q_isI a.1 else bif Nat.beq t 1 then (bif Nat.beq a.1 0 then (bif q_ieq a.2 0 then true else q_ieq a.2 1) else false) else bif Nat.beq t 2 then q_isJ a.1 else bif Nat.beq t 3 then Nat.beq a.1 2 else false
noncomputable def q_oPut (x y t : Nat) (nx : Nat) (lo : q_L) (st : List q_V) (hp : q_H) (iv : q_I) (cl sl : Nat) : q_O :=
  (q_pop st).bind fun p => (q_pop p.2).bind fun r => (q_at hp r.1).bind fun e => q_if (bif Nat.beq e.1 0 then (bif Nat.beq e.2.1 x then (bif q_fit t p.1 then Nat.ble (Nat.succ y) (q_len e.2.2.1) else false) else false) else false)
    (q_nx nx lo r.2 (q_put hp r.1.2.toNat (0, x, q_up e.2.2.1 y p.1, e.2.2.2)) iv cl sl)
/-- the rows that stand besides: 0 the script, 1 and 2 those of the class (numbers as they are at the start) -/
def q_lg (n j : Nat) : Int := match n with
  | 1 => (([1, 0, 1, 1, 0, 0] : List Int)[j]?).getD 0
  | _ => (([2000, 20, 5000, 500, 2000, 20] : List Int)[j]?).getD 0
noncomputable def q_ln (sL n : Nat) : Nat := bif Nat.beq n 0 then sL else 6
noncomputable def q_oLen (sL : Nat) (nx : Nat) (lo : q_L) (st : List q_V) (hp : q_H) (iv : q_I) (cl sl : Nat) : q_O :=
  (q_pop st).bind fun p => bif Nat.beq p.1.1 9 then q_if (Nat.ble p.1.2.toNat 2) (q_nx nx lo ((0, Int.ofNat (q_ln sL p.1.2.toNat)) :: p.2) hp iv cl sl) else (q_at hp p.1).bind fun e => q_if (bif Nat.ble 1 e.1 then Nat.ble e.1 5 else false) (q_nx nx lo ((0, Int.ofNat e.2.1) :: p.2) hp iv cl sl)
noncomputable def q_oAld (k sL : Nat) (nx : Nat) (lo : q_L) (st : List q_V) (hp : q_H) (iv : q_I) (cl sl : Nat) : q_O :=
  (q_pop st).bind fun p => (q_pop p.2).bind fun r => bif Nat.beq r.1.1 9 then q_if (bif Nat.ble r.1.2.toNat 2 then (bif Nat.beq k 1 then (bif Nat.beq p.1.1 0 then (bif q_ile 0 (q_w32 p.1.2) then Nat.ble (Nat.succ (q_w32 p.1.2).toNat) (q_ln sL r.1.2.toNat) else false) else false) else false) else false) (q_nx nx lo ((bif Nat.beq r.1.2.toNat 0 then q_conc iv (6, q_w32 p.1.2) else (0, q_lg r.1.2.toNat (q_w32 p.1.2).toNat)) :: r.2) hp iv cl sl)
    else (q_at hp r.1).bind fun e => q_if (Nat.beq e.1 k) ((q_enum iv p.1).bind fun l => (q_all (fun q => q_if (bif q_ile 0 q.1 then Nat.ble (Nat.succ q.1.toNat) e.2.1 else false) (some (nx, lo, q_conc q.2 (q_get 11 e.2.2.2 q.1.toNat) :: r.2, hp, q.2, cl, sl))) l).bind fun cs => some (cs, []))
/-- the value that an array of a kind keeps -/
noncomputable def q_kp (k : Nat) (a : q_V) : Option q_V := bif Nat.beq k 1 then q_if (q_isI a.1) (some a) else bif Nat.beq k 2 then q_if (Nat.beq a.1 0) (some (0, ((Int32.ofInt a.2).toInt8.toInt32).toInt)) else bif Nat.beq k 3 then q_if (q_isJ a.1) (some a) else bif Nat.beq k 4 then q_if (Nat.beq a.1 5) (some a) else none
noncomputable def q_oAst (k : Nat) (nx : Nat) (lo : q_L) (st : List q_V) (hp : q_H) (iv : q_I) (cl sl : Nat) : q_O :=
  (q_pop st).bind fun v => (q_kp k v.1).bind fun w => (q_pop v.2).bind fun p => (q_pop p.2).bind fun r => (q_at hp r.1).bind fun e => q_if (Nat.beq e.1 k) ((q_enum iv p.1).bind fun l => (q_all (fun q => q_if (bif q_ile 0 q.1 then Nat.ble (Nat.succ q.1.toNat) e.2.1 else false) (some (nx, lo, r.2, q_put hp r.1.2.toNat (k, e.2.1, e.2.2.1, q_set 11 e.2.2.2 q.1.toNat w), q.2, cl, sl))) l).bind fun cs => some (cs, []))
/-- into an array of references: an object of the class of number c -/
noncomputable def q_oAsr (c : Nat) (nx : Nat) (lo : q_L) (st : List q_V) (hp : q_H) (iv : q_I) (cl sl : Nat) : q_O :=
  (q_pop st).bind fun v => (q_at hp v.1).bind fun o => q_if (bif Nat.beq o.1 0 then Nat.beq o.2.1 c else false) ((q_pop v.2).bind fun p => (q_pop p.2).bind fun r => (q_at hp r.1).bind fun e => q_if (bif Nat.beq e.1 5 then (bif Nat.beq p.1.1 0 then (bif q_ile 0 (q_w32 p.1.2) then Nat.ble (Nat.succ (q_w32 p.1.2).toNat) e.2.1 else false) else false) else false)
    (q_nx nx lo r.2 (q_put hp r.1.2.toNat (5, e.2.1, e.2.2.1, q_set 11 e.2.2.2 (q_w32 p.1.2).toNat v.1)) iv cl sl))
noncomputable def q_oNew (x : Nat) (fs : List q_V) (mc ms : Nat) (nx : Nat) (lo : q_L) (st : List q_V) (hp : q_H) (iv : q_I) (cl sl : Nat) : q_O :=
  q_if (bif Nat.ble (Nat.succ cl) mc then (bif Nat.ble (Nat.add sl (q_len fs)) ms then Nat.ble (Nat.succ hp.1) 256 else false) else false) (q_nx nx lo ((2, Int.ofNat hp.1) :: st) (q_new hp (0, x, fs, q_zT)) iv (Nat.succ cl) (Nat.add sl (q_len fs)))
noncomputable def q_oNwa (k : Nat) (z : q_V) (mc ms : Nat) (nx : Nat) (lo : q_L) (st : List q_V) (hp : q_H) (iv : q_I) (cl sl : Nat) : q_O :=
  (q_pop st).bind fun p => q_if (bif Nat.beq p.1.1 0 then (bif q_ile 0 (q_w32 p.1.2) then (bif q_ile (q_w32 p.1.2) 2000 then (bif Nat.ble (Nat.succ cl) mc then (bif Nat.ble (Nat.add sl (q_w32 p.1.2).toNat) ms then Nat.ble (Nat.succ hp.1) 256 else false) else false) else false) else false) else false)
    (q_nx nx lo ((2, Int.ofNat hp.1) :: p.2) (q_new hp (k, (q_w32 p.1.2).toNat, [], q_mk z 11)) iv (Nat.succ cl) (Nat.add sl (q_w32 p.1.2).toNat))
noncomputable def q_oDup (nx : Nat) (lo : q_L) (st : List q_V) (hp : q_H) (iv : q_I) (cl sl : Nat) : q_O :=
  (q_pop st).bind fun p => bif q_is2 p.1.1 then none else q_nx nx lo (p.1 :: p.1 :: p.2) hp iv cl sl
noncomputable def q_oPop (nx : Nat) (lo : q_L) (st : List q_V) (hp : q_H) (iv : q_I) (cl sl : Nat) : q_O :=
  (q_pop st).bind fun p => bif q_is2 p.1.1 then none else q_nx nx lo p.2 hp iv cl sl
noncomputable def q_oPop2 (nx : Nat) (lo : q_L) (st : List q_V) (hp : q_H) (iv : q_I) (cl sl : Nat) : q_O :=
  (q_pop st).bind fun p => bif q_is2 p.1.1 then q_nx nx lo p.2 hp iv cl sl else none
noncomputable def q_oDup2 (nx : Nat) (lo : q_L) (st : List q_V) (hp : q_H) (iv : q_I) (cl sl : Nat) : q_O :=
  (q_pop st).bind fun p => bif q_is2 p.1.1 then q_nx nx lo (p.1 :: p.1 :: p.2) hp iv cl sl else (q_pop p.2).bind fun r => bif q_is2 r.1.1 then none else q_nx nx lo (p.1 :: r.1 :: p.1 :: r.1 :: r.2) hp iv cl sl
/-- one less: of a script's int (kind 6) or of one already lessened (kind 11: variable z mod 16, less z / 16) -/
noncomputable def q_ic (n : Int) (a : q_V) : Option q_V := bif Nat.beq a.1 0 then some (0, q_w32 (Int.add a.2 n)) else q_if (q_ieq n (-1)) (bif Nat.beq a.1 6 then q_if (bif q_ile 0 a.2 then Nat.ble a.2.toNat 15 else false) (some (11, Int.add a.2 16)) else q_if (bif Nat.beq a.1 11 then q_ile 0 a.2 else false) (some (11, Int.add a.2 16)))
noncomputable def q_oInc (x : Nat) (n : Int) (nx : Nat) (lo : q_L) (st : List q_V) (hp : q_H) (iv : q_I) (cl sl : Nat) : q_O :=
  (q_lk x lo).bind fun a => (q_ic n (q_conc iv a)).bind fun b => q_if (Nat.ble (q_len (q_sto x false b lo)) 32) (q_nx nx (q_sto x false b lo) st hp iv cl sl)
noncomputable def q_oNeg (nx : Nat) (lo : q_L) (st : List q_V) (hp : q_H) (iv : q_I) (cl sl : Nat) : q_O := q_oUn 0 0 (fun a => (-(Int32.ofInt a)).toInt) nx lo st hp iv cl sl
/-- floats and doubles by their bits; what is no number is not gone on with -/
def q_n32 (r : UInt32) : Bool := decide (r &&& 0x7fffffff ≤ 0x7f800000)
def q_n64 (r : UInt64) : Bool := decide (r &&& 0x7fffffffffffffff ≤ 0x7ff0000000000000)
noncomputable def q_oF2 (f : UInt32 → UInt32 → UInt32) (nx : Nat) (lo : q_L) (st : List q_V) (hp : q_H) (iv : q_I) (cl sl : Nat) : q_O :=
  (q_pop st).bind fun p => (q_pop p.2).bind fun r => q_if (bif Nat.beq p.1.1 4 then (bif Nat.beq r.1.1 4 then q_n32 (f (UInt32.ofNat r.1.2.toNat) (UInt32.ofNat p.1.2.toNat)) else false) else false)
    (q_nx nx lo ((4, Int.ofNat (f (UInt32.ofNat r.1.2.toNat) (UInt32.ofNat p.1.2.toNat)).toNat) :: r.2) hp iv cl sl)
noncomputable def q_oD2 (f : UInt64 → UInt64 → UInt64) (nx : Nat) (lo : q_L) (st : List q_V) (hp : q_H) (iv : q_I) (cl sl : Nat) : q_O :=
  (q_pop st).bind fun p => (q_pop p.2).bind fun r => q_if (bif Nat.beq p.1.1 5 then (bif Nat.beq r.1.1 5 then q_n64 (f (UInt64.ofNat r.1.2.toNat) (UInt64.ofNat p.1.2.toNat)) else false) else false)
    (q_nx nx lo ((5, Int.ofNat (f (UInt64.ofNat r.1.2.toNat) (UInt64.ofNat p.1.2.toNat)).toNat) :: r.2) hp iv cl sl)
noncomputable def q_oFc (o : CmpOp) (nx : Nat) (lo : q_L) (st : List q_V) (hp : q_H) (iv : q_I) (cl sl : Nat) : q_O :=
  (q_pop st).bind fun p => (q_pop p.2).bind fun r => q_if (bif Nat.beq p.1.1 4 then Nat.beq r.1.1 4 else false) (q_nx nx lo ((0, (Op.cmpValue (FP.fcmp (UInt32.ofNat r.1.2.toNat) (UInt32.ofNat p.1.2.toNat)) o).toInt) :: r.2) hp iv cl sl)
noncomputable def q_oDc (o : CmpOp) (nx : Nat) (lo : q_L) (st : List q_V) (hp : q_H) (iv : q_I) (cl sl : Nat) : q_O :=
  (q_pop st).bind fun p => (q_pop p.2).bind fun r => q_if (bif Nat.beq p.1.1 5 then Nat.beq r.1.1 5 else false) (q_nx nx lo ((0, (Op.cmpValue (FP.dcmp (UInt64.ofNat r.1.2.toNat) (UInt64.ofNat p.1.2.toNat)) o).toInt) :: r.2) hp iv cl sl)
noncomputable def q_oF2d (nx : Nat) (lo : q_L) (st : List q_V) (hp : q_H) (iv : q_I) (cl sl : Nat) : q_O :=
  (q_pop st).bind fun p => q_if (bif Nat.beq p.1.1 4 then q_n64 (FP.f2d (UInt32.ofNat p.1.2.toNat)) else false) (q_nx nx lo ((5, Int.ofNat (FP.f2d (UInt32.ofNat p.1.2.toNat)).toNat) :: p.2) hp iv cl sl)
/-- the arguments of a call, the first one first, and the rest of the stack -/
noncomputable def q_take (n : Nat) (st : List q_V) : Option (List q_V × List q_V) := Nat.rec (motive := fun _ => List q_V → List q_V → Option (List q_V × List q_V)) (fun acc r => some (acc, r)) (fun _ ih acc r => (q_pop r).bind fun p => ih (p.1 :: acc) p.2) n [] st
noncomputable def q_wid : List q_V → Nat := fun l => List.rec (motive := fun _ => Nat) 0 (fun h _ ih => bif q_is2 h.1 then Nat.succ (Nat.succ ih) else Nat.succ ih) l
noncomputable def q_hd (hh : List (Nat × Nat × Nat × Nat)) (pc E : Nat) : Option Nat := List.rec (motive := fun _ => Option Nat) none (fun h _ ih => bif (bif Nat.ble h.1 pc then (bif Nat.ble (Nat.succ pc) h.2.1 then Nat.beq h.2.2.2 E else false) else false) then some h.2.2.1 else ih) hh
noncomputable def q_cont (hh : List (Nat × Nat × Nat × Nat)) (pc : Nat) (lo : q_L) (rest : List q_V) (cl sl : Nat) (lf : q_Lf) : List q_C × List q_Lf :=
  bif Nat.beq lf.1 0 then ([(Nat.add pc 3, lo, rest, lf.2.2.1, lf.2.2.2, cl, sl)], [])
  else bif Nat.beq lf.1 1 then ([(Nat.add pc 3, lo, q_conc lf.2.2.2 lf.2.1 :: rest, lf.2.2.1, lf.2.2.2, cl, sl)], [])
  else match q_hd hh pc (Nat.sub lf.1 2) with
    | some h => ([(h, lo, [(10, 0)], lf.2.2.1, lf.2.2.2, cl, sl)], [])
    | none => ([], [lf])
noncomputable def q_conts (hh : List (Nat × Nat × Nat × Nat)) (pc : Nat) (lo : q_L) (rest : List q_V) (cl sl : Nat) (l : List q_Lf) : List q_C × List q_Lf :=
  List.rec (motive := fun _ => List q_C × List q_Lf) ([], []) (fun h _ ih => (q_app (q_cont hh pc lo rest cl sl h).1 ih.1, q_app (q_cont hh pc lo rest cl sl h).2 ih.2)) l
/-- y: 0 a method of the receiver's class, 1 static, 2 a constructor, 3 static of the nest, 4 a constructor of the nest, 9 static with handlers -/
noncomputable def q_oCall (cf : Nat → List q_V → q_H → q_I → Option (List q_Lf)) (mi me : q_MI) (x y : Nat) (pc : Nat) (lo : q_L) (st : List q_V) (hp : q_H) (iv : q_I) (cl sl : Nat) : q_O :=
  (q_take me.2.1.2.2.1 st).bind fun ar => q_if (bif Nat.ble (q_wid ar.2) 8 then (bif Nat.ble (Nat.succ me.2.2.1.1) mi.2.2.1.1 then (bif Nat.ble (Nat.add (Nat.add me.2.1.1 19) me.2.2.1.2.1) mi.2.2.1.2.1 then (bif Nat.ble (Nat.add cl me.2.2.1.2.2.1) mi.2.2.1.2.2.1 then Nat.ble (Nat.add sl me.2.2.1.2.2.2) mi.2.2.1.2.2.2 else false) else false) else false) else false)
    (q_if (bif (bif Nat.beq y 0 then true else bif Nat.beq y 2 then true else Nat.beq y 4) then (match ar.1 with
        | [] => false
        | a :: _ => match q_at hp a with
          | none => false
          | some e => bif Nat.beq e.1 0 then Nat.beq e.2.1 me.2.1.2.1 else false) else true)
      ((cf x ar.1 hp iv).bind fun l => some (q_conts mi.2.2.2 pc lo ar.2 (Nat.add cl me.2.2.1.2.2.1) (Nat.add sl me.2.2.1.2.2.2) l)))
noncomputable def q_oObj (fr lc : Nat) (nx : Nat) (lo : q_L) (st : List q_V) (hp : q_H) (iv : q_I) (cl sl : Nat) : q_O :=
  (q_pop st).bind fun p => q_if (bif Nat.beq p.1.1 2 then (bif Nat.ble 1 fr then Nat.ble (Nat.add (q_wid p.2) 12) lc else false) else false) (q_nx nx lo p.2 hp iv cl sl)
noncomputable def q_oM2 (mx : Bool) (fr lc mc ms : Nat) (nx : Nat) (lo : q_L) (st : List q_V) (hp : q_H) (iv : q_I) (cl sl : Nat) : q_O :=
  (q_pop st).bind fun p => (q_pop p.2).bind fun r => q_if (bif Nat.beq p.1.1 0 then (bif Nat.beq r.1.1 0 then (bif Nat.ble 1 fr then (bif Nat.ble (Nat.add (q_wid r.2) 13) lc then (bif Nat.ble cl mc then Nat.ble sl ms else false) else false) else false) else false) else false)
    (q_nx nx lo ((bif q_ile (q_w32 r.1.2) (q_w32 p.1.2) then (bif mx then p.1 else r.1) else (bif mx then r.1 else p.1)) :: r.2) hp iv cl sl)
noncomputable def q_oAbs (fr lc mc ms : Nat) (nx : Nat) (lo : q_L) (st : List q_V) (hp : q_H) (iv : q_I) (cl sl : Nat) : q_O :=
  (q_pop st).bind fun p => q_if (bif Nat.ble 1 fr then (bif Nat.ble (Nat.add (q_wid p.2) 13) lc then (bif Nat.ble cl mc then Nat.ble sl ms else false) else false) else false)
    (q_if (Nat.beq p.1.1 0) (q_nx nx lo ((0, bif q_ile 0 (q_w32 p.1.2) then p.1.2 else (0 - Int32.ofInt p.1.2).toInt) :: p.2) hp iv cl sl))
noncomputable def q_oMJ (fr lc mc ms : Nat) (nx : Nat) (lo : q_L) (st : List q_V) (hp : q_H) (iv : q_I) (cl sl : Nat) : q_O :=
  (q_pop st).bind fun p => (q_pop p.2).bind fun r => q_if (bif Nat.beq p.1.1 1 then (bif Nat.beq r.1.1 1 then (bif Nat.ble 1 fr then (bif Nat.ble (Nat.add (q_wid r.2) 15) lc then (bif Nat.ble cl mc then Nat.ble sl ms else false) else false) else false) else false) else false)
    (q_nx nx lo ((bif q_ile (q_w64 r.1.2) (q_w64 p.1.2) then p.1 else r.1) :: r.2) hp iv cl sl)
noncomputable def q_oAJ (fr lc mc ms : Nat) (nx : Nat) (lo : q_L) (st : List q_V) (hp : q_H) (iv : q_I) (cl sl : Nat) : q_O :=
  (q_pop st).bind fun p => q_if (bif Nat.beq p.1.1 1 then (bif Nat.ble 1 fr then (bif Nat.ble (Nat.add (q_wid p.2) 13) lc then (bif Nat.ble cl mc then Nat.ble sl ms else false) else false) else false) else false)
    (q_nx nx lo ((1, bif q_ile (q_w64 p.1.2) 0 then q_w64 (Int.neg p.1.2) else p.1.2) :: p.2) hp iv cl sl)
/-- the greater one of two floats, as the class library finds it; of numbers alone -/
def q_fmx (a b : UInt32) : UInt32 := Native.java_lang_Math.nans.pick32 true a b
noncomputable def q_oMF (fr lc mc ms : Nat) (nx : Nat) (lo : q_L) (st : List q_V) (hp : q_H) (iv : q_I) (cl sl : Nat) : q_O :=
  (q_pop st).bind fun p => (q_pop p.2).bind fun r => q_if (bif Nat.beq p.1.1 4 then (bif Nat.beq r.1.1 4 then (bif Nat.ble 5 fr then (bif Nat.ble (Nat.add (q_wid r.2) 150) lc then (bif Nat.ble cl mc then Nat.ble sl ms else false) else false) else false) else false) else false)
    (q_if (bif q_n32 (UInt32.ofNat r.1.2.toNat) then q_n32 (UInt32.ofNat p.1.2.toNat) else false) (q_nx nx lo ((4, Int.ofNat (q_fmx (UInt32.ofNat r.1.2.toNat) (UInt32.ofNat p.1.2.toNat)).toNat) :: r.2) hp iv cl sl))
/-- the texts: their bytes -/
def q_sb (n : Nat) : List Int := match n with
  | 0 => [120]
  | 1 => [121]
  | 2 => [122]
  | 3 => [98, 101, 103, 105, 110]
  | 4 => [115, 116, 97, 114, 116]
  | 5 => [99, 111, 109, 112, 101, 110, 115, 97, 116, 101]
  | _ => [100, 101, 116, 101, 99, 116]
def q_sw (z : Int) : Nat := Nat.sub z.toNat 3
noncomputable def q_oSl (fr lc mc ms : Nat) (nx : Nat) (lo : q_L) (st : List q_V) (hp : q_H) (iv : q_I) (cl sl : Nat) : q_O :=
  (q_pop st).bind fun p => q_if (bif Nat.beq p.1.1 9 then (bif Nat.ble 3 p.1.2.toNat then (bif Nat.ble p.1.2.toNat 9 then (bif Nat.ble 5 fr then (bif Nat.ble (Nat.add (q_wid p.2) 150) lc then (bif Nat.ble cl mc then Nat.ble sl ms else false) else false) else false) else false) else false) else false)
    (q_nx nx lo ((0, Int.ofNat (q_len (q_sb (q_sw p.1.2)))) :: p.2) hp iv cl sl)
noncomputable def q_oSc (fr lc mc ms : Nat) (nx : Nat) (lo : q_L) (st : List q_V) (hp : q_H) (iv : q_I) (cl sl : Nat) : q_O :=
  (q_pop st).bind fun p => (q_pop p.2).bind fun r => q_if (bif Nat.beq p.1.1 0 then (bif Nat.beq r.1.1 9 then (bif Nat.ble 3 r.1.2.toNat then (bif Nat.ble r.1.2.toNat 9 then (bif Nat.ble 5 fr then (bif Nat.ble (Nat.add (q_wid r.2) 150) lc then (bif Nat.ble cl mc then Nat.ble sl ms else false) else false) else false) else false) else false) else false) else false)
    (q_if (bif q_ile 0 (q_w32 p.1.2) then Nat.ble (Nat.succ (q_w32 p.1.2).toNat) (q_len (q_sb (q_sw r.1.2))) else false) ((q_nth (q_sb (q_sw r.1.2)) (q_w32 p.1.2).toNat).bind fun c => q_nx nx lo ((0, c) :: r.2) hp iv cl sl))
noncomputable def q_ret (k : Nat) (P : Nat → Bool) (b : Bool) (mi : q_MI) (st : List q_V) (hp : q_H) (iv : q_I) (cl sl : Nat) : q_O :=
  (q_pop st).bind fun p => q_if (bif Nat.beq mi.2.1.2.2.2 k then (bif P p.1.1 then (bif Nat.ble cl mi.2.2.1.2.2.1 then (bif Nat.ble sl mi.2.2.1.2.2.2 then (bif (match p.2 with | [] => true | _ :: _ => false) then (bif b then (bif q_ieq p.1.2 0 then true else q_ieq p.1.2 1) else true) else false) else false) else false) else false) else false) (some ([], [(1, p.1, hp, iv)]))
noncomputable def q_ret0 (mi : q_MI) (st : List q_V) (hp : q_H) (iv : q_I) (cl sl : Nat) : q_O :=
  q_if (bif Nat.beq mi.2.1.2.2.2 0 then (bif Nat.ble cl mi.2.2.1.2.2.1 then (bif Nat.ble sl mi.2.2.1.2.2.2 then (match st with | [] => true | _ :: _ => false) else false) else false) else false) (some ([], [(0, q_z0, hp, iv)]))
noncomputable def q_oThr (E : Nat) (mi : q_MI) (st : List q_V) (hp : q_H) (iv : q_I) (cl sl : Nat) : q_O :=
  q_if (bif Nat.ble 6 mi.2.2.1.1 then (bif Nat.ble (Nat.add (q_wid st) 82) mi.2.2.1.2.1 then (bif Nat.ble (Nat.succ cl) mi.2.2.1.2.2.1 then (bif Nat.ble (Nat.add sl 6) mi.2.2.1.2.2.2 then (match mi.2.2.2 with
    | [] => true
    | _ :: _ => false) else false) else false) else false) else false) (some ([], [(Nat.add E 2, q_z0, hp, iv)]))
noncomputable def q_one (v : q_V) (nx : Nat) (lo : q_L) (st : List q_V) (hp : q_H) (iv : q_I) (cl sl : Nat) : q_O := q_nx nx lo (v :: st) hp iv cl sl
/-- one instruction -/
noncomputable def q_step (mt : Nat → q_MI) (df : Nat → List q_V) (cf : Nat → List q_V → q_H → q_I → Option (List q_Lf)) (sL : Nat) (mi : q_MI) (c : q_C) : q_O :=
  match c with
  | (pc, lo, st, hp, iv, cl, sl) => q_if (Nat.ble (Nat.succ pc) mi.1.1) (match mi.1.2 pc with
    | (ins, len, x, y, v) => match ins with
      | .aload_n _ => q_oLoad q_isN x (Nat.add pc len) lo st hp iv cl sl
      | .aload _ => q_oLoad q_isN x (Nat.add pc len) lo st hp iv cl sl
      | .iload_n _ => q_oLoad q_isK x (Nat.add pc len) lo st hp iv cl sl
      | .iload _ => q_oLoad q_isK x (Nat.add pc len) lo st hp iv cl sl
      | .lload_n _ => q_oLoad q_isJ x (Nat.add pc len) lo st hp iv cl sl
      | .lload _ => q_oLoad q_isJ x (Nat.add pc len) lo st hp iv cl sl
      | .fload_n _ => q_oLoad (Nat.beq 4) x (Nat.add pc len) lo st hp iv cl sl
      | .fload _ => q_oLoad (Nat.beq 4) x (Nat.add pc len) lo st hp iv cl sl
      | .dload_n _ => q_oLoad (Nat.beq 5) x (Nat.add pc len) lo st hp iv cl sl
      | .dload _ => q_oLoad (Nat.beq 5) x (Nat.add pc len) lo st hp iv cl sl
      | .astore_n _ => q_oStore q_isN false x (Nat.add pc len) lo st hp iv cl sl
      | .astore _ => q_oStore q_isN false x (Nat.add pc len) lo st hp iv cl sl
      | .istore_n _ => q_oStore q_isI false x (Nat.add pc len) lo st hp iv cl sl
      | .istore _ => q_oStore q_isI false x (Nat.add pc len) lo st hp iv cl sl
      | .lstore_n _ => q_oStore q_isJ true x (Nat.add pc len) lo st hp iv cl sl
      | .lstore _ => q_oStore q_isJ true x (Nat.add pc len) lo st hp iv cl sl
      | .fstore_n _ => q_oStore (Nat.beq 4) false x (Nat.add pc len) lo st hp iv cl sl
      | .fstore _ => q_oStore (Nat.beq 4) false x (Nat.add pc len) lo st hp iv cl sl
      | .dstore_n _ => q_oStore (Nat.beq 5) true x (Nat.add pc len) lo st hp iv cl sl
      | .dstore _ => q_oStore (Nat.beq 5) true x (Nat.add pc len) lo st hp iv cl sl
      | .iconst n => q_one (0, n) (Nat.add pc len) lo st hp iv cl sl
      | .bipush n => q_one (0, n) (Nat.add pc len) lo st hp iv cl sl
      | .sipush n => q_one (0, n) (Nat.add pc len) lo st hp iv cl sl
      | .lconst _ => q_one (1, v) (Nat.add pc len) lo st hp iv cl sl
      | .fconst _ => q_one (4, v) (Nat.add pc len) lo st hp iv cl sl
      | .dconst _ => q_one (5, v) (Nat.add pc len) lo st hp iv cl sl
      | .ldc _ => q_one (bif Nat.beq y 0 then 0 else 9, v) (Nat.add pc len) lo st hp iv cl sl
      | .ldc_w _ => bif Nat.beq y 0 then none else q_one (9, v) (Nat.add pc len) lo st hp iv cl sl
      | .ldc2_w _ => q_one (bif Nat.beq y 0 then 1 else 5, v) (Nat.add pc len) lo st hp iv cl sl
      | .aconst_null => q_one (3, 0) (Nat.add pc len) lo st hp iv cl sl
      | .dup => q_oDup (Nat.add pc len) lo st hp iv cl sl
      | .dup2 => q_oDup2 (Nat.add pc len) lo st hp iv cl sl
      | .pop => q_oPop (Nat.add pc len) lo st hp iv cl sl
      | .pop2 => q_oPop2 (Nat.add pc len) lo st hp iv cl sl
      | .iadd => q_oBin 0 (fun a b => q_w32 (Int.add a b)) (Nat.add pc len) lo st hp iv cl sl
      | .isub => q_oBin 0 (fun a b => q_w32 (Int.sub a b)) (Nat.add pc len) lo st hp iv cl sl
      | .imul => q_oBin 0 (fun a b => q_w32 (Int.mul a b)) (Nat.add pc len) lo st hp iv cl sl
      | .idiv => q_oDiv 0 (fun a b => (Int32.ofInt a / Int32.ofInt b).toInt) q_w32 (Nat.add pc len) lo st hp iv cl sl
      | .irem => q_oDiv 0 (fun a b => (Int32.ofInt a - Int32.ofInt a / Int32.ofInt b * Int32.ofInt b).toInt) q_w32 (Nat.add pc len) lo st hp iv cl sl
      | .iand => q_oAnd (Nat.add pc len) lo st hp iv cl sl
      | .ior => q_oAny (fun a b => (Int32.ofInt a ||| Int32.ofInt b).toInt) (Nat.add pc len) lo st hp iv cl sl
      | .ishl => q_oAny (fun a b => (Int32.ofInt a <<< (Int32.ofInt b &&& 31)).toInt) (Nat.add pc len) lo st hp iv cl sl
      | .ishr => q_oAny (fun a b => (Int32.ofInt a >>> (Int32.ofInt b &&& 31)).toInt) (Nat.add pc len) lo st hp iv cl sl
      | .iushr => q_oAny (fun a b => ((Int32.ofInt a).toUInt32 >>> ((Int32.ofInt b).toUInt32 &&& Int32.toUInt32 31)).toInt32.toInt) (Nat.add pc len) lo st hp iv cl sl
      | .ineg => q_oNeg (Nat.add pc len) lo st hp iv cl sl
      | .ladd => q_oBin 1 (fun a b => q_w64 (Int.add a b)) (Nat.add pc len) lo st hp iv cl sl
      | .lsub => q_oBin 1 (fun a b => q_w64 (Int.sub a b)) (Nat.add pc len) lo st hp iv cl sl
      | .lmul => q_oBin 1 (fun a b => q_w64 (Int.mul a b)) (Nat.add pc len) lo st hp iv cl sl
      | .ldiv => q_oDiv 1 (fun a b => (Int64.ofInt a / Int64.ofInt b).toInt) q_w64 (Nat.add pc len) lo st hp iv cl sl
      | .lcmp => q_oLcmp (Nat.add pc len) lo st hp iv cl sl
      | .i2l => q_oI2l (Nat.add pc len) lo st hp iv cl sl
      | .l2i => q_oL2i (Nat.add pc len) lo st hp iv cl sl
      | .i2b => q_oUn 0 0 (fun a => ((Int32.ofInt a).toInt8.toInt32).toInt) (Nat.add pc len) lo st hp iv cl sl
      | .i2f => q_oUn 0 4 (fun a => Int.ofNat (FP.i2f (Int32.ofInt a)).toNat) (Nat.add pc len) lo st hp iv cl sl
      | .i2d => q_oUn 0 5 (fun a => Int.ofNat (FP.i2d (Int32.ofInt a)).toNat) (Nat.add pc len) lo st hp iv cl sl
      | .l2d => q_oUn 1 5 (fun a => Int.ofNat (FP.l2d (Int64.ofInt a)).toNat) (Nat.add pc len) lo st hp iv cl sl
      | .fneg => q_oUn 4 4 (fun a => Int.ofNat (FP.fneg (UInt32.ofNat a.toNat)).toNat) (Nat.add pc len) lo st hp iv cl sl
      | .fsub => q_oF2 FP.fsub (Nat.add pc len) lo st hp iv cl sl
      | .fdiv => q_oF2 FP.fdiv (Nat.add pc len) lo st hp iv cl sl
      | .dadd => q_oD2 FP.dadd (Nat.add pc len) lo st hp iv cl sl
      | .ddiv => q_oD2 FP.ddiv (Nat.add pc len) lo st hp iv cl sl
      | .fcmp o => q_oFc o (Nat.add pc len) lo st hp iv cl sl
      | .f2d => q_oF2d (Nat.add pc len) lo st hp iv cl sl
      | .dcmp o => q_oDc o (Nat.add pc len) lo st hp iv cl sl
      | .goto _ => q_nx x lo st hp iv cl sl
      | .ifCond c _ => q_oIf c x (Nat.add pc len) lo st hp iv cl sl
      | .if_icmp c _ => q_oIc c x (Nat.add pc len) lo st hp iv cl sl
      | .ifnull _ => q_oIfn x (Nat.add pc len) lo st hp iv cl sl
      | .tableswitch d l h o => q_oSw d l h o pc lo st hp iv cl sl
      | .iinc _ n => q_oInc x n (Nat.add pc len) lo st hp iv cl sl
      | .getfield _ => q_oGet x y (Nat.add pc len) lo st hp iv cl sl
      | .putfield _ => q_oPut x y v.toNat (Nat.add pc len) lo st hp iv cl sl
      | .getstatic _ => q_one (9, v) (Nat.add pc len) lo st hp iv cl sl
      | .arraylength => q_oLen sL (Nat.add pc len) lo st hp iv cl sl
      | .iaload => q_oAld 1 sL (Nat.add pc len) lo st hp iv cl sl
      | .baload => q_oAld 2 sL (Nat.add pc len) lo st hp iv cl sl
      | .laload => q_oAld 3 sL (Nat.add pc len) lo st hp iv cl sl
      | .daload => q_oAld 4 sL (Nat.add pc len) lo st hp iv cl sl
      | .aaload => q_oAld 5 sL (Nat.add pc len) lo st hp iv cl sl
      | .iastore => q_oAst 1 (Nat.add pc len) lo st hp iv cl sl
      | .bastore => q_oAst 2 (Nat.add pc len) lo st hp iv cl sl
      | .lastore => q_oAst 3 (Nat.add pc len) lo st hp iv cl sl
      | .dastore => q_oAst 4 (Nat.add pc len) lo st hp iv cl sl
      | .aastore => q_oAsr 6 (Nat.add pc len) lo st hp iv cl sl
      | .new _ => bif Nat.beq y 0 then q_oNew x (df x) mi.2.2.1.2.2.1 mi.2.2.1.2.2.2 (Nat.add pc len) lo st hp iv cl sl else q_oThr x mi st hp iv cl sl
      | .newarray _ => q_oNwa x (y, 0) mi.2.2.1.2.2.1 mi.2.2.1.2.2.2 (Nat.add pc len) lo st hp iv cl sl
      | .anewarray _ => q_oNwa 5 (3, 0) mi.2.2.1.2.2.1 mi.2.2.1.2.2.2 (Nat.add pc len) lo st hp iv cl sl
      | .invokevirtual _ => bif Nat.beq y 1 then q_oSl mi.2.2.1.1 mi.2.2.1.2.1 mi.2.2.1.2.2.1 mi.2.2.1.2.2.2 (Nat.add pc len) lo st hp iv cl sl else bif Nat.beq y 2 then q_oSc mi.2.2.1.1 mi.2.2.1.2.1 mi.2.2.1.2.2.1 mi.2.2.1.2.2.2 (Nat.add pc len) lo st hp iv cl sl else q_oCall cf mi (mt x) x y pc lo st hp iv cl sl
      | .invokestatic _ => bif Nat.beq y 10 then q_oMJ mi.2.2.1.1 mi.2.2.1.2.1 mi.2.2.1.2.2.1 mi.2.2.1.2.2.2 (Nat.add pc len) lo st hp iv cl sl else bif Nat.beq y 11 then q_oAJ mi.2.2.1.1 mi.2.2.1.2.1 mi.2.2.1.2.2.1 mi.2.2.1.2.2.2 (Nat.add pc len) lo st hp iv cl sl else bif Nat.beq y 12 then q_oMF mi.2.2.1.1 mi.2.2.1.2.1 mi.2.2.1.2.2.1 mi.2.2.1.2.2.2 (Nat.add pc len) lo st hp iv cl sl else bif Nat.beq y 6 then q_oM2 true mi.2.2.1.1 mi.2.2.1.2.1 mi.2.2.1.2.2.1 mi.2.2.1.2.2.2 (Nat.add pc len) lo st hp iv cl sl else bif Nat.beq y 7 then q_oM2 false mi.2.2.1.1 mi.2.2.1.2.1 mi.2.2.1.2.2.1 mi.2.2.1.2.2.2 (Nat.add pc len) lo st hp iv cl sl else bif Nat.beq y 8 then q_oAbs mi.2.2.1.1 mi.2.2.1.2.1 mi.2.2.1.2.2.1 mi.2.2.1.2.2.2 (Nat.add pc len) lo st hp iv cl sl else q_oCall cf mi (mt x) x y pc lo st hp iv cl sl
      | .invokespecial _ => bif Nat.beq y 5 then q_oObj mi.2.2.1.1 mi.2.2.1.2.1 (Nat.add pc len) lo st hp iv cl sl else q_oCall cf mi (mt x) x y pc lo st hp iv cl sl
      | .ireturn => bif Nat.beq mi.2.1.2.2.2 1 then q_ret 1 q_isI false mi st hp iv cl sl else q_ret 2 (Nat.beq 0) true mi st hp iv cl sl
      | .lreturn => q_ret 3 q_isJ false mi st hp iv cl sl
      | .freturn => q_ret 4 (Nat.beq 4) false mi st hp iv cl sl
      | .dreturn => q_ret 5 (Nat.beq 5) false mi st hp iv cl sl
      | .areturn => q_ret 6 (fun t => bif Nat.beq t 2 then true else bif Nat.beq t 3 then true else Nat.beq t 9) false mi st hp iv cl sl
      | .return_ => q_ret0 mi st hp iv cl sl
      | _ => none)
/-- one instruction of the first of the runs under way -/
noncomputable def q_one1 (mt : Nat → q_MI) (df : Nat → List q_V) (cf : Nat → List q_V → q_H → q_I → Option (List q_Lf)) (sL : Nat) (mi : q_MI) (s : List q_C × List q_Lf) : Option (List q_C × List q_Lf) := match s with
  | ([], lf) => some ([], lf)
  | (c :: r, lf) => match q_step mt df cf sL mi c with
    | none => none
    | some z => some (q_app z.1 r, q_app z.2 lf)
/-- 2^k instructions -/
noncomputable def q_it (mt : Nat → q_MI) (df : Nat → List q_V) (cf : Nat → List q_V → q_H → q_I → Option (List q_Lf)) (sL : Nat) (mi : q_MI) (k : Nat) : List q_C × List q_Lf → Option (List q_C × List q_Lf) :=
  Nat.rec (motive := fun _ => List q_C × List q_Lf → Option (List q_C × List q_Lf)) (fun s => q_one1 mt df cf sL mi s) (fun _ ih s => match ih s with
    | none => none
    | some z => match z with
      | ([], lf) => some ([], lf)
      | (c :: r, lf) => ih (c :: r, lf)) k
noncomputable def q_args : List q_V → Nat → q_L := fun l => List.rec (motive := fun _ => Nat → q_L) (fun _ => []) (fun h _ ih n => (n, h) :: ih (bif q_is2 h.1 then Nat.succ (Nat.succ n) else Nat.succ n)) l
/-- a method's run: how it can end -/
noncomputable def q_run (mt : Nat → q_MI) (df : Nat → List q_V) (sL : Nat) (d : Nat) : Nat → List q_V → q_H → q_I → Option (List q_Lf) :=
  Nat.rec (motive := fun _ => Nat → List q_V → q_H → q_I → Option (List q_Lf)) (fun _ _ _ _ => none) (fun _ ih i ar hp iv => match q_it mt df ih sL (mt i) 14 ([(0, q_args ar 0, [], hp, iv, 0, 0)], []) with
    | none => none
    | some z => match z with
      | ([], lf) => some lf
      | (_ :: _, _) => none) d
