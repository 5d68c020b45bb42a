section -- [06a.step]
/-! Part 06a: the pure machine: its steps. -/
noncomputable def q_if {α : Type} (b : Bool) (k : Option α) : Option α := bif b then k else none
noncomputable def q_lk (i : Nat) : q_L → Option q_V := fun lo => List.rec (motive := fun _ => Option q_V) none (fun h _ ih => bif Nat.beq h.1 i then some h.2 else ih) lo
noncomputable def q_up {α : Type} : List α → Nat → α → List α := fun l => List.rec (motive := fun _ => Nat → α → List α) (fun _ _ => []) (fun h t ih n v => Nat.rec (motive := fun _ => List α) (v :: t) (fun m _ => h :: ih m v) n) l
noncomputable def q_len {α : Type} : List α → Nat := fun l => List.rec (motive := fun _ => Nat) 0 (fun _ _ ih => Nat.succ ih) l
noncomputable def q_app {α : Type} : List α → List α → List α := fun l m => List.rec (motive := fun _ => List α) m (fun h _ ih => h :: ih) l
noncomputable def q_map {α β : Type} (f : α → β) : List α → List β := fun l => List.rec (motive := fun _ => List β) [] (fun h _ ih => f h :: ih) l
noncomputable def q_pop {α : Type} (st : List α) : Option (α × List α) := match st with
  | [] => none
  | a :: r => some (a, r)
noncomputable def q_isI (t : Nat) : Bool := bif Nat.beq t 0 then true else bif Nat.beq t 6 then true else Nat.beq t 8
noncomputable def q_isK (t : Nat) : Bool := bif q_isI t then true else Nat.beq t 11
noncomputable def q_isJ (t : Nat) : Bool := bif Nat.beq t 1 then true else Nat.beq t 7
noncomputable def q_isR (t : Nat) : Bool := bif Nat.beq t 2 then true else bif Nat.beq t 9 then true else Nat.beq t 10
noncomputable def q_isN (t : Nat) : Bool := bif q_isR t then true else Nat.beq t 3
noncomputable def q_is2 (t : Nat) : Bool := bif Nat.beq t 1 then true else bif Nat.beq t 7 then true else Nat.beq t 5
/-- a script's int that is known by now -/
noncomputable def q_conc (iv : q_I) (a : q_V) : q_V := bif Nat.ble 6 a.1 then (bif Nat.ble a.1 7 then (match q_nth iv a.2.toNat with
  | some p => bif q_ieq p.1 p.2 then (bif Nat.beq a.1 6 then (0, p.1) else (1, p.1)) else a
  | none => a) else a) else a
/-- a store of one word; of two -/
noncomputable def q_fil (i : Nat) (w : Bool) (lo : q_L) : q_L := List.rec (motive := fun _ => q_L) [] (fun h _ ih => bif Nat.beq h.1 i then ih else bif (bif w then Nat.beq h.1 (Nat.succ i) else false) then ih else bif (bif Nat.beq (Nat.succ h.1) i then q_is2 h.2.1 else false) then ih else h :: ih) lo
noncomputable def q_sto (i : Nat) (w : Bool) (a : q_V) (lo : q_L) : q_L := (i, a) :: q_fil i w lo
abbrev q_O := Option (List q_C × List q_Lf)
noncomputable def q_nx (pc : Nat) (lo : q_L) (st : List q_V) (hp : q_H) (iv : q_I) (cl sl : Nat) : q_O := some ([(pc, lo, st, hp, iv, cl, sl)], [])
/-- the pieces of an interval below, at and above a number -/
noncomputable def q_split (iv : q_I) (i : Nat) (k : Int) : Option (List (Nat × q_I)) := (q_nth iv i).bind fun p =>
  some (q_app (bif (bif q_ile p.1 p.2 then Nat.beq (q_cmp p.1 k) 0 else false) then [(0, q_up iv i (p.1, bif q_ile p.2 (Int.sub k 1) then p.2 else Int.sub k 1))] else [])
    (q_app (bif (bif q_ile p.1 k then q_ile k p.2 else false) then [(1, q_up iv i (k, k))] else [])
      (bif Nat.beq (q_cmp k p.2) 0 then [(2, q_up iv i (bif q_ile (Int.add k 1) p.1 then p.1 else Int.add k 1, p.2))] else [])))
/-- comparison: 0 less, 1 equal, 2 greater, each with the intervals then -/
noncomputable def q_c3 (iv : q_I) (a b : q_V) : Option (List (Nat × q_I)) :=
  bif (bif Nat.beq a.1 0 then Nat.beq b.1 0 else false) then some [(q_cmp (q_w32 a.2) (q_w32 b.2), iv)]
  else bif (bif Nat.beq a.1 1 then Nat.beq b.1 1 else false) then some [(q_cmp (q_w64 a.2) (q_w64 b.2), iv)]
  else bif (bif Nat.beq a.1 6 then Nat.beq b.1 0 else false) then q_split iv a.2.toNat (q_w32 b.2)
  else bif (bif Nat.beq a.1 7 then Nat.beq b.1 1 else false) then q_split iv a.2.toNat (q_w64 b.2)
  else bif (bif Nat.beq b.1 6 then Nat.beq a.1 0 else false) then (q_split iv b.2.toNat (q_w32 a.2)).bind fun l => some (q_map (fun q => (Nat.sub 2 q.1, q.2)) l)
  else bif (bif Nat.beq b.1 7 then Nat.beq a.1 1 else false) then (q_split iv b.2.toNat (q_w64 a.2)).bind fun l => some (q_map (fun q => (Nat.sub 2 q.1, q.2)) l)
  else none
/-- every number of a short interval -/
noncomputable def q_span (iv : q_I) (i : Nat) (lo : Int) : Nat → List (Int × q_I) := fun n => Nat.rec (motive := fun _ => List (Int × q_I)) [] (fun m ih => (Int.add lo (Int.ofNat m), q_up iv i (Int.add lo (Int.ofNat m), Int.add lo (Int.ofNat m))) :: ih) n
noncomputable def q_enum (iv : q_I) (a : q_V) : Option (List (Int × q_I)) :=
  bif Nat.beq a.1 0 then some [(q_w32 a.2, iv)] else
  bif Nat.beq a.1 6 then (q_nth iv a.2.toNat).bind fun p => q_if (bif q_ile p.1 p.2 then q_ile (Int.sub p.2 p.1) 70 else false) (some (q_span iv a.2.toNat p.1 (Nat.succ (Int.sub p.2 p.1).toNat)))
  else none
noncomputable def q_tk (c : ClassFile.Cond) (r : Nat) : Bool := match c with
  | .eq => Nat.beq r 1
  | .ne => bif Nat.beq r 1 then false else true
  | .lt => Nat.beq r 0
  | .ge => bif Nat.beq r 0 then false else true
  | .gt => Nat.beq r 2
  | .le => bif Nat.beq r 2 then false else true
/-- the cell of a reference -/
noncomputable def q_at (hp : q_H) (a : q_V) : Option q_Ce := q_if (bif Nat.beq a.1 2 then Nat.ble (Nat.succ a.2.toNat) hp.1 else false) (some (q_get 8 hp.2 a.2.toNat))
noncomputable def q_put (hp : q_H) (k : Nat) (e : q_Ce) : q_H := (hp.1, q_set 8 hp.2 k e)
noncomputable def q_new (hp : q_H) (e : q_Ce) : q_H := (Nat.succ hp.1, q_set 8 hp.2 hp.1 e)
noncomputable def q_z0 : q_V := (0, 0)
noncomputable def q_zT : q_T q_V 11 := q_mk q_z0 11
-- the instructions
noncomputable def q_oLoad (P : Nat → Bool) (x : Nat) (nx : Nat) (lo : q_L) (st : List q_V) (hp : q_H) (iv : q_I) (cl sl : Nat) : q_O :=
  (q_lk x lo).bind fun a => q_if (P a.1) (q_nx nx lo (q_conc iv a :: st) hp iv cl sl)
noncomputable def q_oStore (P : Nat → Bool) (w : Bool) (x : Nat) (nx : Nat) (lo : q_L) (st : List q_V) (hp : q_H) (iv : q_I) (cl sl : Nat) : q_O :=
  (q_pop st).bind fun p => q_if (P p.1.1) (q_if (Nat.ble (q_len (q_sto x w p.1 lo)) 32) (q_nx nx (q_sto x w p.1 lo) p.2 hp iv cl sl))
noncomputable def q_oBin (t : Nat) (f : Int → Int → Int) (nx : Nat) (lo : q_L) (st : List q_V) (hp : q_H) (iv : q_I) (cl sl : Nat) : q_O :=
  (q_pop st).bind fun p => (q_pop p.2).bind fun r => q_if (bif Nat.beq p.1.1 t then Nat.beq r.1.1 t else false) (q_nx nx lo ((t, f r.1.2 p.1.2) :: r.2) hp iv cl sl)
noncomputable def q_oDiv (t : Nat) (f : Int → Int → Int) (w : Int → Int) (nx : Nat) (lo : q_L) (st : List q_V) (hp : q_H) (iv : q_I) (cl sl : Nat) : q_O :=
  (q_pop st).bind fun p => (q_pop p.2).bind fun r => q_if (bif Nat.beq p.1.1 t then (bif Nat.beq r.1.1 t then (bif q_ieq (w p.1.2) 0 then false else true) else false) else false) (q_nx nx lo ((t, f r.1.2 p.1.2) :: r.2) hp iv cl sl)
/-- of known ints the answer; of others some int -/
noncomputable def q_oAny (f : Int → Int → Int) (nx : Nat) (lo : q_L) (st : List q_V) (hp : q_H) (iv : q_I) (cl sl : Nat) : q_O :=
  (q_pop st).bind fun p => (q_pop p.2).bind fun r => bif (bif Nat.beq p.1.1 0 then Nat.beq r.1.1 0 else false) then q_nx nx lo ((0, f r.1.2 p.1.2) :: r.2) hp iv cl sl
    else q_if (bif q_isI p.1.1 then q_isI r.1.1 else false) (q_nx nx lo ((8, 0) :: r.2) hp iv cl sl)
noncomputable def q_oAnd (nx : Nat) (lo : q_L) (st : List q_V) (hp : q_H) (iv : q_I) (cl sl : Nat) : q_O := q_oAny (fun a b => (Int32.ofInt a &&& Int32.ofInt b).toInt) nx lo st hp iv cl sl
noncomputable def q_oUn (t u : Nat) (f : Int → Int) (nx : Nat) (lo : q_L) (st : List q_V) (hp : q_H) (iv : q_I) (cl sl : Nat) : q_O :=
  (q_pop st).bind fun p => q_if (Nat.beq p.1.1 t) (q_nx nx lo ((u, f p.1.2) :: p.2) hp iv cl sl)
noncomputable def q_oI2l (nx : Nat) (lo : q_L) (st : List q_V) (hp : q_H) (iv : q_I) (cl sl : Nat) : q_O :=
  (q_pop st).bind fun p => bif Nat.beq p.1.1 0 then q_nx nx lo ((1, q_w32 p.1.2) :: p.2) hp iv cl sl else q_if (Nat.beq p.1.1 6) (q_nx nx lo ((7, p.1.2) :: p.2) hp iv cl sl)
noncomputable def q_oL2i (nx : Nat) (lo : q_L) (st : List q_V) (hp : q_H) (iv : q_I) (cl sl : Nat) : q_O :=
  (q_pop st).bind fun p => bif Nat.beq p.1.1 1 then q_nx nx lo ((0, q_w32 p.1.2) :: p.2) hp iv cl sl else q_if (Nat.beq p.1.1 7) (q_nx nx lo ((6, p.1.2) :: p.2) hp iv cl sl)
noncomputable def q_oI2b (nx : Nat) (lo : q_L) (st : List q_V) (hp : q_H) (iv : q_I) (cl sl : Nat) : q_O :=
  (q_pop st).bind fun p => q_if (q_isI p.1.1) (q_nx nx lo ((8, 0) :: p.2) hp iv cl sl)
noncomputable def q_oLcmp (nx : Nat) (lo : q_L) (st : List q_V) (hp : q_H) (iv : q_I) (cl sl : Nat) : q_O :=
  (q_pop st).bind fun p => (q_pop p.2).bind fun r => q_if (bif q_isJ p.1.1 then q_isJ r.1.1 else false) ((q_c3 iv r.1 p.1).bind fun l => some (q_map (fun q => (nx, lo, (0, Int.sub (Int.ofNat q.1) 1) :: r.2, hp, q.2, cl, sl)) l, []))
/-- a lessened int against 0 -/
noncomputable def q_cO (iv : q_I) (z : Int) : Option (List (Nat × q_I)) := (q_nth iv (Nat.mod z.toNat 16)).bind fun p => q_if (q_ile (Int.sub (Int.ofNat (Nat.div z.toNat 16)) 2147483648) p.1) (q_split iv (Nat.mod z.toNat 16) (Int.ofNat (Nat.div z.toNat 16)))
noncomputable def q_oIf (c : ClassFile.Cond) (x : Nat) (nx : Nat) (lo : q_L) (st : List q_V) (hp : q_H) (iv : q_I) (cl sl : Nat) : q_O :=
  (q_pop st).bind fun p => (bif Nat.beq p.1.1 11 then q_cO iv p.1.2 else q_if (q_isI p.1.1) (q_c3 iv p.1 (0, 0))).bind fun l => some (q_map (fun q => (bif q_tk c q.1 then x else nx, lo, p.2, hp, q.2, cl, sl)) l, [])
noncomputable def q_oIc (c : ClassFile.Cond) (x : Nat) (nx : Nat) (lo : q_L) (st : List q_V) (hp : q_H) (iv : q_I) (cl sl : Nat) : q_O :=
  (q_pop st).bind fun p => (q_pop p.2).bind fun r => q_if (bif q_isI p.1.1 then q_isI r.1.1 else false) ((q_c3 iv r.1 p.1).bind fun l => some (q_map (fun q => (bif q_tk c q.1 then x else nx, lo, r.2, hp, q.2, cl, sl)) l, []))
noncomputable def q_oIfn (x : Nat) (nx : Nat) (lo : q_L) (st : List q_V) (hp : q_H) (iv : q_I) (cl sl : Nat) : q_O :=
  (q_pop st).bind fun p => bif Nat.beq p.1.1 3 then q_nx x lo p.2 hp iv cl sl else q_if (q_isR p.1.1) (q_nx nx lo p.2 hp iv cl sl)
/-- a switch: the targets by the values -/
noncomputable def q_tgt (pc : Nat) (d lo hi : Int) (offs : Array Int) (n : Int) : Option Nat :=
  bif (bif q_ile lo n then q_ile n hi else false) then (q_nth offs.toList (Int.sub n lo).toNat).bind fun o => q_if (q_ile 0 (Int.add (Int.ofNat pc) o)) (some (Int.add (Int.ofNat pc) o).toNat)
  else q_if (q_ile 0 (Int.add (Int.ofNat pc) d)) (some (Int.add (Int.ofNat pc) d).toNat)
noncomputable def q_all {α β : Type} (f : α → Option β) : List α → Option (List β) := fun l => List.rec (motive := fun _ => Option (List β)) (some []) (fun h _ ih => (f h).bind fun b => ih.bind fun bs => some (b :: bs)) l
noncomputable def q_oSw (d lo hi : Int) (offs : Array Int) (pc : Nat) (loc : q_L) (st : List q_V) (hp : q_H) (iv : q_I) (cl sl : Nat) : q_O :=
  (q_pop st).bind fun p => q_if (q_isI p.1.1) ((q_c3 iv p.1 (0, lo)).bind fun l1 => (q_all (fun q1 => bif Nat.beq q1.1 0 then (q_tgt pc d lo hi offs (Int.sub lo 1)).bind fun t => some [(t, loc, p.2, hp, q1.2, cl, sl)]
    else (q_c3 q1.2 (q_conc q1.2 p.1) (0, hi)).bind fun l2 => (q_all (fun q2 => bif Nat.beq q2.1 2 then (q_tgt pc d lo hi offs (Int.add hi 1)).bind fun t => some [(t, loc, p.2, hp, q2.2, cl, sl)]
      else (q_enum q2.2 (q_conc q2.2 p.1)).bind fun l3 => q_all (fun q3 => (q_tgt pc d lo hi offs q3.1).bind fun t => some (t, loc, p.2, hp, q3.2, cl, sl)) l3) l2).bind fun bs => some (List.rec (motive := fun _ => List q_C) [] (fun h _ ih => q_app h ih) bs)) l1).bind fun bs => some (List.rec (motive := fun _ => List q_C) [] (fun h _ ih => q_app h ih) bs, []))
noncomputable def q_oGet (x y : Nat) (nx : Nat) (lo : q_L) (st : List q_V) (hp : q_H) (iv : q_I) (cl sl : Nat) : q_O :=
  (q_pop st).bind fun p => (q_at hp p.1).bind fun e => q_if (bif Nat.beq e.1 0 then Nat.beq e.2.1 x else false) ((q_nth e.2.2.1 y).bind fun a => q_nx nx lo (q_conc iv a :: p.2) hp iv cl sl)
/-- may a field of this type hold it: 0 int, 1 boolean, 2 long, 3 a reference -/
noncomputable def q_fit (t : Nat) (a : q_V) : Bool := bif Nat.beq t 0 then q_isI a.1 else bif Nat.beq t 1 then (bif Nat.beq a.1 0 then (bif q_ieq a.2 0 then true else q_ieq a.2 1) else false) else bif Nat.beq t 2 then q_isJ a.1 else bif Nat.beq t 3 then Nat.beq a.1 2 else false
noncomputable def q_oPut (x y t : Nat) (nx : Nat) (lo : q_L) (st : List q_V) (hp : q_H) (iv : q_I) (cl sl : Nat) : q_O :=
  (q_pop st).bind fun p => (q_pop p.2).bind fun r => (q_at hp r.1).bind fun e => q_if (bif Nat.beq e.1 0 then (bif Nat.beq e.2.1 x then (bif q_fit t p.1 then Nat.ble (Nat.succ y) (q_len e.2.2.1) else false) else false) else false)
    (q_nx nx lo r.2 (q_put hp r.1.2.toNat (0, x, q_up e.2.2.1 y p.1, e.2.2.2)) iv cl sl)
/-- the rows that stand besides: 0 the script, 1 and 2 those of the class (numbers as they are at the start) -/
def q_lg (n j : Nat) : Int := match n with
  | 1 => (([1, 0, 1, 1, 0, 0] : List Int)[j]?).getD 0
  | _ => (([2000, 20, 5000, 500, 2000, 20] : List Int)[j]?).getD 0
noncomputable def q_ln (sL n : Nat) : Nat := bif Nat.beq n 0 then sL else 6
noncomputable def q_oLen (sL : Nat) (nx : Nat) (lo : q_L) (st : List q_V) (hp : q_H) (iv : q_I) (cl sl : Nat) : q_O :=
  (q_pop st).bind fun p => bif Nat.beq p.1.1 9 then q_if (Nat.ble p.1.2.toNat 2) (q_nx nx lo ((0, Int.ofNat (q_ln sL p.1.2.toNat)) :: p.2) hp iv cl sl) else (q_at hp p.1).bind fun e => q_if (bif Nat.ble 1 e.1 then Nat.ble e.1 5 else false) (q_nx nx lo ((0, Int.ofNat e.2.1) :: p.2) hp iv cl sl)
noncomputable def q_oAld (k sL : Nat) (nx : Nat) (lo : q_L) (st : List q_V) (hp : q_H) (iv : q_I) (cl sl : Nat) : q_O :=
  (q_pop st).bind fun p => (q_pop p.2).bind fun r => bif Nat.beq r.1.1 9 then q_if (bif Nat.ble r.1.2.toNat 2 then (bif Nat.beq k 1 then (bif Nat.beq p.1.1 0 then (bif q_ile 0 (q_w32 p.1.2) then Nat.ble (Nat.succ (q_w32 p.1.2).toNat) (q_ln sL r.1.2.toNat) else false) else false) else false) else false) (q_nx nx lo ((bif Nat.beq r.1.2.toNat 0 then q_conc iv (6, q_w32 p.1.2) else (0, q_lg r.1.2.toNat (q_w32 p.1.2).toNat)) :: r.2) hp iv cl sl)
    else (q_at hp r.1).bind fun e => q_if (Nat.beq e.1 k) ((q_enum iv p.1).bind fun l => (q_all (fun q => q_if (bif q_ile 0 q.1 then Nat.ble (Nat.succ q.1.toNat) e.2.1 else false) (some (nx, lo, q_conc q.2 (q_get 11 e.2.2.2 q.1.toNat) :: r.2, hp, q.2, cl, sl))) l).bind fun cs => some (cs, []))
/-- the value that an array of a kind keeps -/
noncomputable def q_kp (k : Nat) (a : q_V) : Option q_V := bif Nat.beq k 1 then q_if (q_isI a.1) (some a) else bif Nat.beq k 2 then q_if (Nat.beq a.1 0) (some (0, ((Int32.ofInt a.2).toInt8.toInt32).toInt)) else bif Nat.beq k 3 then q_if (q_isJ a.1) (some a) else bif Nat.beq k 4 then q_if (Nat.beq a.1 5) (some a) else none
noncomputable def q_oAst (k : Nat) (nx : Nat) (lo : q_L) (st : List q_V) (hp : q_H) (iv : q_I) (cl sl : Nat) : q_O :=
  (q_pop st).bind fun v => (q_kp k v.1).bind fun w => (q_pop v.2).bind fun p => (q_pop p.2).bind fun r => (q_at hp r.1).bind fun e => q_if (Nat.beq e.1 k) ((q_enum iv p.1).bind fun l => (q_all (fun q => q_if (bif q_ile 0 q.1 then Nat.ble (Nat.succ q.1.toNat) e.2.1 else false) (some (nx, lo, r.2, q_put hp r.1.2.toNat (k, e.2.1, e.2.2.1, q_set 11 e.2.2.2 q.1.toNat w), q.2, cl, sl))) l).bind fun cs => some (cs, []))
/-- into an array of references: an object of the class of number c -/
noncomputable def q_oAsr (c : Nat) (nx : Nat) (lo : q_L) (st : List q_V) (hp : q_H) (iv : q_I) (cl sl : Nat) : q_O :=
  (q_pop st).bind fun v => (q_at hp v.1).bind fun o => q_if (bif Nat.beq o.1 0 then Nat.beq o.2.1 c else false) ((q_pop v.2).bind fun p => (q_pop p.2).bind fun r => (q_at hp r.1).bind fun e => q_if (bif Nat.beq e.1 5 then (bif Nat.beq p.1.1 0 then (bif q_ile 0 (q_w32 p.1.2) then Nat.ble (Nat.succ (q_w32 p.1.2).toNat) e.2.1 else false) else false) else false)
    (q_nx nx lo r.2 (q_put hp r.1.2.toNat (5, e.2.1, e.2.2.1, q_set 11 e.2.2.2 (q_w32 p.1.2).toNat v.1)) iv cl sl))
noncomputable def q_oNew (x : Nat) (fs : List q_V) (mc ms : Nat) (nx : Nat) (lo : q_L) (st : List q_V) (hp : q_H) (iv : q_I) (cl sl : Nat) : q_O :=
  q_if (bif Nat.ble (Nat.succ cl) mc then (bif Nat.ble (Nat.add sl (q_len fs)) ms then Nat.ble (Nat.succ hp.1) 256 else false) else false) (q_nx nx lo ((2, Int.ofNat hp.1) :: st) (q_new hp (0, x, fs, q_zT)) iv (Nat.succ cl) (Nat.add sl (q_len fs)))
noncomputable def q_oNwa (k : Nat) (z : q_V) (mc ms : Nat) (nx : Nat) (lo : q_L) (st : List q_V) (hp : q_H) (iv : q_I) (cl sl : Nat) : q_O :=
  (q_pop st).bind fun p => q_if (bif Nat.beq p.1.1 0 then (bif q_ile 0 (q_w32 p.1.2) then (bif q_ile (q_w32 p.1.2) 2000 then (bif Nat.ble (Nat.succ cl) mc then (bif Nat.ble (Nat.add sl (q_w32 p.1.2).toNat) ms then Nat.ble (Nat.succ hp.1) 256 else false) else false) else false) else false) else false)
    (q_nx nx lo ((2, Int.ofNat hp.1) :: p.2) (q_new hp (k, (q_w32 p.1.2).toNat, [], q_mk z 11)) iv (Nat.succ cl) (Nat.add sl (q_w32 p.1.2).toNat))
noncomputable def q_oDup (nx : Nat) (lo : q_L) (st : List q_V) (hp : q_H) (iv : q_I) (cl sl : Nat) : q_O :=
  (q_pop st).bind fun p => bif q_is2 p.1.1 then none else q_nx nx lo (p.1 :: p.1 :: p.2) hp iv cl sl
noncomputable def q_oPop (nx : Nat) (lo : q_L) (st : List q_V) (hp : q_H) (iv : q_I) (cl sl : Nat) : q_O :=
  (q_pop st).bind fun p => bif q_is2 p.1.1 then none else q_nx nx lo p.2 hp iv cl sl
noncomputable def q_oPop2 (nx : Nat) (lo : q_L) (st : List q_V) (hp : q_H) (iv : q_I) (cl sl : Nat) : q_O :=
  (q_pop st).bind fun p => bif q_is2 p.1.1 then q_nx nx lo p.2 hp iv cl sl else none
noncomputable def q_oDup2 (nx : Nat) (lo : q_L) (st : List q_V) (hp : q_H) (iv : q_I) (cl sl : Nat) : q_O :=
  (q_pop st).bind fun p => bif q_is2 p.1.1 then q_nx nx lo (p.1 :: p.1 :: p.2) hp iv cl sl else (q_pop p.2).bind fun r => bif q_is2 r.1.1 then none else q_nx nx lo (p.1 :: r.1 :: p.1 :: r.1 :: r.2) hp iv cl sl
/-- one less: of a script's int (kind 6) or of one already lessened (kind 11: variable z mod 16, less z / 16) -/
noncomputable def q_ic (n : Int) (a : q_V) : Option q_V := bif Nat.beq a.1 0 then some (0, q_w32 (Int.add a.2 n)) else q_if (q_ieq n (-1)) (bif Nat.beq a.1 6 then q_if (bif q_ile 0 a.2 then Nat.ble a.2.toNat 15 else false) (some (11, Int.add a.2 16)) else q_if (bif Nat.beq a.1 11 then q_ile 0 a.2 else false) (some (11, Int.add a.2 16)))
noncomputable def q_oInc (x : Nat) (n : Int) (nx : Nat) (lo : q_L) (st : List q_V) (hp : q_H) (iv : q_I) (cl sl : Nat) : q_O :=
  (q_lk x lo).bind fun a => (q_ic n (q_conc iv a)).bind fun b => q_if (Nat.ble (q_len (q_sto x false b lo)) 32) (q_nx nx (q_sto x false b lo) st hp iv cl sl)
noncomputable def q_oNeg (nx : Nat) (lo : q_L) (st : List q_V) (hp : q_H) (iv : q_I) (cl sl : Nat) : q_O := q_oUn 0 0 (fun a => (-(Int32.ofInt a)).toInt) nx lo st hp iv cl sl
/-- floats and doubles by their bits; what is no number is not gone on with -/
def q_n32 (r : UInt32) : Bool := decide (r &&& 0x7fffffff ≤ 0x7f800000)
def q_n64 (r : UInt64) : Bool := decide (r &&& 0x7fffffffffffffff ≤ 0x7ff0000000000000)
noncomputable def q_oF2 (f : UInt32 → UInt32 → UInt32) (nx : Nat) (lo : q_L) (st : List q_V) (hp : q_H) (iv : q_I) (cl sl : Nat) : q_O :=
  (q_pop st).bind fun p => (q_pop p.2).bind fun r => q_if (bif Nat.beq p.1.1 4 then (bif Nat.beq r.1.1 4 then q_n32 (f (UInt32.ofNat r.1.2.toNat) (UInt32.ofNat p.1.2.toNat)) else false) else false)
    (q_nx nx lo ((4, Int.ofNat (f (UInt32.ofNat r.1.2.toNat) (UInt32.ofNat p.1.2.toNat)).toNat) :: r.2) hp iv cl sl)
noncomputable def q_oD2 (f : UInt64 → UInt64 → UInt64) (nx : Nat) (lo : q_L) (st : List q_V) (hp : q_H) (iv : q_I) (cl sl : Nat) : q_O :=
  (q_pop st).bind fun p => (q_pop p.2).bind fun r => q_if (bif Nat.beq p.1.1 5 then (bif Nat.beq r.1.1 5 then q_n64 (f (UInt64.ofNat r.1.2.toNat) (UInt64.ofNat p.1.2.toNat)) else false) else false)
    (q_nx nx lo ((5, Int.ofNat (f (UInt64.ofNat r.1.2.toNat) (UInt64.ofNat p.1.2.toNat)).toNat) :: r.2) hp iv cl sl)
noncomputable def q_oFc (o : CmpOp) (nx : Nat) (lo : q_L) (st : List q_V) (hp : q_H) (iv : q_I) (cl sl : Nat) : q_O :=
  (q_pop st).bind fun p => (q_pop p.2).bind fun r => q_if (bif Nat.beq p.1.1 4 then Nat.beq r.1.1 4 else false) (q_nx nx lo ((0, (Op.cmpValue (FP.fcmp (UInt32.ofNat r.1.2.toNat) (UInt32.ofNat p.1.2.toNat)) o).toInt) :: r.2) hp iv cl sl)
noncomputable def q_oDc (o : CmpOp) (nx : Nat) (lo : q_L) (st : List q_V) (hp : q_H) (iv : q_I) (cl sl : Nat) : q_O :=
  (q_pop st).bind fun p => (q_pop p.2).bind fun r => q_if (bif Nat.beq p.1.1 5 then Nat.beq r.1.1 5 else false) (q_nx nx lo ((0, (Op.cmpValue (FP.dcmp (UInt64.ofNat r.1.2.toNat) (UInt64.ofNat p.1.2.toNat)) o).toInt) :: r.2) hp iv cl sl)
noncomputable def q_oF2d (nx : Nat) (lo : q_L) (st : List q_V) (hp : q_H) (iv : q_I) (cl sl : Nat) : q_O :=
  (q_pop st).bind fun p => q_if (bif Nat.beq p.1.1 4 then q_n64 (FP.f2d (UInt32.ofNat p.1.2.toNat)) else false) (q_nx nx lo ((5, Int.ofNat (FP.f2d (UInt32.ofNat p.1.2.toNat)).toNat) :: p.2) hp iv cl sl)
/-- the arguments of a call, the first one first, and the rest of the stack -/
noncomputable def q_take (n : Nat) (st : List q_V) : Option (List q_V × List q_V) := Nat.rec (motive := fun _ => List q_V → List q_V → Option (List q_V × List q_V)) (fun acc r => some (acc, r)) (fun _ ih acc r => (q_pop r).bind fun p => ih (p.1 :: acc) p.2) n [] st
noncomputable def q_wid : List q_V → Nat := fun l => List.rec (motive := fun _ => Nat) 0 (fun h _ ih => bif q_is2 h.1 then Nat.succ (Nat.succ ih) else Nat.succ ih) l
noncomputable def q_hd (hh : List (Nat × Nat × Nat × Nat)) (pc E : Nat) : Option Nat := List.rec (motive := fun _ => Option Nat) none (fun h _ ih => bif (bif Nat.ble h.1 pc then (bif Nat.ble (Nat.succ pc) h.2.1 then Nat.beq h.2.2.2 E else false) else false) then some h.2.2.1 else ih) hh
noncomputable def q_cont (hh : List (Nat × Nat × Nat × Nat)) (pc : Nat) (lo : q_L) (rest : List q_V) (cl sl : Nat) (lf : q_Lf) : List q_C × List q_Lf :=
  bif Nat.beq lf.1 0 then ([(Nat.add pc 3, lo, rest, lf.2.2.1, lf.2.2.2, cl, sl)], [])
  else bif Nat.beq lf.1 1 then ([(Nat.add pc 3, lo, q_conc lf.2.2.2 lf.2.1 :: rest, lf.2.2.1, lf.2.2.2, cl, sl)], [])
  else match q_hd hh pc (Nat.sub lf.1 2) with
    | some h => ([(h, lo, [(10, 0)], lf.2.2.1, lf.2.2.2, cl, sl)], [])
    | none => ([], [lf])
noncomputable def q_conts (hh : List (Nat × Nat × Nat × Nat)) (pc : Nat) (lo : q_L) (rest : List q_V) (cl sl : Nat) (l : List q_Lf) : List q_C × List q_Lf :=
  List.rec (motive := fun _ => List q_C × List q_Lf) ([], []) (fun h _ ih => (q_app (q_cont hh pc lo rest cl sl h).1 ih.1, q_app (q_cont hh pc lo rest cl sl h).2 ih.2)) l
/-- y: 0 a method of the receiver's class, 1 static, 2 a constructor, 3 static of the nest, 4 a constructor of the nest, 9 static with handlers -/
noncomputable def q_oCall (cf : Nat → List q_V → q_H → q_I → Option (List q_Lf)) (mi me : q_MI) (x y : Nat) (pc : Nat) (lo : q_L) (st : List q_V) (hp : q_H) (iv : q_I) (cl sl : Nat) : q_O :=
  (q_take me.2.1.2.2.1 st).bind fun ar => q_if (bif Nat.ble (q_wid ar.2) 8 then (bif Nat.ble (Nat.succ me.2.2.1.1) mi.2.2.1.1 then (bif Nat.ble (Nat.add (Nat.add me.2.1.1 19) me.2.2.1.2.1) mi.2.2.1.2.1 then (bif Nat.ble (Nat.add cl me.2.2.1.2.2.1) mi.2.2.1.2.2.1 then Nat.ble (Nat.add sl me.2.2.1.2.2.2) mi.2.2.1.2.2.2 else false) else false) else false) else false)
    (q_if (bif (bif Nat.beq y 0 then true else bif Nat.beq y 2 then true else Nat.beq y 4) then (match ar.1 with
        | [] => false
        | a :: _ => match q_at hp a with
          | none => false
          | some e => bif Nat.beq e.1 0 then Nat.beq e.2.1 me.2.1.2.1 else false) else true)
      ((cf x ar.1 hp iv).bind fun l => some (q_conts mi.2.2.2 pc lo ar.2 (Nat.add cl me.2.2.1.2.2.1) (Nat.add sl me.2.2.1.2.2.2) l)))
noncomputable def q_oObj (fr lc : Nat) (nx : Nat) (lo : q_L) (st : List q_V) (hp : q_H) (iv : q_I) (cl sl : Nat) : q_O :=
  (q_pop st).bind fun p => q_if (bif Nat.beq p.1.1 2 then (bif Nat.ble 1 fr then Nat.ble (Nat.add (q_wid p.2) 12) lc else false) else false) (q_nx nx lo p.2 hp iv cl sl)
noncomputable def q_oM2 (mx : Bool) (fr lc mc ms : Nat) (nx : Nat) (lo : q_L) (st : List q_V) (hp : q_H) (iv : q_I) (cl sl : Nat) : q_O :=
  (q_pop st).bind fun p => (q_pop p.2).bind fun r => q_if (bif Nat.beq p.1.1 0 then (bif Nat.beq r.1.1 0 then (bif Nat.ble 1 fr then (bif Nat.ble (Nat.add (q_wid r.2) 13) lc then (bif Nat.ble cl mc then Nat.ble sl ms else false) else false) else false) else false) else false)
    (q_nx nx lo ((bif q_ile (q_w32 r.1.2) (q_w32 p.1.2) then (bif mx then p.1 else r.1) else (bif mx then r.1 else p.1)) :: r.2) hp iv cl sl)
noncomputable def q_oAbs (fr lc mc ms : Nat) (nx : Nat) (lo : q_L) (st : List q_V) (hp : q_H) (iv : q_I) (cl sl : Nat) : q_O :=
  (q_pop st).bind fun p => q_if (bif Nat.ble 1 fr then (bif Nat.ble (Nat.add (q_wid p.2) 13) lc then (bif Nat.ble cl mc then Nat.ble sl ms else false) else false) else false)
    (q_if (Nat.beq p.1.1 0) (q_nx nx lo ((0, bif q_ile 0 (q_w32 p.1.2) then p.1.2 else (0 - Int32.ofInt p.1.2).toInt) :: p.2) hp iv cl sl))
noncomputable def q_oMJ (fr lc mc ms : Nat) (nx : Nat) (lo : q_L) (st : List q_V) (hp : q_H) (iv : q_I) (cl sl : Nat) : q_O :=
  (q_pop st).bind fun p => (q_pop p.2).bind fun r => q_if (bif Nat.beq p.1.1 1 then (bif Nat.beq r.1.1 1 then (bif Nat.ble 1 fr then (bif Nat.ble (Nat.add (q_wid r.2) 15) lc then (bif Nat.ble cl mc then Nat.ble sl ms else false) else false) else false) else false) else false)
    (q_nx nx lo ((bif q_ile (q_w64 r.1.2) (q_w64 p.1.2) then p.1 else r.1) :: r.2) hp iv cl sl)
noncomputable def q_oAJ (fr lc mc ms : Nat) (nx : Nat) (lo : q_L) (st : List q_V) (hp : q_H) (iv : q_I) (cl sl : Nat) : q_O :=
  (q_pop st).bind fun p => q_if (bif Nat.beq p.1.1 1 then (bif Nat.ble 1 fr then (bif Nat.ble (Nat.add (q_wid p.2) 13) lc then (bif Nat.ble cl mc then Nat.ble sl ms else false) else false) else false) else false)
    (q_nx nx lo ((1, bif q_ile (q_w64 p.1.2) 0 then q_w64 (Int.neg p.1.2) else p.1.2) :: p.2) hp iv cl sl)
/-- the greater one of two floats, as the class library finds it; of numbers alone -/
def q_fmx (a b : UInt32) : UInt32 := Native.java_lang_Math.nans.pick32 true a b
noncomputable def q_oMF (fr lc mc ms : Nat) (nx : Nat) (lo : q_L) (st : List q_V) (hp : q_H) (iv : q_I) (cl sl : Nat) : q_O :=
  (q_pop st).bind fun p => (q_pop p.2).bind fun r => q_if (bif Nat.beq p.1.1 4 then (bif Nat.beq r.1.1 4 then (bif Nat.ble 5 fr then (bif Nat.ble (Nat.add (q_wid r.2) 150) lc then (bif Nat.ble cl mc then Nat.ble sl ms else false) else false) else false) else false) else false)
    (q_if (bif q_n32 (UInt32.ofNat r.1.2.toNat) then q_n32 (UInt32.ofNat p.1.2.toNat) else false) (q_nx nx lo ((4, Int.ofNat (q_fmx (UInt32.ofNat r.1.2.toNat) (UInt32.ofNat p.1.2.toNat)).toNat) :: r.2) hp iv cl sl))
/-- the texts: their bytes -/
def q_sb (n : Nat) : List Int := match n with
  | 0 => [120]
  | 1 => [121]
  | 2 => [122]
  | 3 => [98, 101, 103, 105, 110]
  | 4 => [115, 116, 97, 114, 116]
  | 5 => [99, 111, 109, 112, 101, 110, 115, 97, 116, 101]
  | _ => [100, 101, 116, 101, 99, 116]
def q_sw (z : Int) : Nat := Nat.sub z.toNat 3
noncomputable def q_oSl (fr lc mc ms : Nat) (nx : Nat) (lo : q_L) (st : List q_V) (hp : q_H) (iv : q_I) (cl sl : Nat) : q_O :=
  (q_pop st).bind fun p => q_if (bif Nat.beq p.1.1 9 then (bif Nat.ble 3 p.1.2.toNat then (bif Nat.ble p.1.2.toNat 9 then (bif Nat.ble 5 fr then (bif Nat.ble (Nat.add (q_wid p.2) 150) lc then (bif Nat.ble cl mc then Nat.ble sl ms else false) else false) else false) else false) else false) else false)
    (q_nx nx lo ((0, Int.ofNat (q_len (q_sb (q_sw p.1.2)))) :: p.2) hp iv cl sl)
noncomputable def q_oSc (fr lc mc ms : Nat) (nx : Nat) (lo : q_L) (st : List q_V) (hp : q_H) (iv : q_I) (cl sl : Nat) : q_O :=
  (q_pop st).bind fun p => (q_pop p.2).bind fun r => q_if (bif Nat.beq p.1.1 0 then (bif Nat.beq r.1.1 9 then (bif Nat.ble 3 r.1.2.toNat then (bif Nat.ble r.1.2.toNat 9 then (bif Nat.ble 5 fr then (bif Nat.ble (Nat.add (q_wid r.2) 150) lc then (bif Nat.ble cl mc then Nat.ble sl ms else false) else false) else false) else false) else false) else false) else false)
    (q_if (bif q_ile 0 (q_w32 p.1.2) then Nat.ble (Nat.succ (q_w32 p.1.2).toNat) (q_len (q_sb (q_sw r.1.2))) else false) ((q_nth (q_sb (q_sw r.1.2)) (q_w32 p.1.2).toNat).bind fun c => q_nx nx lo ((0, c) :: r.2) hp iv cl sl))
noncomputable def q_ret (k : Nat) (P : Nat → Bool) (b : Bool) (mi : q_MI) (st : List q_V) (hp : q_H) (iv : q_I) (cl sl : Nat) : q_O :=
  (q_pop st).bind fun p => q_if (bif Nat.beq mi.2.1.2.2.2 k then (bif P p.1.1 then (bif Nat.ble cl mi.2.2.1.2.2.1 then (bif Nat.ble sl mi.2.2.1.2.2.2 then (bif (match p.2 with | [] => true | _ :: _ => false) then (bif b then (bif q_ieq p.1.2 0 then true else q_ieq p.1.2 1) else true) else false) else false) else false) else false) else false) (some ([], [(1, p.1, hp, iv)]))
noncomputable def q_ret0 (mi : q_MI) (st : List q_V) (hp : q_H) (iv : q_I) (cl sl : Nat) : q_O :=
  q_if (bif Nat.beq mi.2.1.2.2.2 0 then (bif Nat.ble cl mi.2.2.1.2.2.1 then (bif Nat.ble sl mi.2.2.1.2.2.2 then (match st with | [] => true | _ :: _ => false) else false) else false) else false) (some ([], [(0, q_z0, hp, iv)]))
noncomputable def q_oThr (E : Nat) (mi : q_MI) (st : List q_V) (hp : q_H) (iv : q_I) (cl sl : Nat) : q_O :=
  q_if (bif Nat.ble 6 mi.2.2.1.1 then (bif Nat.ble (Nat.add (q_wid st) 82) mi.2.2.1.2.1 then (bif Nat.ble (Nat.succ cl) mi.2.2.1.2.2.1 then (bif Nat.ble (Nat.add sl 6) mi.2.2.1.2.2.2 then (match mi.2.2.2 with
    | [] => true
    | _ :: _ => false) else false) else false) else false) else false) (some ([], [(Nat.add E 2, q_z0, hp, iv)]))
noncomputable def q_one (v : q_V) (nx : Nat) (lo : q_L) (st : List q_V) (hp : q_H) (iv : q_I) (cl sl : Nat) : q_O := q_nx nx lo (v :: st) hp iv cl sl
/-- one instruction -/
noncomputable def q_step (mt : Nat → q_MI) (df : Nat → List q_V) (cf : Nat → List q_V → q_H → q_I → Option (List q_Lf)) (sL : Nat) (mi : q_MI) (c : q_C) : q_O :=
  match c with
  | (pc, lo, st, hp, iv, cl, sl) => q_if (Nat.ble (Nat.succ pc) mi.1.1) (match mi.1.2 pc with
    | (ins, len, x, y, v) => match ins with
      | .aload_n _ => q_oLoad q_isN x (Nat.add pc len) lo st hp iv cl sl
      | .aload _ => q_oLoad q_isN x (Nat.add pc len) lo st hp iv cl sl
      | .iload_n _ => q_oLoad q_isK x (Nat.add pc len) lo st hp iv cl sl
      | .iload _ => q_oLoad q_isK x (Nat.add pc len) lo st hp iv cl sl
      | .lload_n _ => q_oLoad q_isJ x (Nat.add pc len) lo st hp iv cl sl
      | .lload _ => q_oLoad q_isJ x (Nat.add pc len) lo st hp iv cl sl
      | .fload_n _ => q_oLoad (Nat.beq 4) x (Nat.add pc len) lo st hp iv cl sl
      | .fload _ => q_oLoad (Nat.beq 4) x (Nat.add pc len) lo st hp iv cl sl
      | .dload_n _ => q_oLoad (Nat.beq 5) x (Nat.add pc len) lo st hp iv cl sl
      | .dload _ => q_oLoad (Nat.beq 5) x (Nat.add pc len) lo st hp iv cl sl
      | .astore_n _ => q_oStore q_isN false x (Nat.add pc len) lo st hp iv cl sl
      | .astore _ => q_oStore q_isN false x (Nat.add pc len) lo st hp iv cl sl
      | .istore_n _ => q_oStore q_isI false x (Nat.add pc len) lo st hp iv cl sl
      | .istore _ => q_oStore q_isI false x (Nat.add pc len) lo st hp iv cl sl
      | .lstore_n _ => q_oStore q_isJ true x (Nat.add pc len) lo st hp iv cl sl
      | .lstore _ => q_oStore q_isJ true x (Nat.add pc len) lo st hp iv cl sl
      | .fstore_n _ => q_oStore (Nat.beq 4) false x (Nat.add pc len) lo st hp iv cl sl
      | .fstore _ => q_oStore (Nat.beq 4) false x (Nat.add pc len) lo st hp iv cl sl
      | .dstore_n _ => q_oStore (Nat.beq 5) true x (Nat.add pc len) lo st hp iv cl sl
      | .dstore _ => q_oStore (Nat.beq 5) true x (Nat.add pc len) lo st hp iv cl sl
      | .iconst n => q_one (0, n) (Nat.add pc len) lo st hp iv cl sl
      | .bipush n => q_one (0, n) (Nat.add pc len) lo st hp iv cl sl
      | .sipush n => q_one (0, n) (Nat.add pc len) lo st hp iv cl sl
      | .lconst _ => q_one (1, v) (Nat.add pc len) lo st hp iv cl sl
      | .fconst _ => q_one (4, v) (Nat.add pc len) lo st hp iv cl sl
      | .dconst _ => q_one (5, v) (Nat.add pc len) lo st hp iv cl sl
      | .ldc _ => q_one (bif Nat.beq y 0 then 0 else 9, v) (Nat.add pc len) lo st hp iv cl sl
      | .ldc_w _ => bif Nat.beq y 0 then none else q_one (9, v) (Nat.add pc len) lo st hp iv cl sl
      | .ldc2_w _ => q_one (bif Nat.beq y 0 then 1 else 5, v) (Nat.add pc len) lo st hp iv cl sl
      | .aconst_null => q_one (3, 0) (Nat.add pc len) lo st hp iv cl sl
      | .dup => q_oDup (Nat.add pc len) lo st hp iv cl sl
      | .dup2 => q_oDup2 (Nat.add pc len) lo st hp iv cl sl
      | .pop => q_oPop (Nat.add pc len) lo st hp iv cl sl
      | .pop2 => q_oPop2 (Nat.add pc len) lo st hp iv cl sl
      | .iadd => q_oBin 0 (fun a b => q_w32 (Int.add a b)) (Nat.add pc len) lo st hp iv cl sl
      | .isub => q_oBin 0 (fun a b => q_w32 (Int.sub a b)) (Nat.add pc len) lo st hp iv cl sl
      | .imul => q_oBin 0 (fun a b => q_w32 (Int.mul a b)) (Nat.add pc len) lo st hp iv cl sl
      | .idiv => q_oDiv 0 (fun a b => (Int32.ofInt a / Int32.ofInt b).toInt) q_w32 (Nat.add pc len) lo st hp iv cl sl
      | .irem => q_oDiv 0 (fun a b => (Int32.ofInt a - Int32.ofInt a / Int32.ofInt b * Int32.ofInt b).toInt) q_w32 (Nat.add pc len) lo st hp iv cl sl
      | .iand => q_oAnd (Nat.add pc len) lo st hp iv cl sl
      | .ior => q_oAny (fun a b => (Int32.ofInt a ||| Int32.ofInt b).toInt) (Nat.add pc len) lo st hp iv cl sl
      | .ishl => q_oAny (fun a b => (Int32.ofInt a <<< (Int32.ofInt b &&& 31)).toInt) (Nat.add pc len) lo st hp iv cl sl
      | .ishr => q_oAny (fun a b => (Int32.ofInt a >>> (Int32.ofInt b &&& 31)).toInt) (Nat.add pc len) lo st hp iv cl sl
      | .iushr => q_oAny (fun a b => ((Int32.ofInt a).toUInt32 >>> ((Int32.ofInt b).toUInt32 &&& Int32.toUInt32 31)).toInt32.toInt) (Nat.add pc len) lo st hp iv cl sl
      | .ineg => q_oNeg (Nat.add pc len) lo st hp iv cl sl
      | .ladd => q_oBin 1 (fun a b => q_w64 (Int.add a b)) (Nat.add pc len) lo st hp iv cl sl
      | .lsub => q_oBin 1 (fun a b => q_w64 (Int.sub a b)) (Nat.add pc len) lo st hp iv cl sl
      | .lmul => q_oBin 1 (fun a b => q_w64 (Int.mul a b)) (Nat.add pc len) lo st hp iv cl sl
      | .ldiv => q_oDiv 1 (fun a b => (Int64.ofInt a / Int64.ofInt b).toInt) q_w64 (Nat.add pc len) lo st hp iv cl sl
      | .lcmp => q_oLcmp (Nat.add pc len) lo st hp iv cl sl
      | .i2l => q_oI2l (Nat.add pc len) lo st hp iv cl sl
      | .l2i => q_oL2i (Nat.add pc len) lo st hp iv cl sl
      | .i2b => q_oUn 0 0 (fun a => ((Int32.ofInt a).toInt8.toInt32).toInt) (Nat.add pc len) lo st hp iv cl sl
      | .i2f => q_oUn 0 4 (fun a => Int.ofNat (FP.i2f (Int32.ofInt a)).toNat) (Nat.add pc len) lo st hp iv cl sl
      | .i2d => q_oUn 0 5 (fun a => Int.ofNat (FP.i2d (Int32.ofInt a)).toNat) (Nat.add pc len) lo st hp iv cl sl
      | .l2d => q_oUn 1 5 (fun a => Int.ofNat (FP.l2d (Int64.ofInt a)).toNat) (Nat.add pc len) lo st hp iv cl sl
      | .fneg => q_oUn 4 4 (fun a => Int.ofNat (FP.fneg (UInt32.ofNat a.toNat)).toNat) (Nat.add pc len) lo st hp iv cl sl
      | .fsub => q_oF2 FP.fsub (Nat.add pc len) lo st hp iv cl sl
      | .fdiv => q_oF2 FP.fdiv (Nat.add pc len) lo st hp iv cl sl
      | .dadd => q_oD2 FP.dadd (Nat.add pc len) lo st hp iv cl sl
      | .ddiv => q_oD2 FP.ddiv (Nat.add pc len) lo st hp iv cl sl
      | .fcmp o => q_oFc o (Nat.add pc len) lo st hp iv cl sl
      | .f2d => q_oF2d (Nat.add pc len) lo st hp iv cl sl
      | .dcmp o => q_oDc o (Nat.add pc len) lo st hp iv cl sl
      | .goto _ => q_nx x lo st hp iv cl sl
      | .ifCond c _ => q_oIf c x (Nat.add pc len) lo st hp iv cl sl
      | .if_icmp c _ => q_oIc c x (Nat.add pc len) lo st hp iv cl sl
      | .ifnull _ => q_oIfn x (Nat.add pc len) lo st hp iv cl sl
      | .tableswitch d l h o => q_oSw d l h o pc lo st hp iv cl sl
      | .iinc _ n => q_oInc x n (Nat.add pc len) lo st hp iv cl sl
      | .getfield _ => q_oGet x y (Nat.add pc len) lo st hp iv cl sl
      | .putfield _ => q_oPut x y v.toNat (Nat.add pc len) lo st hp iv cl sl
      | .getstatic _ => q_one (9, v) (Nat.add pc len) lo st hp iv cl sl
      | .arraylength => q_oLen sL (Nat.add pc len) lo st hp iv cl sl
      | .iaload => q_oAld 1 sL (Nat.add pc len) lo st hp iv cl sl
      | .baload => q_oAld 2 sL (Nat.add pc len) lo st hp iv cl sl
      | .laload => q_oAld 3 sL (Nat.add pc len) lo st hp iv cl sl
      | .daload => q_oAld 4 sL (Nat.add pc len) lo st hp iv cl sl
      | .aaload => q_oAld 5 sL (Nat.add pc len) lo st hp iv cl sl
      | .iastore => q_oAst 1 (Nat.add pc len) lo st hp iv cl sl
      | .bastore => q_oAst 2 (Nat.add pc len) lo st hp iv cl sl
      | .lastore => q_oAst 3 (Nat.add pc len) lo st hp iv cl sl
      | .dastore => q_oAst 4 (Nat.add pc len) lo st hp iv cl sl
      | .aastore => q_oAsr 6 (Nat.add pc len) lo st hp iv cl sl
      | .new _ => bif Nat.beq y 0 then q_oNew x (df x) mi.2.2.1.2.2.1 mi.2.2.1.2.2.2 (Nat.add pc len) lo st hp iv cl sl else q_oThr x mi st hp iv cl sl
      | .newarray _ => q_oNwa x (y, 0) mi.2.2.1.2.2.1 mi.2.2.1.2.2.2 (Nat.add pc len) lo st hp iv cl sl
      | .anewarray _ => q_oNwa 5 (3, 0) mi.2.2.1.2.2.1 mi.2.2.1.2.2.2 (Nat.add pc len) lo st hp iv cl sl
      | .invokevirtual _ => bif Nat.beq y 1 then q_oSl mi.2.2.1.1 mi.2.2.1.2.1 mi.2.2.1.2.2.1 mi.2.2.1.2.2.2 (Nat.add pc len) lo st hp iv cl sl else bif Nat.beq y 2 then q_oSc mi.2.2.1.1 mi.2.2.1.2.1 mi.2.2.1.2.2.1 mi.2.2.1.2.2.2 (Nat.add pc len) lo st hp iv cl sl else q_oCall cf mi (mt x) x y pc lo st hp iv cl sl
      | .invokestatic _ => bif Nat.beq y 10 then q_oMJ mi.2.2.1.1 mi.2.2.1.2.1 mi.2.2.1.2.2.1 mi.2.2.1.2.2.2 (Nat.add pc len) lo st hp iv cl sl else bif Nat.beq y 11 then q_oAJ mi.2.2.1.1 mi.2.2.1.2.1 mi.2.2.1.2.2.1 mi.2.2.1.2.2.2 (Nat.add pc len) lo st hp iv cl sl else bif Nat.beq y 12 then q_oMF mi.2.2.1.1 mi.2.2.1.2.1 mi.2.2.1.2.2.1 mi.2.2.1.2.2.2 (Nat.add pc len) lo st hp iv cl sl else bif Nat.beq y 6 then q_oM2 true mi.2.2.1.1 mi.2.2.1.2.1 mi.2.2.1.2.2.1 mi.2.2.1.2.2.2 (Nat.add pc len) lo st hp iv cl sl else bif Nat.beq y 7 then q_oM2 false mi.2.2.1.1 mi.2.2.1.2.1 mi.2.2.1.2.2.1 mi.2.2.1.2.2.2 (Nat.add pc len) lo st hp iv cl sl else bif Nat.beq y 8 then q_oAbs mi.2.2.1.1 mi.2.2.1.2.1 mi.2.2.1.2.2.1 mi.2.2.1.2.2.2 (Nat.add pc len) lo st hp iv cl sl else q_oCall cf mi (mt x) x y pc lo st hp iv cl sl
      | .invokespecial _ => bif Nat.beq y 5 then q_oObj mi.2.2.1.1 mi.2.2.1.2.1 (Nat.add pc len) lo st hp iv cl sl else q_oCall cf mi (mt x) x y pc lo st hp iv cl sl
      | .ireturn => bif Nat.beq mi.2.1.2.2.2 1 then q_ret 1 q_isI false mi st hp iv cl sl else q_ret 2 (Nat.beq 0) true mi st hp iv cl sl
      | .lreturn => q_ret 3 q_isJ false mi st hp iv cl sl
      | .freturn => q_ret 4 (Nat.beq 4) false mi st hp iv cl sl
      | .dreturn => q_ret 5 (Nat.beq 5) false mi st hp iv cl sl
      | .areturn => q_ret 6 (fun t => bif Nat.beq t 2 then true else bif Nat.beq t 3 then true else Nat.beq t 9) false mi st hp iv cl sl
      | .return_ => q_ret0 mi st hp iv cl sl
      | _ => none)
/-- one instruction of the first of the runs under way -/
noncomputable def q_one1 (mt : Nat → q_MI) (df : Nat → List q_V) (cf : Nat → List q_V → q_H → q_I → Option (List q_Lf)) (sL : Nat) (mi : q_MI) (s : List q_C × List q_Lf) : Option (List q_C × List q_Lf) := match s with
  | ([], lf) => some ([], lf)
  | (c :: r, lf) => match q_step mt df cf sL mi c with
    | none => none
    | some z => some (q_app z.1 r, q_app z.2 lf)
/-- 2^k instructions -/
noncomputable def q_it (mt : Nat → q_MI) (df : Nat → List q_V) (cf : Nat → List q_V → q_H → q_I → Option (List q_Lf)) (sL : Nat) (mi : q_MI) (k : Nat) : List q_C × List q_Lf → Option (List q_C × List q_Lf) :=
  Nat.rec (motive := fun _ => List q_C × List q_Lf → Option (List q_C × List q_Lf)) (fun s => q_one1 mt df cf sL mi s) (fun _ ih s => match ih s with
    | none => none
    | some z => match z with
      | ([], lf) => some ([], lf)
      | (c :: r, lf) => ih (c :: r, lf)) k
noncomputable def q_args : List q_V → Nat → q_L := fun l => List.rec (motive := fun _ => Nat → q_L) (fun _ => []) (fun h _ ih n => (n, h) :: ih (bif q_is2 h.1 then Nat.succ (Nat.succ n) else Nat.succ n)) l
/-- a method's run: how it can end -/
noncomputable def q_run (mt : Nat → q_MI) (df : Nat → List q_V) (sL : Nat) (d : Nat) : Nat → List q_V → q_H → q_I → Option (List q_Lf) :=
  Nat.rec (motive := fun _ => Nat → List q_V → q_H → q_I → Option (List q_Lf)) (fun _ _ _ _ => none) (fun _ ih i ar hp iv => match q_it mt df ih sL (mt i) 14 ([(0, q_args ar 0, [], hp, iv, 0, 0)], []) with
    | none => none
    | some z => match z with
      | ([], lf) => some lf
      | (_ :: _, _) => none) d
end -- [06a.step]
section -- [06b.rel]
/-! Part 06b: what a state of the pure machine says of the machine. -/
def q_F2 {α β : Type} (R : α → β → Prop) : List α → List β → Prop
  | [], [] => True
  | a :: l, b :: r => R a b ∧ q_F2 R l r
  | _, _ => False
def q_rv (ρ : Nat → Int) (bs : Nat → Nat) (ws : va_W) (v : q_V) (V : Value) : Prop :=
  match v.1 with
  | 0 => V = .int (Int32.ofInt v.2)
  | 1 => V = .long (Int64.ofInt v.2)
  | 2 => ∃ q, ws[v.2.toNat]? = some q ∧ V = .ref q.1
  | 3 => V = .null
  | 4 => V = .float (UInt32.ofNat v.2.toNat)
  | 5 => V = .double (UInt64.ofNat v.2.toNat)
  | 6 => V = .int (Int32.ofInt (ρ v.2.toNat))
  | 7 => V = .long (Int64.ofInt (ρ v.2.toNat))
  | 8 => ∃ x, V = .int x
  | 9 => V = .ref (bs v.2.toNat)
  | 10 => ∃ a, V = .ref a
  | 11 => V = .int (Int32.ofInt (ρ (v.2.toNat % 16) - ((v.2.toNat / 16 : Nat) : Int)))
  | _ => False
def q_rl (ρ : Nat → Int) (bs : Nat → Nat) (ws : va_W) (x : Nat × q_V) (y : Nat × Value) : Prop := x.1 = y.1 ∧ q_rv ρ bs ws x.2 y.2
def q_Ex (ws ws' : va_W) : Prop := ∀ (k : Nat) (q : Nat × va_E), ws[k]? = some q → ∃ q' : Nat × va_E, ws'[k]? = some q' ∧ q'.1 = q.1
def q_Et (tys tys' : List (ClassId × FieldType)) : Prop := ∀ (t : Nat) (x : ClassId × FieldType), tys[t]? = some x → tys'[t]? = some x
def q_tbl : String := "StepperTable$Table"
def q_rc (ρ : Nat → Int) (bs : Nat → Nat) (ws : va_W) (tys : List (ClassId × FieldType)) (c : q_Ce) (e : va_E) : Prop :=
  match c.1 with
  | 0 => ∃ fs, e = .inr (c.2.1, fs) ∧ q_F2 (q_rv ρ bs ws) c.2.2.1 fs
  | 1 => c.2.1 ≤ 2000 ∧ ∃ (cA : ClassId) (t : Nat) (f : Nat → Int32), e = .inl (cA, c.2.1, .inl f) ∧ tys[t]? = some (cA, .int) ∧ ∀ j, j < c.2.1 → q_rv ρ bs ws (q_get 11 c.2.2.2 j) (.int (f j))
  | 2 => c.2.1 ≤ 2000 ∧ ∃ (cA : ClassId) (t : Nat) (f : Nat → Int32), e = .inl (cA, c.2.1, .inl f) ∧ tys[t]? = some (cA, .byte) ∧ ∀ j, j < c.2.1 → q_rv ρ bs ws (q_get 11 c.2.2.2 j) (.int (f j))
  | 3 => c.2.1 ≤ 2000 ∧ ∃ (cA : ClassId) (t : Nat) (f : Nat → Int64), e = .inl (cA, c.2.1, .inr (.inl f)) ∧ tys[t]? = some (cA, .long) ∧ ∀ j, j < c.2.1 → q_rv ρ bs ws (q_get 11 c.2.2.2 j) (.long (f j))
  | 4 => c.2.1 ≤ 2000 ∧ ∃ (cA : ClassId) (t : Nat) (f : Nat → UInt64), e = .inl (cA, c.2.1, .inr (.inr (.inr (.inl f)))) ∧ tys[t]? = some (cA, .double) ∧ ∀ j, j < c.2.1 → q_rv ρ bs ws (q_get 11 c.2.2.2 j) (.double (f j))
  | 5 => c.2.1 ≤ 2000 ∧ ∃ (cA : ClassId) (t : Nat) (f : Nat → Option Nat), e = .inl (cA, c.2.1, .inr (.inr (.inr (.inr f)))) ∧ tys[t]? = some (cA, .object q_tbl) ∧ ∀ j, j < c.2.1 → q_rv ρ bs ws (q_get 11 c.2.2.2 j) (va_rf (f j))
  | 6 => True
  | _ => False
def q_W (ρ : Nat → Int) (bs : Nat → Nat) (ws : va_W) (tys : List (ClassId × FieldType)) (hp : q_H) : Prop := ws.length = hp.1 ∧ hp.1 ≤ 256 ∧ ∀ (k : Nat) (q : Nat × va_E), ws[k]? = some q → q_rc ρ bs ws tys (q_get 8 hp.2 k) q.2
def q_ok (ρ : Nat → Int) (iv : q_I) : Prop := ∀ i p, q_nth iv i = some p → p.1 ≤ ρ i ∧ ρ i ≤ p.2
def q_rg (ρ : Nat → Int) : Prop := ∀ i, -2147483648 ≤ ρ i ∧ ρ i < 2147483648
-- small inversions
theorem q_if_i {α : Type} {b : Bool} {k : Option α} {z : α} (h : q_if b k = some z) : b = true ∧ k = some z := by
  cases b
  · exact absurd h (by show ¬ (none : Option α) = some z; intro h; cases h)
  · exact ⟨rfl, h⟩
theorem q_or_i {a b : Bool} (h : (bif a then true else b) = true) : a = true ∨ b = true := by
  cases a
  · exact Or.inr h
  · exact Or.inl rfl
theorem q_not_i {a : Bool} (h : (bif a then false else true) = true) : a = false := by
  cases a
  · rfl
  · cases h
theorem q_bd_i {α β : Type} {o : Option α} {f : α → Option β} {z : β} (h : o.bind f = some z) : ∃ a, o = some a ∧ f a = some z := Option.bind_eq_some_iff.mp h
theorem q_pop_i {α : Type} {st : List α} {p : α × List α} (h : q_pop st = some p) : st = p.1 :: p.2 := by
  cases st with
  | nil => cases h
  | cons a r => cases h; rfl
theorem q_so {α : Type} {a b : α} (h : some a = some b) : a = b := Option.some.inj h
theorem q_ieq_n {a b : Int} (h : q_ieq a b = false) : a ≠ b := by
  rcases q_cmp_s a b with ⟨e, h1⟩ | ⟨e, h1⟩ | ⟨e, h1⟩
  · omega
  · unfold q_ieq at h; rw [e] at h; cases h
  · omega
theorem q_ile_i {a b : Int} (h : q_ile a b = true) : a ≤ b := by
  rcases q_cmp_s a b with ⟨e, h1⟩ | ⟨e, h1⟩ | ⟨e, h1⟩
  · omega
  · omega
  · unfold q_ile at h; rw [e] at h; cases h
theorem q_ile_n {a b : Int} (h : q_ile a b = false) : b < a := by
  rcases q_cmp_s a b with ⟨e, h1⟩ | ⟨e, h1⟩ | ⟨e, h1⟩
  · unfold q_ile at h; rw [e] at h; cases h
  · unfold q_ile at h; rw [e] at h; cases h
  · exact h1
-- lists
theorem q_nth_g {α : Type} : ∀ (l : List α) (n : Nat), q_nth l n = l[n]?
  | [], n => by cases n <;> rfl
  | a :: l, 0 => rfl
  | a :: l, n + 1 => by
    show q_nth l n = _
    rw [q_nth_g l n]; rfl
theorem q_up_g {α : Type} : ∀ (l : List α) (n : Nat) (v : α), q_up l n v = l.set n v
  | [], n, v => by cases n <;> rfl
  | a :: l, 0, v => rfl
  | a :: l, n + 1, v => by
    show a :: q_up l n v = _
    rw [q_up_g l n v]; rfl
theorem q_len_g {α : Type} : ∀ (l : List α), q_len l = l.length
  | [] => rfl
  | a :: l => by show Nat.succ (q_len l) = _; rw [q_len_g l]; rfl
theorem q_app_g {α : Type} : ∀ (l m : List α), q_app l m = l ++ m
  | [], m => rfl
  | a :: l, m => by show a :: q_app l m = _; rw [q_app_g l m]; rfl
theorem q_map_g {α β : Type} (f : α → β) : ∀ (l : List α), q_map f l = l.map f
  | [] => rfl
  | a :: l => by show f a :: q_map f l = _; rw [q_map_g f l]; rfl
theorem q_all_i {α β : Type} {f : α → Option β} : ∀ {l : List α} {bs : List β}, q_all f l = some bs → ∀ a ∈ l, ∃ b ∈ bs, f a = some b
  | [], bs, h, a, ha => by cases ha
  | x :: l, bs, h, a, ha => by
    obtain ⟨b, h1, h2⟩ := q_bd_i (show (f x).bind _ = some bs from h)
    obtain ⟨bs', h3, h4⟩ := q_bd_i h2
    cases q_so h4
    rcases List.mem_cons.mp ha with e | ha
    · subst e; exact ⟨b, List.mem_cons_self, h1⟩
    · obtain ⟨b', h5, h6⟩ := q_all_i (f := f) h3 a ha
      exact ⟨b', List.mem_cons_of_mem _ h5, h6⟩
theorem q_cat_m {α : Type} : ∀ {bs : List (List α)} {b : List α}, b ∈ bs → ∀ x ∈ b, x ∈ (List.rec (motive := fun _ => List α) [] (fun h _ ih => q_app h ih) bs : List α)
  | [], b, h, x, hx => by cases h
  | y :: bs, b, h, x, hx => by
    show x ∈ q_app y _
    rw [q_app_g]
    rcases List.mem_cons.mp h with e | h
    · subst e; exact List.mem_append_left _ hx
    · exact List.mem_append_right _ (q_cat_m h x hx)
theorem q_F2_c {α β : Type} {R : α → β → Prop} {a : α} {l : List α} {m : List β} (h : q_F2 R (a :: l) m) : ∃ b r, m = b :: r ∧ R a b ∧ q_F2 R l r := by
  cases m with
  | nil => exact absurd h id
  | cons b r => exact ⟨b, r, rfl, h.1, h.2⟩
theorem q_F2_n {α β : Type} {R : α → β → Prop} {m : List β} (h : q_F2 R [] m) : m = [] := by
  cases m with
  | nil => rfl
  | cons b r => exact absurd h id
theorem q_F2_m {α β : Type} {R S : α → β → Prop} (hRS : ∀ a b, R a b → S a b) : ∀ {l : List α} {m : List β}, q_F2 R l m → q_F2 S l m
  | [], m, h => by rw [q_F2_n h]; trivial
  | a :: l, m, h => by
    obtain ⟨b, r, rfl, h1, h2⟩ := q_F2_c h
    exact ⟨hRS a b h1, q_F2_m hRS h2⟩
theorem q_F2_l {α β : Type} {R : α → β → Prop} : ∀ {l : List α} {m : List β}, q_F2 R l m → l.length = m.length
  | [], m, h => by rw [q_F2_n h]; rfl
  | a :: l, m, h => by
    obtain ⟨b, r, rfl, h1, h2⟩ := q_F2_c h
    show _ + 1 = _ + 1
    rw [q_F2_l h2]
theorem q_F2_g {α β : Type} {R : α → β → Prop} : ∀ {l : List α} {m : List β}, q_F2 R l m → ∀ (n : Nat) (a : α), l[n]? = some a → ∃ b, m[n]? = some b ∧ R a b
  | [], m, h, n, a, ha => by simp at ha
  | x :: l, m, h, n, a, ha => by
    obtain ⟨b, r, rfl, h1, h2⟩ := q_F2_c h
    cases n with
    | zero => cases ha; exact ⟨b, rfl, h1⟩
    | succ n => exact q_F2_g h2 n a ha
theorem q_F2_s {α β : Type} {R : α → β → Prop} : ∀ {l : List α} {m : List β}, q_F2 R l m → ∀ (n : Nat) (a : α) (b : β), R a b → q_F2 R (l.set n a) (m.set n b)
  | [], m, h, n, a, b, hab => by rw [q_F2_n h]; trivial
  | x :: l, m, h, n, a, b, hab => by
    obtain ⟨y, r, rfl, h1, h2⟩ := q_F2_c h
    cases n with
    | zero => exact ⟨hab, h2⟩
    | succ n => exact ⟨h1, q_F2_s h2 n a b hab⟩
theorem q_F2_a {α β : Type} {R : α → β → Prop} : ∀ {l l2 : List α} {m m2 : List β}, q_F2 R l m → q_F2 R l2 m2 → q_F2 R (l ++ l2) (m ++ m2)
  | [], l2, m, m2, h, h2 => by rw [q_F2_n h]; exact h2
  | x :: l, l2, m, m2, h, h2 => by
    obtain ⟨y, r, rfl, h1, h3⟩ := q_F2_c h
    exact ⟨h1, q_F2_a h3 h2⟩
-- values
theorem q_Ex.rf (ws : va_W) : q_Ex ws ws := fun k q h => ⟨q, h, rfl⟩
theorem q_Ex.tr {a b c : va_W} (h1 : q_Ex a b) (h2 : q_Ex b c) : q_Ex a c := fun k q h => by
  obtain ⟨q1, h3, h4⟩ := h1 k q h
  obtain ⟨q2, h5, h6⟩ := h2 k q1 h3
  exact ⟨q2, h5, h6.trans h4⟩
theorem q_Ex.st {ws : va_W} {k a : Nat} {e0 e : va_E} (h : ws[k]? = some (a, e0)) : q_Ex ws (ws.set k (a, e)) := by
  intro j q hq
  by_cases hj : j = k
  · subst hj
    have hl := (List.getElem?_eq_some_iff.mp h).1
    rw [h] at hq; cases hq
    exact ⟨(a, e), by rw [List.getElem?_set_self hl], rfl⟩
  · exact ⟨q, by rw [List.getElem?_set_ne (Ne.symm hj)]; exact hq, rfl⟩
theorem q_Ex.pu (ws : va_W) (x : Nat × va_E) : q_Ex ws (ws ++ [x]) := by
  intro j q hq
  have hl := (List.getElem?_eq_some_iff.mp hq).1
  exact ⟨q, by rw [List.getElem?_append_left hl]; exact hq, rfl⟩
theorem q_rv.ex {ρ : Nat → Int} {bs : Nat → Nat} {ws ws' : va_W} (h : q_Ex ws ws') {v : q_V} {V : Value} (hv : q_rv ρ bs ws v V) : q_rv ρ bs ws' v V := by
  obtain ⟨t, z⟩ := v
  match t, hv with
  | 0, hv => exact hv
  | 1, hv => exact hv
  | 2, hv =>
    obtain ⟨q, h1, h2⟩ := hv
    obtain ⟨q', h3, h4⟩ := h _ q h1
    exact ⟨q', h3, by rw [h4]; exact h2⟩
  | 3, hv => exact hv
  | 4, hv => exact hv
  | 5, hv => exact hv
  | 6, hv => exact hv
  | 7, hv => exact hv
  | 8, hv => exact hv
  | 9, hv => exact hv
  | 10, hv => exact hv
  | 11, hv => exact hv
  | n + 12, hv => exact hv
theorem q_rc.ex {ρ : Nat → Int} {bs : Nat → Nat} {ws ws' : va_W} {tys tys' : List (ClassId × FieldType)} (h : q_Ex ws ws') (ht : q_Et tys tys') {c : q_Ce} {e : va_E} (hv : q_rc ρ bs ws tys c e) : q_rc ρ bs ws' tys' c e := by
  obtain ⟨k, n, fs, ar⟩ := c
  match k, hv with
  | 0, hv =>
    obtain ⟨fs', h1, h2⟩ := hv
    exact ⟨fs', h1, q_F2_m (fun _ _ h3 => h3.ex h) h2⟩
  | 1, hv =>
    obtain ⟨h0, cA, t, f, h1, h2, h3⟩ := hv
    exact ⟨h0, cA, t, f, h1, ht _ _ h2, fun j hj => (h3 j hj).ex h⟩
  | 2, hv =>
    obtain ⟨h0, cA, t, f, h1, h2, h3⟩ := hv
    exact ⟨h0, cA, t, f, h1, ht _ _ h2, fun j hj => (h3 j hj).ex h⟩
  | 3, hv =>
    obtain ⟨h0, cA, t, f, h1, h2, h3⟩ := hv
    exact ⟨h0, cA, t, f, h1, ht _ _ h2, fun j hj => (h3 j hj).ex h⟩
  | 4, hv =>
    obtain ⟨h0, cA, t, f, h1, h2, h3⟩ := hv
    exact ⟨h0, cA, t, f, h1, ht _ _ h2, fun j hj => (h3 j hj).ex h⟩
  | 5, hv =>
    obtain ⟨h0, cA, t, f, h1, h2, h3⟩ := hv
    exact ⟨h0, cA, t, f, h1, ht _ _ h2, fun j hj => (h3 j hj).ex h⟩
  | 6, hv => trivial
  | n + 7, hv => exact hv
theorem q_W.put {ρ : Nat → Int} {bs : Nat → Nat} {ws : va_W} {tys : List (ClassId × FieldType)} {hp : q_H} {k a : Nat} {e0 e : va_E} {c : q_Ce} (hW : q_W ρ bs ws tys hp) (hk : ws[k]? = some (a, e0)) (hc : q_rc ρ bs (ws.set k (a, e)) tys c e) : q_W ρ bs (ws.set k (a, e)) tys (q_put hp k c) := by
  obtain ⟨h1, h2, h3⟩ := hW
  have hl := (List.getElem?_eq_some_iff.mp hk).1
  refine ⟨by rw [List.length_set]; exact h1, h2, fun j q hq => ?_⟩
  have hjl : j < ws.length := by
    have := (List.getElem?_eq_some_iff.mp hq).1
    rwa [List.length_set] at this
  show q_rc ρ bs _ tys (q_get 8 (q_set 8 hp.2 k c) j) q.2
  rw [q_gs 8 hp.2 k j c (by omega) (by omega)]
  by_cases hj : j = k
  · subst hj
    rw [if_pos rfl]
    rw [List.getElem?_set_self hl] at hq
    cases hq
    exact hc
  · rw [if_neg hj]
    rw [List.getElem?_set_ne (Ne.symm hj)] at hq
    exact (h3 j q hq).ex (q_Ex.st hk) (fun _ _ h => h)
theorem q_W.new {ρ : Nat → Int} {bs : Nat → Nat} {ws : va_W} {tys tys' : List (ClassId × FieldType)} {hp : q_H} {a : Nat} {e : va_E} {c : q_Ce} (hW : q_W ρ bs ws tys hp) (hn : hp.1 + 1 ≤ 256) (ht : q_Et tys tys') (hc : q_rc ρ bs (ws ++ [(a, e)]) tys' c e) : q_W ρ bs (ws ++ [(a, e)]) tys' (q_new hp c) := by
  obtain ⟨h1, h2, h3⟩ := hW
  refine ⟨by rw [List.length_append, h1]; rfl, hn, fun j q hq => ?_⟩
  have hjl : j < ws.length + 1 := by
    have := (List.getElem?_eq_some_iff.mp hq).1
    rwa [List.length_append] at this
  show q_rc ρ bs _ tys' (q_get 8 (q_set 8 hp.2 hp.1 c) j) q.2
  rw [q_gs 8 hp.2 hp.1 j c (by omega) (by omega)]
  by_cases hj : j = hp.1
  · subst hj
    rw [if_pos rfl]
    rw [← h1, List.getElem?_append_right (Nat.le_refl _), Nat.sub_self] at hq
    cases hq
    exact hc
  · rw [if_neg hj]
    rw [List.getElem?_append_left (by omega)] at hq
    exact (h3 j q hq).ex (q_Ex.pu ws _) ht
/-- the cell of a reference -/
theorem q_at_i {ρ : Nat → Int} {bs : Nat → Nat} {ws : va_W} {tys : List (ClassId × FieldType)} {hp : q_H} {a : q_V} {c : q_Ce} {V : Value} (hW : q_W ρ bs ws tys hp) (h : q_at hp a = some c) (hv : q_rv ρ bs ws a V) : ∃ q e, ws[a.2.toNat]? = some (q, e) ∧ V = .ref q ∧ q_rc ρ bs ws tys c e := by
  obtain ⟨h1, h2⟩ := q_if_i h
  obtain ⟨h3, h4⟩ := q_and_i h1
  obtain ⟨t, z⟩ := a
  have e1 : t = 2 := q_bq h3
  subst e1
  obtain ⟨q, h5, h6⟩ := hv
  cases q_so h2
  exact ⟨q.1, q.2, h5, h6, hW.2.2 _ _ h5⟩
theorem q_isI_i {ρ : Nat → Int} {bs : Nat → Nat} {ws : va_W} {v : q_V} {V : Value} (h : q_isI v.1 = true) (hv : q_rv ρ bs ws v V) : ∃ x, V = .int x := by
  obtain ⟨t, z⟩ := v
  rcases q_or_i h with e | h
  · have e1 : t = 0 := q_bq e
    subst e1; exact ⟨_, hv⟩
  · rcases q_or_i h with e | e
    · have e1 : t = 6 := q_bq e
      subst e1; exact ⟨_, hv⟩
    · have e1 : t = 8 := q_bq e
      subst e1; exact hv
theorem q_isK_i {ρ : Nat → Int} {bs : Nat → Nat} {ws : va_W} {v : q_V} {V : Value} (h : q_isK v.1 = true) (hv : q_rv ρ bs ws v V) : ∃ x, V = .int x := by
  rcases q_or_i h with e | e
  · exact q_isI_i e hv
  · obtain ⟨t, z⟩ := v
    have e1 : t = 11 := q_bq e
    subst e1; exact ⟨_, hv⟩
theorem q_isJ_i {ρ : Nat → Int} {bs : Nat → Nat} {ws : va_W} {v : q_V} {V : Value} (h : q_isJ v.1 = true) (hv : q_rv ρ bs ws v V) : ∃ x, V = .long x := by
  obtain ⟨t, z⟩ := v
  rcases q_or_i h with e | e
  · have e1 : t = 1 := q_bq e
    subst e1; exact ⟨_, hv⟩
  · have e1 : t = 7 := q_bq e
    subst e1; exact ⟨_, hv⟩
theorem q_isR_i {ρ : Nat → Int} {bs : Nat → Nat} {ws : va_W} {v : q_V} {V : Value} (h : q_isR v.1 = true) (hv : q_rv ρ bs ws v V) : ∃ x, V = .ref x := by
  obtain ⟨t, z⟩ := v
  rcases q_or_i h with e | h
  · have e1 : t = 2 := q_bq e
    subst e1
    obtain ⟨q, -, h2⟩ := hv
    exact ⟨_, h2⟩
  · rcases q_or_i h with e | e
    · have e1 : t = 9 := q_bq e
      subst e1; exact ⟨_, hv⟩
    · have e1 : t = 10 := q_bq e
      subst e1; exact hv
theorem q_isN_i {ρ : Nat → Int} {bs : Nat → Nat} {ws : va_W} {v : q_V} {V : Value} (h : q_isN v.1 = true) (hv : q_rv ρ bs ws v V) : V = .null ∨ ∃ x, V = .ref x := by
  rcases q_or_i h with e | e
  · exact Or.inr (q_isR_i e hv)
  · obtain ⟨t, z⟩ := v
    have e1 : t = 3 := q_bq e
    subst e1; exact Or.inl hv
theorem q_is2_i {ρ : Nat → Int} {bs : Nat → Nat} {ws : va_W} {v : q_V} {V : Value} (hv : q_rv ρ bs ws v V) : V.category = bif q_is2 v.1 then 2 else 1 := by
  obtain ⟨t, z⟩ := v
  match t, hv with
  | 0, hv => rw [show V = _ from hv]; rfl
  | 1, hv => rw [show V = _ from hv]; rfl
  | 2, hv => obtain ⟨q, -, h2⟩ := hv; rw [h2]; rfl
  | 3, hv => rw [show V = _ from hv]; rfl
  | 4, hv => rw [show V = _ from hv]; rfl
  | 5, hv => rw [show V = _ from hv]; rfl
  | 6, hv => rw [show V = _ from hv]; rfl
  | 7, hv => rw [show V = _ from hv]; rfl
  | 8, hv => obtain ⟨q, h2⟩ := hv; rw [h2]; rfl
  | 9, hv => rw [show V = _ from hv]; rfl
  | 10, hv => obtain ⟨q, h2⟩ := hv; rw [h2]; rfl
  | 11, hv => rw [show V = _ from hv]; rfl
  | n + 12, hv => exact absurd hv id
theorem q_conc_rv {ρ : Nat → Int} {bs : Nat → Nat} {ws : va_W} {iv : q_I} {v : q_V} {V : Value} (ho : q_ok ρ iv) (hv : q_rv ρ bs ws v V) : q_rv ρ bs ws (q_conc iv v) V := by
  obtain ⟨t, z⟩ := v
  unfold q_conc
  dsimp only
  cases h6 : Nat.ble 6 t with
  | false => exact hv
  | true =>
    cases h7 : Nat.ble t 7 with
    | false => exact hv
    | true =>
      simp only [cond_true]
      cases hn : q_nth iv z.toNat with
      | none => exact hv
      | some q =>
        dsimp only
        cases hq : q_ieq q.1 q.2 with
        | false => exact hv
        | true =>
          obtain ⟨g1, g2⟩ := ho _ _ hn
          have e := q_ieq_i hq
          have e2 : ρ z.toNat = q.1 := by omega
          have hl := q_bl h6
          have hr := q_bl h7
          simp only [cond_true]
          have ht : t = 6 ∨ t = 7 := by omega
          rcases ht with rfl | rfl
          · show V = .int (Int32.ofInt q.1)
            rw [show V = .int (Int32.ofInt (ρ z.toNat)) from hv, e2]
          · show V = .long (Int64.ofInt q.1)
            rw [show V = .long (Int64.ofInt (ρ z.toNat)) from hv, e2]
-- comparisons
noncomputable def q_nv (ρ : Nat → Int) (a : q_V) : Int := match a.1 with
  | 0 => q_w32 a.2
  | 1 => q_w64 a.2
  | _ => ρ a.2.toNat
theorem q_ok_up {ρ : Nat → Int} {iv : q_I} {i : Nat} {x y : Int} (ho : q_ok ρ iv) (h1 : x ≤ ρ i) (h2 : ρ i ≤ y) : q_ok ρ (q_up iv i (x, y)) := by
  intro j p hp
  rw [q_up_g, q_nth_g] at hp
  by_cases hj : i = j
  · subst hj
    have hl : i < iv.length := by
      have := (List.getElem?_eq_some_iff.mp hp).1
      rwa [List.length_set] at this
    rw [List.getElem?_set_self hl] at hp
    cases hp
    exact ⟨h1, h2⟩
  · rw [List.getElem?_set_ne hj] at hp
    exact ho j p (by rw [q_nth_g]; exact hp)
theorem q_split_s {ρ : Nat → Int} {iv : q_I} {i : Nat} {k : Int} {l : List (Nat × q_I)} (ho : q_ok ρ iv) (h : q_split iv i k = some l) :
    ∃ q ∈ l, q_ok ρ q.2 ∧ ((q.1 = 0 ∧ ρ i < k) ∨ (q.1 = 1 ∧ ρ i = k) ∨ (q.1 = 2 ∧ k < ρ i)) := by
  obtain ⟨p, hp, h⟩ := q_bd_i h
  obtain ⟨g1, g2⟩ := ho _ _ hp
  cases q_so h
  rw [q_app_g, q_app_g]
  rcases Int.lt_trichotomy (ρ i) k with hlt | heq | hgt
  · refine ⟨(0, q_up iv i (p.1, bif q_ile p.2 (Int.sub k 1) then p.2 else Int.sub k 1)), ?_, ?_, Or.inl ⟨rfl, hlt⟩⟩
    · have e1 : q_ile p.1 p.2 = true := by
        cases e : q_ile p.1 p.2
        · have := q_ile_n e; omega
        · rfl
      have e2 : q_cmp p.1 k = 0 := by
        rcases q_cmp_s p.1 k with ⟨e, h1⟩ | ⟨e, h1⟩ | ⟨e, h1⟩
        · exact e
        · omega
        · omega
      rw [e1, e2]
      exact List.mem_append_left _ List.mem_cons_self
    · refine q_ok_up ho g1 ?_
      cases e : q_ile p.2 (Int.sub k 1)
      · show ρ i ≤ k - 1
        omega
      · exact g2
  · refine ⟨(1, q_up iv i (k, k)), ?_, q_ok_up ho (by omega) (by omega), Or.inr (Or.inl ⟨rfl, heq⟩)⟩
    have e1 : q_ile p.1 k = true := by
      cases e : q_ile p.1 k
      · have := q_ile_n e; omega
      · rfl
    have e2 : q_ile k p.2 = true := by
      cases e : q_ile k p.2
      · have := q_ile_n e; omega
      · rfl
    rw [e1, e2]
    exact List.mem_append_right _ (List.mem_append_left _ List.mem_cons_self)
  · refine ⟨(2, q_up iv i (bif q_ile (Int.add k 1) p.1 then p.1 else Int.add k 1, p.2)), ?_, ?_, Or.inr (Or.inr ⟨rfl, hgt⟩)⟩
    · have e2 : q_cmp k p.2 = 0 := by
        rcases q_cmp_s k p.2 with ⟨e, h1⟩ | ⟨e, h1⟩ | ⟨e, h1⟩
        · exact e
        · omega
        · omega
      rw [e2]
      exact List.mem_append_right _ (List.mem_append_right _ List.mem_cons_self)
    · refine q_ok_up ho ?_ g2
      cases e : q_ile (Int.add k 1) p.1
      · show k + 1 ≤ ρ i
        omega
      · exact g1
theorem q_c3_s {ρ : Nat → Int} {iv : q_I} {a b : q_V} {l : List (Nat × q_I)} (ho : q_ok ρ iv) (h : q_c3 iv a b = some l) :
    (((a.1 = 0 ∨ a.1 = 6) ∧ (b.1 = 0 ∨ b.1 = 6)) ∨ ((a.1 = 1 ∨ a.1 = 7) ∧ (b.1 = 1 ∨ b.1 = 7))) ∧ ∃ q ∈ l, q_ok ρ q.2 ∧ ((q.1 = 0 ∧ q_nv ρ a < q_nv ρ b) ∨ (q.1 = 1 ∧ q_nv ρ a = q_nv ρ b) ∨ (q.1 = 2 ∧ q_nv ρ b < q_nv ρ a)) := by
  obtain ⟨t, x⟩ := a
  obtain ⟨u, y⟩ := b
  unfold q_c3 at h
  dsimp only at h
  cases c1 : (bif Nat.beq t 0 then Nat.beq u 0 else false) with
  | true =>
    rw [c1] at h
    obtain ⟨d1, d2⟩ := q_and_i c1
    have e1 : t = 0 := q_bq d1
    have e2 : u = 0 := q_bq d2
    subst e1; subst e2
    cases q_so h
    exact ⟨Or.inl ⟨Or.inl rfl, Or.inl rfl⟩, _, List.mem_cons_self, ho, q_cmp_s _ _⟩
  | false =>
  rw [c1] at h
  cases c2 : (bif Nat.beq t 1 then Nat.beq u 1 else false) with
  | true =>
    rw [c2] at h
    obtain ⟨d1, d2⟩ := q_and_i c2
    have e1 : t = 1 := q_bq d1
    have e2 : u = 1 := q_bq d2
    subst e1; subst e2
    cases q_so h
    exact ⟨Or.inr ⟨Or.inl rfl, Or.inl rfl⟩, _, List.mem_cons_self, ho, q_cmp_s _ _⟩
  | false =>
  rw [c2] at h
  cases c3 : (bif Nat.beq t 6 then Nat.beq u 0 else false) with
  | true =>
    rw [c3] at h
    obtain ⟨d1, d2⟩ := q_and_i c3
    have e1 : t = 6 := q_bq d1
    have e2 : u = 0 := q_bq d2
    subst e1; subst e2
    exact ⟨Or.inl ⟨Or.inr rfl, Or.inl rfl⟩, q_split_s ho h⟩
  | false =>
  rw [c3] at h
  cases c4 : (bif Nat.beq t 7 then Nat.beq u 1 else false) with
  | true =>
    rw [c4] at h
    obtain ⟨d1, d2⟩ := q_and_i c4
    have e1 : t = 7 := q_bq d1
    have e2 : u = 1 := q_bq d2
    subst e1; subst e2
    exact ⟨Or.inr ⟨Or.inr rfl, Or.inl rfl⟩, q_split_s ho h⟩
  | false =>
  rw [c4] at h
  cases c5 : (bif Nat.beq u 6 then Nat.beq t 0 else false) with
  | true =>
    rw [c5] at h
    obtain ⟨d1, d2⟩ := q_and_i c5
    have e1 : u = 6 := q_bq d1
    have e2 : t = 0 := q_bq d2
    subst e1; subst e2
    obtain ⟨l0, h1, h2⟩ := q_bd_i h
    cases q_so h2
    obtain ⟨q, g1, g2, g3⟩ := q_split_s ho h1
    refine ⟨Or.inl ⟨Or.inl rfl, Or.inr rfl⟩, (Nat.sub 2 q.1, q.2), by rw [q_map_g]; exact List.mem_map.mpr ⟨q, g1, rfl⟩, g2, ?_⟩
    rcases g3 with ⟨e, g⟩ | ⟨e, g⟩ | ⟨e, g⟩ <;> rw [e]
    · exact Or.inr (Or.inr ⟨rfl, g⟩)
    · exact Or.inr (Or.inl ⟨rfl, g.symm⟩)
    · exact Or.inl ⟨rfl, g⟩
  | false =>
  rw [c5] at h
  cases c6 : (bif Nat.beq u 7 then Nat.beq t 1 else false) with
  | true =>
    rw [c6] at h
    obtain ⟨d1, d2⟩ := q_and_i c6
    have e1 : u = 7 := q_bq d1
    have e2 : t = 1 := q_bq d2
    subst e1; subst e2
    obtain ⟨l0, h1, h2⟩ := q_bd_i h
    cases q_so h2
    obtain ⟨q, g1, g2, g3⟩ := q_split_s ho h1
    refine ⟨Or.inr ⟨Or.inl rfl, Or.inr rfl⟩, (Nat.sub 2 q.1, q.2), by rw [q_map_g]; exact List.mem_map.mpr ⟨q, g1, rfl⟩, g2, ?_⟩
    rcases g3 with ⟨e, g⟩ | ⟨e, g⟩ | ⟨e, g⟩ <;> rw [e]
    · exact Or.inr (Or.inr ⟨rfl, g⟩)
    · exact Or.inr (Or.inl ⟨rfl, g.symm⟩)
    · exact Or.inl ⟨rfl, g⟩
  | false =>
  rw [c6] at h
  cases h
theorem q_cO_s {ρ : Nat → Int} {iv : q_I} {z : Int} {l : List (Nat × q_I)} (hr : q_rg ρ) (ho : q_ok ρ iv) (h : q_cO iv z = some l) :
    (Int32.ofInt (ρ (z.toNat % 16) - ((z.toNat / 16 : Nat) : Int))).toInt = ρ (z.toNat % 16) - ((z.toNat / 16 : Nat) : Int) ∧
      ∃ q ∈ l, q_ok ρ q.2 ∧ ((q.1 = 0 ∧ ρ (z.toNat % 16) - ((z.toNat / 16 : Nat) : Int) < 0) ∨ (q.1 = 1 ∧ ρ (z.toNat % 16) - ((z.toNat / 16 : Nat) : Int) = 0) ∨ (q.1 = 2 ∧ 0 < ρ (z.toNat % 16) - ((z.toNat / 16 : Nat) : Int))) := by
  obtain ⟨p, hp, h⟩ := q_bd_i h
  obtain ⟨h1, h⟩ := q_if_i h
  have h2 : ((z.toNat / 16 : Nat) : Int) - 2147483648 ≤ p.1 := q_ile_i h1
  have h3 : p.1 ≤ ρ (z.toNat % 16) := (ho _ _ hp).1
  have h4 := (hr (z.toNat % 16)).2
  refine ⟨by rw [q_w32_m, q_w32_id (by omega) (by omega)], ?_⟩
  obtain ⟨q, g1, g2, g3⟩ := q_split_s ho h
  have g3 : (q.1 = 0 ∧ ρ (z.toNat % 16) < ((z.toNat / 16 : Nat) : Int)) ∨ (q.1 = 1 ∧ ρ (z.toNat % 16) = ((z.toNat / 16 : Nat) : Int)) ∨ (q.1 = 2 ∧ ((z.toNat / 16 : Nat) : Int) < ρ (z.toNat % 16)) := g3
  refine ⟨q, g1, g2, ?_⟩
  rcases g3 with ⟨e, g⟩ | ⟨e, g⟩ | ⟨e, g⟩
  · exact Or.inl ⟨e, by omega⟩
  · exact Or.inr (Or.inl ⟨e, by omega⟩)
  · exact Or.inr (Or.inr ⟨e, by omega⟩)
theorem q_ic_s {ρ : Nat → Int} {bs : Nat → Nat} {ws : va_W} {n : Int} {a b : q_V} {V : Value} (h : q_ic n a = some b) (hv : q_rv ρ bs ws a V) : ∃ m : Int, V = .int (Int32.ofInt m) ∧ q_rv ρ bs ws b (.int (Int32.ofInt (q_w32 (m + n)))) := by
  obtain ⟨t, z⟩ := a
  unfold q_ic at h
  dsimp only at h
  cases c1 : Nat.beq t 0 with
  | true =>
    rw [c1] at h
    have e1 : t = 0 := q_bq c1
    subst e1
    cases q_so h
    exact ⟨z, hv, rfl⟩
  | false =>
    rw [c1] at h
    obtain ⟨h1, h7⟩ := q_if_i h
    have en : n = -1 := q_ieq_i h1
    subst en
    cases c2 : Nat.beq t 6 with
    | true =>
      rw [c2] at h7
      obtain ⟨h2, h8⟩ := q_if_i h7
      obtain ⟨h3, h4⟩ := q_and_i h2
      have h5 := q_ile_i h3
      have h6 := q_bl h4
      have e1 : t = 6 := q_bq c2
      subst e1
      cases q_so h8
      refine ⟨ρ z.toNat, hv, ?_⟩
      show Value.int _ = .int (Int32.ofInt (ρ ((z + 16).toNat % 16) - (((z + 16).toNat / 16 : Nat) : Int)))
      have e3 : (z + 16).toNat % 16 = z.toNat := by omega
      have e4 : (z + 16).toNat / 16 = 1 := by omega
      rw [e3, e4, q_o32]
      rfl
    | false =>
      rw [c2] at h7
      obtain ⟨h2, h8⟩ := q_if_i h7
      obtain ⟨h3, h4⟩ := q_and_i h2
      have h5 := q_ile_i h4
      have e1 : t = 11 := q_bq h3
      subst e1
      cases q_so h8
      refine ⟨ρ (z.toNat % 16) - ((z.toNat / 16 : Nat) : Int), hv, ?_⟩
      show Value.int _ = .int (Int32.ofInt (ρ ((z + 16).toNat % 16) - (((z + 16).toNat / 16 : Nat) : Int)))
      have e3 : (z + 16).toNat % 16 = z.toNat % 16 := by omega
      have e4 : (z + 16).toNat / 16 = z.toNat / 16 + 1 := by omega
      rw [e3, e4, q_o32]
      have e5 : ρ (z.toNat % 16) - ((z.toNat / 16 : Nat) : Int) + -1 = ρ (z.toNat % 16) - ((z.toNat / 16 + 1 : Nat) : Int) := by omega
      rw [e5]
theorem q_nv_i {ρ : Nat → Int} {bs : Nat → Nat} {ws : va_W} {a : q_V} {x : Int32} (hr : q_rg ρ) (ht : a.1 = 0 ∨ a.1 = 6) (hv : q_rv ρ bs ws a (.int x)) : x.toInt = q_nv ρ a := by
  obtain ⟨t, z⟩ := a
  rcases ht with e | e <;> (have e1 : t = _ := e) <;> subst e1
  · have e2 : Value.int x = .int (Int32.ofInt z) := hv
    cases e2
    exact q_w32_m z
  · have e2 : Value.int x = .int (Int32.ofInt (ρ z.toNat)) := hv
    cases e2
    rw [q_w32_m, q_w32_id (hr _).1 (hr _).2]; rfl
theorem q_nv_j {ρ : Nat → Int} {bs : Nat → Nat} {ws : va_W} {a : q_V} {x : Int64} (hr : q_rg ρ) (ht : a.1 = 1 ∨ a.1 = 7) (hv : q_rv ρ bs ws a (.long x)) : x.toInt = q_nv ρ a := by
  obtain ⟨t, z⟩ := a
  have hq := hr z.toNat
  rcases ht with e | e <;> (have e1 : t = _ := e) <;> subst e1
  · have e2 : Value.long x = .long (Int64.ofInt z) := hv
    cases e2
    exact q_w64_m z
  · have e2 : Value.long x = .long (Int64.ofInt (ρ z.toNat)) := hv
    cases e2
    rw [q_w64_m, q_w64_id (by omega) (by omega)]; rfl
end -- [06b.rel]
section -- [07.sound]
/-! Part 07: each instruction of the pure machine is the machine's. A row's own law is a premise here ('row'); part 10 gives them. -/
def q_A (base : Nat) : Nat → Prop := fun q => base ≤ q
def q_G (w : Heap → List Loc → Nat → Nat → Nat → Array Slot → List Value → Prop) (cl9 : List vw_C) (nL : Nat) (ρ : Nat → Int) (bs : Nat → Nat) (base : Nat) (D : va_G) (ws0 : va_W) (s : State) (c : q_C) : Prop :=
  q_ok ρ c.2.2.2.2.1 → ∀ (ws : va_W) (tys : List (ClassId × FieldType)) (H : Heap) (locs : List Loc) (ls : Array Slot) (lv : List (Nat × Value)) (sR : List Value),
    va_K D cl9 tys s → va_P D cl9 ws H → va_D (q_A base) ws → va_S (q_A base) s.heap H locs → q_W ρ bs ws tys c.2.2.2.1 → q_Ex ws0 ws → q_F2 (q_rl ρ bs ws) c.2.1 lv → q_F2 (q_rv ρ bs ws) c.2.2.1 sR → lv_has ls nL lv →
    w H locs c.2.2.2.2.2.1 c.2.2.2.2.2.2 c.1 ls sR
theorem q_lk_s {ρ : Nat → Int} {bs : Nat → Nat} {ws : va_W} {i : Nat} : ∀ {lo : q_L} {lv : List (Nat × Value)} {a : q_V}, q_lk i lo = some a → q_F2 (q_rl ρ bs ws) lo lv → ∃ V, (i, V) ∈ lv ∧ q_rv ρ bs ws a V
  | [], lv, a, h, hF => by cases h
  | x :: lo, lv, a, h, hF => by
    obtain ⟨y, r, rfl, h1, h2⟩ := q_F2_c hF
    have h' : (bif Nat.beq x.1 i then some x.2 else q_lk i lo) = some a := h
    cases hb : Nat.beq x.1 i with
    | true =>
      rw [hb] at h'
      cases q_so h'
      have e := q_bq hb
      exact ⟨y.2, by rw [← e, h1.1]; exact List.mem_cons_self, h1.2⟩
    | false =>
      rw [hb] at h'
      obtain ⟨V, g1, g2⟩ := q_lk_s h' h2
      exact ⟨V, List.mem_cons_of_mem _ g1, g2⟩
theorem q_fil_s {ρ : Nat → Int} {bs : Nat → Nat} {ws : va_W} {i : Nat} {w : Bool} {P : Nat × Value → Bool} (hP : ∀ q : Nat × Value, P q = (!(q.1 == i) && (!(w && q.1 == i + 1) && !(q.1 + 1 == i && q.2.category == 2)))) : ∀ {lo : q_L} {lv : List (Nat × Value)}, q_F2 (q_rl ρ bs ws) lo lv → q_F2 (q_rl ρ bs ws) (q_fil i w lo) (lv.filter P)
  | [], lv, hF => by rw [q_F2_n hF]; trivial
  | x :: lo, lv, hF => by
    obtain ⟨y, r, rfl, h1, h2⟩ := q_F2_c hF
    have ih := q_fil_s (i := i) (w := w) (P := P) hP h2
    have ec := q_is2_i h1.2
    have e1 := h1.1
    show q_F2 _ (bif Nat.beq x.1 i then q_fil i w lo else bif (bif w then Nat.beq x.1 (i + 1) else false) then q_fil i w lo else bif (bif Nat.beq (x.1 + 1) i then q_is2 x.2.1 else false) then q_fil i w lo else x :: q_fil i w lo) _
    have hb : ∀ a b : Nat, Nat.beq a b = (a == b) := fun a b => by
      cases h : Nat.beq a b
      · cases h2 : (a == b)
        · rfl
        · rw [beq_iff_eq] at h2; rw [h2, Nat.beq_refl] at h; cases h
      · have := q_bq h
        rw [this, beq_self_eq_true]
    have ec2 : (y.2.category == 2) = q_is2 x.2.1 := by rw [ec]; cases q_is2 x.2.1 <;> rfl
    rw [List.filter_cons, hP y, hb, hb, hb, e1, ec2]
    generalize (y.1 == i) = b1
    generalize (y.1 == i + 1) = b2
    generalize (y.1 + 1 == i) = b3
    generalize q_is2 x.2.1 = b4
    cases b1 <;> cases b2 <;> cases b3 <;> cases b4 <;> cases w <;> first | exact ih | exact ⟨h1, ih⟩
section q_sec
variable {w : Heap → List Loc → Nat → Nat → Nat → Array Slot → List Value → Prop} {cl9 : List vw_C} {nL : Nat} {ρ : Nat → Int} {bs : Nat → Nat} {base : Nat} {D : va_G} {ws0 : va_W} {s : State}
variable {pc nx : Nat} {lo : q_L} {st : List q_V} {hp : q_H} {iv : q_I} {cl sl : Nat} {z : List q_C × List q_Lf}
theorem q_s_one {v : q_V} {V : Value} (hV : ∀ ws, q_rv ρ bs ws v V) (row : ∀ H locs ls r, w H locs cl sl nx ls (V :: r) → w H locs cl sl pc ls r)
    (h : q_one v nx lo st hp iv cl sl = some z) (hz : ∀ c ∈ z.1, q_G w cl9 nL ρ bs base D ws0 s c) : q_G w cl9 nL ρ bs base D ws0 s (pc, lo, st, hp, iv, cl, sl) := by
  intro ho ws tys H locs ls lv sR hK hP hD hS hW hE hL hF hl
  cases q_so h
  exact row _ _ _ _ (hz _ List.mem_cons_self ho ws tys H locs ls lv (V :: sR) hK hP hD hS hW hE hL ⟨hV ws, hF⟩ hl)
theorem q_s_load {P : Nat → Bool} {x : Nat} {S : Value → Prop} (hPS : ∀ ws a V, P a.1 = true → q_rv ρ bs ws a V → S V) (row : ∀ H locs ls r V, S V → ls[x]? = some (.val V) → w H locs cl sl nx ls (V :: r) → w H locs cl sl pc ls r)
    (h : q_oLoad P x nx lo st hp iv cl sl = some z) (hz : ∀ c ∈ z.1, q_G w cl9 nL ρ bs base D ws0 s c) : q_G w cl9 nL ρ bs base D ws0 s (pc, lo, st, hp, iv, cl, sl) := by
  intro ho ws tys H locs ls lv sR hK hP hD hS hW hE hL hF hl
  obtain ⟨a, h1, h⟩ := q_bd_i h
  obtain ⟨h2, h⟩ := q_if_i h
  cases q_so h
  obtain ⟨V, g1, g2⟩ := q_lk_s h1 hL
  exact row _ _ _ _ V (hPS ws a V h2 g2) (hl.2.2 _ g1) (hz _ List.mem_cons_self ho ws tys H locs ls lv (V :: sR) hK hP hD hS hW hE hL ⟨q_conc_rv ho g2, hF⟩ hl)
theorem q_s_store {P : Nat → Bool} {wd : Bool} {x : Nat} {S : Value → Prop} (hPS : ∀ ws a V, P a.1 = true → q_rv ρ bs ws a V → S V)
    (row : ∀ H locs ls r V lv, S V → lv_has ls nL lv → (∀ ls', lv_has ls' nL ((x, V) :: lv.filter (fun q => !(q.1 == x) && (!(wd && q.1 == x + 1) && !(q.1 + 1 == x && q.2.category == 2)))) → w H locs cl sl nx ls' r) → w H locs cl sl pc ls (V :: r))
    (h : q_oStore P wd x nx lo st hp iv cl sl = some z) (hz : ∀ c ∈ z.1, q_G w cl9 nL ρ bs base D ws0 s c) : q_G w cl9 nL ρ bs base D ws0 s (pc, lo, st, hp, iv, cl, sl) := by
  intro ho ws tys H locs ls lv sR hK hP hD hS hW hE hL hF hl
  obtain ⟨q, h1, h⟩ := q_bd_i h
  obtain ⟨h2, h⟩ := q_if_i h
  obtain ⟨-, h⟩ := q_if_i h
  cases q_so h
  have e := q_pop_i h1
  rw [e] at hF
  obtain ⟨V, r, rfl, g1, g2⟩ := q_F2_c hF
  refine row _ _ _ _ V lv (hPS ws _ V h2 g1) hl (fun ls' hl' => ?_)
  exact hz _ List.mem_cons_self ho ws tys H locs ls' ((x, V) :: lv.filter (fun q => !(q.1 == x) && (!(wd && q.1 == x + 1) && !(q.1 + 1 == x && q.2.category == 2)))) r hK hP hD hS hW hE ⟨⟨rfl, g1⟩, q_fil_s (fun _ => rfl) hL⟩ g2 hl'
theorem q_s_bin0 {f : Int → Int → Int} (row : ∀ H locs ls r a b, w H locs cl sl nx ls (.int (Int32.ofInt (f a b)) :: r) → w H locs cl sl pc ls (.int (Int32.ofInt b) :: .int (Int32.ofInt a) :: r))
    (h : q_oBin 0 f nx lo st hp iv cl sl = some z) (hz : ∀ c ∈ z.1, q_G w cl9 nL ρ bs base D ws0 s c) : q_G w cl9 nL ρ bs base D ws0 s (pc, lo, st, hp, iv, cl, sl) := by
  intro ho ws tys H locs ls lv sR hK hP hD hS hW hE hL hF hl
  obtain ⟨q, h1, h⟩ := q_bd_i h
  obtain ⟨q2, h2, h⟩ := q_bd_i h
  obtain ⟨h3, h⟩ := q_if_i h
  obtain ⟨h4, h5⟩ := q_and_i h3
  cases q_so h
  have e := q_pop_i h1
  have e2 := q_pop_i h2
  rw [e, e2] at hF
  obtain ⟨V, r, rfl, g1, hF1⟩ := q_F2_c hF
  obtain ⟨V2, r2, rfl, g2, hF2⟩ := q_F2_c hF1
  obtain ⟨⟨t, b⟩, q9⟩ := q
  obtain ⟨⟨u, a⟩, q8⟩ := q2
  have e3 : t = 0 := q_bq h4
  have e4 : u = 0 := q_bq h5
  subst e3; subst e4
  have e5 : V = .int (Int32.ofInt b) := g1
  have e6 : V2 = .int (Int32.ofInt a) := g2
  subst e5; subst e6
  exact row _ _ _ _ a b (hz _ List.mem_cons_self ho ws tys H locs ls lv _ hK hP hD hS hW hE hL ⟨rfl, hF2⟩ hl)
theorem q_s_bin1 {f : Int → Int → Int} (row : ∀ H locs ls r a b, w H locs cl sl nx ls (.long (Int64.ofInt (f a b)) :: r) → w H locs cl sl pc ls (.long (Int64.ofInt b) :: .long (Int64.ofInt a) :: r))
    (h : q_oBin 1 f nx lo st hp iv cl sl = some z) (hz : ∀ c ∈ z.1, q_G w cl9 nL ρ bs base D ws0 s c) : q_G w cl9 nL ρ bs base D ws0 s (pc, lo, st, hp, iv, cl, sl) := by
  intro ho ws tys H locs ls lv sR hK hP hD hS hW hE hL hF hl
  obtain ⟨q, h1, h⟩ := q_bd_i h
  obtain ⟨q2, h2, h⟩ := q_bd_i h
  obtain ⟨h3, h⟩ := q_if_i h
  obtain ⟨h4, h5⟩ := q_and_i h3
  cases q_so h
  have e := q_pop_i h1
  have e2 := q_pop_i h2
  rw [e, e2] at hF
  obtain ⟨V, r, rfl, g1, hF1⟩ := q_F2_c hF
  obtain ⟨V2, r2, rfl, g2, hF2⟩ := q_F2_c hF1
  obtain ⟨⟨t, b⟩, q9⟩ := q
  obtain ⟨⟨u, a⟩, q8⟩ := q2
  have e3 : t = 1 := q_bq h4
  have e4 : u = 1 := q_bq h5
  subst e3; subst e4
  have e5 : V = .long (Int64.ofInt b) := g1
  have e6 : V2 = .long (Int64.ofInt a) := g2
  subst e5; subst e6
  exact row _ _ _ _ a b (hz _ List.mem_cons_self ho ws tys H locs ls lv _ hK hP hD hS hW hE hL ⟨rfl, hF2⟩ hl)
theorem q_s_div0 {f : Int → Int → Int} (row : ∀ H locs ls r a b, ¬ Int32.ofInt b = 0 → w H locs cl sl nx ls (.int (Int32.ofInt (f a b)) :: r) → w H locs cl sl pc ls (.int (Int32.ofInt b) :: .int (Int32.ofInt a) :: r))
    (h : q_oDiv 0 f q_w32 nx lo st hp iv cl sl = some z) (hz : ∀ c ∈ z.1, q_G w cl9 nL ρ bs base D ws0 s c) : q_G w cl9 nL ρ bs base D ws0 s (pc, lo, st, hp, iv, cl, sl) := by
  intro ho ws tys H locs ls lv sR hK hP hD hS hW hE hL hF hl
  obtain ⟨q, h1, h⟩ := q_bd_i h
  obtain ⟨q2, h2, h⟩ := q_bd_i h
  obtain ⟨h3, h⟩ := q_if_i h
  obtain ⟨h4, h5⟩ := q_and_i h3
  obtain ⟨h5q1, h6⟩ := q_and_i h5
  cases q_so h
  have e := q_pop_i h1
  have e2 := q_pop_i h2
  rw [e, e2] at hF
  obtain ⟨V, r, rfl, g1, hF1⟩ := q_F2_c hF
  obtain ⟨V2, r2, rfl, g2, hF2⟩ := q_F2_c hF1
  obtain ⟨⟨t, b⟩, q9⟩ := q
  obtain ⟨⟨u, a⟩, q8⟩ := q2
  have e3 : t = 0 := q_bq h4
  have e4 : u = 0 := q_bq h5q1
  subst e3; subst e4
  have e5 : V = .int (Int32.ofInt b) := g1
  have e6 : V2 = .int (Int32.ofInt a) := g2
  subst e5; subst e6
  refine row _ _ _ _ a b (fun hb => ?_) (hz _ List.mem_cons_self ho ws tys H locs ls lv _ hK hP hD hS hW hE hL ⟨rfl, hF2⟩ hl)
  have h7 := q_ieq_n (q_not_i h6)
  have h8 := congrArg Int32.toInt hb
  rw [q_w32_m] at h8
  exact h7 h8
theorem q_s_div1 {f : Int → Int → Int} (row : ∀ H locs ls r a b, ¬ Int64.ofInt b = 0 → w H locs cl sl nx ls (.long (Int64.ofInt (f a b)) :: r) → w H locs cl sl pc ls (.long (Int64.ofInt b) :: .long (Int64.ofInt a) :: r))
    (h : q_oDiv 1 f q_w64 nx lo st hp iv cl sl = some z) (hz : ∀ c ∈ z.1, q_G w cl9 nL ρ bs base D ws0 s c) : q_G w cl9 nL ρ bs base D ws0 s (pc, lo, st, hp, iv, cl, sl) := by
  intro ho ws tys H locs ls lv sR hK hP hD hS hW hE hL hF hl
  obtain ⟨q, h1, h⟩ := q_bd_i h
  obtain ⟨q2, h2, h⟩ := q_bd_i h
  obtain ⟨h3, h⟩ := q_if_i h
  obtain ⟨h4, h5⟩ := q_and_i h3
  obtain ⟨h5q1, h6⟩ := q_and_i h5
  cases q_so h
  have e := q_pop_i h1
  have e2 := q_pop_i h2
  rw [e, e2] at hF
  obtain ⟨V, r, rfl, g1, hF1⟩ := q_F2_c hF
  obtain ⟨V2, r2, rfl, g2, hF2⟩ := q_F2_c hF1
  obtain ⟨⟨t, b⟩, q9⟩ := q
  obtain ⟨⟨u, a⟩, q8⟩ := q2
  have e3 : t = 1 := q_bq h4
  have e4 : u = 1 := q_bq h5q1
  subst e3; subst e4
  have e5 : V = .long (Int64.ofInt b) := g1
  have e6 : V2 = .long (Int64.ofInt a) := g2
  subst e5; subst e6
  refine row _ _ _ _ a b (fun hb => ?_) (hz _ List.mem_cons_self ho ws tys H locs ls lv _ hK hP hD hS hW hE hL ⟨rfl, hF2⟩ hl)
  have h7 := q_ieq_n (q_not_i h6)
  have h8 := congrArg Int64.toInt hb
  rw [q_w64_m] at h8
  exact h7 h8
theorem q_s_any {g : Int32 → Int32 → Int32} (row : ∀ H locs ls r a b, w H locs cl sl nx ls (.int (g a b) :: r) → w H locs cl sl pc ls (.int b :: .int a :: r))
    (h : q_oAny (fun a b => (g (Int32.ofInt a) (Int32.ofInt b)).toInt) nx lo st hp iv cl sl = some z) (hz : ∀ c ∈ z.1, q_G w cl9 nL ρ bs base D ws0 s c) : q_G w cl9 nL ρ bs base D ws0 s (pc, lo, st, hp, iv, cl, sl) := by
  intro ho ws tys H locs ls lv sR hK hP hD hS hW hE hL hF hl
  obtain ⟨q, h1, h⟩ := q_bd_i h
  obtain ⟨q2, h2, h⟩ := q_bd_i h
  have e := q_pop_i h1
  have e2 := q_pop_i h2
  rw [e, e2] at hF
  obtain ⟨V, r, rfl, g1, hF1⟩ := q_F2_c hF
  obtain ⟨V2, r2, rfl, g2, hF2⟩ := q_F2_c hF1
  cases hb : (bif Nat.beq q.1.1 0 then Nat.beq q2.1.1 0 else false) with
  | true =>
    rw [hb] at h
    cases q_so h
    obtain ⟨h4, h5⟩ := q_and_i hb
    obtain ⟨⟨t, b⟩, q9⟩ := q
    obtain ⟨⟨u, a⟩, q8⟩ := q2
    have e3 : t = 0 := q_bq h4
    have e4 : u = 0 := q_bq h5
    subst e3; subst e4
    have e5 : V = .int (Int32.ofInt b) := g1
    have e6 : V2 = .int (Int32.ofInt a) := g2
    subst e5; subst e6
    exact row _ _ _ _ _ _ (hz _ List.mem_cons_self ho ws tys H locs ls lv _ hK hP hD hS hW hE hL ⟨(by show Value.int _ = .int (Int32.ofInt (Int32.toInt _)); rw [Int32.ofInt_toInt]), hF2⟩ hl)
  | false =>
    rw [hb] at h
    obtain ⟨h3, h⟩ := q_if_i h
    obtain ⟨h4, h5⟩ := q_and_i h3
    cases q_so h
    obtain ⟨x, rfl⟩ := q_isI_i h4 g1
    obtain ⟨y, rfl⟩ := q_isI_i h5 g2
    exact row _ _ _ _ _ _ (hz _ List.mem_cons_self ho ws tys H locs ls lv _ hK hP hD hS hW hE hL ⟨⟨_, rfl⟩, hF2⟩ hl)
theorem q_s_and (row : ∀ H locs ls r a b, w H locs cl sl nx ls (.int (a &&& b) :: r) → w H locs cl sl pc ls (.int b :: .int a :: r))
    (h : q_oAnd nx lo st hp iv cl sl = some z) (hz : ∀ c ∈ z.1, q_G w cl9 nL ρ bs base D ws0 s c) : q_G w cl9 nL ρ bs base D ws0 s (pc, lo, st, hp, iv, cl, sl) := q_s_any (g := fun a b => a &&& b) row h hz
theorem q_s_un0 {g : Int32 → Int32} (row : ∀ H locs ls r a, w H locs cl sl nx ls (.int (g a) :: r) → w H locs cl sl pc ls (.int a :: r))
    (h : q_oUn 0 0 (fun a => (g (Int32.ofInt a)).toInt) nx lo st hp iv cl sl = some z) (hz : ∀ c ∈ z.1, q_G w cl9 nL ρ bs base D ws0 s c) : q_G w cl9 nL ρ bs base D ws0 s (pc, lo, st, hp, iv, cl, sl) := by
  intro ho ws tys H locs ls lv sR hK hP hD hS hW hE hL hF hl
  obtain ⟨q, h1, h⟩ := q_bd_i h
  obtain ⟨h3, h⟩ := q_if_i h
  cases q_so h
  have e := q_pop_i h1
  rw [e] at hF
  obtain ⟨V, r, rfl, g1, hF1⟩ := q_F2_c hF
  obtain ⟨⟨t, b⟩, q9⟩ := q
  have e3 : t = 0 := q_bq h3
  subst e3
  have e5 : V = .int (Int32.ofInt b) := g1
  subst e5
  exact row _ _ _ _ _ (hz _ List.mem_cons_self ho ws tys H locs ls lv _ hK hP hD hS hW hE hL ⟨(by show Value.int _ = .int (Int32.ofInt (Int32.toInt _)); rw [Int32.ofInt_toInt]), hF1⟩ hl)
theorem q_s_i2l (hr : q_rg ρ) (row : ∀ H locs ls r a, w H locs cl sl nx ls (.long a.toInt64 :: r) → w H locs cl sl pc ls (.int a :: r))
    (h : q_oI2l nx lo st hp iv cl sl = some z) (hz : ∀ c ∈ z.1, q_G w cl9 nL ρ bs base D ws0 s c) : q_G w cl9 nL ρ bs base D ws0 s (pc, lo, st, hp, iv, cl, sl) := by
  intro ho ws tys H locs ls lv sR hK hP hD hS hW hE hL hF hl
  obtain ⟨q, h1, h⟩ := q_bd_i h
  have e := q_pop_i h1
  rw [e] at hF
  obtain ⟨V, r, rfl, g1, hF1⟩ := q_F2_c hF
  obtain ⟨⟨t, b⟩, q9⟩ := q
  dsimp only at h g1
  cases hb : Nat.beq t 0 with
  | true =>
    rw [hb] at h
    cases q_so h
    have e3 : t = 0 := q_bq hb
    subst e3
    have e5 : V = .int (Int32.ofInt b) := g1
    subst e5
    exact row _ _ _ _ _ (hz _ List.mem_cons_self ho ws tys H locs ls lv _ hK hP hD hS hW hE hL ⟨(by show Value.long _ = .long (Int64.ofInt (q_w32 b)); rw [q_il]), hF1⟩ hl)
  | false =>
    rw [hb] at h
    obtain ⟨h3, h⟩ := q_if_i h
    cases q_so h
    have e3 : t = 6 := q_bq h3
    subst e3
    have e5 : V = .int (Int32.ofInt (ρ b.toNat)) := g1
    subst e5
    exact row _ _ _ _ _ (hz _ List.mem_cons_self ho ws tys H locs ls lv _ hK hP hD hS hW hE hL ⟨(by show Value.long _ = .long (Int64.ofInt (ρ b.toNat)); rw [q_il, q_w32_id (hr _).1 (hr _).2]), hF1⟩ hl)
theorem q_s_l2i (hr : q_rg ρ) (row : ∀ H locs ls r a, w H locs cl sl nx ls (.int a.toInt32 :: r) → w H locs cl sl pc ls (.long a :: r))
    (h : q_oL2i nx lo st hp iv cl sl = some z) (hz : ∀ c ∈ z.1, q_G w cl9 nL ρ bs base D ws0 s c) : q_G w cl9 nL ρ bs base D ws0 s (pc, lo, st, hp, iv, cl, sl) := by
  intro ho ws tys H locs ls lv sR hK hP hD hS hW hE hL hF hl
  obtain ⟨q, h1, h⟩ := q_bd_i h
  have e := q_pop_i h1
  rw [e] at hF
  obtain ⟨V, r, rfl, g1, hF1⟩ := q_F2_c hF
  obtain ⟨⟨t, b⟩, q9⟩ := q
  dsimp only at h g1
  cases hb : Nat.beq t 1 with
  | true =>
    rw [hb] at h
    cases q_so h
    have e3 : t = 1 := q_bq hb
    subst e3
    have e5 : V = .long (Int64.ofInt b) := g1
    subst e5
    exact row _ _ _ _ _ (hz _ List.mem_cons_self ho ws tys H locs ls lv _ hK hP hD hS hW hE hL ⟨(by show Value.int _ = .int (Int32.ofInt (q_w32 b)); rw [q_li]), hF1⟩ hl)
  | false =>
    rw [hb] at h
    obtain ⟨h3, h⟩ := q_if_i h
    cases q_so h
    have e3 : t = 7 := q_bq h3
    subst e3
    have e5 : V = .long (Int64.ofInt (ρ b.toNat)) := g1
    subst e5
    exact row _ _ _ _ _ (hz _ List.mem_cons_self ho ws tys H locs ls lv _ hK hP hD hS hW hE hL ⟨(by show Value.int _ = .int (Int32.ofInt (ρ b.toNat)); rw [q_li, q_o32]), hF1⟩ hl)
theorem q_s_unG {t u : Nat} {f : Int → Int} {V1 V2 : Int → Value} (hV1 : ∀ ws a V, q_rv ρ bs ws (t, a) V → V = V1 a) (hV2 : ∀ ws a, q_rv ρ bs ws (u, f a) (V2 a)) (row : ∀ H locs ls r a, w H locs cl sl nx ls (V2 a :: r) → w H locs cl sl pc ls (V1 a :: r))
    (h : q_oUn t u f nx lo st hp iv cl sl = some z) (hz : ∀ c ∈ z.1, q_G w cl9 nL ρ bs base D ws0 s c) : q_G w cl9 nL ρ bs base D ws0 s (pc, lo, st, hp, iv, cl, sl) := by
  intro ho ws tys H locs ls lv sR hK hP hD hS hW hE hL hF hl
  obtain ⟨q, h1, h⟩ := q_bd_i h
  obtain ⟨h3, h⟩ := q_if_i h
  cases q_so h
  have e := q_pop_i h1
  rw [e] at hF
  obtain ⟨V, r, rfl, g1, hF1⟩ := q_F2_c hF
  obtain ⟨⟨t9, b⟩, q9⟩ := q
  have e3 : t9 = t := q_bq h3
  subst e3
  have e5 := hV1 ws b V g1
  subst e5
  exact row _ _ _ _ _ (hz _ List.mem_cons_self ho ws tys H locs ls lv _ hK hP hD hS hW hE hL ⟨hV2 ws b, hF1⟩ hl)
theorem q_n32_i {r : UInt32} (h : q_n32 r = true) : vf_n32 r := by
  unfold q_n32 at h
  unfold vf_n32
  exact of_decide_eq_true h
theorem q_n64_i {r : UInt64} (h : q_n64 r = true) : vf_n64 r := by
  unfold q_n64 at h
  unfold vf_n64
  exact of_decide_eq_true h
theorem q_u32 (x : UInt32) : UInt32.ofNat (Int.ofNat x.toNat).toNat = x := by
  show UInt32.ofNat x.toNat = x
  exact UInt32.ofNat_toNat
theorem q_u64 (x : UInt64) : UInt64.ofNat (Int.ofNat x.toNat).toNat = x := by
  show UInt64.ofNat x.toNat = x
  exact UInt64.ofNat_toNat
theorem q_s_f2 {f : UInt32 → UInt32 → UInt32} (row : ∀ H locs ls r a b, vf_n32 (f a b) → w H locs cl sl nx ls (.float (f a b) :: r) → w H locs cl sl pc ls (.float b :: .float a :: r))
    (h : q_oF2 f nx lo st hp iv cl sl = some z) (hz : ∀ c ∈ z.1, q_G w cl9 nL ρ bs base D ws0 s c) : q_G w cl9 nL ρ bs base D ws0 s (pc, lo, st, hp, iv, cl, sl) := by
  intro ho ws tys H locs ls lv sR hK hP hD hS hW hE hL hF hl
  obtain ⟨q, h1, h⟩ := q_bd_i h
  obtain ⟨q2, h2, h⟩ := q_bd_i h
  obtain ⟨h3, h⟩ := q_if_i h
  obtain ⟨h3q1, h4⟩ := q_and_i h3
  obtain ⟨h4q2, h5⟩ := q_and_i h4
  cases q_so h
  have e := q_pop_i h1
  have e2 := q_pop_i h2
  rw [e, e2] at hF
  obtain ⟨V, r, rfl, g1, hF1⟩ := q_F2_c hF
  obtain ⟨V2, r2, rfl, g2, hF2⟩ := q_F2_c hF1
  obtain ⟨⟨t, b⟩, q9⟩ := q
  obtain ⟨⟨u, a⟩, q8⟩ := q2
  have e3 : t = 4 := q_bq h3q1
  have e4 : u = 4 := q_bq h4q2
  subst e3; subst e4
  have e5 : V = .float (UInt32.ofNat b.toNat) := g1
  have e6 : V2 = .float (UInt32.ofNat a.toNat) := g2
  subst e5; subst e6
  exact row _ _ _ _ _ _ (q_n32_i h5) (hz _ List.mem_cons_self ho ws tys H locs ls lv _ hK hP hD hS hW hE hL ⟨(by show Value.float _ = .float (UInt32.ofNat (Int.ofNat _).toNat); rw [q_u32]), hF2⟩ hl)
theorem q_s_d2 {f : UInt64 → UInt64 → UInt64} (row : ∀ H locs ls r a b, vf_n64 (f a b) → w H locs cl sl nx ls (.double (f a b) :: r) → w H locs cl sl pc ls (.double b :: .double a :: r))
    (h : q_oD2 f nx lo st hp iv cl sl = some z) (hz : ∀ c ∈ z.1, q_G w cl9 nL ρ bs base D ws0 s c) : q_G w cl9 nL ρ bs base D ws0 s (pc, lo, st, hp, iv, cl, sl) := by
  intro ho ws tys H locs ls lv sR hK hP hD hS hW hE hL hF hl
  obtain ⟨q, h1, h⟩ := q_bd_i h
  obtain ⟨q2, h2, h⟩ := q_bd_i h
  obtain ⟨h3, h⟩ := q_if_i h
  obtain ⟨h3q1, h4⟩ := q_and_i h3
  obtain ⟨h4q2, h5⟩ := q_and_i h4
  cases q_so h
  have e := q_pop_i h1
  have e2 := q_pop_i h2
  rw [e, e2] at hF
  obtain ⟨V, r, rfl, g1, hF1⟩ := q_F2_c hF
  obtain ⟨V2, r2, rfl, g2, hF2⟩ := q_F2_c hF1
  obtain ⟨⟨t, b⟩, q9⟩ := q
  obtain ⟨⟨u, a⟩, q8⟩ := q2
  have e3 : t = 5 := q_bq h3q1
  have e4 : u = 5 := q_bq h4q2
  subst e3; subst e4
  have e5 : V = .double (UInt64.ofNat b.toNat) := g1
  have e6 : V2 = .double (UInt64.ofNat a.toNat) := g2
  subst e5; subst e6
  exact row _ _ _ _ _ _ (q_n64_i h5) (hz _ List.mem_cons_self ho ws tys H locs ls lv _ hK hP hD hS hW hE hL ⟨(by show Value.double _ = .double (UInt64.ofNat (Int.ofNat _).toNat); rw [q_u64]), hF2⟩ hl)
theorem q_s_fc {o : CmpOp} (row : ∀ H locs ls r a b, w H locs cl sl nx ls (.int (Op.cmpValue (FP.fcmp a b) o) :: r) → w H locs cl sl pc ls (.float b :: .float a :: r))
    (h : q_oFc o nx lo st hp iv cl sl = some z) (hz : ∀ c ∈ z.1, q_G w cl9 nL ρ bs base D ws0 s c) : q_G w cl9 nL ρ bs base D ws0 s (pc, lo, st, hp, iv, cl, sl) := by
  intro ho ws tys H locs ls lv sR hK hP hD hS hW hE hL hF hl
  obtain ⟨q, h1, h⟩ := q_bd_i h
  obtain ⟨q2, h2, h⟩ := q_bd_i h
  obtain ⟨h3, h⟩ := q_if_i h
  obtain ⟨h3q1, h4q2⟩ := q_and_i h3
  cases q_so h
  have e := q_pop_i h1
  have e2 := q_pop_i h2
  rw [e, e2] at hF
  obtain ⟨V, r, rfl, g1, hF1⟩ := q_F2_c hF
  obtain ⟨V2, r2, rfl, g2, hF2⟩ := q_F2_c hF1
  obtain ⟨⟨t, b⟩, q9⟩ := q
  obtain ⟨⟨u, a⟩, q8⟩ := q2
  have e3 : t = 4 := q_bq h3q1
  have e4 : u = 4 := q_bq h4q2
  subst e3; subst e4
  have e5 : V = .float (UInt32.ofNat b.toNat) := g1
  have e6 : V2 = .float (UInt32.ofNat a.toNat) := g2
  subst e5; subst e6
  exact row _ _ _ _ _ _ (hz _ List.mem_cons_self ho ws tys H locs ls lv _ hK hP hD hS hW hE hL ⟨(by show Value.int _ = .int (Int32.ofInt (Int32.toInt _)); rw [Int32.ofInt_toInt]), hF2⟩ hl)
theorem q_s_dc {o : CmpOp} (row : ∀ H locs ls r a b, w H locs cl sl nx ls (.int (Op.cmpValue (FP.dcmp a b) o) :: r) → w H locs cl sl pc ls (.double b :: .double a :: r))
    (h : q_oDc o nx lo st hp iv cl sl = some z) (hz : ∀ c ∈ z.1, q_G w cl9 nL ρ bs base D ws0 s c) : q_G w cl9 nL ρ bs base D ws0 s (pc, lo, st, hp, iv, cl, sl) := by
  intro ho ws tys H locs ls lv sR hK hP hD hS hW hE hL hF hl
  obtain ⟨q, h1, h⟩ := q_bd_i h
  obtain ⟨q2, h2, h⟩ := q_bd_i h
  obtain ⟨h3, h⟩ := q_if_i h
  obtain ⟨h3q1, h4q2⟩ := q_and_i h3
  cases q_so h
  have e := q_pop_i h1
  have e2 := q_pop_i h2
  rw [e, e2] at hF
  obtain ⟨V, r, rfl, g1, hF1⟩ := q_F2_c hF
  obtain ⟨V2, r2, rfl, g2, hF2⟩ := q_F2_c hF1
  obtain ⟨⟨t, b⟩, q9⟩ := q
  obtain ⟨⟨u, a⟩, q8⟩ := q2
  have e3 : t = 5 := q_bq h3q1
  have e4 : u = 5 := q_bq h4q2
  subst e3; subst e4
  have e5 : V = .double (UInt64.ofNat b.toNat) := g1
  have e6 : V2 = .double (UInt64.ofNat a.toNat) := g2
  subst e5; subst e6
  exact row _ _ _ _ _ _ (hz _ List.mem_cons_self ho ws tys H locs ls lv _ hK hP hD hS hW hE hL ⟨(by show Value.int _ = .int (Int32.ofInt (Int32.toInt _)); rw [Int32.ofInt_toInt]), hF2⟩ hl)
theorem q_s_f2d (row : ∀ H locs ls r a, vf_n64 (FP.f2d a) → w H locs cl sl nx ls (.double (FP.f2d a) :: r) → w H locs cl sl pc ls (.float a :: r))
    (h : q_oF2d nx lo st hp iv cl sl = some z) (hz : ∀ c ∈ z.1, q_G w cl9 nL ρ bs base D ws0 s c) : q_G w cl9 nL ρ bs base D ws0 s (pc, lo, st, hp, iv, cl, sl) := by
  intro ho ws tys H locs ls lv sR hK hP hD hS hW hE hL hF hl
  obtain ⟨q, h1, h⟩ := q_bd_i h
  obtain ⟨h3, h⟩ := q_if_i h
  obtain ⟨h3q1, h4⟩ := q_and_i h3
  cases q_so h
  have e := q_pop_i h1
  rw [e] at hF
  obtain ⟨V, r, rfl, g1, hF1⟩ := q_F2_c hF
  obtain ⟨⟨t, b⟩, q9⟩ := q
  have e3 : t = 4 := q_bq h3q1
  subst e3
  have e5 : V = .float (UInt32.ofNat b.toNat) := g1
  subst e5
  exact row _ _ _ _ _ (q_n64_i h4) (hz _ List.mem_cons_self ho ws tys H locs ls lv _ hK hP hD hS hW hE hL ⟨(by show Value.double _ = .double (UInt64.ofNat (Int.ofNat _).toNat); rw [q_u64]), hF1⟩ hl)
theorem q_s_lcmp (hr : q_rg ρ) (row : ∀ H locs ls r a b, w H locs cl sl nx ls (.int (lg_cmp a b) :: r) → w H locs cl sl pc ls (.long b :: .long a :: r))
    (h : q_oLcmp nx lo st hp iv cl sl = some z) (hz : ∀ c ∈ z.1, q_G w cl9 nL ρ bs base D ws0 s c) : q_G w cl9 nL ρ bs base D ws0 s (pc, lo, st, hp, iv, cl, sl) := by
  intro ho ws tys H locs ls lv sR hK hP hD hS hW hE hL hF hl
  obtain ⟨q, h1, h⟩ := q_bd_i h
  obtain ⟨q2, h2, h⟩ := q_bd_i h
  obtain ⟨h3, h⟩ := q_if_i h
  obtain ⟨h3q1, h4⟩ := q_and_i h3
  obtain ⟨l, h5, h⟩ := q_bd_i h
  cases q_so h
  have e := q_pop_i h1
  have e2 := q_pop_i h2
  rw [e, e2] at hF
  obtain ⟨V, r, rfl, g1, hF1⟩ := q_F2_c hF
  obtain ⟨V2, r2, rfl, g2, hF2⟩ := q_F2_c hF1
  obtain ⟨b, rfl⟩ := q_isJ_i h3q1 g1
  obtain ⟨a, rfl⟩ := q_isJ_i h4 g2
  obtain ⟨hk, q3, h6, h7, h8⟩ := q_c3_s ho h5
  have hk2 : (q2.1.1 = 1 ∨ q2.1.1 = 7) ∧ (q.1.1 = 1 ∨ q.1.1 = 7) := by
    rcases hk with hk | hk
    · exfalso
      rcases q_or_i h4 with e9 | e9 <;> (have e9 := q_bq e9) <;> omega
    · exact hk
  have ha := q_nv_j hr hk2.1 g2
  have hb := q_nv_j hr hk2.2 g1
  refine row _ _ _ _ a b ?_
  have hm := hz (nx, lo, (0, Int.sub (Int.ofNat q3.1) 1) :: q2.2, hp, q3.2, cl, sl) (by rw [q_map_g]; exact List.mem_map.mpr ⟨q3, h6, rfl⟩) h7 ws tys H locs ls lv (.int (lg_cmp a b) :: r2) hK hP hD hS hW hE hL ⟨?_, hF2⟩ hl
  · exact hm
  · show Value.int (lg_cmp a b) = .int (Int32.ofInt (Int.sub (Int.ofNat q3.1) 1))
    have e8 : lg_cmp a b = Int32.ofInt (Int.sub (Int.ofNat q3.1) 1) := by
      unfold lg_cmp
      rcases h8 with ⟨e9, h9⟩ | ⟨e9, h9⟩ | ⟨e9, h9⟩ <;> rw [e9]
      · have h10 : ¬ a > b := fun h => by have := Int64.lt_iff_toInt_lt.mp h; omega
        have h11 : ¬ a = b := fun h => by rw [h] at ha; omega
        rw [if_neg h10, if_neg h11]; rfl
      · have h10 : ¬ a > b := fun h => by have := Int64.lt_iff_toInt_lt.mp h; omega
        have h11 : a = b := Int64.toInt_inj.mp (by omega)
        rw [if_neg h10, if_pos h11]; rfl
      · have h10 : a > b := Int64.lt_iff_toInt_lt.mpr (by omega)
        rw [if_pos h10]; rfl
    rw [e8]
def q_cd (c : ClassFile.Cond) (x y : Int32) : Prop := match c with
  | .eq => x = y
  | .ne => ¬ x = y
  | .lt => x < y
  | .ge => y ≤ x
  | .gt => y < x
  | .le => x ≤ y
theorem q_tk_s {c : ClassFile.Cond} {x y : Int32} {r : Nat} (h : (r = 0 ∧ x.toInt < y.toInt) ∨ (r = 1 ∧ x.toInt = y.toInt) ∨ (r = 2 ∧ y.toInt < x.toInt)) : (q_tk c r = true ∧ q_cd c x y) ∨ (q_tk c r = false ∧ ¬ q_cd c x y) := by
  have hl : x < y ↔ x.toInt < y.toInt := Int32.lt_iff_toInt_lt
  have hg : y < x ↔ y.toInt < x.toInt := Int32.lt_iff_toInt_lt
  have hle : x ≤ y ↔ x.toInt ≤ y.toInt := Int32.le_iff_toInt_le
  have hge : y ≤ x ↔ y.toInt ≤ x.toInt := Int32.le_iff_toInt_le
  have he : x = y ↔ x.toInt = y.toInt := Int32.toInt_inj.symm
  rcases h with ⟨rfl, h⟩ | ⟨rfl, h⟩ | ⟨rfl, h⟩ <;> cases c <;> simp only [q_cd, hl, hg, hle, hge, he] <;> first
    | exact Or.inl ⟨rfl, by omega⟩
    | exact Or.inr ⟨rfl, by omega⟩
theorem q_s_if {c : ClassFile.Cond} {x : Nat} (hr : q_rg ρ) (row : ∀ H locs ls r a, (q_cd c a 0 → w H locs cl sl x ls r) → (¬ q_cd c a 0 → w H locs cl sl nx ls r) → w H locs cl sl pc ls (.int a :: r))
    (h : q_oIf c x nx lo st hp iv cl sl = some z) (hz : ∀ c ∈ z.1, q_G w cl9 nL ρ bs base D ws0 s c) : q_G w cl9 nL ρ bs base D ws0 s (pc, lo, st, hp, iv, cl, sl) := by
  intro ho ws tys H locs ls lv sR hK hP hD hS hW hE hL hF hl
  obtain ⟨q, h1, h⟩ := q_bd_i h
  obtain ⟨l, h5, h⟩ := q_bd_i h
  cases q_so h
  have e := q_pop_i h1
  rw [e] at hF
  obtain ⟨V, r, rfl, g1, hF1⟩ := q_F2_c hF
  have hmain : ∃ (a : Int32) (q3 : Nat × q_I), V = .int a ∧ q3 ∈ l ∧ q_ok ρ q3.2 ∧ ((q3.1 = 0 ∧ a.toInt < (0 : Int32).toInt) ∨ (q3.1 = 1 ∧ a.toInt = (0 : Int32).toInt) ∨ (q3.1 = 2 ∧ (0 : Int32).toInt < a.toInt)) := by
    cases c11 : Nat.beq q.1.1 11 with
    | true =>
      rw [c11] at h5
      obtain ⟨⟨t, b⟩, q9⟩ := q
      have e1 : t = 11 := q_bq c11
      subst e1
      obtain ⟨k1, q3, k2, k3, k4⟩ := q_cO_s hr ho h5
      exact ⟨_, q3, g1, k2, k3, by rw [k1]; exact k4⟩
    | false =>
      rw [c11] at h5
      obtain ⟨h3, h5⟩ := q_if_i h5
      obtain ⟨a, rfl⟩ := q_isI_i h3 g1
      obtain ⟨hk, q3, h6, h7, h8⟩ := q_c3_s ho h5
      have hk2 : q.1.1 = 0 ∨ q.1.1 = 6 := by
        rcases hk with hk | hk
        · exact hk.1
        · have := hk.2; simp at this
      have ha := q_nv_i hr hk2 g1
      have hb : (0 : Int32).toInt = q_nv ρ (0, 0) := rfl
      rw [← ha, ← hb] at h8
      exact ⟨a, q3, rfl, h6, h7, h8⟩
  obtain ⟨a, q3, rfl, h6, h7, h8⟩ := hmain
  have hm := hz (bif q_tk c q3.1 then x else nx, lo, q.2, hp, q3.2, cl, sl) (by rw [q_map_g]; exact List.mem_map.mpr ⟨q3, h6, rfl⟩) h7 ws tys H locs ls lv r hK hP hD hS hW hE hL hF1 hl
  rcases q_tk_s (c := c) h8 with ⟨e9, h9⟩ | ⟨e9, h9⟩
  · rw [e9] at hm
    exact row _ _ _ _ a (fun _ => hm) (fun h => absurd h9 h)
  · rw [e9] at hm
    exact row _ _ _ _ a (fun h => absurd h h9) (fun _ => hm)
theorem q_s_ic {c : ClassFile.Cond} {x : Nat} (hr : q_rg ρ) (row : ∀ H locs ls r a b, (q_cd c a b → w H locs cl sl x ls r) → (¬ q_cd c a b → w H locs cl sl nx ls r) → w H locs cl sl pc ls (.int b :: .int a :: r))
    (h : q_oIc c x nx lo st hp iv cl sl = some z) (hz : ∀ c ∈ z.1, q_G w cl9 nL ρ bs base D ws0 s c) : q_G w cl9 nL ρ bs base D ws0 s (pc, lo, st, hp, iv, cl, sl) := by
  intro ho ws tys H locs ls lv sR hK hP hD hS hW hE hL hF hl
  obtain ⟨q, h1, h⟩ := q_bd_i h
  obtain ⟨q2, h2, h⟩ := q_bd_i h
  obtain ⟨h3, h⟩ := q_if_i h
  obtain ⟨h3q1, h4⟩ := q_and_i h3
  obtain ⟨l, h5, h⟩ := q_bd_i h
  cases q_so h
  have e := q_pop_i h1
  have e2 := q_pop_i h2
  rw [e, e2] at hF
  obtain ⟨V, r, rfl, g1, hF1⟩ := q_F2_c hF
  obtain ⟨V2, r2, rfl, g2, hF2⟩ := q_F2_c hF1
  obtain ⟨b, rfl⟩ := q_isI_i h3q1 g1
  obtain ⟨a, rfl⟩ := q_isI_i h4 g2
  obtain ⟨hk, q3, h6, h7, h8⟩ := q_c3_s ho h5
  have hk2 : (q2.1.1 = 0 ∨ q2.1.1 = 6) ∧ (q.1.1 = 0 ∨ q.1.1 = 6) := by
    rcases hk with hk | hk
    · exact hk
    · exfalso
      rcases q_or_i h4 with e9 | e9
      · have e9 := q_bq e9; omega
      · rcases q_or_i e9 with e9 | e9 <;> (have e9 := q_bq e9) <;> omega
  have ha := q_nv_i hr hk2.1 g2
  have hb := q_nv_i hr hk2.2 g1
  rw [← ha, ← hb] at h8
  have hm := hz (bif q_tk c q3.1 then x else nx, lo, q2.2, hp, q3.2, cl, sl) (by rw [q_map_g]; exact List.mem_map.mpr ⟨q3, h6, rfl⟩) h7 ws tys H locs ls lv r2 hK hP hD hS hW hE hL hF2 hl
  rcases q_tk_s (c := c) h8 with ⟨e9, h9⟩ | ⟨e9, h9⟩
  · rw [e9] at hm
    exact row _ _ _ _ a b (fun _ => hm) (fun h => absurd h9 h)
  · rw [e9] at hm
    exact row _ _ _ _ a b (fun h => absurd h h9) (fun _ => hm)
theorem q_s_ifn {x : Nat} (rowN : ∀ H locs ls r, w H locs cl sl x ls r → w H locs cl sl pc ls (.null :: r)) (rowR : ∀ H locs ls r a, w H locs cl sl nx ls r → w H locs cl sl pc ls (.ref a :: r))
    (h : q_oIfn x nx lo st hp iv cl sl = some z) (hz : ∀ c ∈ z.1, q_G w cl9 nL ρ bs base D ws0 s c) : q_G w cl9 nL ρ bs base D ws0 s (pc, lo, st, hp, iv, cl, sl) := by
  intro ho ws tys H locs ls lv sR hK hP hD hS hW hE hL hF hl
  obtain ⟨q, h1, h⟩ := q_bd_i h
  have e := q_pop_i h1
  rw [e] at hF
  obtain ⟨V, r, rfl, g1, hF1⟩ := q_F2_c hF
  cases hb : Nat.beq q.1.1 3 with
  | true =>
    rw [hb] at h
    cases q_so h
    have e3 := q_bq hb
    obtain ⟨⟨t, b⟩, q9⟩ := q
    have e3 : t = 3 := e3
    subst e3
    have e5 : V = .null := g1
    subst e5
    exact rowN _ _ _ _ (hz _ List.mem_cons_self ho ws tys H locs ls lv _ hK hP hD hS hW hE hL hF1 hl)
  | false =>
    rw [hb] at h
    obtain ⟨h3, h⟩ := q_if_i h
    cases q_so h
    obtain ⟨a, rfl⟩ := q_isR_i h3 g1
    exact rowR _ _ _ _ a (hz _ List.mem_cons_self ho ws tys H locs ls lv _ hK hP hD hS hW hE hL hF1 hl)
theorem q_s_goto {x : Nat} (row : ∀ H locs ls r, w H locs cl sl x ls r → w H locs cl sl pc ls r)
    (h : q_nx x lo st hp iv cl sl = some z) (hz : ∀ c ∈ z.1, q_G w cl9 nL ρ bs base D ws0 s c) : q_G w cl9 nL ρ bs base D ws0 s (pc, lo, st, hp, iv, cl, sl) := by
  intro ho ws tys H locs ls lv sR hK hP hD hS hW hE hL hF hl
  cases q_so h
  exact row _ _ _ _ (hz _ List.mem_cons_self ho ws tys H locs ls lv _ hK hP hD hS hW hE hL hF hl)
theorem q_s_dup (row : ∀ H locs ls r V, V.category = 1 → w H locs cl sl nx ls (V :: V :: r) → w H locs cl sl pc ls (V :: r))
    (h : q_oDup nx lo st hp iv cl sl = some z) (hz : ∀ c ∈ z.1, q_G w cl9 nL ρ bs base D ws0 s c) : q_G w cl9 nL ρ bs base D ws0 s (pc, lo, st, hp, iv, cl, sl) := by
  intro ho ws tys H locs ls lv sR hK hP hD hS hW hE hL hF hl
  obtain ⟨q, h1, h⟩ := q_bd_i h
  have e := q_pop_i h1
  rw [e] at hF
  obtain ⟨V, r, rfl, g1, hF1⟩ := q_F2_c hF
  have hc := q_is2_i g1
  cases hb : q_is2 q.1.1 with
  | true => rw [hb] at h; cases h
  | false =>
    rw [hb] at h hc
    cases q_so h
    exact row _ _ _ _ V hc (hz _ List.mem_cons_self ho ws tys H locs ls lv _ hK hP hD hS hW hE hL ⟨g1, g1, hF1⟩ hl)
theorem q_s_pop (row : ∀ H locs ls r V, V.category = 1 → w H locs cl sl nx ls r → w H locs cl sl pc ls (V :: r))
    (h : q_oPop nx lo st hp iv cl sl = some z) (hz : ∀ c ∈ z.1, q_G w cl9 nL ρ bs base D ws0 s c) : q_G w cl9 nL ρ bs base D ws0 s (pc, lo, st, hp, iv, cl, sl) := by
  intro ho ws tys H locs ls lv sR hK hP hD hS hW hE hL hF hl
  obtain ⟨q, h1, h⟩ := q_bd_i h
  have e := q_pop_i h1
  rw [e] at hF
  obtain ⟨V, r, rfl, g1, hF1⟩ := q_F2_c hF
  have hc := q_is2_i g1
  cases hb : q_is2 q.1.1 with
  | true => rw [hb] at h; cases h
  | false =>
    rw [hb] at h hc
    cases q_so h
    exact row _ _ _ _ V hc (hz _ List.mem_cons_self ho ws tys H locs ls lv _ hK hP hD hS hW hE hL hF1 hl)
theorem q_s_pop2 (row : ∀ H locs ls r V, V.category = 2 → w H locs cl sl nx ls r → w H locs cl sl pc ls (V :: r))
    (h : q_oPop2 nx lo st hp iv cl sl = some z) (hz : ∀ c ∈ z.1, q_G w cl9 nL ρ bs base D ws0 s c) : q_G w cl9 nL ρ bs base D ws0 s (pc, lo, st, hp, iv, cl, sl) := by
  intro ho ws tys H locs ls lv sR hK hP hD hS hW hE hL hF hl
  obtain ⟨q, h1, h⟩ := q_bd_i h
  have e := q_pop_i h1
  rw [e] at hF
  obtain ⟨V, r, rfl, g1, hF1⟩ := q_F2_c hF
  have hc := q_is2_i g1
  cases hb : q_is2 q.1.1 with
  | false => rw [hb] at h; cases h
  | true =>
    rw [hb] at h hc
    cases q_so h
    exact row _ _ _ _ V hc (hz _ List.mem_cons_self ho ws tys H locs ls lv _ hK hP hD hS hW hE hL hF1 hl)
theorem q_s_dup2 (row2 : ∀ H locs ls r V, V.category = 2 → w H locs cl sl nx ls (V :: V :: r) → w H locs cl sl pc ls (V :: r)) (row1 : ∀ H locs ls r V V2, V.category = 1 → V2.category = 1 → w H locs cl sl nx ls (V :: V2 :: V :: V2 :: r) → w H locs cl sl pc ls (V :: V2 :: r))
    (h : q_oDup2 nx lo st hp iv cl sl = some z) (hz : ∀ c ∈ z.1, q_G w cl9 nL ρ bs base D ws0 s c) : q_G w cl9 nL ρ bs base D ws0 s (pc, lo, st, hp, iv, cl, sl) := by
  intro ho ws tys H locs ls lv sR hK hP hD hS hW hE hL hF hl
  obtain ⟨q, h1, h⟩ := q_bd_i h
  have e := q_pop_i h1
  rw [e] at hF
  obtain ⟨V, r, rfl, g1, hF1⟩ := q_F2_c hF
  have hc := q_is2_i g1
  cases hb : q_is2 q.1.1 with
  | true =>
    rw [hb] at h hc
    cases q_so h
    exact row2 _ _ _ _ V hc (hz _ List.mem_cons_self ho ws tys H locs ls lv _ hK hP hD hS hW hE hL ⟨g1, g1, hF1⟩ hl)
  | false =>
    rw [hb] at h hc
    obtain ⟨q2, h2, h⟩ := q_bd_i h
    have e2 := q_pop_i h2
    rw [e2] at hF1
    obtain ⟨V2, r2, rfl, g2, hF2⟩ := q_F2_c hF1
    have hc2 := q_is2_i g2
    cases hb2 : q_is2 q2.1.1 with
    | true => rw [hb2] at h; cases h
    | false =>
      rw [hb2] at h hc2
      cases q_so h
      exact row1 _ _ _ _ V V2 hc hc2 (hz _ List.mem_cons_self ho ws tys H locs ls lv _ hK hP hD hS hW hE hL ⟨g1, g2, g1, g2, hF2⟩ hl)
theorem q_s_inc {x : Nat} {n : Int} (row : ∀ H locs ls r (a : Int) lv (k : Nat), lv_has ls nL lv → lv[k]? = some (x, .int (Int32.ofInt a)) → (∀ ls', lv_has ls' nL ((x, .int (Int32.ofInt (q_w32 (a + n)))) :: lv.filter (fun q => !(q.1 == x) && (!(false && q.1 == x + 1) && !(q.1 + 1 == x && q.2.category == 2)))) → w H locs cl sl nx ls' r) → w H locs cl sl pc ls r)
    (h : q_oInc x n nx lo st hp iv cl sl = some z) (hz : ∀ c ∈ z.1, q_G w cl9 nL ρ bs base D ws0 s c) : q_G w cl9 nL ρ bs base D ws0 s (pc, lo, st, hp, iv, cl, sl) := by
  intro ho ws tys H locs ls lv sR hK hP hD hS hW hE hL hF hl
  obtain ⟨a, h1, h⟩ := q_bd_i h
  obtain ⟨b, h2, h⟩ := q_bd_i h
  obtain ⟨-, h⟩ := q_if_i h
  cases q_so h
  obtain ⟨V, g1, g2⟩ := q_lk_s h1 hL
  obtain ⟨m, rfl, g4⟩ := q_ic_s h2 (q_conc_rv ho g2)
  obtain ⟨k, hk⟩ := List.getElem?_of_mem g1
  refine row _ _ _ _ m lv k hl hk (fun ls' hl' => ?_)
  exact hz _ List.mem_cons_self ho ws tys H locs ls' ((x, .int (Int32.ofInt (q_w32 (m + n)))) :: lv.filter (fun q => !(q.1 == x) && (!(false && q.1 == x + 1) && !(q.1 + 1 == x && q.2.category == 2)))) sR hK hP hD hS hW hE ⟨⟨rfl, g4⟩, q_fil_s (fun _ => rfl) hL⟩ hF hl'
theorem q_s_neg (row : ∀ H locs ls r a, w H locs cl sl nx ls (.int (-a) :: r) → w H locs cl sl pc ls (.int a :: r))
    (h : q_oNeg nx lo st hp iv cl sl = some z) (hz : ∀ c ∈ z.1, q_G w cl9 nL ρ bs base D ws0 s c) : q_G w cl9 nL ρ bs base D ws0 s (pc, lo, st, hp, iv, cl, sl) := q_s_un0 (g := fun a => -a) row h hz
theorem q_s_m2 {mx : Bool} {fr lc mc ms : Nat} {g : Int32 → Int32 → Int32} (hg : ∀ a b : Int, g (Int32.ofInt a) (Int32.ofInt b) = Int32.ofInt (bif q_ile (q_w32 a) (q_w32 b) then (bif mx then b else a) else (bif mx then a else b)))
    (hwid : ∀ ws r rR, q_F2 (q_rv ρ bs ws) r rR → (rR.map fun v => v.category).sum = q_wid r)
    (row : ∀ H locs ls r a b, ls.size = nL → 1 ≤ fr → (r.map fun v => v.category).sum + 13 ≤ lc → cl ≤ mc → sl ≤ ms → w H locs cl sl nx ls (.int (g a b) :: r) → w H locs cl sl pc ls (.int b :: .int a :: r))
    (h : q_oM2 mx fr lc mc ms nx lo st hp iv cl sl = some z) (hz : ∀ c ∈ z.1, q_G w cl9 nL ρ bs base D ws0 s c) : q_G w cl9 nL ρ bs base D ws0 s (pc, lo, st, hp, iv, cl, sl) := by
  intro ho ws tys H locs ls lv sR hK hP hD hS hW hE hL hF hl
  obtain ⟨q, h1, h⟩ := q_bd_i h
  obtain ⟨q2, h2, h⟩ := q_bd_i h
  obtain ⟨h3, h⟩ := q_if_i h
  obtain ⟨h3q1, h4⟩ := q_and_i h3
  obtain ⟨h4q2, h5⟩ := q_and_i h4
  obtain ⟨h5q3, h6⟩ := q_and_i h5
  obtain ⟨h6q4, h7⟩ := q_and_i h6
  obtain ⟨h7q5, h8⟩ := q_and_i h7
  cases q_so h
  have e := q_pop_i h1
  have e2 := q_pop_i h2
  rw [e, e2] at hF
  obtain ⟨V, r, rfl, g1, hF1⟩ := q_F2_c hF
  obtain ⟨V2, r2, rfl, g2, hF2⟩ := q_F2_c hF1
  obtain ⟨⟨t, b⟩, q9⟩ := q
  obtain ⟨⟨u, a⟩, q8⟩ := q2
  have e3 : t = 0 := q_bq h3q1
  have e4 : u = 0 := q_bq h4q2
  subst e3; subst e4
  have e5 : V = .int (Int32.ofInt b) := g1
  have e6 : V2 = .int (Int32.ofInt a) := g2
  subst e5; subst e6
  refine row _ _ _ _ _ _ hl.1 (q_bl h5q3) (by rw [hwid _ _ _ hF2]; exact q_bl h6q4) (q_bl h7q5) (q_bl h8) (hz _ List.mem_cons_self ho ws tys H locs ls lv _ hK hP hD hS hW hE hL ⟨?_, hF2⟩ hl)
  rw [hg]
  cases q_ile (q_w32 a) (q_w32 b) <;> cases mx <;> rfl
theorem q_s_abs {fr lc mc ms : Nat} (hr : q_rg ρ) (hwid : ∀ ws r rR, q_F2 (q_rv ρ bs ws) r rR → (rR.map fun v => v.category).sum = q_wid r)
    (row : ∀ H locs ls r a, ls.size = nL → 1 ≤ fr → (r.map fun v => v.category).sum + 13 ≤ lc → cl ≤ mc → sl ≤ ms → w H locs cl sl nx ls (.int (if 0 ≤ a then a else 0 - a) :: r) → w H locs cl sl pc ls (.int a :: r))
    (h : q_oAbs fr lc mc ms nx lo st hp iv cl sl = some z) (hz : ∀ c ∈ z.1, q_G w cl9 nL ρ bs base D ws0 s c) : q_G w cl9 nL ρ bs base D ws0 s (pc, lo, st, hp, iv, cl, sl) := by
  intro ho ws tys H locs ls lv sR hK hP hD hS hW hE hL hF hl
  obtain ⟨q, h1, h⟩ := q_bd_i h
  obtain ⟨h2, h9⟩ := q_if_i h
  obtain ⟨g3, h4⟩ := q_and_i h2
  obtain ⟨g4, h5⟩ := q_and_i h4
  obtain ⟨g5, g6⟩ := q_and_i h5
  have e := q_pop_i h1
  rw [e] at hF
  obtain ⟨V, r, rfl, g1, hF1⟩ := q_F2_c hF
  have hrow : ∀ a, w H locs cl sl nx ls (.int (if 0 ≤ a then a else 0 - a) :: r) → w H locs cl sl pc ls (.int a :: r) := fun a k9 => row _ _ _ _ a hl.1 (q_bl g3) (by rw [hwid _ _ _ hF1]; exact q_bl g4) (q_bl g5) (q_bl g6) k9
  have hge : ∀ x : Int32, 0 ≤ x ↔ 0 ≤ x.toInt := fun x => by rw [Int32.le_iff_toInt_le]; rfl
  obtain ⟨⟨t, b⟩, q9⟩ := q
  obtain ⟨c0, h9⟩ := q_if_i h9
  have e3 : t = 0 := q_bq c0
  subst e3
  have e5 : V = .int (Int32.ofInt b) := g1
  subst e5
  cases q_so h9
  refine hrow _ ?_
  refine hz _ List.mem_cons_self ho ws tys H locs ls lv _ hK hP hD hS hW hE hL ⟨?_, hF1⟩ hl
  show Value.int _ = .int (Int32.ofInt _)
  cases cg : q_ile 0 (q_w32 b) with
  | true => rw [if_pos ((hge _).mpr (by rw [q_w32_m]; exact q_ile_i cg))]; rfl
  | false =>
    rw [if_neg (fun h => by have h3 := (hge _).mp h; rw [q_w32_m] at h3; have := q_ile_n cg; omega)]
    show _ = Value.int (Int32.ofInt (Int32.toInt _))
    rw [Int32.ofInt_toInt]
theorem q_s_mj {fr lc mc ms : Nat} (hwid : ∀ ws r rR, q_F2 (q_rv ρ bs ws) r rR → (rR.map fun v => v.category).sum = q_wid r)
    (row : ∀ H locs ls r a b, ls.size = nL → 1 ≤ fr → (r.map fun v => v.category).sum + 15 ≤ lc → cl ≤ mc → sl ≤ ms → w H locs cl sl nx ls (.long (if b < a then a else b) :: r) → w H locs cl sl pc ls (.long b :: .long a :: r))
    (h : q_oMJ fr lc mc ms nx lo st hp iv cl sl = some z) (hz : ∀ c ∈ z.1, q_G w cl9 nL ρ bs base D ws0 s c) : q_G w cl9 nL ρ bs base D ws0 s (pc, lo, st, hp, iv, cl, sl) := by
  intro ho ws tys H locs ls lv sR hK hP hD hS hW hE hL hF hl
  obtain ⟨q, h1, h⟩ := q_bd_i h
  obtain ⟨q2, h2, h⟩ := q_bd_i h
  obtain ⟨h3, h⟩ := q_if_i h
  obtain ⟨h3q1, h4⟩ := q_and_i h3
  obtain ⟨h4q2, h5⟩ := q_and_i h4
  obtain ⟨h5q3, h6⟩ := q_and_i h5
  obtain ⟨h6q4, h7⟩ := q_and_i h6
  obtain ⟨h7q5, h8⟩ := q_and_i h7
  cases q_so h
  have e := q_pop_i h1
  have e2 := q_pop_i h2
  rw [e, e2] at hF
  obtain ⟨V, r, rfl, g1, hF1⟩ := q_F2_c hF
  obtain ⟨V2, r2, rfl, g2, hF2⟩ := q_F2_c hF1
  obtain ⟨⟨t, b⟩, q9⟩ := q
  obtain ⟨⟨u, a⟩, q8⟩ := q2
  have e3 : t = 1 := q_bq h3q1
  have e4 : u = 1 := q_bq h4q2
  subst e3; subst e4
  have e5 : V = .long (Int64.ofInt b) := g1
  have e6 : V2 = .long (Int64.ofInt a) := g2
  subst e5; subst e6
  have hl64 : Int64.ofInt b < Int64.ofInt a ↔ q_w64 b < q_w64 a := by rw [Int64.lt_iff_toInt_lt, q_w64_m, q_w64_m]
  refine row _ _ _ _ _ _ hl.1 (q_bl h5q3) (by rw [hwid _ _ _ hF2]; exact q_bl h6q4) (q_bl h7q5) (q_bl h8) (hz _ List.mem_cons_self ho ws tys H locs ls lv _ hK hP hD hS hW hE hL ⟨?_, hF2⟩ hl)
  show q_rv ρ bs ws (bif q_ile (q_w64 a) (q_w64 b) then (1, b) else (1, a)) _
  cases hc : q_ile (q_w64 a) (q_w64 b) with
  | true =>
    have := q_ile_i hc
    rw [if_neg (fun h9 => by have := hl64.mp h9; omega)]; rfl
  | false =>
    have := q_ile_n hc
    rw [if_pos (hl64.mpr this)]; rfl
theorem q_s_aj {fr lc mc ms : Nat} (hwid : ∀ ws r rR, q_F2 (q_rv ρ bs ws) r rR → (rR.map fun v => v.category).sum = q_wid r)
    (row : ∀ H locs ls r a, ls.size = nL → 1 ≤ fr → (r.map fun v => v.category).sum + 13 ≤ lc → cl ≤ mc → sl ≤ ms → w H locs cl sl nx ls (.long (if 0 < a then a else -a) :: r) → w H locs cl sl pc ls (.long a :: r))
    (h : q_oAJ fr lc mc ms nx lo st hp iv cl sl = some z) (hz : ∀ c ∈ z.1, q_G w cl9 nL ρ bs base D ws0 s c) : q_G w cl9 nL ρ bs base D ws0 s (pc, lo, st, hp, iv, cl, sl) := by
  intro ho ws tys H locs ls lv sR hK hP hD hS hW hE hL hF hl
  obtain ⟨q, h1, h⟩ := q_bd_i h
  obtain ⟨h3, h⟩ := q_if_i h
  obtain ⟨h3q1, h5⟩ := q_and_i h3
  obtain ⟨h5q3, h6⟩ := q_and_i h5
  obtain ⟨h6q4, h7⟩ := q_and_i h6
  obtain ⟨h7q5, h8⟩ := q_and_i h7
  cases q_so h
  have e := q_pop_i h1
  rw [e] at hF
  obtain ⟨V, r, rfl, g1, hF1⟩ := q_F2_c hF
  obtain ⟨⟨t, b⟩, q9⟩ := q
  have e3 : t = 1 := q_bq h3q1
  subst e3
  have e5 : V = .long (Int64.ofInt b) := g1
  subst e5
  have h0 : (0 : Int64) < Int64.ofInt b ↔ 0 < q_w64 b := by rw [Int64.lt_iff_toInt_lt, q_w64_m]; rfl
  refine row _ _ _ _ _ hl.1 (q_bl h5q3) (by rw [hwid _ _ _ hF1]; exact q_bl h6q4) (q_bl h7q5) (q_bl h8) (hz _ List.mem_cons_self ho ws tys H locs ls lv _ hK hP hD hS hW hE hL ⟨?_, hF1⟩ hl)
  show Value.long _ = .long (Int64.ofInt (bif q_ile (q_w64 b) 0 then q_w64 (Int.neg b) else b))
  cases hc : q_ile (q_w64 b) 0 with
  | true =>
    have := q_ile_i hc
    rw [if_neg (fun h9 => by have := h0.mp h9; omega)]
    show Value.long (-Int64.ofInt b) = .long (Int64.ofInt (q_w64 (-b)))
    rw [q_o64, Int64.ofInt_neg]
  | false =>
    have := q_ile_n hc
    rw [if_pos (h0.mpr this)]; rfl
theorem q_s_mf {fr lc mc ms : Nat} (hwid : ∀ ws r rR, q_F2 (q_rv ρ bs ws) r rR → (rR.map fun v => v.category).sum = q_wid r)
    (row : ∀ H locs ls r a b, q_n32 a = true → q_n32 b = true → va_S (q_A base) s.heap H locs → ls.size = nL → 5 ≤ fr → (r.map fun v => v.category).sum + 150 ≤ lc → cl ≤ mc → sl ≤ ms → w H locs cl sl nx ls (.float (q_fmx a b) :: r) → w H locs cl sl pc ls (.float b :: .float a :: r))
    (h : q_oMF fr lc mc ms nx lo st hp iv cl sl = some z) (hz : ∀ c ∈ z.1, q_G w cl9 nL ρ bs base D ws0 s c) : q_G w cl9 nL ρ bs base D ws0 s (pc, lo, st, hp, iv, cl, sl) := by
  intro ho ws tys H locs ls lv sR hK hP hD hS hW hE hL hF hl
  obtain ⟨q, h1, h⟩ := q_bd_i h
  obtain ⟨q2, h2, h⟩ := q_bd_i h
  obtain ⟨h3, h⟩ := q_if_i h
  obtain ⟨h3q1, h4⟩ := q_and_i h3
  obtain ⟨h4q2, h5⟩ := q_and_i h4
  obtain ⟨h5q3, h6⟩ := q_and_i h5
  obtain ⟨h6q4, h7⟩ := q_and_i h6
  obtain ⟨h7q5, h8⟩ := q_and_i h7
  obtain ⟨hn, h⟩ := q_if_i h
  obtain ⟨hn1, hn2⟩ := q_and_i hn
  cases q_so h
  have e := q_pop_i h1
  have e2 := q_pop_i h2
  rw [e, e2] at hF
  obtain ⟨V, r, rfl, g1, hF1⟩ := q_F2_c hF
  obtain ⟨V2, r2, rfl, g2, hF2⟩ := q_F2_c hF1
  obtain ⟨⟨t, b⟩, q9⟩ := q
  obtain ⟨⟨u, a⟩, q8⟩ := q2
  have e3 : t = 4 := q_bq h3q1
  have e4 : u = 4 := q_bq h4q2
  subst e3; subst e4
  have e5 : V = .float (UInt32.ofNat b.toNat) := g1
  have e6 : V2 = .float (UInt32.ofNat a.toNat) := g2
  subst e5; subst e6
  exact row _ _ _ _ _ _ hn1 hn2 hS hl.1 (q_bl h5q3) (by rw [hwid _ _ _ hF2]; exact q_bl h6q4) (q_bl h7q5) (q_bl h8) (hz _ List.mem_cons_self ho ws tys H locs ls lv _ hK hP hD hS hW hE hL ⟨(by show Value.float _ = .float (UInt32.ofNat (Int.ofNat _).toNat); rw [q_u32]), hF2⟩ hl)
theorem q_s_oneS {v : q_V} {V : Value} (hV : ∀ ws, q_rv ρ bs ws v V) (row : ∀ H locs ls r, va_S (q_A base) s.heap H locs → w H locs cl sl nx ls (V :: r) → w H locs cl sl pc ls r)
    (h : q_one v nx lo st hp iv cl sl = some z) (hz : ∀ c ∈ z.1, q_G w cl9 nL ρ bs base D ws0 s c) : q_G w cl9 nL ρ bs base D ws0 s (pc, lo, st, hp, iv, cl, sl) := by
  intro ho ws tys H locs ls lv sR hK hP hD hS hW hE hL hF hl
  cases q_so h
  exact row _ _ _ _ hS (hz _ List.mem_cons_self ho ws tys H locs ls lv (V :: sR) hK hP hD hS hW hE hL ⟨hV ws, hF⟩ hl)
theorem q_s_sl {fr lc mc ms : Nat} (hwid : ∀ ws r rR, q_F2 (q_rv ρ bs ws) r rR → (rR.map fun v => v.category).sum = q_wid r)
    (row : ∀ H locs ls r (i9 : Nat), i9 < 7 → va_S (q_A base) s.heap H locs → ls.size = nL → 5 ≤ fr → (r.map fun v => v.category).sum + 150 ≤ lc → cl ≤ mc → sl ≤ ms → w H locs cl sl nx ls (.int (Int32.ofInt (Int.ofNat (q_sb i9).length)) :: r) → w H locs cl sl pc ls (.ref (bs (3 + i9)) :: r))
    (h : q_oSl fr lc mc ms nx lo st hp iv cl sl = some z) (hz : ∀ c ∈ z.1, q_G w cl9 nL ρ bs base D ws0 s c) : q_G w cl9 nL ρ bs base D ws0 s (pc, lo, st, hp, iv, cl, sl) := by
  intro ho ws tys H locs ls lv sR hK hP hD hS hW hE hL hF hl
  obtain ⟨q, h1, h⟩ := q_bd_i h
  obtain ⟨h3, h⟩ := q_if_i h
  obtain ⟨h3q1, h4⟩ := q_and_i h3
  obtain ⟨h4a, h4b⟩ := q_and_i h4
  obtain ⟨h4c, h5⟩ := q_and_i h4b
  obtain ⟨h5q3, h6⟩ := q_and_i h5
  obtain ⟨h6q4, h7⟩ := q_and_i h6
  obtain ⟨h7q5, h8⟩ := q_and_i h7
  cases q_so h
  have e := q_pop_i h1
  rw [e] at hF
  obtain ⟨V, r, rfl, g1, hF1⟩ := q_F2_c hF
  obtain ⟨⟨t, b⟩, q9⟩ := q
  have e3 : t = 9 := q_bq h3q1
  subst e3
  have e5 : V = .ref (bs b.toNat) := g1
  have h43 : 3 ≤ b.toNat := q_bl h4a
  have h49 : b.toNat ≤ 9 := q_bl h4c
  have e6 : b.toNat = 3 + q_sw b := by show _ = 3 + (b.toNat - 3); omega
  rw [e6] at e5
  subst e5
  refine row _ _ _ _ (q_sw b) (by show b.toNat - 3 < 7; omega) hS hl.1 (q_bl h5q3) (by rw [hwid _ _ _ hF1]; exact q_bl h6q4) (q_bl h7q5) (q_bl h8) (hz _ List.mem_cons_self ho ws tys H locs ls lv _ hK hP hD hS hW hE hL ⟨?_, hF1⟩ hl)
  show Value.int _ = .int (Int32.ofInt (Int.ofNat (q_len (q_sb (q_sw b)))))
  rw [q_len_g]
theorem q_wid_s {ws : va_W} : ∀ (r : List q_V) (rR : List Value), q_F2 (q_rv ρ bs ws) r rR → (rR.map fun v => v.category).sum = q_wid r
  | [], rR, h => by rw [q_F2_n h]; rfl
  | a :: r, rR, h => by
    obtain ⟨b, m, rfl, h1, h2⟩ := q_F2_c h
    have ih := q_wid_s r m h2
    have hc := q_is2_i h1
    show b.category + (m.map fun v => v.category).sum = bif q_is2 a.1 then Nat.succ (Nat.succ (q_wid r)) else Nat.succ (q_wid r)
    rw [ih, hc]
    cases q_is2 a.1
    · show 1 + q_wid r = q_wid r + 1; omega
    · show 2 + q_wid r = q_wid r + 2; omega
theorem q_s_obj {fr lc : Nat} (row : ∀ H locs ls r a, ls.size = nL → 1 ≤ fr → (r.map fun v => v.category).sum + 12 ≤ lc → w H locs cl sl nx ls r → w H locs cl sl pc ls (.ref a :: r))
    (h : q_oObj fr lc nx lo st hp iv cl sl = some z) (hz : ∀ c ∈ z.1, q_G w cl9 nL ρ bs base D ws0 s c) : q_G w cl9 nL ρ bs base D ws0 s (pc, lo, st, hp, iv, cl, sl) := by
  intro ho ws tys H locs ls lv sR hK hP hD hS hW hE hL hF hl
  obtain ⟨q, h1, h⟩ := q_bd_i h
  obtain ⟨h3, h⟩ := q_if_i h
  obtain ⟨h3q1, h4⟩ := q_and_i h3
  obtain ⟨h4q2, h5⟩ := q_and_i h4
  cases q_so h
  have e := q_pop_i h1
  rw [e] at hF
  obtain ⟨V, r, rfl, g1, hF1⟩ := q_F2_c hF
  obtain ⟨a, rfl⟩ := q_isR_i (v := q.1) (by unfold q_isR; rw [h3q1]; rfl) g1
  exact row _ _ _ _ a hl.1 (q_bl h4q2) (by rw [q_wid_s _ _ hF1]; exact q_bl h5) (hz _ List.mem_cons_self ho ws tys H locs ls lv _ hK hP hD hS hW hE hL hF1 hl)
end q_sec
end -- [07.sound]
section -- [08.cells]
/-! Part 08: the instructions that read and write cells. Printed in part by wip/tools/gen08.py. -/
theorem q_enum_s {ρ : Nat → Int} {bs : Nat → Nat} {ws : va_W} {iv : q_I} {a : q_V} {l : List (Int × q_I)} {V : Value} (hr : q_rg ρ) (ho : q_ok ρ iv) (h : q_enum iv a = some l) (hv : q_rv ρ bs ws a V) : ∃ x : Int32, V = .int x ∧ ∃ q ∈ l, q_ok ρ q.2 ∧ x.toInt = q.1 := by
  obtain ⟨t, v⟩ := a
  unfold q_enum at h
  dsimp only at h
  cases hb : Nat.beq t 0 with
  | true =>
    rw [hb] at h
    have e : t = 0 := q_bq hb
    subst e
    cases q_so h
    exact ⟨_, hv, _, List.mem_cons_self, ho, q_w32_m v⟩
  | false =>
    rw [hb] at h
    cases hb2 : Nat.beq t 6 with
    | false => rw [hb2] at h; cases h
    | true =>
      rw [hb2] at h
      have e : t = 6 := q_bq hb2
      subst e
      obtain ⟨p, h1, h⟩ := q_bd_i h
      obtain ⟨h2, h⟩ := q_if_i h
      cases q_so h
      obtain ⟨g1, g2⟩ := ho _ _ h1
      have key : ∀ n : Nat, ∀ m : Nat, m < n → (Int.add p.1 (Int.ofNat m), q_up iv v.toNat (Int.add p.1 (Int.ofNat m), Int.add p.1 (Int.ofNat m))) ∈ q_span iv v.toNat p.1 n := by
        intro n
        induction n with
        | zero => intro m hm; omega
        | succ n ih =>
          intro m hm
          show _ ∈ (_ :: q_span iv v.toNat p.1 n)
          by_cases e : m = n
          · subst e; exact List.mem_cons_self
          · exact List.mem_cons_of_mem _ (ih m (by omega))
      have e0 : Int.add p.1 (Int.ofNat (ρ v.toNat - p.1).toNat) = ρ v.toNat := by
        show p.1 + ((ρ v.toNat - p.1).toNat : Int) = _
        omega
      have hm := key (Nat.succ (Int.sub p.2 p.1).toNat) (ρ v.toNat - p.1).toNat (by
        show _ < (p.2 - p.1).toNat + 1
        omega)
      rw [e0] at hm
      refine ⟨_, hv, _, hm, q_ok_up ho (Int.le_refl _) (Int.le_refl _), ?_⟩
      rw [q_w32_m, q_w32_id (hr _).1 (hr _).2]
theorem q_ix {x : Int32} {z : Int} {n : Nat} (h : x.toInt = z) (hb : (bif q_ile 0 z then Nat.ble (Nat.succ z.toNat) n else false) = true) : vp_in x n ∧ x.toNatClampNeg = z.toNat ∧ z.toNat < n := by
  obtain ⟨h1, h2⟩ := q_and_i hb
  have h1 := q_ile_i h1
  have h2 : z.toNat + 1 ≤ n := q_bl h2
  refine ⟨vp_in_iff.mpr ⟨by omega, by omega⟩, ?_, by omega⟩
  show x.toInt.toNat = _
  rw [h]
section q_hsec
variable {w : Heap → List Loc → Nat → Nat → Nat → Array Slot → List Value → Prop} {cl9 : List vw_C} {nL : Nat} {ρ : Nat → Int} {bs : Nat → Nat} {base : Nat} {D : va_G} {ws0 : va_W} {s : State}
variable {pc nx : Nat} {lo : q_L} {st : List q_V} {hp : q_H} {iv : q_I} {cl sl : Nat} {z : List q_C × List q_Lf}
theorem q_s_sc {fr lc mc ms : Nat} (hwid : ∀ ws r rR, q_F2 (q_rv ρ bs ws) r rR → (rR.map fun v => v.category).sum = q_wid r)
    (row : ∀ H locs ls r (i9 : Nat) (j9 : Int32) (c9 : Int), i9 < 7 → vp_in j9 (q_sb i9).length → (q_sb i9)[j9.toNatClampNeg]? = some c9 → va_S (q_A base) s.heap H locs → ls.size = nL → 5 ≤ fr → (r.map fun v => v.category).sum + 150 ≤ lc → cl ≤ mc → sl ≤ ms → w H locs cl sl nx ls (.int (Int32.ofInt c9) :: r) → w H locs cl sl pc ls (.int j9 :: .ref (bs (3 + i9)) :: r))
    (h : q_oSc fr lc mc ms nx lo st hp iv cl sl = some z) (hz : ∀ c ∈ z.1, q_G w cl9 nL ρ bs base D ws0 s c) : q_G w cl9 nL ρ bs base D ws0 s (pc, lo, st, hp, iv, cl, sl) := by
  intro ho ws tys H locs ls lv sR hK hP hD hS hW hE hL hF hl
  obtain ⟨q, h1, h⟩ := q_bd_i h
  obtain ⟨q2, h2, h⟩ := q_bd_i h
  obtain ⟨h3, h⟩ := q_if_i h
  obtain ⟨h3q0, h3⟩ := q_and_i h3
  obtain ⟨h3q1, h4⟩ := q_and_i h3
  obtain ⟨h4a, h4b⟩ := q_and_i h4
  obtain ⟨h4c, h5⟩ := q_and_i h4b
  obtain ⟨h5q3, h6⟩ := q_and_i h5
  obtain ⟨h6q4, h7⟩ := q_and_i h6
  obtain ⟨h7q5, h8⟩ := q_and_i h7
  obtain ⟨hin, h⟩ := q_if_i h
  obtain ⟨c, hc, h⟩ := q_bd_i h
  cases q_so h
  have e := q_pop_i h1
  have e2 := q_pop_i h2
  rw [e, e2] at hF
  obtain ⟨V, r, rfl, g1, hF1⟩ := q_F2_c hF
  obtain ⟨V2, r2, rfl, g2, hF2⟩ := q_F2_c hF1
  obtain ⟨⟨t, j⟩, q9⟩ := q
  obtain ⟨⟨u, b⟩, q8⟩ := q2
  have e3 : t = 0 := q_bq h3q0
  have e4 : u = 9 := q_bq h3q1
  subst e3; subst e4
  have e5 : V = .int (Int32.ofInt j) := g1
  have e7 : V2 = .ref (bs b.toNat) := g2
  have h43 : 3 ≤ b.toNat := q_bl h4a
  have h49 : b.toNat ≤ 9 := q_bl h4c
  have e6 : b.toNat = 3 + q_sw b := by show _ = 3 + (b.toNat - 3); omega
  rw [e6] at e7
  subst e5; subst e7
  have hin : (bif q_ile 0 (q_w32 j) then Nat.ble (Nat.succ (q_w32 j).toNat) (q_len (q_sb (q_sw b))) else false) = true := hin
  rw [q_len_g] at hin
  have hc : q_nth (q_sb (q_sw b)) (q_w32 j).toNat = some c := hc
  rw [q_nth_g] at hc
  obtain ⟨i1, i2, i3⟩ := q_ix (q_w32_m j) hin
  exact row _ _ _ _ (q_sw b) _ c (by show b.toNat - 3 < 7; omega) i1 (by rw [i2]; exact hc) hS hl.1 (q_bl h5q3) (by rw [hwid _ _ _ hF2]; exact q_bl h6q4) (q_bl h7q5) (q_bl h8) (hz _ List.mem_cons_self ho ws tys H locs ls lv _ hK hP hD hS hW hE hL ⟨rfl, hF2⟩ hl)
theorem q_s_get {x y : Nat} (row : ∀ (ws : va_W) (tys : List (ClassId × FieldType)) (H : Heap) (locs : List Loc) (ls : Array Slot) (r : List Value) (k a : Nat) (fs : List Value) (V : Value), va_K D cl9 tys s → va_P D cl9 ws H → ws[k]? = some (a, .inr (x, fs)) → fs[y]? = some V → w H locs cl sl nx ls (V :: r) → w H locs cl sl pc ls (.ref a :: r))
    (h : q_oGet x y nx lo st hp iv cl sl = some z) (hz : ∀ c ∈ z.1, q_G w cl9 nL ρ bs base D ws0 s c) : q_G w cl9 nL ρ bs base D ws0 s (pc, lo, st, hp, iv, cl, sl) := by
  intro ho ws tys H locs ls lv sR hK hP hD hS hW hE hL hF hl
  obtain ⟨q, h1, h⟩ := q_bd_i h
  obtain ⟨c, h2, h⟩ := q_bd_i h
  obtain ⟨h3, h⟩ := q_if_i h
  obtain ⟨h4, h5⟩ := q_and_i h3
  obtain ⟨a, h6, h⟩ := q_bd_i h
  cases q_so h
  have e := q_pop_i h1
  rw [e] at hF
  obtain ⟨V, r, rfl, g1, hF1⟩ := q_F2_c hF
  obtain ⟨b, e9, k1, rfl, k3⟩ := q_at_i hW h2 g1
  obtain ⟨kd, n, fs, ar⟩ := c
  have e3 : kd = 0 := q_bq h4
  have e4 : n = x := q_bq h5
  subst e3; subst e4
  obtain ⟨fsR, rfl, hf⟩ := k3
  rw [q_nth_g] at h6
  obtain ⟨V, hv1, hv2⟩ := q_F2_g hf _ _ h6
  exact row ws tys _ _ _ _ _ b fsR V hK hP k1 hv1 (hz _ List.mem_cons_self ho ws tys H locs ls lv _ hK hP hD hS hW hE hL ⟨q_conc_rv ho hv2, hF1⟩ hl)
theorem q_s_put {x y t : Nat} {S : Value → Prop} (hfit : ∀ ws v V, q_fit t v = true → q_rv ρ bs ws v V → S V)
    (row : ∀ (ws : va_W) (tys : List (ClassId × FieldType)) (H : Heap) (locs : List Loc) (ls : Array Slot) (r : List Value) (k a : Nat) (fs : List Value) (V : Value), va_K D cl9 tys s → va_P D cl9 ws H → va_D (q_A base) ws → va_S (q_A base) s.heap H locs → ws[k]? = some (a, .inr (x, fs)) → y < fs.length → S V →
      (∀ H1 locs1, va_P D cl9 (ws.set k (a, .inr (x, fs.set y V))) H1 → va_D (q_A base) (ws.set k (a, .inr (x, fs.set y V))) → va_S (q_A base) s.heap H1 locs1 → w H1 locs1 cl sl nx ls r) → w H locs cl sl pc ls (V :: .ref a :: r))
    (h : q_oPut x y t nx lo st hp iv cl sl = some z) (hz : ∀ c ∈ z.1, q_G w cl9 nL ρ bs base D ws0 s c) : q_G w cl9 nL ρ bs base D ws0 s (pc, lo, st, hp, iv, cl, sl) := by
  intro ho ws tys H locs ls lv sR hK hP hD hS hW hE hL hF hl
  obtain ⟨q, h1, h⟩ := q_bd_i h
  obtain ⟨q2, h2, h⟩ := q_bd_i h
  obtain ⟨c, h3, h⟩ := q_bd_i h
  obtain ⟨h4, h⟩ := q_if_i h
  obtain ⟨h5, h6⟩ := q_and_i h4
  obtain ⟨h7, h8⟩ := q_and_i h6
  obtain ⟨h9, h10⟩ := q_and_i h8
  cases q_so h
  have e := q_pop_i h1
  have e2 := q_pop_i h2
  rw [e, e2] at hF
  obtain ⟨V, r, rfl, g1, hF1⟩ := q_F2_c hF
  obtain ⟨V2, r2, rfl, g2, hF2⟩ := q_F2_c hF1
  obtain ⟨b, e9, k1, rfl, k3⟩ := q_at_i hW h3 g2
  obtain ⟨kd, n, fs, ar⟩ := c
  have e3 : kd = 0 := q_bq h5
  have e4 : n = x := q_bq h7
  subst e3; subst e4
  obtain ⟨fsR, rfl, hf⟩ := k3
  have hlen : y < fsR.length := by
    have := q_bl h10
    rw [q_len_g, q_F2_l hf] at this
    exact this
  refine row ws tys _ _ _ _ _ b fsR V hK hP hD hS k1 hlen (hfit ws _ V h9 g1) (fun H1 locs1 hP1 hD1 hS1 => ?_)
  have hex : q_Ex ws (ws.set q2.1.2.toNat (b, .inr (n, fsR.set y V))) := q_Ex.st k1
  refine hz _ List.mem_cons_self ho _ tys H1 locs1 ls lv _ hK hP1 hD1 hS1 (hW.put k1 ⟨_, rfl, ?_⟩) (hE.tr hex) (q_F2_m (fun a b h => ⟨h.1, h.2.ex hex⟩) hL) (q_F2_m (fun a b h => h.ex hex) hF2) hl
  show q_F2 _ (q_up fs y q.1) _
  rw [q_up_g]
  exact q_F2_s (q_F2_m (fun a b h => h.ex hex) hf) y _ _ (g1.ex hex)
theorem q_s_new {x mc ms : Nat} {fs : List q_V} {fsR : List Value} (hfs : ∀ ws, q_F2 (q_rv ρ bs ws) fs fsR)
    (row : ∀ (ws : va_W) (tys : List (ClassId × FieldType)) (H : Heap) (locs : List Loc) (ls : Array Slot) (r : List Value), va_K D cl9 tys s → va_P D cl9 ws H → va_D (q_A base) ws → va_S (q_A base) s.heap H locs → cl + 1 ≤ mc → sl + fs.length ≤ ms →
      (∀ q H1, va_P D cl9 (ws ++ [(q, .inr (x, fsR))]) H1 → va_D (q_A base) (ws ++ [(q, .inr (x, fsR))]) → va_S (q_A base) s.heap H1 locs → w H1 locs (cl + 1) (sl + fs.length) nx ls (.ref q :: r)) → w H locs cl sl pc ls r)
    (h : q_oNew x fs mc ms nx lo st hp iv cl sl = some z) (hz : ∀ c ∈ z.1, q_G w cl9 nL ρ bs base D ws0 s c) : q_G w cl9 nL ρ bs base D ws0 s (pc, lo, st, hp, iv, cl, sl) := by
  intro ho ws tys H locs ls lv sR hK hP hD hS hW hE hL hF hl
  obtain ⟨h1, h⟩ := q_if_i h
  obtain ⟨h2, h3⟩ := q_and_i h1
  obtain ⟨h4, h5⟩ := q_and_i h3
  cases q_so h
  have h4' : sl + q_len fs ≤ ms := q_bl h4
  rw [q_len_g] at h4'
  refine row ws tys _ _ _ _ hK hP hD hS (q_bl h2) h4' (fun q H1 hP1 hD1 hS1 => ?_)
  have hex : q_Ex ws (ws ++ [(q, .inr (x, fsR))]) := q_Ex.pu ws _
  have hm := hz _ List.mem_cons_self ho (ws ++ [(q, .inr (x, fsR))]) tys H1 locs ls lv (.ref q :: sR) hK hP1 hD1 hS1 (hW.new (q_bl h5) (fun _ _ h => h) ⟨_, rfl, hfs _⟩) (hE.tr hex) (q_F2_m (fun a b h => ⟨h.1, h.2.ex hex⟩) hL) ⟨⟨(q, .inr (x, fsR)), ?_, rfl⟩, q_F2_m (fun a b h => h.ex hex) hF⟩ hl
  · have e : Nat.add sl (q_len fs) = sl + fs.length := by rw [q_len_g]; rfl
    rw [← e]
    exact hm
  · show (ws ++ [(q, _)])[(Int.ofNat hp.1).toNat]? = _
    rw [show (Int.ofNat hp.1).toNat = ws.length from hW.1.symm, List.getElem?_append_right (Nat.le_refl _), Nat.sub_self]
    rfl
theorem q_s_nwa {k mc ms : Nat} {v0 : q_V} {ty : FieldType} {c0 : Nat → va_E → Prop} (hrc : ∀ (ws : va_W) (tys : List (ClassId × FieldType)) (N : Nat) (e : va_E) (t : Nat), N ≤ 2000 → c0 N e → (∀ cA x, e = .inl (cA, x) → tys[t]? = some (cA, ty)) → q_rc ρ bs ws tys (k, N, [], q_mk v0 11) e)
    (row : ∀ (ws : va_W) (tys : List (ClassId × FieldType)) (H : Heap) (locs : List Loc) (ls : Array Slot) (r : List Value) (n : Int32), va_K D cl9 tys s → va_P D cl9 ws H → va_D (q_A base) ws → va_S (q_A base) s.heap H locs → 0 ≤ n.toInt → n.toInt ≤ 2000 → cl + 1 ≤ mc → sl + n.toInt.toNat ≤ ms →
      (∀ q cA a0 H1, c0 n.toInt.toNat (.inl (cA, a0)) → va_K D cl9 (tys ++ [(cA, ty)]) s → va_P D cl9 (ws ++ [(q, .inl (cA, a0))]) H1 → va_D (q_A base) (ws ++ [(q, .inl (cA, a0))]) → va_S (q_A base) s.heap H1 locs → w H1 locs (cl + 1) (sl + n.toInt.toNat) nx ls (.ref q :: r)) → w H locs cl sl pc ls (.int n :: r))
    (h : q_oNwa k v0 mc ms nx lo st hp iv cl sl = some z) (hz : ∀ c ∈ z.1, q_G w cl9 nL ρ bs base D ws0 s c) : q_G w cl9 nL ρ bs base D ws0 s (pc, lo, st, hp, iv, cl, sl) := by
  intro ho ws tys H locs ls lv sR hK hP hD hS hW hE hL hF hl
  obtain ⟨q, h1, h⟩ := q_bd_i h
  obtain ⟨h2, h⟩ := q_if_i h
  obtain ⟨h3, h4⟩ := q_and_i h2
  obtain ⟨h5, h6⟩ := q_and_i h4
  obtain ⟨h7, h8⟩ := q_and_i h6
  obtain ⟨h9, h10⟩ := q_and_i h8
  obtain ⟨h11, h12⟩ := q_and_i h10
  cases q_so h
  have e := q_pop_i h1
  rw [e] at hF
  obtain ⟨V, r, rfl, g1, hF1⟩ := q_F2_c hF
  obtain ⟨⟨t, b⟩, q9⟩ := q
  have e3 : t = 0 := q_bq h3
  subst e3
  have e5 : V = .int (Int32.ofInt b) := g1
  subst e5
  have hi5 := q_ile_i h5
  have hi7 := q_ile_i h7
  have hi11 : sl + (q_w32 b).toNat ≤ ms := q_bl h11
  dsimp only at hi5 hi7
  refine row ws tys _ _ _ _ (Int32.ofInt b) hK hP hD hS (by rw [q_w32_m]; exact hi5) (by rw [q_w32_m]; exact hi7) (q_bl h9) (by rw [q_w32_m]; exact hi11) (fun q cA a0 H1 hc0 hK1 hP1 hD1 hS1 => ?_)
  rw [q_w32_m] at hc0 ⊢
  have hex : q_Ex ws (ws ++ [(q, .inl (cA, a0))]) := q_Ex.pu ws _
  have hty : q_Et tys (tys ++ [(cA, ty)]) := fun t x hx => by
    have hl := (List.getElem?_eq_some_iff.mp hx).1
    rw [List.getElem?_append_left hl]; exact hx
  refine hz _ List.mem_cons_self ho (ws ++ [(q, .inl (cA, a0))]) (tys ++ [(cA, ty)]) H1 locs ls lv (.ref q :: r) hK1 hP1 hD1 hS1 (hW.new (q_bl h12) hty (hrc _ _ _ _ tys.length (by dsimp only; omega) hc0 (fun cB x hx => ?_))) (hE.tr hex) (q_F2_m (fun a b h => ⟨h.1, h.2.ex hex⟩) hL) ⟨⟨(q, .inl (cA, a0)), ?_, rfl⟩, q_F2_m (fun a b h => h.ex hex) hF1⟩ hl
  · have hx2 := Sum.inl.inj hx
    rw [← (Prod.mk.inj hx2).1, List.getElem?_append_right (Nat.le_refl _), Nat.sub_self]
    rfl
  · show (ws ++ [(q, _)])[(Int.ofNat hp.1).toNat]? = _
    rw [show (Int.ofNat hp.1).toNat = ws.length from hW.1.symm, List.getElem?_append_right (Nat.le_refl _), Nat.sub_self]
    rfl
theorem q_s_len {sL : Nat} (rowS : ∀ H locs ls r (m9 : Nat), m9 ≤ 2 → va_S (q_A base) s.heap H locs → w H locs cl sl nx ls (.int (Int32.ofInt (Int.ofNat (q_ln sL m9))) :: r) → w H locs cl sl pc ls (.ref (bs m9) :: r))
    (row : ∀ (ws : va_W) (tys : List (ClassId × FieldType)) (H : Heap) (locs : List Loc) (ls : Array Slot) (r : List Value) (k a : Nat) (cA : ClassId) (x : vp_A) (t : Nat) (ty : FieldType), va_K D cl9 tys s → va_P D cl9 ws H → ws[k]? = some (a, .inl (cA, x)) → tys[t]? = some (cA, ty) → w H locs cl sl nx ls (.int (Int32.ofInt (Int.ofNat x.1)) :: r) → w H locs cl sl pc ls (.ref a :: r))
    (h : q_oLen sL nx lo st hp iv cl sl = some z) (hz : ∀ c ∈ z.1, q_G w cl9 nL ρ bs base D ws0 s c) : q_G w cl9 nL ρ bs base D ws0 s (pc, lo, st, hp, iv, cl, sl) := by
  intro ho ws tys H locs ls lv sR hK hP hD hS hW hE hL hF hl
  obtain ⟨q, h1, h⟩ := q_bd_i h
  have e := q_pop_i h1
  rw [e] at hF
  obtain ⟨V, r, rfl, g1, hF1⟩ := q_F2_c hF
  cases hb : Nat.beq q.1.1 9 with
  | true =>
    rw [hb] at h
    obtain ⟨h2m, h⟩ := q_if_i h
    cases q_so h
    obtain ⟨⟨t, b⟩, q9⟩ := q
    have e3 : t = 9 := q_bq hb
    subst e3
    have e5 : V = .ref (bs b.toNat) := g1
    subst e5
    exact rowS _ _ _ _ _ (q_bl h2m) hS (hz _ List.mem_cons_self ho ws tys H locs ls lv _ hK hP hD hS hW hE hL ⟨rfl, hF1⟩ hl)
  | false =>
    rw [hb] at h
    obtain ⟨c, h2, h⟩ := q_bd_i h
    obtain ⟨h3, h⟩ := q_if_i h
    cases q_so h
    obtain ⟨b, e9, k1, rfl, k3⟩ := q_at_i hW h2 g1
    obtain ⟨kd, n, fs, ar⟩ := c
    obtain ⟨h3a, h3b⟩ := q_and_i h3
    have h33 : 1 ≤ kd ∧ kd ≤ 5 := ⟨q_bl h3a, q_bl h3b⟩
    clear h3 h3a h3b
    match kd, k3, h33 with
    | 1, k3, _ =>
      obtain ⟨-, cA, t, f, rfl, ht, -⟩ := k3
      exact row ws tys _ _ _ _ _ _ cA _ t _ hK hP k1 ht (hz _ List.mem_cons_self ho ws tys H locs ls lv _ hK hP hD hS hW hE hL ⟨rfl, hF1⟩ hl)
    | 2, k3, _ =>
      obtain ⟨-, cA, t, f, rfl, ht, -⟩ := k3
      exact row ws tys _ _ _ _ _ _ cA _ t _ hK hP k1 ht (hz _ List.mem_cons_self ho ws tys H locs ls lv _ hK hP hD hS hW hE hL ⟨rfl, hF1⟩ hl)
    | 3, k3, _ =>
      obtain ⟨-, cA, t, f, rfl, ht, -⟩ := k3
      exact row ws tys _ _ _ _ _ _ cA _ t _ hK hP k1 ht (hz _ List.mem_cons_self ho ws tys H locs ls lv _ hK hP hD hS hW hE hL ⟨rfl, hF1⟩ hl)
    | 4, k3, _ =>
      obtain ⟨-, cA, t, f, rfl, ht, -⟩ := k3
      exact row ws tys _ _ _ _ _ _ cA _ t _ hK hP k1 ht (hz _ List.mem_cons_self ho ws tys H locs ls lv _ hK hP hD hS hW hE hL ⟨rfl, hF1⟩ hl)
    | 5, k3, _ =>
      obtain ⟨-, cA, t, f, rfl, ht, -⟩ := k3
      exact row ws tys _ _ _ _ _ _ cA _ t _ hK hP k1 ht (hz _ List.mem_cons_self ho ws tys H locs ls lv _ hK hP hD hS hW hE hL ⟨rfl, hF1⟩ hl)
    | kd + 6, k3, h33 => exact absurd h33.2 (by omega)
theorem q_s_ald1 {sL : Nat} (hr : q_rg ρ) (rowS : ∀ H locs ls r (i : Int32) (m9 : Nat), m9 ≤ 2 → va_S (q_A base) s.heap H locs → vp_in i (q_ln sL m9) → w H locs cl sl nx ls (.int (Int32.ofInt (bif Nat.beq m9 0 then ρ i.toNatClampNeg else q_lg m9 i.toNatClampNeg)) :: r) → w H locs cl sl pc ls (.int i :: .ref (bs m9) :: r))
    (row : ∀ (ws : va_W) (tys : List (ClassId × FieldType)) (H : Heap) (locs : List Loc) (ls : Array Slot) (r : List Value) (k a : Nat) (cA : ClassId) (n t : Nat) (f : Nat → Int32) (i : Int32), va_K D cl9 tys s → va_P D cl9 ws H → ws[k]? = some (a, .inl (cA, n, .inl f)) → tys[t]? = some (cA, .int) → vp_in i n → w H locs cl sl nx ls (.int (f i.toNatClampNeg) :: r) → w H locs cl sl pc ls (.int i :: .ref a :: r))
    (h : q_oAld 1 sL nx lo st hp iv cl sl = some z) (hz : ∀ c ∈ z.1, q_G w cl9 nL ρ bs base D ws0 s c) : q_G w cl9 nL ρ bs base D ws0 s (pc, lo, st, hp, iv, cl, sl) := by
  intro ho ws tys H locs ls lv sR hK hP hD hS hW hE hL hF hl
  obtain ⟨q, h1, h⟩ := q_bd_i h
  obtain ⟨q2, h2, h⟩ := q_bd_i h
  have e := q_pop_i h1
  have e2 := q_pop_i h2
  rw [e, e2] at hF
  obtain ⟨V, r, rfl, g1, hF1⟩ := q_F2_c hF
  obtain ⟨V2, r2, rfl, g2, hF2⟩ := q_F2_c hF1
  cases hb : Nat.beq q2.1.1 9 with
  | true =>
    rw [hb] at h
    obtain ⟨h3, h⟩ := q_if_i h
    obtain ⟨h2m, h3⟩ := q_and_i h3
    obtain ⟨-, h4⟩ := q_and_i h3
    obtain ⟨h5, h6⟩ := q_and_i h4
    cases q_so h
    obtain ⟨⟨t, b⟩, q9⟩ := q
    obtain ⟨⟨u, a⟩, q8⟩ := q2
    have e3 : u = 9 := q_bq hb
    have e4 : t = 0 := q_bq h5
    subst e3; subst e4
    have e5 : V = .int (Int32.ofInt b) := g1
    have e6 : V2 = .ref (bs a.toNat) := g2
    subst e5; subst e6
    obtain ⟨i1, i2, i3⟩ := q_ix (q_w32_m b) h6
    refine rowS _ _ _ _ _ a.toNat (q_bl h2m) hS i1 (hz _ List.mem_cons_self ho ws tys H locs ls lv _ hK hP hD hS hW hE hL ⟨?_, hF2⟩ hl)
    show q_rv ρ bs ws (bif Nat.beq a.toNat 0 then q_conc iv (6, q_w32 b) else (0, q_lg a.toNat (q_w32 b).toNat)) _
    cases Nat.beq a.toNat 0 with
    | true =>
      have h66 : q_rv ρ bs ws (6, q_w32 b) (.int (Int32.ofInt (ρ (Int32.ofInt b).toNatClampNeg))) := by
        show Value.int _ = .int (Int32.ofInt (ρ (q_w32 b).toNat))
        rw [i2]
      exact q_conc_rv ho h66
    | false => show Value.int _ = .int (Int32.ofInt _); rw [i2]; rfl
  | false =>
    rw [hb] at h
    obtain ⟨c, h3, h⟩ := q_bd_i h
    obtain ⟨h4, h⟩ := q_if_i h
    obtain ⟨l, h5, h⟩ := q_bd_i h
    obtain ⟨cs, h6, h⟩ := q_bd_i h
    cases q_so h
    obtain ⟨b, e9, k1, rfl, k3⟩ := q_at_i hW h3 g2
    obtain ⟨kd, n, fs, ar⟩ := c
    have e3 : kd = 1 := q_bq h4
    subst e3
    obtain ⟨hn, cA, t, f, rfl, ht, hel⟩ := k3
    obtain ⟨x, rfl, q3, h7, h8, h9⟩ := q_enum_s hr ho h5 g1
    obtain ⟨c1, h10, h11⟩ := q_all_i h6 q3 h7
    obtain ⟨h12, h13⟩ := q_if_i h11
    obtain ⟨i1, i2, i3⟩ := q_ix h9 h12
    have hm := hz c1 h10
    cases q_so h13
    refine row ws tys _ _ _ _ _ _ cA n t f x hK hP k1 ht i1 (hm h8 ws tys H locs ls lv _ hK hP hD hS hW hE hL ⟨q_conc_rv h8 ?_, hF2⟩ hl)
    rw [i2]
    exact hel _ i3
theorem q_s_ald2 {sL : Nat} (hr : q_rg ρ) (rowS : True)
    (row : ∀ (ws : va_W) (tys : List (ClassId × FieldType)) (H : Heap) (locs : List Loc) (ls : Array Slot) (r : List Value) (k a : Nat) (cA : ClassId) (n t : Nat) (f : Nat → Int32) (i : Int32), va_K D cl9 tys s → va_P D cl9 ws H → ws[k]? = some (a, .inl (cA, n, .inl f)) → tys[t]? = some (cA, .byte) → vp_in i n → w H locs cl sl nx ls (.int (f i.toNatClampNeg) :: r) → w H locs cl sl pc ls (.int i :: .ref a :: r))
    (h : q_oAld 2 sL nx lo st hp iv cl sl = some z) (hz : ∀ c ∈ z.1, q_G w cl9 nL ρ bs base D ws0 s c) : q_G w cl9 nL ρ bs base D ws0 s (pc, lo, st, hp, iv, cl, sl) := by
  intro ho ws tys H locs ls lv sR hK hP hD hS hW hE hL hF hl
  obtain ⟨q, h1, h⟩ := q_bd_i h
  obtain ⟨q2, h2, h⟩ := q_bd_i h
  have e := q_pop_i h1
  have e2 := q_pop_i h2
  rw [e, e2] at hF
  obtain ⟨V, r, rfl, g1, hF1⟩ := q_F2_c hF
  obtain ⟨V2, r2, rfl, g2, hF2⟩ := q_F2_c hF1
  cases hb : Nat.beq q2.1.1 9 with
  | true =>
    rw [hb] at h
    obtain ⟨h3, h⟩ := q_if_i h
    obtain ⟨-, h3⟩ := q_and_i h3
    cases h3
  | false =>
    rw [hb] at h
    obtain ⟨c, h3, h⟩ := q_bd_i h
    obtain ⟨h4, h⟩ := q_if_i h
    obtain ⟨l, h5, h⟩ := q_bd_i h
    obtain ⟨cs, h6, h⟩ := q_bd_i h
    cases q_so h
    obtain ⟨b, e9, k1, rfl, k3⟩ := q_at_i hW h3 g2
    obtain ⟨kd, n, fs, ar⟩ := c
    have e3 : kd = 2 := q_bq h4
    subst e3
    obtain ⟨hn, cA, t, f, rfl, ht, hel⟩ := k3
    obtain ⟨x, rfl, q3, h7, h8, h9⟩ := q_enum_s hr ho h5 g1
    obtain ⟨c1, h10, h11⟩ := q_all_i h6 q3 h7
    obtain ⟨h12, h13⟩ := q_if_i h11
    obtain ⟨i1, i2, i3⟩ := q_ix h9 h12
    have hm := hz c1 h10
    cases q_so h13
    refine row ws tys _ _ _ _ _ _ cA n t f x hK hP k1 ht i1 (hm h8 ws tys H locs ls lv _ hK hP hD hS hW hE hL ⟨q_conc_rv h8 ?_, hF2⟩ hl)
    rw [i2]
    exact hel _ i3
theorem q_s_ald3 {sL : Nat} (hr : q_rg ρ) (rowS : True)
    (row : ∀ (ws : va_W) (tys : List (ClassId × FieldType)) (H : Heap) (locs : List Loc) (ls : Array Slot) (r : List Value) (k a : Nat) (cA : ClassId) (n t : Nat) (f : Nat → Int64) (i : Int32), va_K D cl9 tys s → va_P D cl9 ws H → ws[k]? = some (a, .inl (cA, n, .inr (.inl f))) → tys[t]? = some (cA, .long) → vp_in i n → w H locs cl sl nx ls (.long (f i.toNatClampNeg) :: r) → w H locs cl sl pc ls (.int i :: .ref a :: r))
    (h : q_oAld 3 sL nx lo st hp iv cl sl = some z) (hz : ∀ c ∈ z.1, q_G w cl9 nL ρ bs base D ws0 s c) : q_G w cl9 nL ρ bs base D ws0 s (pc, lo, st, hp, iv, cl, sl) := by
  intro ho ws tys H locs ls lv sR hK hP hD hS hW hE hL hF hl
  obtain ⟨q, h1, h⟩ := q_bd_i h
  obtain ⟨q2, h2, h⟩ := q_bd_i h
  have e := q_pop_i h1
  have e2 := q_pop_i h2
  rw [e, e2] at hF
  obtain ⟨V, r, rfl, g1, hF1⟩ := q_F2_c hF
  obtain ⟨V2, r2, rfl, g2, hF2⟩ := q_F2_c hF1
  cases hb : Nat.beq q2.1.1 9 with
  | true =>
    rw [hb] at h
    obtain ⟨h3, h⟩ := q_if_i h
    obtain ⟨-, h3⟩ := q_and_i h3
    cases h3
  | false =>
    rw [hb] at h
    obtain ⟨c, h3, h⟩ := q_bd_i h
    obtain ⟨h4, h⟩ := q_if_i h
    obtain ⟨l, h5, h⟩ := q_bd_i h
    obtain ⟨cs, h6, h⟩ := q_bd_i h
    cases q_so h
    obtain ⟨b, e9, k1, rfl, k3⟩ := q_at_i hW h3 g2
    obtain ⟨kd, n, fs, ar⟩ := c
    have e3 : kd = 3 := q_bq h4
    subst e3
    obtain ⟨hn, cA, t, f, rfl, ht, hel⟩ := k3
    obtain ⟨x, rfl, q3, h7, h8, h9⟩ := q_enum_s hr ho h5 g1
    obtain ⟨c1, h10, h11⟩ := q_all_i h6 q3 h7
    obtain ⟨h12, h13⟩ := q_if_i h11
    obtain ⟨i1, i2, i3⟩ := q_ix h9 h12
    have hm := hz c1 h10
    cases q_so h13
    refine row ws tys _ _ _ _ _ _ cA n t f x hK hP k1 ht i1 (hm h8 ws tys H locs ls lv _ hK hP hD hS hW hE hL ⟨q_conc_rv h8 ?_, hF2⟩ hl)
    rw [i2]
    exact hel _ i3
theorem q_s_ald4 {sL : Nat} (hr : q_rg ρ) (rowS : True)
    (row : ∀ (ws : va_W) (tys : List (ClassId × FieldType)) (H : Heap) (locs : List Loc) (ls : Array Slot) (r : List Value) (k a : Nat) (cA : ClassId) (n t : Nat) (f : Nat → UInt64) (i : Int32), va_K D cl9 tys s → va_P D cl9 ws H → ws[k]? = some (a, .inl (cA, n, .inr (.inr (.inr (.inl f))))) → tys[t]? = some (cA, .double) → vp_in i n → w H locs cl sl nx ls (.double (f i.toNatClampNeg) :: r) → w H locs cl sl pc ls (.int i :: .ref a :: r))
    (h : q_oAld 4 sL nx lo st hp iv cl sl = some z) (hz : ∀ c ∈ z.1, q_G w cl9 nL ρ bs base D ws0 s c) : q_G w cl9 nL ρ bs base D ws0 s (pc, lo, st, hp, iv, cl, sl) := by
  intro ho ws tys H locs ls lv sR hK hP hD hS hW hE hL hF hl
  obtain ⟨q, h1, h⟩ := q_bd_i h
  obtain ⟨q2, h2, h⟩ := q_bd_i h
  have e := q_pop_i h1
  have e2 := q_pop_i h2
  rw [e, e2] at hF
  obtain ⟨V, r, rfl, g1, hF1⟩ := q_F2_c hF
  obtain ⟨V2, r2, rfl, g2, hF2⟩ := q_F2_c hF1
  cases hb : Nat.beq q2.1.1 9 with
  | true =>
    rw [hb] at h
    obtain ⟨h3, h⟩ := q_if_i h
    obtain ⟨-, h3⟩ := q_and_i h3
    cases h3
  | false =>
    rw [hb] at h
    obtain ⟨c, h3, h⟩ := q_bd_i h
    obtain ⟨h4, h⟩ := q_if_i h
    obtain ⟨l, h5, h⟩ := q_bd_i h
    obtain ⟨cs, h6, h⟩ := q_bd_i h
    cases q_so h
    obtain ⟨b, e9, k1, rfl, k3⟩ := q_at_i hW h3 g2
    obtain ⟨kd, n, fs, ar⟩ := c
    have e3 : kd = 4 := q_bq h4
    subst e3
    obtain ⟨hn, cA, t, f, rfl, ht, hel⟩ := k3
    obtain ⟨x, rfl, q3, h7, h8, h9⟩ := q_enum_s hr ho h5 g1
    obtain ⟨c1, h10, h11⟩ := q_all_i h6 q3 h7
    obtain ⟨h12, h13⟩ := q_if_i h11
    obtain ⟨i1, i2, i3⟩ := q_ix h9 h12
    have hm := hz c1 h10
    cases q_so h13
    refine row ws tys _ _ _ _ _ _ cA n t f x hK hP k1 ht i1 (hm h8 ws tys H locs ls lv _ hK hP hD hS hW hE hL ⟨q_conc_rv h8 ?_, hF2⟩ hl)
    rw [i2]
    exact hel _ i3
theorem q_s_ald5 {sL : Nat} (hr : q_rg ρ) (rowS : True)
    (row : ∀ (ws : va_W) (tys : List (ClassId × FieldType)) (H : Heap) (locs : List Loc) (ls : Array Slot) (r : List Value) (k a : Nat) (cA : ClassId) (n t : Nat) (f : Nat → Option Nat) (i : Int32), va_K D cl9 tys s → va_P D cl9 ws H → ws[k]? = some (a, .inl (cA, n, .inr (.inr (.inr (.inr f))))) → tys[t]? = some (cA, .object q_tbl) → vp_in i n → w H locs cl sl nx ls (va_rf (f i.toNatClampNeg) :: r) → w H locs cl sl pc ls (.int i :: .ref a :: r))
    (h : q_oAld 5 sL nx lo st hp iv cl sl = some z) (hz : ∀ c ∈ z.1, q_G w cl9 nL ρ bs base D ws0 s c) : q_G w cl9 nL ρ bs base D ws0 s (pc, lo, st, hp, iv, cl, sl) := by
  intro ho ws tys H locs ls lv sR hK hP hD hS hW hE hL hF hl
  obtain ⟨q, h1, h⟩ := q_bd_i h
  obtain ⟨q2, h2, h⟩ := q_bd_i h
  have e := q_pop_i h1
  have e2 := q_pop_i h2
  rw [e, e2] at hF
  obtain ⟨V, r, rfl, g1, hF1⟩ := q_F2_c hF
  obtain ⟨V2, r2, rfl, g2, hF2⟩ := q_F2_c hF1
  cases hb : Nat.beq q2.1.1 9 with
  | true =>
    rw [hb] at h
    obtain ⟨h3, h⟩ := q_if_i h
    obtain ⟨-, h3⟩ := q_and_i h3
    cases h3
  | false =>
    rw [hb] at h
    obtain ⟨c, h3, h⟩ := q_bd_i h
    obtain ⟨h4, h⟩ := q_if_i h
    obtain ⟨l, h5, h⟩ := q_bd_i h
    obtain ⟨cs, h6, h⟩ := q_bd_i h
    cases q_so h
    obtain ⟨b, e9, k1, rfl, k3⟩ := q_at_i hW h3 g2
    obtain ⟨kd, n, fs, ar⟩ := c
    have e3 : kd = 5 := q_bq h4
    subst e3
    obtain ⟨hn, cA, t, f, rfl, ht, hel⟩ := k3
    obtain ⟨x, rfl, q3, h7, h8, h9⟩ := q_enum_s hr ho h5 g1
    obtain ⟨c1, h10, h11⟩ := q_all_i h6 q3 h7
    obtain ⟨h12, h13⟩ := q_if_i h11
    obtain ⟨i1, i2, i3⟩ := q_ix h9 h12
    have hm := hz c1 h10
    cases q_so h13
    refine row ws tys _ _ _ _ _ _ cA n t f x hK hP k1 ht i1 (hm h8 ws tys H locs ls lv _ hK hP hD hS hW hE hL ⟨q_conc_rv h8 ?_, hF2⟩ hl)
    rw [i2]
    exact hel _ i3
theorem q_s_ast1 (hr : q_rg ρ)
    (row : ∀ (ws : va_W) (tys : List (ClassId × FieldType)) (H : Heap) (locs : List Loc) (ls : Array Slot) (r : List Value) (k a : Nat) (cA : ClassId) (n t : Nat) (f : Nat → Int32) (i : Int32) (x : Int32), va_K D cl9 tys s → va_P D cl9 ws H → va_D (q_A base) ws → va_S (q_A base) s.heap H locs → ws[k]? = some (a, .inl (cA, n, .inl f)) → tys[t]? = some (cA, .int) → vp_in i n →
      (∀ H1 locs1, va_P D cl9 (ws.set k (a, .inl (cA, n, .inl (upd f i.toNatClampNeg x)))) H1 → va_D (q_A base) (ws.set k (a, .inl (cA, n, .inl (upd f i.toNatClampNeg x)))) → va_S (q_A base) s.heap H1 locs1 → w H1 locs1 cl sl nx ls r) → w H locs cl sl pc ls (.int x :: .int i :: .ref a :: r))
    (h : q_oAst 1 nx lo st hp iv cl sl = some z) (hz : ∀ c ∈ z.1, q_G w cl9 nL ρ bs base D ws0 s c) : q_G w cl9 nL ρ bs base D ws0 s (pc, lo, st, hp, iv, cl, sl) := by
  intro ho ws tys H locs ls lv sR hK hP hD hS hW hE hL hF hl
  obtain ⟨v, h0, h⟩ := q_bd_i h
  obtain ⟨wv, hkp, h⟩ := q_bd_i h
  obtain ⟨q, h1, h⟩ := q_bd_i h
  obtain ⟨q2, h2, h⟩ := q_bd_i h
  obtain ⟨c, h3, h⟩ := q_bd_i h
  obtain ⟨h4, h⟩ := q_if_i h
  obtain ⟨l, h5, h⟩ := q_bd_i h
  obtain ⟨cs, h6, h⟩ := q_bd_i h
  cases q_so h
  have e0 := q_pop_i h0
  have e := q_pop_i h1
  have e2 := q_pop_i h2
  rw [e0, e, e2] at hF
  obtain ⟨X, r0, rfl, g0, hF0⟩ := q_F2_c hF
  obtain ⟨V, r, rfl, g1, hF1⟩ := q_F2_c hF0
  obtain ⟨V2, r2, rfl, g2, hF2⟩ := q_F2_c hF1
  obtain ⟨b, e9, k1, rfl, k3⟩ := q_at_i hW h3 g2
  obtain ⟨kd, n, fs, ar⟩ := c
  have e3 : kd = 1 := q_bq h4
  subst e3
  obtain ⟨hn, cA, t, f, rfl, ht, hel⟩ := k3
  obtain ⟨i, rfl, q3, h7, h8, h9⟩ := q_enum_s hr ho h5 g1
  obtain ⟨c1, h10, h11⟩ := q_all_i h6 q3 h7
  obtain ⟨h12, h13⟩ := q_if_i h11
  obtain ⟨i1, i2, i3⟩ := q_ix h9 h12
  have hm := hz c1 h10
  cases q_so h13
  obtain ⟨hk1, hk2⟩ := q_if_i (show q_if (q_isI v.1.1) (some v.1) = some wv from hkp)
  obtain ⟨x, rfl⟩ := q_isI_i hk1 g0
  cases q_so hk2
  refine row ws tys _ _ _ _ _ _ cA n t f i x hK hP hD hS k1 ht i1 (fun H1 locs1 hP1 hD1 hS1 => ?_)
  have hex : q_Ex ws (ws.set q2.1.2.toNat (b, .inl (cA, n, .inl (upd f i.toNatClampNeg x)))) := q_Ex.st k1
  refine hm h8 _ tys H1 locs1 ls lv _ hK hP1 hD1 hS1 (hW.put k1 ⟨hn, cA, t, upd f i.toNatClampNeg x, rfl, ht, fun j hj => ?_⟩) (hE.tr hex) (q_F2_m (fun a b h => ⟨h.1, h.2.ex hex⟩) hL) (q_F2_m (fun a b h => h.ex hex) hF2) hl
  show q_rv ρ bs _ (q_get 11 (q_set 11 ar q3.1.toNat _) j) _
  have hj : j < n := hj
  have hi3 : q3.1.toNat < n := i3
  have hnn : n ≤ 2000 := hn
  rw [q_gs 11 ar _ j _ (by show _ < 2048; omega) (by show _ < 2048; omega)]
  by_cases ej : j = q3.1.toNat
  · rw [if_pos ej]
    have hu : upd f i.toNatClampNeg x j = x := by unfold upd; rw [if_pos (by rw [i2]; exact ej)]
    rw [hu]
    exact g0.ex hex
  · rw [if_neg ej]
    have hu : upd f i.toNatClampNeg x j = f j := by unfold upd; rw [if_neg (by rw [i2]; exact ej)]
    rw [hu]
    exact (hel j hj).ex hex
theorem q_s_ast2 (hr : q_rg ρ)
    (row : ∀ (ws : va_W) (tys : List (ClassId × FieldType)) (H : Heap) (locs : List Loc) (ls : Array Slot) (r : List Value) (k a : Nat) (cA : ClassId) (n t : Nat) (f : Nat → Int32) (i : Int32) (x : Int32), va_K D cl9 tys s → va_P D cl9 ws H → va_D (q_A base) ws → va_S (q_A base) s.heap H locs → ws[k]? = some (a, .inl (cA, n, .inl f)) → tys[t]? = some (cA, .byte) → vp_in i n →
      (∀ H1 locs1, va_P D cl9 (ws.set k (a, .inl (cA, n, .inl (upd f i.toNatClampNeg (vp_nar .byte x))))) H1 → va_D (q_A base) (ws.set k (a, .inl (cA, n, .inl (upd f i.toNatClampNeg (vp_nar .byte x))))) → va_S (q_A base) s.heap H1 locs1 → w H1 locs1 cl sl nx ls r) → w H locs cl sl pc ls (.int x :: .int i :: .ref a :: r))
    (h : q_oAst 2 nx lo st hp iv cl sl = some z) (hz : ∀ c ∈ z.1, q_G w cl9 nL ρ bs base D ws0 s c) : q_G w cl9 nL ρ bs base D ws0 s (pc, lo, st, hp, iv, cl, sl) := by
  intro ho ws tys H locs ls lv sR hK hP hD hS hW hE hL hF hl
  obtain ⟨v, h0, h⟩ := q_bd_i h
  obtain ⟨wv, hkp, h⟩ := q_bd_i h
  obtain ⟨q, h1, h⟩ := q_bd_i h
  obtain ⟨q2, h2, h⟩ := q_bd_i h
  obtain ⟨c, h3, h⟩ := q_bd_i h
  obtain ⟨h4, h⟩ := q_if_i h
  obtain ⟨l, h5, h⟩ := q_bd_i h
  obtain ⟨cs, h6, h⟩ := q_bd_i h
  cases q_so h
  have e0 := q_pop_i h0
  have e := q_pop_i h1
  have e2 := q_pop_i h2
  rw [e0, e, e2] at hF
  obtain ⟨X, r0, rfl, g0, hF0⟩ := q_F2_c hF
  obtain ⟨V, r, rfl, g1, hF1⟩ := q_F2_c hF0
  obtain ⟨V2, r2, rfl, g2, hF2⟩ := q_F2_c hF1
  obtain ⟨b, e9, k1, rfl, k3⟩ := q_at_i hW h3 g2
  obtain ⟨kd, n, fs, ar⟩ := c
  have e3 : kd = 2 := q_bq h4
  subst e3
  obtain ⟨hn, cA, t, f, rfl, ht, hel⟩ := k3
  obtain ⟨i, rfl, q3, h7, h8, h9⟩ := q_enum_s hr ho h5 g1
  obtain ⟨c1, h10, h11⟩ := q_all_i h6 q3 h7
  obtain ⟨h12, h13⟩ := q_if_i h11
  obtain ⟨i1, i2, i3⟩ := q_ix h9 h12
  have hm := hz c1 h10
  cases q_so h13
  obtain ⟨hk1, hk2⟩ := q_if_i (show q_if (Nat.beq v.1.1 0) (some ((0, ((Int32.ofInt v.1.2).toInt8.toInt32).toInt) : q_V)) = some wv from hkp)
  obtain ⟨⟨t0, b0⟩, v9⟩ := v
  have e33 : t0 = 0 := q_bq hk1
  subst e33
  have e34 : X = .int (Int32.ofInt b0) := g0
  subst e34
  cases q_so hk2
  generalize hxx : Int32.ofInt b0 = x at *
  refine row ws tys _ _ _ _ _ _ cA n t f i x hK hP hD hS k1 ht i1 (fun H1 locs1 hP1 hD1 hS1 => ?_)
  have hex : q_Ex ws (ws.set q2.1.2.toNat (b, .inl (cA, n, .inl (upd f i.toNatClampNeg (vp_nar .byte x))))) := q_Ex.st k1
  refine hm h8 _ tys H1 locs1 ls lv _ hK hP1 hD1 hS1 (hW.put k1 ⟨hn, cA, t, upd f i.toNatClampNeg (vp_nar .byte x), rfl, ht, fun j hj => ?_⟩) (hE.tr hex) (q_F2_m (fun a b h => ⟨h.1, h.2.ex hex⟩) hL) (q_F2_m (fun a b h => h.ex hex) hF2) hl
  show q_rv ρ bs _ (q_get 11 (q_set 11 ar q3.1.toNat _) j) _
  have hj : j < n := hj
  have hi3 : q3.1.toNat < n := i3
  have hnn : n ≤ 2000 := hn
  rw [q_gs 11 ar _ j _ (by show _ < 2048; omega) (by show _ < 2048; omega)]
  by_cases ej : j = q3.1.toNat
  · rw [if_pos ej]
    have hu : upd f i.toNatClampNeg (vp_nar .byte x) j = vp_nar .byte x := by unfold upd; rw [if_pos (by rw [i2]; exact ej)]
    rw [hu, vp_nar_byte]
    show Value.int _ = .int (Int32.ofInt (Int32.toInt _))
    rw [Int32.ofInt_toInt]
  · rw [if_neg ej]
    have hu : upd f i.toNatClampNeg (vp_nar .byte x) j = f j := by unfold upd; rw [if_neg (by rw [i2]; exact ej)]
    rw [hu]
    exact (hel j hj).ex hex
theorem q_s_ast3 (hr : q_rg ρ)
    (row : ∀ (ws : va_W) (tys : List (ClassId × FieldType)) (H : Heap) (locs : List Loc) (ls : Array Slot) (r : List Value) (k a : Nat) (cA : ClassId) (n t : Nat) (f : Nat → Int64) (i : Int32) (x : Int64), va_K D cl9 tys s → va_P D cl9 ws H → va_D (q_A base) ws → va_S (q_A base) s.heap H locs → ws[k]? = some (a, .inl (cA, n, .inr (.inl f))) → tys[t]? = some (cA, .long) → vp_in i n →
      (∀ H1 locs1, va_P D cl9 (ws.set k (a, .inl (cA, n, .inr (.inl (vp_updL f i.toNatClampNeg x))))) H1 → va_D (q_A base) (ws.set k (a, .inl (cA, n, .inr (.inl (vp_updL f i.toNatClampNeg x))))) → va_S (q_A base) s.heap H1 locs1 → w H1 locs1 cl sl nx ls r) → w H locs cl sl pc ls (.long x :: .int i :: .ref a :: r))
    (h : q_oAst 3 nx lo st hp iv cl sl = some z) (hz : ∀ c ∈ z.1, q_G w cl9 nL ρ bs base D ws0 s c) : q_G w cl9 nL ρ bs base D ws0 s (pc, lo, st, hp, iv, cl, sl) := by
  intro ho ws tys H locs ls lv sR hK hP hD hS hW hE hL hF hl
  obtain ⟨v, h0, h⟩ := q_bd_i h
  obtain ⟨wv, hkp, h⟩ := q_bd_i h
  obtain ⟨q, h1, h⟩ := q_bd_i h
  obtain ⟨q2, h2, h⟩ := q_bd_i h
  obtain ⟨c, h3, h⟩ := q_bd_i h
  obtain ⟨h4, h⟩ := q_if_i h
  obtain ⟨l, h5, h⟩ := q_bd_i h
  obtain ⟨cs, h6, h⟩ := q_bd_i h
  cases q_so h
  have e0 := q_pop_i h0
  have e := q_pop_i h1
  have e2 := q_pop_i h2
  rw [e0, e, e2] at hF
  obtain ⟨X, r0, rfl, g0, hF0⟩ := q_F2_c hF
  obtain ⟨V, r, rfl, g1, hF1⟩ := q_F2_c hF0
  obtain ⟨V2, r2, rfl, g2, hF2⟩ := q_F2_c hF1
  obtain ⟨b, e9, k1, rfl, k3⟩ := q_at_i hW h3 g2
  obtain ⟨kd, n, fs, ar⟩ := c
  have e3 : kd = 3 := q_bq h4
  subst e3
  obtain ⟨hn, cA, t, f, rfl, ht, hel⟩ := k3
  obtain ⟨i, rfl, q3, h7, h8, h9⟩ := q_enum_s hr ho h5 g1
  obtain ⟨c1, h10, h11⟩ := q_all_i h6 q3 h7
  obtain ⟨h12, h13⟩ := q_if_i h11
  obtain ⟨i1, i2, i3⟩ := q_ix h9 h12
  have hm := hz c1 h10
  cases q_so h13
  obtain ⟨hk1, hk2⟩ := q_if_i (show q_if (q_isJ v.1.1) (some v.1) = some wv from hkp)
  obtain ⟨x, rfl⟩ := q_isJ_i hk1 g0
  cases q_so hk2
  refine row ws tys _ _ _ _ _ _ cA n t f i x hK hP hD hS k1 ht i1 (fun H1 locs1 hP1 hD1 hS1 => ?_)
  have hex : q_Ex ws (ws.set q2.1.2.toNat (b, .inl (cA, n, .inr (.inl (vp_updL f i.toNatClampNeg x))))) := q_Ex.st k1
  refine hm h8 _ tys H1 locs1 ls lv _ hK hP1 hD1 hS1 (hW.put k1 ⟨hn, cA, t, vp_updL f i.toNatClampNeg x, rfl, ht, fun j hj => ?_⟩) (hE.tr hex) (q_F2_m (fun a b h => ⟨h.1, h.2.ex hex⟩) hL) (q_F2_m (fun a b h => h.ex hex) hF2) hl
  show q_rv ρ bs _ (q_get 11 (q_set 11 ar q3.1.toNat _) j) _
  have hj : j < n := hj
  have hi3 : q3.1.toNat < n := i3
  have hnn : n ≤ 2000 := hn
  rw [q_gs 11 ar _ j _ (by show _ < 2048; omega) (by show _ < 2048; omega)]
  by_cases ej : j = q3.1.toNat
  · rw [if_pos ej]
    have hu : vp_updL f i.toNatClampNeg x j = x := by unfold vp_updL; rw [if_pos (by rw [i2]; exact ej)]
    rw [hu]
    exact g0.ex hex
  · rw [if_neg ej]
    have hu : vp_updL f i.toNatClampNeg x j = f j := by unfold vp_updL; rw [if_neg (by rw [i2]; exact ej)]
    rw [hu]
    exact (hel j hj).ex hex
theorem q_s_ast4 (hr : q_rg ρ)
    (row : ∀ (ws : va_W) (tys : List (ClassId × FieldType)) (H : Heap) (locs : List Loc) (ls : Array Slot) (r : List Value) (k a : Nat) (cA : ClassId) (n t : Nat) (f : Nat → UInt64) (i : Int32) (x : UInt64), va_K D cl9 tys s → va_P D cl9 ws H → va_D (q_A base) ws → va_S (q_A base) s.heap H locs → ws[k]? = some (a, .inl (cA, n, .inr (.inr (.inr (.inl f))))) → tys[t]? = some (cA, .double) → vp_in i n →
      (∀ H1 locs1, va_P D cl9 (ws.set k (a, .inl (cA, n, .inr (.inr (.inr (.inl (vf_upd f i.toNatClampNeg x))))))) H1 → va_D (q_A base) (ws.set k (a, .inl (cA, n, .inr (.inr (.inr (.inl (vf_upd f i.toNatClampNeg x))))))) → va_S (q_A base) s.heap H1 locs1 → w H1 locs1 cl sl nx ls r) → w H locs cl sl pc ls (.double x :: .int i :: .ref a :: r))
    (h : q_oAst 4 nx lo st hp iv cl sl = some z) (hz : ∀ c ∈ z.1, q_G w cl9 nL ρ bs base D ws0 s c) : q_G w cl9 nL ρ bs base D ws0 s (pc, lo, st, hp, iv, cl, sl) := by
  intro ho ws tys H locs ls lv sR hK hP hD hS hW hE hL hF hl
  obtain ⟨v, h0, h⟩ := q_bd_i h
  obtain ⟨wv, hkp, h⟩ := q_bd_i h
  obtain ⟨q, h1, h⟩ := q_bd_i h
  obtain ⟨q2, h2, h⟩ := q_bd_i h
  obtain ⟨c, h3, h⟩ := q_bd_i h
  obtain ⟨h4, h⟩ := q_if_i h
  obtain ⟨l, h5, h⟩ := q_bd_i h
  obtain ⟨cs, h6, h⟩ := q_bd_i h
  cases q_so h
  have e0 := q_pop_i h0
  have e := q_pop_i h1
  have e2 := q_pop_i h2
  rw [e0, e, e2] at hF
  obtain ⟨X, r0, rfl, g0, hF0⟩ := q_F2_c hF
  obtain ⟨V, r, rfl, g1, hF1⟩ := q_F2_c hF0
  obtain ⟨V2, r2, rfl, g2, hF2⟩ := q_F2_c hF1
  obtain ⟨b, e9, k1, rfl, k3⟩ := q_at_i hW h3 g2
  obtain ⟨kd, n, fs, ar⟩ := c
  have e3 : kd = 4 := q_bq h4
  subst e3
  obtain ⟨hn, cA, t, f, rfl, ht, hel⟩ := k3
  obtain ⟨i, rfl, q3, h7, h8, h9⟩ := q_enum_s hr ho h5 g1
  obtain ⟨c1, h10, h11⟩ := q_all_i h6 q3 h7
  obtain ⟨h12, h13⟩ := q_if_i h11
  obtain ⟨i1, i2, i3⟩ := q_ix h9 h12
  have hm := hz c1 h10
  cases q_so h13
  obtain ⟨hk1, hk2⟩ := q_if_i (show q_if (Nat.beq v.1.1 5) (some v.1) = some wv from hkp)
  obtain ⟨⟨tt, vv⟩, v9⟩ := v
  have e8 : tt = 5 := q_bq hk1
  subst e8
  have e7 : X = .double (UInt64.ofNat vv.toNat) := g0
  obtain ⟨x, hx⟩ : ∃ x, x = UInt64.ofNat vv.toNat := ⟨_, rfl⟩
  rw [← hx] at e7
  subst e7
  cases q_so hk2
  refine row ws tys _ _ _ _ _ _ cA n t f i x hK hP hD hS k1 ht i1 (fun H1 locs1 hP1 hD1 hS1 => ?_)
  have hex : q_Ex ws (ws.set q2.1.2.toNat (b, .inl (cA, n, .inr (.inr (.inr (.inl (vf_upd f i.toNatClampNeg x))))))) := q_Ex.st k1
  refine hm h8 _ tys H1 locs1 ls lv _ hK hP1 hD1 hS1 (hW.put k1 ⟨hn, cA, t, vf_upd f i.toNatClampNeg x, rfl, ht, fun j hj => ?_⟩) (hE.tr hex) (q_F2_m (fun a b h => ⟨h.1, h.2.ex hex⟩) hL) (q_F2_m (fun a b h => h.ex hex) hF2) hl
  show q_rv ρ bs _ (q_get 11 (q_set 11 ar q3.1.toNat _) j) _
  have hj : j < n := hj
  have hi3 : q3.1.toNat < n := i3
  have hnn : n ≤ 2000 := hn
  rw [q_gs 11 ar _ j _ (by show _ < 2048; omega) (by show _ < 2048; omega)]
  by_cases ej : j = q3.1.toNat
  · rw [if_pos ej]
    have hu : vf_upd f i.toNatClampNeg x j = x := by unfold vf_upd; rw [if_pos (by rw [i2]; exact ej)]
    rw [hu]
    exact g0.ex hex
  · rw [if_neg ej]
    have hu : vf_upd f i.toNatClampNeg x j = f j := by unfold vf_upd; rw [if_neg (by rw [i2]; exact ej)]
    rw [hu]
    exact (hel j hj).ex hex
theorem q_s_asr {cc9 : Nat}
    (row : ∀ (ws : va_W) (tys : List (ClassId × FieldType)) (H : Heap) (locs : List Loc) (ls : Array Slot) (r : List Value) (k kv a v : Nat) (vs : List Value) (cA : ClassId) (n t : Nat) (f : Nat → Option Nat) (i : Int32), va_K D cl9 tys s → va_P D cl9 ws H → va_D (q_A base) ws → va_S (q_A base) s.heap H locs → ws[k]? = some (a, .inl (cA, n, .inr (.inr (.inr (.inr f))))) → tys[t]? = some (cA, .object q_tbl) → ws[kv]? = some (v, .inr (cc9, vs)) → vp_in i n →
      (∀ H1 locs1, va_P D cl9 (ws.set k (a, .inl (cA, n, .inr (.inr (.inr (.inr (va_up f i.toNatClampNeg (some v)))))))) H1 → va_D (q_A base) (ws.set k (a, .inl (cA, n, .inr (.inr (.inr (.inr (va_up f i.toNatClampNeg (some v)))))))) → va_S (q_A base) s.heap H1 locs1 → w H1 locs1 cl sl nx ls r) → w H locs cl sl pc ls (.ref v :: .int i :: .ref a :: r))
    (h : q_oAsr cc9 nx lo st hp iv cl sl = some z) (hz : ∀ c ∈ z.1, q_G w cl9 nL ρ bs base D ws0 s c) : q_G w cl9 nL ρ bs base D ws0 s (pc, lo, st, hp, iv, cl, sl) := by
  intro ho ws tys H locs ls lv sR hK hP hD hS hW hE hL hF hl
  obtain ⟨v, h0, h⟩ := q_bd_i h
  obtain ⟨co, hco, h⟩ := q_bd_i h
  obtain ⟨ha, h⟩ := q_if_i h
  obtain ⟨ha1, ha2⟩ := q_and_i ha
  obtain ⟨q, h1, h⟩ := q_bd_i h
  obtain ⟨q2, h2, h⟩ := q_bd_i h
  obtain ⟨c, h3, h⟩ := q_bd_i h
  obtain ⟨h4, h⟩ := q_if_i h
  obtain ⟨h5, h6⟩ := q_and_i h4
  obtain ⟨h7, h8⟩ := q_and_i h6
  cases q_so h
  have e0 := q_pop_i h0
  have e := q_pop_i h1
  have e2 := q_pop_i h2
  rw [e0, e, e2] at hF
  obtain ⟨X, r0, rfl, g0, hF0⟩ := q_F2_c hF
  obtain ⟨V, r, rfl, g1, hF1⟩ := q_F2_c hF0
  obtain ⟨V2, r2, rfl, g2, hF2⟩ := q_F2_c hF1
  obtain ⟨b, e9, k1, rfl, k3⟩ := q_at_i hW h3 g2
  obtain ⟨bo, e8, o1, rfl, o3⟩ := q_at_i hW hco g0
  obtain ⟨kd, n, fs, ar⟩ := c
  have e3 : kd = 5 := q_bq h5
  subst e3
  obtain ⟨ko, no, fo, ao⟩ := co
  have e4 : ko = 0 := q_bq ha1
  have e5 : no = cc9 := q_bq ha2
  subst e4; subst e5
  obtain ⟨vs, rfl, -⟩ := o3
  obtain ⟨hn, cA, t, f, rfl, ht, hel⟩ := k3
  obtain ⟨⟨tt, bb⟩, q9⟩ := q
  have e6 : tt = 0 := q_bq h7
  subst e6
  have e7 : V = .int (Int32.ofInt bb) := g1
  subst e7
  obtain ⟨i1, i2, i3⟩ := q_ix (q_w32_m bb) h8
  refine row ws tys _ _ _ _ _ _ _ _ vs cA n t f (Int32.ofInt bb) hK hP hD hS k1 ht o1 i1 (fun H1 locs1 hP1 hD1 hS1 => ?_)
  have hex : q_Ex ws (ws.set q2.1.2.toNat (b, .inl (cA, n, .inr (.inr (.inr (.inr (va_up f (Int32.ofInt bb).toNatClampNeg (some bo)))))))) := q_Ex.st k1
  refine hz _ List.mem_cons_self ho _ tys H1 locs1 ls lv _ hK hP1 hD1 hS1 (hW.put k1 ⟨hn, cA, t, _, rfl, ht, fun j hj => ?_⟩) (hE.tr hex) (q_F2_m (fun a b h => ⟨h.1, h.2.ex hex⟩) hL) (q_F2_m (fun a b h => h.ex hex) hF2) hl
  show q_rv ρ bs _ (q_get 11 (q_set 11 ar (q_w32 bb).toNat _) j) _
  have hj : j < n := hj
  have hi3 : (q_w32 bb).toNat < n := i3
  have hnn : n ≤ 2000 := hn
  rw [q_gs 11 ar _ j _ (by show _ < 2048; omega) (by show _ < 2048; omega)]
  by_cases ej : j = (q_w32 bb).toNat
  · rw [if_pos ej]
    have hu : va_up f (Int32.ofInt bb).toNatClampNeg (some bo) j = some bo := by unfold va_up; rw [if_pos (by rw [i2]; exact ej)]
    rw [hu]
    exact g0.ex hex
  · rw [if_neg ej]
    have hu : va_up f (Int32.ofInt bb).toNatClampNeg (some bo) j = f j := by unfold va_up; rw [if_neg (by rw [i2]; exact ej)]
    rw [hu]
    exact (hel j hj).ex hex
theorem q_tgt_s {d l9 h9 n : Int} {offs : Array Int} {t : Nat} (h : q_tgt pc d l9 h9 offs n = some t) : (l9 ≤ n ∧ n ≤ h9 ∧ ∃ off, offs[(n - l9).toNat]? = some off ∧ (pc : Int) + off = (t : Int)) ∨ ((n < l9 ∨ h9 < n) ∧ (pc : Int) + d = (t : Int)) := by
  unfold q_tgt at h
  cases hb : (bif q_ile l9 n then q_ile n h9 else false) with
  | true =>
    rw [hb] at h
    obtain ⟨h1, h2⟩ := q_and_i hb
    obtain ⟨o, h3, h⟩ := q_bd_i h
    obtain ⟨h4, h⟩ := q_if_i h
    have h4 := q_ile_i h4
    cases q_so h
    refine Or.inl ⟨q_ile_i h1, q_ile_i h2, o, by rw [q_nth_g, Array.getElem?_toList] at h3; exact h3, ?_⟩
    change (0 : Int) ≤ (pc : Int) + o at h4
    show (pc : Int) + o = (((pc : Int) + o).toNat : Int)
    omega
  | false =>
    rw [hb] at h
    obtain ⟨h4, h⟩ := q_if_i h
    have h4 := q_ile_i h4
    cases q_so h
    refine Or.inr ⟨?_, ?_⟩
    · cases h1 : q_ile l9 n with
      | false => exact Or.inl (q_ile_n h1)
      | true => rw [h1] at hb; exact Or.inr (q_ile_n hb)
    · change (0 : Int) ≤ (pc : Int) + d at h4
      show (pc : Int) + d = (((pc : Int) + d).toNat : Int)
      omega
theorem q_s_sw {d l9 h9 : Int} {offs : Array Int} (hr : q_rg ρ) (hl9 : q_w32 l9 = l9) (hh9 : q_w32 h9 = h9) (hlh : l9 ≤ h9)
    (rowI : ∀ H locs ls r (x : Int32) (off : Int) (t : Nat), ¬ x.toInt < l9 → ¬ h9 < x.toInt → offs[(x.toInt - l9).toNat]? = some off → (pc : Int) + off = (t : Int) → w H locs cl sl t ls r → w H locs cl sl pc ls (.int x :: r))
    (rowO : ∀ H locs ls r (x : Int32) (t : Nat), (x.toInt < l9 ∨ h9 < x.toInt) → (pc : Int) + d = (t : Int) → w H locs cl sl t ls r → w H locs cl sl pc ls (.int x :: r))
    (h : q_oSw d l9 h9 offs pc lo st hp iv cl sl = some z) (hz : ∀ c ∈ z.1, q_G w cl9 nL ρ bs base D ws0 s c) : q_G w cl9 nL ρ bs base D ws0 s (pc, lo, st, hp, iv, cl, sl) := by
  intro ho ws tys H locs ls lv sR hK hP hD hS hW hE hL hF hl
  obtain ⟨q, h1, h⟩ := q_bd_i h
  obtain ⟨h3, h⟩ := q_if_i h
  obtain ⟨l1, h5, h⟩ := q_bd_i h
  obtain ⟨bs1, h6, h⟩ := q_bd_i h
  cases q_so h
  have e := q_pop_i h1
  rw [e] at hF
  obtain ⟨V, r, rfl, g1, hF1⟩ := q_F2_c hF
  obtain ⟨x, rfl⟩ := q_isI_i h3 g1
  obtain ⟨hk, q1, m1, ho1, hc1⟩ := q_c3_s ho h5
  have hk2 : q.1.1 = 0 ∨ q.1.1 = 6 := by
    rcases hk with hk | hk
    · exact hk.1
    · have := hk.2; simp at this
  have hx := q_nv_i hr hk2 g1
  rw [← hx, show q_nv ρ (0, l9) = l9 from hl9] at hc1
  obtain ⟨b1, m2, hb1⟩ := q_all_i h6 q1 m1
  have hfin : ∀ t iv2, (t, lo, q.2, hp, iv2, cl, sl) ∈ b1 → q_ok ρ iv2 → w H locs cl sl t ls r := fun t iv2 hmem hok =>
    hz _ (q_cat_m m2 _ hmem) hok ws tys H locs ls lv r hK hP hD hS hW hE hL hF1 hl
  cases hb : Nat.beq q1.1 0 with
  | true =>
    rw [hb] at hb1
    have e0 := q_bq hb
    have hlt : x.toInt < l9 := by
      rcases hc1 with ⟨_, h⟩ | ⟨e1, _⟩ | ⟨e1, _⟩
      · exact h
      · omega
      · omega
    obtain ⟨t, ht, hb1⟩ := q_bd_i hb1
    cases q_so hb1
    rcases q_tgt_s ht with ⟨g, _⟩ | ⟨_, g⟩
    · change l9 ≤ l9 - 1 at g; omega
    · exact rowO _ _ _ _ x t (Or.inl hlt) g (hfin t _ List.mem_cons_self ho1)
  | false =>
    rw [hb] at hb1
    have hge : l9 ≤ x.toInt := by
      rcases hc1 with ⟨e1, _⟩ | ⟨_, h⟩ | ⟨_, h⟩
      · rw [e1] at hb; cases hb
      · omega
      · omega
    obtain ⟨l2, h7, hb1⟩ := q_bd_i hb1
    obtain ⟨bs2, h8, hb1⟩ := q_bd_i hb1
    cases q_so hb1
    have g1' := q_conc_rv ho1 g1
    obtain ⟨hk', q2, m3, ho2, hc2⟩ := q_c3_s ho1 h7
    have hk3 : (q_conc q1.2 q.1).1 = 0 ∨ (q_conc q1.2 q.1).1 = 6 := by
      rcases hk' with hk | hk
      · exact hk.1
      · have := hk.2; simp at this
    have hx2 := q_nv_i hr hk3 g1'
    rw [← hx2, show q_nv ρ (0, h9) = h9 from hh9] at hc2
    obtain ⟨b2, m4, hb2⟩ := q_all_i h8 q2 m3
    cases hb3 : Nat.beq q2.1 2 with
    | true =>
      rw [hb3] at hb2
      have e0 := q_bq hb3
      have hgt : h9 < x.toInt := by
        rcases hc2 with ⟨e1, _⟩ | ⟨e1, _⟩ | ⟨_, h⟩
        · omega
        · omega
        · exact h
      obtain ⟨t, ht, hb2⟩ := q_bd_i hb2
      cases q_so hb2
      rcases q_tgt_s ht with ⟨_, g, _⟩ | ⟨_, g⟩
      · change h9 + 1 ≤ h9 at g; omega
      · exact rowO _ _ _ _ x t (Or.inr hgt) g (hfin t _ (q_cat_m m4 _ List.mem_cons_self) ho2)
    | false =>
      rw [hb3] at hb2
      have hle : x.toInt ≤ h9 := by
        rcases hc2 with ⟨_, h⟩ | ⟨_, h⟩ | ⟨e1, _⟩
        · omega
        · omega
        · rw [e1] at hb3; cases hb3
      obtain ⟨l3, h10, hb2⟩ := q_bd_i hb2
      have g1'' := q_conc_rv ho2 g1
      obtain ⟨x', hx', q3, m5, ho3, hc3⟩ := q_enum_s hr ho2 h10 g1''
      cases hx'
      obtain ⟨c3, m6, hb4⟩ := q_all_i hb2 q3 m5
      obtain ⟨t, ht, hb4⟩ := q_bd_i hb4
      cases q_so hb4
      rcases q_tgt_s ht with ⟨_, _, off, g3, g4⟩ | ⟨g3, _⟩
      · exact rowI _ _ _ _ x off t (by omega) (by omega) (by rw [hc3]; exact g3) g4 (hfin t _ (q_cat_m m4 _ m6) ho3)
      · omega
end q_hsec
end -- [08.cells]
