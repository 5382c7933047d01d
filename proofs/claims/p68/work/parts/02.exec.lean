/-! THE EXECUTOR: numbers are intervals, cells are lists of them; all is a list or a pair, so that the kernel can run it.
A value (k, lo, hi): k 0 an int in lo .. hi, 1 a long, 2 the cell number lo, 3 null, 5 the script, 9 nothing is known. -/
abbrev xv_V : Type := Nat × Int × Int
/-- a cell (k, c, w, els): k 0 an object of class number c; k 1 int, 2 byte, 3 boolean, 4 long, 5 int[], 6 long[], 7 Image: a row of c; place i has els (i % w); k 99: no cell -/
abbrev xv_C : Type := Nat × Nat × Nat × List (List xv_V)
abbrev xv_A : Type := List (List xv_C)
/-- an instruction: its place, itself, its length, three numbers that say what it links to, a constant -/
abbrev xv_E : Type := Nat × Instr × Nat × Nat × Nat × Nat × Int
/-- an end: stack, locals, cells, how many, how many new, their slots -/
abbrev xv_R : Type := List xv_V × List xv_V × xv_A × Nat × Nat × Nat
noncomputable def xv_nth {α : Type} (l : List α) : Nat → Option α := List.rec (motive := fun _ => Nat → Option α) (fun _ => none) (fun a _ ih n => Nat.rec (motive := fun _ => Option α) (some a) (fun k _ => ih k) n) l
noncomputable def xv_put {α : Type} (v : α) (l : List α) : Nat → List α := List.rec (motive := fun _ => Nat → List α) (fun _ => []) (fun a t ih n => Nat.rec (motive := fun _ => List α) (v :: t) (fun k _ => a :: ih k) n) l
noncomputable def xv_get {α : Type} (R : Nat) (ll : List (List α)) (i : Nat) : Option α := match xv_nth ll (i / R) with
  | some l => xv_nth l (i % R)
  | none => none
noncomputable def xv_upd {α : Type} (R : Nat) (ll : List (List α)) (i : Nat) (v : α) : List (List α) := match xv_nth ll (i / R) with
  | some l => xv_put (xv_put v l (i % R)) ll (i / R)
  | none => ll
def xv_le (a b : Int) : Bool := match b - a with
  | .ofNat _ => true
  | .negSucc _ => false
def xv_int (lo hi : Int) : xv_V := bif xv_le (-2147483648) lo && xv_le hi 2147483647 then (0, lo, hi) else (0, -2147483648, 2147483647)
def xv_lng (lo hi : Int) : xv_V := bif xv_le (-9223372036854775808) lo && xv_le hi 9223372036854775807 then (1, lo, hi) else (1, -9223372036854775808, 9223372036854775807)
def xv_ti : xv_V := (0, -2147483648, 2147483647)
def xv_tl : xv_V := (1, -9223372036854775808, 9223372036854775807)
def xv_add (x y : xv_V) : xv_V := xv_int (x.2.1 + y.2.1) (x.2.2 + y.2.2)
def xv_sub (x y : xv_V) : xv_V := xv_int (x.2.1 - y.2.2) (x.2.2 - y.2.1)
def xv_mul (x y : xv_V) : xv_V := bif xv_le 0 x.2.1 && xv_le 0 y.2.1 then xv_int (x.2.1 * y.2.1) (x.2.2 * y.2.2) else xv_ti
def xv_and (_ y : xv_V) : xv_V := bif xv_le 0 y.2.1 then (0, 0, y.2.2) else xv_ti
def xv_lsub (x y : xv_V) : xv_V := xv_lng (x.2.1 - y.2.2) (x.2.2 - y.2.1)
def xv_cmpl (x y : xv_V) : xv_V := (0, bif xv_le (y.2.2 + 1) x.2.1 then 1 else bif xv_le y.2.2 x.2.1 then 0 else -1, bif xv_le (x.2.2 + 1) y.2.1 then -1 else bif xv_le x.2.2 y.2.1 then 0 else 1)
def xv_two (k : Nat) (st : List xv_V) (f : xv_V → xv_V → xv_V) : Option (List xv_V) := match st with
  | y :: x :: r => bif Nat.beq x.1 k && Nat.beq y.1 k then some (f x y :: r) else none
  | _ => none
def xv_one (k : Nat) (st : List xv_V) (f : xv_V → xv_V) : Option (List xv_V) := match st with
  | x :: r => bif Nat.beq x.1 k then some (f x :: r) else none
  | _ => none
def xv_lt3 (x y : xv_V) : Option Bool := bif xv_le (x.2.2 + 1) y.2.1 then some true else bif xv_le y.2.2 x.2.1 then some false else none
def xv_eq3 (x y : xv_V) : Option Bool := bif xv_le (x.2.2 + 1) y.2.1 then some false else bif xv_le (y.2.2 + 1) x.2.1 then some false else bif xv_le x.2.2 y.2.1 && xv_le y.2.2 x.2.1 then some true else none
def xv_not : Option Bool → Option Bool
  | some b => some (!b)
  | none => none
def xv_cond (c : ClassFile.Cond) (x y : xv_V) : Option Bool := match c with
  | .eq => xv_eq3 x y
  | .ne => xv_not (xv_eq3 x y)
  | .lt => xv_lt3 x y
  | .ge => xv_not (xv_lt3 x y)
  | .gt => xv_lt3 y x
  | .le => xv_not (xv_lt3 y x)
/-- a local is read: k the kind wanted -/
noncomputable def xv_ld (k : Nat) (L : List xv_V) (i : Nat) : Option xv_V := match xv_nth L i with
  | some v => bif Nat.beq v.1 k then some v else none
  | none => none
def xv_un : xv_V := (9, 0, 0)
noncomputable def xv_cl1 (L : List xv_V) (i : Nat) : List xv_V := match i with
  | 0 => L
  | j + 1 => match xv_nth L j with
    | some v => bif Nat.beq v.1 1 then xv_put xv_un L j else L
    | none => L
noncomputable def xv_st1 (L : List xv_V) (i : Nat) (v : xv_V) : List xv_V := xv_put v (xv_cl1 L i) i
noncomputable def xv_st2 (L : List xv_V) (i : Nat) (v : xv_V) : List xv_V := xv_put xv_un (xv_put v (xv_cl1 L i) i) (i + 1)
def xv_isOne (x : xv_V) : Bool := xv_le x.2.2 x.2.1 && xv_le 0 x.2.1
/-- cells of w times the same value -/
def xv_rep {α : Type} (n : Nat) (v : α) : List α := Nat.rec (motive := fun _ => List α) [] (fun _ l => v :: l) n
def xv_reps {α : Type} (n : Nat) (v : α) : List (List α) := Nat.rec (motive := fun _ => List (List α)) [xv_rep (n % 8) v] (fun _ l => xv_rep 8 v :: l) (n / 8)
def xv_row (k n : Nat) (v : xv_V) : xv_C := bif Nat.ble n 64 then (k, n, n, xv_reps n v) else (k, n, 1, [[v]])
noncomputable def xv_read (c : xv_C) (i : xv_V) : Option xv_V := bif xv_isOne i && Nat.ble (i.2.1.toNat + 1) c.2.1 then xv_get 8 c.2.2.2 (i.2.1.toNat % c.2.2.1) else none
def xv_join (x y : xv_V) : xv_V := (x.1, bif xv_le x.2.1 y.2.1 then x.2.1 else y.2.1, bif xv_le x.2.2 y.2.2 then y.2.2 else x.2.2)
noncomputable def xv_write (c : xv_C) (i v : xv_V) : Option xv_C := bif xv_isOne i && Nat.ble (i.2.1.toNat + 1) c.2.1 then
    (bif Nat.beq c.2.1 c.2.2.1 then some (c.1, c.2.1, c.2.2.1, xv_upd 8 c.2.2.2 i.2.1.toNat v) else
      match xv_get 8 c.2.2.2 (i.2.1.toNat % c.2.2.1) with
      | some u => bif Nat.beq u.1 v.1 && Nat.ble v.1 1 then some (c.1, c.2.1, c.2.2.1, xv_upd 8 c.2.2.2 (i.2.1.toNat % c.2.2.1) (xv_join u v)) else none
      | none => none) else none
/-- k numbers off the stack, the first of them deepest -/
noncomputable def xv_take (k : Nat) : List xv_V → List xv_V → Option (List xv_V × List xv_V) := Nat.rec (motive := fun _ => List xv_V → List xv_V → Option (List xv_V × List xv_V)) (fun acc st => some (acc, st)) (fun _ ih acc st => match st with
  | v :: r => ih (v :: acc) r
  | [] => none) k
def xv_cat (v : xv_V) : Nat := bif Nat.beq v.1 1 then 2 else bif Nat.ble v.1 3 || Nat.beq v.1 5 then 1 else 100
noncomputable def xv_cats (st : List xv_V) : Nat := List.rec (motive := fun _ => Nat) 0 (fun v _ n => xv_cat v + n) st
noncomputable def xv_ats (c d : xv_C) (n : Nat) : Bool := Nat.rec (motive := fun _ => Bool) true (fun j b => b && match xv_get 8 c.2.2.2 j, xv_get 8 d.2.2.2 j with
  | some _, some _ => true
  | _, _ => false) n
/-- the rows of a row of rows: n of them, from cell q on -/
noncomputable def xv_refs (q n : Nat) : List xv_V := Nat.rec (motive := fun _ => Nat → List xv_V) (fun _ => []) (fun _ ih q => (2, Int.ofNat q, 0) :: ih (q + 1)) n q
noncomputable def xv_fills (h : xv_A) (c : xv_C) (n : Nat) : Nat → xv_A := Nat.rec (motive := fun _ => xv_A → Nat → xv_A) (fun h _ => h) (fun _ ih h q => ih (xv_upd 14 h q c) (q + 1)) n h
/-- a new object: how many fields its class has, and what they are at first -/
def xv_news : List (Nat × List (List xv_V)) := [(6, [[(0, 0, 0), (0, 0, 0), (3, 0, 0), (3, 0, 0), (3, 0, 0), (3, 0, 0)]]), (6, [[(3, 0, 0), (0, 0, 0), (0, 0, 0), (3, 0, 0), (3, 0, 0), (3, 0, 0)]]), (13, [[(0, 0, 0), (0, 0, 0), (0, 0, 0), (0, 0, 0), (0, 0, 0), (0, 0, 0), (3, 0, 0), (3, 0, 0)], [(3, 0, 0), (3, 0, 0), (3, 0, 0), (3, 0, 0), (3, 0, 0)]]), (3, [[(3, 0, 0), (3, 0, 0), (3, 0, 0)]]), (2, [[(3, 0, 0), (3, 0, 0)]]), (2, [[(1, 0, 0), (1, 0, 0)]]), (6, [[(3, 0, 0), (3, 0, 0), (3, 0, 0), (3, 0, 0), (3, 0, 0), (3, 0, 0)]]), (9, [[(3, 0, 0), (0, 0, 0), (0, 0, 0), (0, 0, 0), (3, 0, 0), (0, 0, 0), (0, 0, 0), (0, 0, 0)], [(0, 0, 0)]]), (3, [[(3, 0, 0), (3, 0, 0), (3, 0, 0)]]), (6, [[(3, 0, 0), (0, 0, 0), (3, 0, 0), (3, 0, 0), (3, 0, 0), (3, 0, 0)]]), (7, [[(0, 0, 0), (0, 0, 0), (0, 0, 0), (3, 0, 0), (3, 0, 0), (3, 0, 0), (3, 0, 0)]]), (13, [[(3, 0, 0), (3, 0, 0), (3, 0, 0), (3, 0, 0), (3, 0, 0), (3, 0, 0), (3, 0, 0), (3, 0, 0)], [(3, 0, 0), (3, 0, 0), (3, 0, 0), (3, 0, 0), (3, 0, 0)]]), (42, [[(0, 0, 0), (3, 0, 0), (3, 0, 0), (3, 0, 0), (3, 0, 0), (3, 0, 0), (0, 0, 0), (0, 0, 0)], [(0, 0, 0), (0, 0, 0), (0, 0, 0), (1, 0, 0), (0, 0, 0), (0, 0, 0), (0, 0, 0), (0, 0, 0)], [(3, 0, 0), (3, 0, 0), (3, 0, 0), (3, 0, 0), (3, 0, 0), (3, 0, 0), (3, 0, 0), (3, 0, 0)], [(0, 0, 0), (0, 0, 0), (3, 0, 0), (3, 0, 0), (3, 0, 0), (3, 0, 0), (0, 0, 0), (3, 0, 0)], [(3, 0, 0), (3, 0, 0), (3, 0, 0), (3, 0, 0), (0, 0, 0), (0, 0, 0), (0, 0, 0), (1, 0, 0)], [(3, 0, 0), (3, 0, 0)]])]
abbrev xv_S : Type := xv_A × Nat × Nat × Nat
abbrev xv_K : Type := Nat → List xv_V → List xv_V → xv_S → Option xv_R
/-- a copy of n places, from sp on of one row to dp on of another -/
noncomputable def xv_copy (e : List (List xv_V)) (sp dp n : Nat) : List (List xv_V) → Option (List (List xv_V)) := Nat.rec (motive := fun _ => List (List xv_V) → Option (List (List xv_V))) (fun g => some g) (fun j ih g => match xv_get 8 e (sp + j) with
  | some v => ih (xv_upd 8 g (dp + j) v)
  | none => none) n
def xv_tgt (pc : Nat) (off : Int) : Nat := (Int.ofNat pc + off).toNat
noncomputable def xv_br (k : xv_K) (o : Option Bool) (pc : Nat) (off : Int) (L st : List xv_V) (s : xv_S) : Option xv_R := bif xv_le 0 (Int.ofNat pc + off) then (match o with
  | some true => k (xv_tgt pc off) L st s
  | some false => k (pc + 3) L st s
  | none => none) else none
noncomputable def xv_cell (h : xv_A) (o : xv_V) : Option xv_C := bif Nat.beq o.1 2 && xv_le 0 o.2.1 then xv_get 14 h o.2.1.toNat else none
noncomputable def xv_go (k : xv_K) (pc : Nat) (L : List xv_V) (s : xv_S) (o : Option (List xv_V)) : Option xv_R := match o with
  | some st => k pc L st s
  | none => none
noncomputable def xv_ldk (k : xv_K) (pc : Nat) (L st : List xv_V) (s : xv_S) (o : Option xv_V) : Option xv_R := match o with
  | some v => k pc L (v :: st) s
  | none => none
noncomputable def xv_lda (L : List xv_V) (i : Nat) : Option xv_V := match xv_nth L i with
  | some v => bif Nat.beq v.1 2 || (Nat.beq v.1 3 || Nat.beq v.1 5) then some v else none
  | none => none
noncomputable def xv_sto (k : xv_K) (kd pc i : Nat) (L st : List xv_V) (s : xv_S) : Option xv_R := match st with
  | v :: r => bif Nat.beq v.1 kd && Nat.ble (i + 1) L.length then k pc (xv_st1 L i v) r s else none
  | [] => none
noncomputable def xv_stoa (k : xv_K) (pc i : Nat) (L st : List xv_V) (s : xv_S) : Option xv_R := match st with
  | v :: r => bif (Nat.beq v.1 2 || Nat.beq v.1 3) && Nat.ble (i + 1) L.length then k pc (xv_st1 L i v) r s else none
  | [] => none
noncomputable def xv_stol (k : xv_K) (pc i : Nat) (L st : List xv_V) (s : xv_S) : Option xv_R := match st with
  | v :: r => bif Nat.beq v.1 1 && Nat.ble (i + 2) L.length then k pc (xv_st2 L i v) r s else none
  | [] => none
/-- a row's place is read: kd the kind of row -/
noncomputable def xv_ald (k : xv_K) (kd pc : Nat) (L st : List xv_V) (s : xv_S) : Option xv_R := match st with
  | i :: o :: r => (match xv_cell s.1 o with
    | some c => bif Nat.beq i.1 0 && Nat.beq c.1 kd then xv_ldk k pc L r s (xv_read c i) else none
    | none => none)
  | _ => none
noncomputable def xv_ast (k : xv_K) (kd pc : Nat) (L st : List xv_V) (s : xv_S) (ok : xv_V → Bool) : Option xv_R := match st with
  | v :: i :: o :: r => (match xv_cell s.1 o with
    | some c => bif Nat.beq i.1 0 && Nat.beq c.1 kd && ok v then (match xv_write c i v with
      | some c' => k pc L r (xv_upd 14 s.1 o.2.1.toNat c', s.2)
      | none => none) else none
    | none => none)
  | _ => none
noncomputable def xv_ret (st : List xv_V) (L : List xv_V) (s : xv_S) : Option xv_R := some (st, L, s.1, s.2.1, s.2.2.1, s.2.2.2)
noncomputable def xv_call (k : xv_K) (call : Nat → List xv_V → xv_A → Nat → Option xv_R) (id pc : Nat) (args L rest : List xv_V) (s : xv_S) : Option xv_R :=
  bif Nat.ble (xv_cats rest) 8 then (match call id args s.1 s.2.1 with
    | some r => k pc L (r.1 ++ rest) (r.2.2.1, r.2.2.2.1, s.2.2.1 + r.2.2.2.2.1, s.2.2.2 + r.2.2.2.2.2)
    | none => none) else none
noncomputable def xv_step (call : Nat → List xv_V → xv_A → Nat → Option xv_R) (scr : List xv_V) (k : xv_K) (ins : Instr) (a b : Nat) (v : Int) (pc : Nat) (L st : List xv_V) (s : xv_S) : Option xv_R :=
  match ins with
  | .iconst i => k (pc + 1) L (xv_int i i :: st) s
  | .bipush i => bif xv_le (-128) i && xv_le i 127 then k (pc + 2) L ((0, i, i) :: st) s else none
  | .sipush i => bif xv_le (-32768) i && xv_le i 32767 then k (pc + 3) L ((0, i, i) :: st) s else none
  | .lconst i => k (pc + 1) L ((1, Int.ofNat i.val, Int.ofNat i.val) :: st) s
  | .iload i => xv_ldk k (pc + 2) L st s (xv_ld 0 L i)
  | .iload_n i => xv_ldk k (pc + 1) L st s (xv_ld 0 L i.val)
  | .lload i => xv_ldk k (pc + 2) L st s (xv_ld 1 L i)
  | .lload_n i => xv_ldk k (pc + 1) L st s (xv_ld 1 L i.val)
  | .aload_n i => xv_ldk k (pc + 1) L st s (xv_lda L i.val)
  | .istore i => xv_sto k 0 (pc + 2) i L st s
  | .istore_n i => xv_sto k 0 (pc + 1) i.val L st s
  | .astore_n i => xv_stoa k (pc + 1) i.val L st s
  | .iinc i c => (match xv_ld 0 L i with
    | some x => k (pc + 3) (xv_st1 L i (xv_int (x.2.1 + c) (x.2.2 + c))) st s
    | none => none)
  | .iadd => xv_go k (pc + 1) L s (xv_two 0 st xv_add)
  | .isub => xv_go k (pc + 1) L s (xv_two 0 st xv_sub)
  | .imul => xv_go k (pc + 1) L s (xv_two 0 st xv_mul)
  | .iand => xv_go k (pc + 1) L s (xv_two 0 st xv_and)
  | .iushr => xv_go k (pc + 1) L s (xv_two 0 st (fun _ _ => xv_ti))
  | .ishr => xv_go k (pc + 1) L s (xv_two 0 st (fun _ _ => xv_ti))
  | .lsub => xv_go k (pc + 1) L s (xv_two 1 st xv_lsub)
  | .land => xv_go k (pc + 1) L s (xv_two 1 st (fun _ _ => xv_tl))
  | .lor => xv_go k (pc + 1) L s (xv_two 1 st (fun _ _ => xv_tl))
  | .lshl => (match st with
    | y :: x :: r => bif Nat.beq y.1 0 && Nat.beq x.1 1 then k (pc + 1) L (xv_tl :: r) s else none
    | _ => none)
  | .lcmp => xv_go k (pc + 1) L s (xv_two 1 st xv_cmpl)
  | .i2l => xv_go k (pc + 1) L s (xv_one 0 st (fun x => (1, x.2.1, x.2.2)))
  | .i2b => xv_go k (pc + 1) L s (xv_one 0 st (fun _ => (0, -128, 127)))
  | .dup => (match st with
    | x :: r => bif Nat.beq x.1 0 || (Nat.beq x.1 2 || Nat.beq x.1 5) then k (pc + 1) L (x :: x :: r) s else none
    | _ => none)
  | .goto off => bif xv_le 0 (Int.ofNat pc + off) then k (xv_tgt pc off) L st s else none
  | .ifCond c off => (match st with
    | x :: r => bif Nat.beq x.1 0 then xv_br k (xv_cond c x (0, 0, 0)) pc off L r s else none
    | _ => none)
  | .if_icmp c off => (match st with
    | y :: x :: r => bif Nat.beq x.1 0 && Nat.beq y.1 0 then xv_br k (xv_cond c x y) pc off L r s else none
    | _ => none)
  | .ifnonnull off => (match st with
    | x :: r => bif Nat.beq x.1 3 then k (pc + 3) L r s else bif Nat.beq x.1 2 && xv_le 0 (Int.ofNat pc + off) then k (xv_tgt pc off) L r s else none
    | _ => none)
  | .tableswitch d lo hi offs => (match st with
    | x :: r => bif Nat.beq x.1 0 then
        (bif xv_le (x.2.2 + 1) lo || xv_le (hi + 1) x.2.1 then (bif xv_le 0 (Int.ofNat pc + d) then k (xv_tgt pc d) L r s else none)
        else bif xv_le lo x.2.1 && (xv_le x.2.2 hi && xv_le x.2.2 x.2.1) then (match xv_nth offs.toList (x.2.1 - lo).toNat with
          | some off => bif xv_le 0 (Int.ofNat pc + off) then k (xv_tgt pc off) L r s else none
          | none => none) else none) else none
    | _ => none)
  | .ldc_w _ => k (pc + 3) L (xv_int v v :: st) s
  | .ldc2_w _ => k (pc + 3) L (xv_lng v v :: st) s
  | .getfield _ => (match st with
    | o :: r => (match xv_cell s.1 o with
      | some c => bif Nat.beq c.1 0 && Nat.beq c.2.1 a then xv_ldk k (pc + 3) L r s (xv_get 8 c.2.2.2 b) else none
      | none => none)
    | _ => none)
  | .putfield _ => (match st with
    | x :: o :: r => (match xv_cell s.1 o with
      | some c => bif Nat.beq c.1 0 && (Nat.beq c.2.1 a && (Nat.ble (b + 1) c.2.2.1 && Nat.beq x.1 v.toNat)) then k (pc + 3) L r (xv_upd 14 s.1 o.2.1.toNat (c.1, c.2.1, c.2.2.1, xv_upd 8 c.2.2.2 b x), s.2) else none
      | none => none)
    | _ => none)
  | .new _ => (match xv_nth xv_news a with
    | some q => k (pc + 3) L ((2, Int.ofNat s.2.1, 0) :: st) (xv_upd 14 s.1 s.2.1 (0, a, q.1, q.2), s.2.1 + 1, s.2.2.1 + 1, s.2.2.2 + q.1)
    | none => none)
  | .newarray t => (match st with
    | x :: r => bif Nat.beq x.1 0 && (xv_isOne x && xv_le x.2.1 65536) then
        (match t with
        | .int => k (pc + 2) L ((2, Int.ofNat s.2.1, 0) :: r) (xv_upd 14 s.1 s.2.1 (xv_row 1 x.2.1.toNat (0, 0, 0)), s.2.1 + 1, s.2.2.1 + 1, s.2.2.2 + x.2.1.toNat)
        | .byte => k (pc + 2) L ((2, Int.ofNat s.2.1, 0) :: r) (xv_upd 14 s.1 s.2.1 (xv_row 2 x.2.1.toNat (0, 0, 0)), s.2.1 + 1, s.2.2.1 + 1, s.2.2.2 + x.2.1.toNat)
        | .boolean => k (pc + 2) L ((2, Int.ofNat s.2.1, 0) :: r) (xv_upd 14 s.1 s.2.1 (xv_row 3 x.2.1.toNat (0, 0, 0)), s.2.1 + 1, s.2.2.1 + 1, s.2.2.2 + x.2.1.toNat)
        | .long => k (pc + 2) L ((2, Int.ofNat s.2.1, 0) :: r) (xv_upd 14 s.1 s.2.1 (xv_row 4 x.2.1.toNat (1, 0, 0)), s.2.1 + 1, s.2.2.1 + 1, s.2.2.2 + x.2.1.toNat)
        | _ => none) else none
    | _ => none)
  | .anewarray _ => (match st with
    | x :: r => bif Nat.beq x.1 0 && (xv_isOne x && xv_le x.2.1 65536) then k (pc + 3) L ((2, Int.ofNat s.2.1, 0) :: r) (xv_upd 14 s.1 s.2.1 (xv_row 7 x.2.1.toNat (3, 0, 0)), s.2.1 + 1, s.2.2.1 + 1, s.2.2.2 + x.2.1.toNat) else none
    | _ => none)
  | .multianewarray _ _ => (match st with
    | y :: x :: r => bif Nat.beq x.1 0 && (Nat.beq y.1 0 && (xv_isOne x && (xv_isOne y && (xv_le x.2.1 8 && xv_le y.2.1 64)))) then
        k (pc + 4) L ((2, Int.ofNat s.2.1, 0) :: r) (xv_fills (xv_upd 14 s.1 s.2.1 (a + 4, x.2.1.toNat, x.2.1.toNat, [xv_refs (s.2.1 + 1) x.2.1.toNat])) (xv_row b y.2.1.toNat (v.toNat, 0, 0)) x.2.1.toNat (s.2.1 + 1), s.2.1 + 1 + x.2.1.toNat, s.2.2.1 + 1 + x.2.1.toNat, s.2.2.2 + x.2.1.toNat + x.2.1.toNat * y.2.1.toNat) else none
    | _ => none)
  | .arraylength => (match st with
    | o :: r => bif Nat.beq o.1 5 then (bif !scr.isEmpty then k (pc + 1) L ((0, Int.ofNat scr.length, Int.ofNat scr.length) :: r) s else none) else (match xv_cell s.1 o with
      | some c => bif Nat.ble 1 c.1 && Nat.ble c.1 7 then k (pc + 1) L ((0, Int.ofNat c.2.1, Int.ofNat c.2.1) :: r) s else none
      | none => none)
    | _ => none)
  | .iaload => (match st with
    | i :: o :: r => bif Nat.beq o.1 5 then (bif Nat.beq i.1 0 && xv_isOne i then xv_ldk k (pc + 1) L r s (xv_nth scr i.2.1.toNat) else none) else xv_ald k 1 (pc + 1) L st s
    | _ => none)
  | .baload => (match st with
    | _ :: o :: _ => (match xv_cell s.1 o with
      | some c => bif Nat.beq c.1 2 then xv_ald k 2 (pc + 1) L st s else xv_ald k 3 (pc + 1) L st s
      | none => none)
    | _ => none)
  | .laload => xv_ald k 4 (pc + 1) L st s
  | .aaload => (match st with
    | _ :: o :: _ => (match xv_cell s.1 o with
      | some c => bif Nat.beq c.1 5 then xv_ald k 5 (pc + 1) L st s else bif Nat.beq c.1 6 then xv_ald k 6 (pc + 1) L st s else xv_ald k 7 (pc + 1) L st s
      | none => none)
    | _ => none)
  | .iastore => xv_ast k 1 (pc + 1) L st s (fun v => Nat.beq v.1 0)
  | .bastore => (match st with
    | _ :: _ :: o :: _ => (match xv_cell s.1 o with
      | some c => bif Nat.beq c.1 2 then xv_ast k 2 (pc + 1) L st s (fun v => Nat.beq v.1 0 && (xv_le (-128) v.2.1 && xv_le v.2.2 127)) else xv_ast k 3 (pc + 1) L st s (fun v => Nat.beq v.1 0 && (xv_le 0 v.2.1 && xv_le v.2.2 1))
      | none => none)
    | _ => none)
  | .lastore => xv_ast k 4 (pc + 1) L st s (fun v => Nat.beq v.1 1)
  | .aastore => xv_ast k 7 (pc + 1) L st s (fun v => Nat.beq v.1 2 && (match xv_cell s.1 v with
      | some c => Nat.beq c.1 0 && Nat.beq c.2.1 4
      | none => false))
  | .invokevirtual _ => (match xv_take b [] st with
    | some (as, o :: r) => (match xv_cell s.1 o with
      | some c => bif Nat.beq c.1 0 && Nat.beq c.2.1 v.toNat then xv_call k call a (pc + 3) (o :: as) L r s else none
      | none => none)
    | _ => none)
  | .invokestatic _ => (bif Nat.beq a 9999 then (match st with
      | n :: dp :: d :: sp :: o :: r => (match xv_cell s.1 o, xv_cell s.1 d with
        | some c, some g => bif Nat.beq n.1 0 && (Nat.beq dp.1 0 && (Nat.beq sp.1 0 && (xv_isOne n && (xv_isOne dp && (xv_isOne sp && (Nat.beq c.1 1 && (Nat.beq g.1 1 && (Nat.ble (sp.2.1.toNat + n.2.1.toNat) c.2.1 && (Nat.ble (dp.2.1.toNat + n.2.1.toNat) g.2.1 && (Nat.beq c.2.1 c.2.2.1 && (Nat.beq g.2.1 g.2.2.1 && (Nat.ble (xv_cats r) 8 && !(Nat.beq o.2.1.toNat d.2.1.toNat))))))))))))) then
            (match xv_copy c.2.2.2 sp.2.1.toNat dp.2.1.toNat n.2.1.toNat g.2.2.2 with
            | some e => k (pc + 3) L r (xv_upd 14 s.1 d.2.1.toNat (g.1, g.2.1, g.2.2.1, e), s.2)
            | none => none) else none
        | _, _ => none)
      | _ => none) else (match xv_take b [] st with
    | some (as, r) => xv_call k call a (pc + 3) as L r s
    | none => none))
  | .invokespecial _ => bif Nat.beq a 9998 then (match st with
      | o :: r => bif Nat.beq o.1 2 && Nat.ble (xv_cats r) 8 then k (pc + 3) L r s else none
      | _ => none) else (match xv_take b [] st with
    | some (as, o :: r) => bif Nat.beq o.1 2 then xv_call k call a (pc + 3) (o :: as) L r s else none
    | _ => none)
  | .ireturn => (match st with
    | [x] => bif Nat.beq x.1 0 && (Nat.beq a 0 || (xv_le 0 x.2.1 && xv_le x.2.2 1)) then xv_ret [x] L s else none
    | _ => none)
  | .lreturn => (match st with
    | [x] => bif Nat.beq x.1 1 then xv_ret [x] L s else none
    | _ => none)
  | .return_ => (match st with
    | [] => xv_ret [] L s
    | _ => none)
  | _ => none
noncomputable def xv_find (full : List xv_E) (pc : Nat) : Option (xv_E × List xv_E) := List.rec (motive := fun _ => Option (xv_E × List xv_E)) none (fun e t ih => bif Nat.beq e.1 pc then some (e, t) else ih) full
noncomputable def xv_fetch (full rest : List xv_E) (pc : Nat) : Option (xv_E × List xv_E) := match rest with
  | e :: t => bif Nat.beq e.1 pc then some (e, t) else xv_find full pc
  | [] => xv_find full pc
noncomputable def xv_run (call : Nat → List xv_V → xv_A → Nat → Option xv_R) (scr : List xv_V) (stop : Nat) (full : List xv_E) : Nat → List xv_E → xv_K := Nat.rec (motive := fun _ => List xv_E → xv_K) (fun _ _ _ _ _ => none) (fun _ ih rest pc L st s => bif Nat.beq (pc + 1) stop then xv_ret st L s else match xv_fetch full rest pc with
  | some (e, t) => xv_step call scr (ih t) e.2.1 e.2.2.2.1 e.2.2.2.2.1 e.2.2.2.2.2.2 pc L st s
  | none => none)
noncomputable def xv_locs (args : List xv_V) : Nat → List xv_V := List.rec (motive := fun _ => Nat → List xv_V) (fun n => xv_rep n xv_un) (fun v _ ih n => bif Nat.beq v.1 1 then v :: xv_un :: ih (n - 2) else v :: ih (n - 1)) args
abbrev xv_M : Type := List (List (List xv_E × Nat))
noncomputable def xv_calls (M : xv_M) (F : Nat) : Nat → Nat → List xv_V → xv_A → Nat → Option xv_R := Nat.rec (motive := fun _ => Nat → List xv_V → xv_A → Nat → Option xv_R) (fun _ _ _ _ => none) (fun _ ih id args h n => match xv_get 20 M id with
  | some q => bif Nat.ble (xv_cats args) q.2 then xv_run ih [] 0 q.1 F q.1 0 (xv_locs args q.2) [] (h, n, 0, 0) else none
  | none => none)
def xv_none : xv_C := (99, 0, 0, [])
def xv_h0 : xv_A := xv_rep 14 (xv_rep 14 xv_none)
