/-- the cells of a row of rows stand one behind the other -/
noncomputable def xw_seq (els : List (List xv_V)) (q : Int) (n : Nat) : Bool := Nat.rec (motive := fun _ => Bool) true (fun j ih => ih && match xv_get 8 els j with
  | some u => Nat.beq u.1 2 && xw_ieq u.2.1 (q + Int.ofNat j)
  | none => false) n
/-- a row's cells: the first, how many -/
noncomputable def xw_rows (A : xv_A) (o : xw_V) : Option (Nat × Nat × xv_C) := bif xv_le 0 o.2.1 then (match xv_get 14 A o.2.1.toNat with
  | some c => bif Nat.beq o.1 2 && Nat.beq c.2.2.1 1 then some (o.2.1.toNat, 1, c) else bif Nat.beq o.1 4 && (Nat.ble 1 (xw_cnt o) && xw_like A c o.2.1.toNat (xw_cnt o)) then some (o.2.1.toNat, xw_cnt o, c) else none
  | none => none) else none
noncomputable def xw_copy (hl : Nat × Int) (A : xv_A) (S : xw_S) (n dp d sp o : xw_V) (k : xw_S → Bool) : Bool := match xw_rows A o, xw_rows A d with
  | some p, some q => (match xv_get 8 p.2.2.2.2.2 0, xv_get 8 q.2.2.2.2.2 0 with
    | some u, some v => bif Nat.beq n.1 0 && (Nat.beq dp.1 0 && (Nat.beq sp.1 0 && (Nat.beq p.2.2.1 q.2.2.1 && ((Nat.beq p.2.2.1 1 || Nat.beq p.2.2.1 4) && (Nat.beq u.1 v.1 && (Nat.ble u.1 1 && (xv_le v.2.1 u.2.1 && (xv_le u.2.2 v.2.2 && (xw_prove S n.2 && (xw_prove S sp.2 && (xw_prove S dp.2 && (xw_prove S (xw_k (xw_neg (xw_add sp.2 n.2)) (Int.ofNat p.2.2.2.1)) && (xw_prove S (xw_k (xw_neg (xw_add dp.2 n.2)) (Int.ofNat q.2.2.2.1)) && !(Nat.ble q.1 hl.1 && Nat.ble (hl.1 + 1) (q.1 + q.2.1))))))))))))))) then k (xw_kills (xw_many q.1 q.2.1) S) else false
    | _, _ => false)
  | _, _ => false
noncomputable def xw_go (k : xw_K) (pc : Nat) (off : Int) (L st : List xw_V) (S : xw_S) : Bool := bif xv_le 0 (Int.ofNat pc + off) then k (xv_tgt pc off) L st S else false
/-- a table's jumps: from the number c on -/
noncomputable def xw_tab (k : xw_K) (pc : Nat) (L r : List xw_V) (S : xw_S) (x : xw_L) (offs : List Int) : Int → Bool := List.rec (motive := fun _ => Int → Bool) (fun _ => true) (fun off _ ih c => xw_asm S (xw_k x (-c)) (fun S1 => xw_asm S1 (xw_k (xw_neg x) c) (fun S2 => xw_go k pc off L r S2)) && ih (c + 1)) offs
noncomputable def xw_step (hl : Nat × Int) (A : xv_A) (call : xw_Cl) (id : Nat) (k : xw_K) (kr : xw_Kr) (ins : Instr) (a b : Nat) (v : Int) (pc : Nat) (L st : List xw_V) (S : xw_S) : Bool :=
  match ins with
  | .iconst i => bif xv_le (-2147483648) i && xv_le i 2147483647 then k (pc + 1) L ((0, (i, [])) :: st) S else false
  | .bipush i => bif xv_le (-128) i && xv_le i 127 then k (pc + 2) L ((0, (i, [])) :: st) S else false
  | .sipush i => bif xv_le (-32768) i && xv_le i 32767 then k (pc + 3) L ((0, (i, [])) :: st) S else false
  | .lconst i => k (pc + 1) L ((1, (Int.ofNat i.val, [])) :: st) S
  | .iload i => xw_ld 0 L i (fun v => k (pc + 2) L (v :: st) S)
  | .iload_n i => xw_ld 0 L i.val (fun v => k (pc + 1) L (v :: st) S)
  | .lload i => xw_ld 1 L i (fun v => k (pc + 2) L (v :: st) S)
  | .lload_n i => xw_ld 1 L i.val (fun v => k (pc + 1) L (v :: st) S)
  | .aload_n i => xw_lda L i.val (fun v => k (pc + 1) L (v :: st) S)
  | .istore i => xw_sto 0 i L st (fun L' st' => k (pc + 2) L' st' S)
  | .istore_n i => xw_sto 0 i.val L st (fun L' st' => k (pc + 1) L' st' S)
  | .lstore i => xw_stol i L st (fun L' st' => k (pc + 2) L' st' S)
  | .lstore_n i => xw_stol i.val L st (fun L' st' => k (pc + 1) L' st' S)
  | .astore_n i => xw_stoa i.val L st (fun L' st' => k (pc + 1) L' st' S)
  | .iinc i c => xw_ld 0 L i (fun v => xw_inr 0 S (xw_k v.2 c) (fun l S' => k (pc + 3) (xw_st1 L i (0, l)) st S'))
  | .iadd => xw_bin 0 0 st (fun x y r => xw_inw S (xw_add x y) (fun l S' => k (pc + 1) L ((0, l) :: r) S'))
  | .isub => xw_bin 0 0 st (fun x y r => xw_inr 0 S (xw_sub x y) (fun l S' => k (pc + 1) L ((0, l) :: r) S'))
  | .imul => xw_bin 0 0 st (fun x y r => xw_mul 0 S (xw_nm S.1 x) (xw_nm S.1 y) (fun l S' => k (pc + 1) L ((0, l) :: r) S'))
  | .iand => xw_bin 0 0 st (fun x y r => xw_and S (xw_nm S.1 x) (xw_nm S.1 y) (fun l S' => k (pc + 1) L ((0, l) :: r) S'))
  | .ior => xw_bin 0 0 st (fun x y r => xw_or S (xw_nm S.1 x) (xw_nm S.1 y) (fun l S' => k (pc + 1) L ((0, l) :: r) S'))
  | .ixor => xw_bin 0 0 st (fun x y r => xw_xor S (xw_nm S.1 x) (xw_nm S.1 y) (fun l S' => k (pc + 1) L ((0, l) :: r) S'))
  | .ishl => xw_bin 0 0 st (fun x y r => xw_shl S (xw_nm S.1 x) (xw_nm S.1 y) (fun l S' => k (pc + 1) L ((0, l) :: r) S'))
  | .ishr => xw_bin 0 0 st (fun x y r => xw_shr S (xw_nm S.1 x) (xw_nm S.1 y) (fun l S' => k (pc + 1) L ((0, l) :: r) S'))
  | .iushr => xw_bin 0 0 st (fun x _ r => xw_ushr S (xw_nm S.1 x) (fun l S' => k (pc + 1) L ((0, l) :: r) S'))
  | .irem => xw_bin 0 0 st (fun x y r => xw_rem 0 S (xw_nm S.1 x) (xw_nm S.1 y) (fun l S' => k (pc + 1) L ((0, l) :: r) S'))
  | .ladd => xw_bin 1 1 st (fun x y r => xw_inr 1 S (xw_add x y) (fun l S' => k (pc + 1) L ((1, l) :: r) S'))
  | .lsub => xw_bin 1 1 st (fun x y r => xw_inr 1 S (xw_sub x y) (fun l S' => k (pc + 1) L ((1, l) :: r) S'))
  | .lmul => xw_bin 1 1 st (fun x y r => xw_mul 1 S (xw_nm S.1 x) (xw_nm S.1 y) (fun l S' => k (pc + 1) L ((1, l) :: r) S'))
  | .ldiv => xw_bin 1 1 st (fun x y r => xw_div 1 S (xw_nm S.1 x) (xw_nm S.1 y) (fun l S' => k (pc + 1) L ((1, l) :: r) S'))
  | .lrem => xw_bin 1 1 st (fun x y r => xw_rem 1 S (xw_nm S.1 x) (xw_nm S.1 y) (fun l S' => k (pc + 1) L ((1, l) :: r) S'))
  | .land => xw_bin 1 1 st (fun _ _ r => xw_top 1 S (fun l S' => k (pc + 1) L ((1, l) :: r) S'))
  | .lor => xw_bin 1 1 st (fun _ _ r => xw_top 1 S (fun l S' => k (pc + 1) L ((1, l) :: r) S'))
  | .lshl => xw_bin 1 0 st (fun _ _ r => xw_top 1 S (fun l S' => k (pc + 1) L ((1, l) :: r) S'))
  | .lcmp => xw_bin 1 1 st (fun x y r => k (pc + 1) L ((7, xw_sub x y) :: r) S)
  | .i2l => (match st with
    | x :: r => bif Nat.beq x.1 0 then k (pc + 1) L ((1, x.2) :: r) S else false
    | _ => false)
  | .l2i => (match st with
    | x :: r => bif Nat.beq x.1 1 then xw_inr 0 S x.2 (fun l S' => k (pc + 1) L ((0, l) :: r) S') else false
    | _ => false)
  | .i2b => (match st with
    | x :: r => bif Nat.beq x.1 0 then xw_fr S (-128) 127 (fun l S' => k (pc + 1) L ((0, l) :: r) S') else false
    | _ => false)
  | .i2s => (match st with
    | x :: r => bif Nat.beq x.1 0 then xw_fr S (-32768) 32767 (fun l S' => k (pc + 1) L ((0, l) :: r) S') else false
    | _ => false)
  | .dup => (match st with
    | x :: r => bif Nat.ble x.1 6 && !(Nat.beq x.1 1) then k (pc + 1) L (x :: x :: r) S else false
    | _ => false)
  | .dup2 => (match st with
    | y :: x :: r => bif Nat.ble x.1 6 && (!(Nat.beq x.1 1) && (Nat.ble y.1 6 && !(Nat.beq y.1 1))) then k (pc + 1) L (y :: x :: y :: x :: r) S else false
    | _ => false)
  | .pop => (match st with
    | x :: r => bif Nat.ble x.1 7 && !(Nat.beq x.1 1) then k (pc + 1) L r S else false
    | _ => false)
  | .pop2 => (match st with
    | x :: r => bif Nat.beq x.1 1 then k (pc + 1) L r S else false
    | _ => false)
  | .goto off => xw_go k pc off L st S
  | .ifCond c off => (match st with
    | x :: r => bif (Nat.beq x.1 0 || Nat.beq x.1 7) && xv_le 0 (Int.ofNat pc + off) then xw_br c (Nat.beq x.1 7) S (xw_nm S.1 x.2) (fun S' => xw_go k pc off L r S') (fun S' => k (pc + 3) L r S') else false
    | _ => false)
  | .if_icmp c off => (match st with
    | y :: x :: r => bif (Nat.beq x.1 0 && Nat.beq y.1 0) && xv_le 0 (Int.ofNat pc + off) then xw_br c false S (xw_nm S.1 (xw_sub x.2 y.2)) (fun S' => xw_go k pc off L r S') (fun S' => k (pc + 3) L r S') else false
    | _ => false)
  | .tableswitch d lo hi offs => (match st with
    | x :: r => bif Nat.beq x.1 0 && xw_ieq (lo + Int.ofNat offs.toList.length) (hi + 1) then xw_tab k pc L r S x.2 offs.toList lo && (xw_asm S (xw_k (xw_neg x.2) (lo - 1)) (fun S1 => xw_go k pc d L r S1) && xw_asm S (xw_k x.2 (-hi - 1)) (fun S1 => xw_go k pc d L r S1)) else false
    | _ => false)
  | .ldc _ => bif Nat.beq b 6 then k (pc + 2) L ((6, (0, [])) :: st) S else bif xv_le (-2147483648) v && xv_le v 2147483647 then k (pc + 2) L ((0, (v, [])) :: st) S else false
  | .ldc_w _ => bif xv_le (-2147483648) v && xv_le v 2147483647 then k (pc + 3) L ((0, (v, [])) :: st) S else false
  | .ldc2_w _ => bif xv_le (-9223372036854775808) v && xv_le v 9223372036854775807 then k (pc + 3) L ((1, (v, [])) :: st) S else false
  | .getfield _ => (match st with
    | o :: r => bif Nat.beq o.1 2 && xv_le 0 o.2.1 then (match xv_get 14 A o.2.1.toNat with
      | some c => bif Nat.beq c.1 0 && Nat.beq c.2.1 a then xw_rd hl A S o.2.1.toNat (Int.ofNat b, []) (fun v S' => k (pc + 3) L (v :: r) S') else false
      | none => false) else false
    | _ => false)
  | .putfield _ => (match st with
    | x :: o :: r => bif Nat.beq o.1 2 && xv_le 0 o.2.1 then (match xv_get 14 A o.2.1.toNat with
      | some c => bif Nat.beq c.1 0 && (Nat.beq c.2.1 a && (Nat.ble (b + 1) c.2.2.1 && Nat.beq x.1 v.toNat)) then xw_wr hl A S o.2.1.toNat (Int.ofNat b, []) x (fun S' => k (pc + 3) L r S') else false
      | none => false) else false
    | _ => false)
  | .arraylength => (match st with
    | o :: r => bif Nat.beq o.1 5 then k (pc + 1) L ((0, o.2) :: r) S else bif (Nat.beq o.1 2 || Nat.beq o.1 4) && xv_le 0 o.2.1 then (match xv_get 14 A o.2.1.toNat with
      | some c => bif Nat.ble 1 c.1 && (Nat.ble c.1 7 && (Nat.beq o.1 2 || (Nat.ble 1 (xw_cnt o) && xw_like A c o.2.1.toNat (xw_cnt o)))) then k (pc + 1) L ((0, (Int.ofNat c.2.1, [])) :: r) S else false
      | none => false) else false
    | _ => false)
  | .iaload => xw_ald hl A 1 st S (fun v r S' => k (pc + 1) L (v :: r) S')
  | .baload => (match st with
    | _ :: o :: _ => (match xv_get 14 A o.2.1.toNat with
      | some c => bif Nat.beq c.1 2 then xw_ald hl A 2 st S (fun v r S' => k (pc + 1) L (v :: r) S') else xw_ald hl A 3 st S (fun v r S' => k (pc + 1) L (v :: r) S')
      | none => false)
    | _ => false)
  | .laload => xw_ald hl A 4 st S (fun v r S' => k (pc + 1) L (v :: r) S')
  | .aaload => (match st with
    | i :: o :: r => bif Nat.beq i.1 0 && (Nat.beq o.1 2 && xv_le 0 o.2.1) then (match xv_get 14 A o.2.1.toNat with
      | some c => bif (Nat.beq c.1 5 || Nat.beq c.1 6) && (xw_inb S c.2.1 i.2 && Nat.beq c.2.1 c.2.2.1) then (match xv_get 8 c.2.2.2 0 with
        | some u => bif Nat.beq u.1 2 && (xv_le 0 u.2.1 && xw_seq c.2.2.2 u.2.1 c.2.1) then (match (xw_nm S.1 i.2).2 with
            | [] => k (pc + 1) L ((2, (u.2.1 + (xw_nm S.1 i.2).1, [])) :: r) S
            | _ :: _ => k (pc + 1) L ((4, (u.2.1, [(c.2.1, 0)])) :: r) S) else false
        | none => false) else false
      | none => false) else false
    | _ => false)
  | .iastore => xw_ast hl A 1 0 st S (fun r S' => k (pc + 1) L r S')
  | .bastore => (match st with
    | _ :: _ :: o :: _ => (match xv_get 14 A o.2.1.toNat with
      | some c => bif Nat.beq c.1 2 then xw_ast hl A 2 0 st S (fun r S' => k (pc + 1) L r S') else xw_ast hl A 3 0 st S (fun r S' => k (pc + 1) L r S')
      | none => false)
    | _ => false)
  | .lastore => xw_ast hl A 4 1 st S (fun r S' => k (pc + 1) L r S')
  | .invokevirtual _ => (match xw_take b [] st with
    | some (as, o :: r) => bif Nat.beq o.1 2 && xv_le 0 o.2.1 then (match xv_get 14 A o.2.1.toNat with
      | some c => bif Nat.beq c.1 0 && Nat.beq c.2.1 v.toNat then xw_call call id pc a (o :: as) L r S k else false
      | none => false) else false
    | _ => false)
  | .invokestatic _ => bif Nat.beq a 9999 then (match st with
      | n :: dp :: d :: sp :: o :: r => bif Nat.ble (xw_cats r) 8 then xw_copy hl A S n dp d sp o (fun S' => k (pc + 3) L r S') else false
      | _ => false) else (match xw_take b [] st with
    | some (as, r) => xw_call call id pc a as L r S k
    | none => false)
  | .ireturn => (match st with
    | [x] => bif Nat.beq x.1 0 && (Nat.beq a 0 || (xw_prove S x.2 && xw_prove S (xw_k (xw_neg x.2) 1))) then kr (some x) S else false
    | _ => false)
  | .lreturn => (match st with
    | [x] => bif Nat.beq x.1 1 then kr (some x) S else false
    | _ => false)
  | .return_ => (match st with
    | [] => kr none S
    | _ => false)
  | _ => false
/-! the run of a method -/
noncomputable def xw_run (hl : Nat × Int) (A : xv_A) (gh : List xw_L) (Q : xw_Q) (call : xw_Cl) (id : Nat) (hs : List Nat) (full : List xv_E) (kr : xw_Kr) : Nat → List xv_E → Nat → List xw_A → xw_K := Nat.rec (motive := fun _ => List xv_E → Nat → List xw_A → xw_K) (fun _ _ _ _ _ _ _ => false) (fun _ ih rest pv act pc L st S =>
  bif xw_orl (fun h => Nat.beq h pc) hs then
    (match xw_find Q.1 id pc with
    | some h => (match st with
      | [] => (match (bif Nat.ble (pc + 1) pv then xw_act act pc else none) with
        | some a => xw_back hl A gh h a L S
        | none => bif h.2.2.2.2 && Nat.ble pv pc then (match xv_fetch full rest pc with
            | some (e, t) => xw_step hl A call id (fun pc' L' st' S' => ih t (pc + 1) (xw_fil (fun a => !(Nat.beq a.1 pc)) act) pc' L' st' S') kr e.2.1 e.2.2.2.1 e.2.2.2.2.1 e.2.2.2.2.2.2 pc L [] S
            | none => false) else xw_ent hl A gh h pc L S (fun a L1 S1 => match xv_fetch full rest pc with
            | some (e, t) => xw_step hl A call id (fun pc' L' st' S' => ih t (pc + 1) (a :: act) pc' L' st' S') kr e.2.1 e.2.2.2.1 e.2.2.2.2.1 e.2.2.2.2.2.2 pc L1 [] S1
            | none => false))
      | _ :: _ => false)
    | none => (match xw_find Q.2.1 id pc with
      | some f => xw_tv hl A gh L f.1 S (fun l S1 => xw_prove S1 (xw_k l (-f.2.1)) && (xw_prove S1 (xw_k (xw_neg l) (f.2.1 + Int.ofNat f.2.2 - 1)) && xw_part l S1 (fun S2 => match xv_fetch full rest pc with
          | some (e, t) => xw_step hl A call id (fun pc' L' st' S' => ih t (pc + 1) act pc' L' st' S') kr e.2.1 e.2.2.2.1 e.2.2.2.2.1 e.2.2.2.2.2.2 pc L st S2
          | none => false) f.2.1 f.2.2))
      | none => (match xv_fetch full rest pc with
        | some (e, t) => xw_step hl A call id (fun pc' L' st' S' => ih t (pc + 1) act pc' L' st' S') kr e.2.1 e.2.2.2.1 e.2.2.2.2.1 e.2.2.2.2.2.2 pc L st S
        | none => false)))
  else (match xv_fetch full rest pc with
    | some (e, t) => xw_step hl A call id (fun pc' L' st' S' => ih t (pc + 1) act pc' L' st' S') kr e.2.1 e.2.2.2.1 e.2.2.2.2.1 e.2.2.2.2.2.2 pc L st S
    | none => false))
/-! contracts -/
/-- an end: kind of the answer (9: none), its range, facts -/
abbrev xw_P : Type := Nat × Int × Int × List xw_T
/-- a contract: method, arguments, what is asked, ghosts, ends, what is written, frames -/
abbrev xw_C : Type := Nat × List (Nat × Int × Int) × List xw_T × List xw_T × List xw_P × xw_D × Nat
noncomputable def xw_locs (args : List xw_V) : Nat → List xw_V := List.rec (motive := fun _ => Nat → List xw_V) (fun n => xv_rep n xw_un) (fun v _ ih n => bif Nat.beq v.1 1 then v :: xw_un :: ih (n - 2) else v :: ih (n - 1)) args
noncomputable def xw_sig (S : xw_S) (sg : List (Nat × Int × Int)) : List xw_V → Bool := List.rec (motive := fun _ => List xw_V → Bool) (fun as => match as with
  | [] => true
  | _ :: _ => false) (fun a _ ih as => match as with
  | [] => false
  | v :: as' => Nat.beq v.1 a.1 && ((bif Nat.ble a.1 1 then xw_prove S (xw_k v.2 (-a.2.1)) && xw_prove S (xw_k (xw_neg v.2) a.2.2) else bif Nat.beq a.1 2 then xw_eqL v.2 (a.2.1, []) else bif Nat.beq a.1 4 then xw_eqL v.2 (a.2.1, [(a.2.2.toNat, 0)]) else Nat.beq a.1 6) && ih as')) sg
/-- a call by contract -/
noncomputable def xw_cc (hl : Nat × Int) (A : xv_A) (c : xw_C) (args : List xw_V) (S : xw_S) (kr : xw_Kr) : Bool := xw_sig S c.2.1 args && xw_tpr hl A [] (xw_locs args 0) c.2.2.1 S (fun S1 => xw_tgs hl A (xw_locs args 0) c.2.2.2.1 [] S1 (fun gs S2 => xw_anl (fun p => bif Nat.beq p.1 9 then xw_tas hl A gs (xw_locs args 0) p.2.2.2 (xw_kills c.2.2.2.2.2.1 S2) (fun S3 => kr none S3) else bif Nat.ble p.1 1 then xw_fr (xw_kills c.2.2.2.2.2.1 S2) p.2.1 p.2.2.1 (fun l S3 => xw_tas hl A gs (xw_locs args 0 ++ [(p.1, l)]) p.2.2.2 S3 (fun S4 => kr (some (p.1, l)) S4)) else false) c.2.2.2.2.1))
noncomputable def xw_calls (hl : Nat × Int) (A : xv_A) (M : xv_M) (HS : List (List (List Nat))) (CT : List (List xw_C)) (F : Nat) (gh : List xw_L) (Q : xw_Q) : Nat → xw_Cl := Nat.rec (motive := fun _ => xw_Cl) (fun _ _ _ _ _ _ => false) (fun d ih caller pc id args S kr => (match xw_find Q.2.2 caller pc with
  | some cs => xw_orl (fun j => match xv_get 20 CT j with
    | some c => Nat.beq c.1 id && (Nat.ble c.2.2.2.2.2.2 (d + 1) && xw_cc hl A c args S kr)
    | none => false) cs
  | none => false) || (match xv_get 20 M id with
    | some q => (match xv_get 20 HS id with
      | some hs => bif Nat.ble (xw_cats args) q.2 then xw_run hl A gh Q ih id hs q.1 kr F q.1 0 [] 0 (xw_locs args q.2) [] S else false
      | none => false)
    | none => false))
noncomputable def xw_mka (sg : List (Nat × Int × Int)) : xw_S → List xw_V → (List xw_V → xw_S → Bool) → Bool := List.rec (motive := fun _ => xw_S → List xw_V → (List xw_V → xw_S → Bool) → Bool) (fun S acc k => k acc S) (fun a _ ih S acc k => bif Nat.ble a.1 1 then xw_fr S a.2.1 a.2.2 (fun l S' => ih S' (acc ++ [(a.1, l)]) k) else bif Nat.beq a.1 2 then ih S (acc ++ [(2, (a.2.1, []))]) k else bif Nat.beq a.1 4 then ih S (acc ++ [(4, (a.2.1, [(a.2.2.toNat, 0)]))]) k else bif Nat.beq a.1 6 then ih S (acc ++ [(6, (0, []))]) k else false) sg
def xw_S0 : xw_S := (xv_rep 16 (xv_rep 16 (0, 0)), 0, [], [], [], [], [])
/-- an end is one of the contract's -/
noncomputable def xw_end (hl : Nat × Int) (A : xv_A) (c : xw_C) (args : List xw_V) (gs : List xw_L) (r : Option xw_V) (S : xw_S) : Bool := xw_anl (fun e => xw_isin c.2.2.2.2.2.1 e.1 e.2) S.2.2.2.2.2.2 && xw_orl (fun p => match r with
  | none => Nat.beq p.1 9 && xw_tpr hl A gs (xw_locs args 0) p.2.2.2 S (fun _ => true)
  | some v => Nat.beq p.1 v.1 && (Nat.ble v.1 1 && (xw_prove S (xw_k v.2 (-p.2.1)) && (xw_prove S (xw_k (xw_neg v.2) p.2.2.1) && xw_tpr hl A gs (xw_locs args 0 ++ [v]) p.2.2.2 S (fun _ => true))))) c.2.2.2.2.1
/-- a contract, checked -/
noncomputable def xw_con (hl : Nat × Int) (A : xv_A) (M : xv_M) (HS : List (List (List Nat))) (CT : List (List xw_C)) (F : Nat) (Q : xw_Q) (c : xw_C) : Bool := match xv_get 20 M c.1, xv_get 20 HS c.1 with
  | some q, some hs => xw_mka c.2.1 xw_S0 [] (fun args S1 => xw_tas hl A [] (xw_locs args 0) c.2.2.1 S1 (fun S2 => xw_tgs hl A (xw_locs args 0) c.2.2.2.1 [] S2 (fun gs S3 => bif Nat.ble (xw_cats args) q.2 then xw_run hl A gs Q (xw_calls hl A M HS CT F gs Q (c.2.2.2.2.2.2 - 1)) c.1 hs q.1 (fun r S => xw_end hl A c args gs r S) F q.1 0 [] 0 (xw_locs args q.2) [] S3 else false)))
  | _, _ => false
