/-! templates: numbers told by the names of places -/
/-- a name: 0 the local a, 1 the cell a at an index over locals, 2 the ghost a -/
abbrev xw_Nm : Type := Nat × Nat × Int × List (Nat × Int)
abbrev xw_T : Type := Int × List (Int × xw_Nm)
noncomputable def xw_lv (L : List xw_V) (i : Nat) : Option xw_L := match xv_nth L i with
  | some v => bif Nat.ble v.1 1 then some v.2 else none
  | none => none
noncomputable def xw_ix (L : List xw_V) (c : Int) (ts : List (Nat × Int)) : Option xw_L := List.rec (motive := fun _ => Option xw_L) (some (c, [])) (fun t _ ih => match ih with
  | none => none
  | some a => match xw_lv L t.1 with
    | none => none
    | some l => some (xw_add a (xw_scl t.2 l))) ts
noncomputable def xw_tev (hl : Nat × Int) (A : xv_A) (gh : List xw_L) (L : List xw_V) (ts : List (Int × xw_Nm)) : xw_L → xw_S → (xw_L → xw_S → Bool) → Bool := List.rec (motive := fun _ => xw_L → xw_S → (xw_L → xw_S → Bool) → Bool) (fun acc S k => k acc S) (fun q _ ih acc S k => match q.2.1 with
  | 0 => (match xw_lv L q.2.2.1 with
    | some l => ih (xw_add acc (xw_scl q.1 l)) S k
    | none => false)
  | 1 => (match xw_ix L q.2.2.2.1 q.2.2.2.2 with
    | some i => xw_rd hl A S q.2.2.1 i (fun v S' => bif Nat.ble v.1 1 then ih (xw_add acc (xw_scl q.1 v.2)) S' k else false)
    | none => false)
  | _ => (match xv_nth gh q.2.2.1 with
    | some l => ih (xw_add acc (xw_scl q.1 l)) S k
    | none => false)) ts
noncomputable def xw_tv (hl : Nat × Int) (A : xv_A) (gh : List xw_L) (L : List xw_V) (t : xw_T) (S : xw_S) (k : xw_L → xw_S → Bool) : Bool := xw_tev hl A gh L t.2 (t.1, []) S k
/-- all of them are not below 0 -/
noncomputable def xw_tpr (hl : Nat × Int) (A : xv_A) (gh : List xw_L) (L : List xw_V) (ts : List xw_T) : xw_S → (xw_S → Bool) → Bool := List.rec (motive := fun _ => xw_S → (xw_S → Bool) → Bool) (fun S k => k S) (fun t _ ih S k => xw_tv hl A gh L t S (fun l S' => xw_prove S' l && ih S' k)) ts
/-- all of them are taken as not below 0 -/
noncomputable def xw_tas (hl : Nat × Int) (A : xv_A) (gh : List xw_L) (L : List xw_V) (ts : List xw_T) : xw_S → (xw_S → Bool) → Bool := List.rec (motive := fun _ => xw_S → (xw_S → Bool) → Bool) (fun S k => k S) (fun t _ ih S k => xw_tv hl A gh L t S (fun l S' => xw_asm S' l (fun S'' => ih S'' k))) ts
/-- their forms -/
noncomputable def xw_tgs (hl : Nat × Int) (A : xv_A) (L : List xw_V) (ts : List xw_T) : List xw_L → xw_S → (List xw_L → xw_S → Bool) → Bool := List.rec (motive := fun _ => List xw_L → xw_S → (List xw_L → xw_S → Bool) → Bool) (fun acc S k => k acc S) (fun t _ ih acc S k => xw_tv hl A [] L t S (fun l S' => ih (acc ++ [l]) S' k)) ts
/-! heads of loops -/
abbrev xw_Sg : Type := Nat × xw_T × xw_T × Int × Int × Int
abbrev xw_Al : Type := List (Int × Int) × List xw_T × xw_T
/-- what a loop changes: locals (which, kind, step), places; stretches; alternatives (ranges, facts, measure); whether it is run through at first -/
abbrev xw_H : Type := List (Nat × Nat × Nat) × xw_D × List xw_Sg × List xw_Al × Bool
/-- a head that stands open: its place, its measure, the locals, the state -/
abbrev xw_A : Type := Nat × xw_L × List xw_V × xw_S
noncomputable def xw_hav (hv : List (Nat × Nat × Nat)) : List (Int × Int) → List xw_V → xw_S → (List xw_V → xw_S → Bool) → Bool := List.rec (motive := fun _ => List (Int × Int) → List xw_V → xw_S → (List xw_V → xw_S → Bool) → Bool) (fun _ L S k => k L S) (fun h _ ih rs L S k => match rs with
  | [] => false
  | r :: rs' => bif Nat.beq h.2.1 9 then ih rs' (xv_put (9, (0, [])) L h.1) S k else bif Nat.ble h.2.1 1 then xw_fr S r.1 r.2 (fun l S' => ih rs' (xv_put (h.2.1, xw_scl (Int.ofNat h.2.2) l) L h.1) S' k) else false) hv
noncomputable def xw_rok (S : xw_S) (L : List xw_V) (hv : List (Nat × Nat × Nat)) : List (Int × Int) → Bool := List.rec (motive := fun _ => List (Int × Int) → Bool) (fun _ => true) (fun h _ ih rs => match rs with
  | [] => false
  | r :: rs' => (bif Nat.beq h.2.1 9 then true else match xv_nth L h.1 with
    | some v => Nat.beq v.1 h.2.1 && (Nat.ble h.2.1 1 && (Nat.ble 1 h.2.2 && ((bif Nat.beq h.2.2 1 then true else xw_dvs (Int.ofNat h.2.2) v.2) && (xw_prove S (xw_k v.2 (-(Int.ofNat h.2.2 * r.1))) && xw_prove S (xw_k (xw_neg v.2) (Int.ofNat h.2.2 * r.2))))))
    | none => false) && ih rs') hv
noncomputable def xw_sok (S : xw_S) (r : Nat) (b sp : xw_L) (s lo hi : Int) : Bool := xw_prove S (xw_neg sp) || xw_orl (fun g => Nat.beq g.1 r && (xw_eqL g.2.1 b && (xw_ieq g.2.2.2.1 s && (xv_le 1 s && (xv_le lo g.2.2.2.2.1 && (xv_le g.2.2.2.2.2 hi && (xw_prove S (xw_sub g.2.2.1 sp) || (xw_dvs s g.2.2.1 && (xw_prove S (xw_k (xw_sub g.2.2.1 sp) s) && (match xw_mem S.2.2.2.1 r (xw_nm S.1 (xw_add b g.2.2.1)) with
  | some v => Nat.ble v.1 1 && (xw_prove S (xw_k v.2 (-lo)) && xw_prove S (xw_k (xw_neg v.2) hi))
  | none => false)))))))))) S.2.2.2.2.1
noncomputable def xw_soks (hl : Nat × Int) (A : xv_A) (gh : List xw_L) (L : List xw_V) (sg : List xw_Sg) : xw_S → (xw_S → Bool) → Bool := List.rec (motive := fun _ => xw_S → (xw_S → Bool) → Bool) (fun S k => k S) (fun g _ ih S k => xw_tv hl A gh L g.2.1 S (fun b S1 => xw_tv hl A gh L g.2.2.1 S1 (fun sp S2 => xw_sok S2 g.1 b sp g.2.2.2.1 g.2.2.2.2.1 g.2.2.2.2.2 && ih S2 k))) sg
noncomputable def xw_sadd (hl : Nat × Int) (A : xv_A) (gh : List xw_L) (L : List xw_V) (sg : List xw_Sg) : xw_S → (xw_S → Bool) → Bool := List.rec (motive := fun _ => xw_S → (xw_S → Bool) → Bool) (fun S k => k S) (fun g _ ih S k => xw_tv hl A gh L g.2.1 S (fun b S1 => xw_tv hl A gh L g.2.2.1 S1 (fun sp S2 => ih (S2.1, S2.2.1, S2.2.2.1, S2.2.2.2.1, (g.1, b, sp, g.2.2.2) :: S2.2.2.2.2.1, S2.2.2.2.2.2) k))) sg
/-- an alternative holds -/
noncomputable def xw_chk (hl : Nat × Int) (A : xv_A) (gh : List xw_L) (h : xw_H) (al : xw_Al) (L : List xw_V) (S : xw_S) (fin : xw_S → Bool) : Bool := xw_rok S L h.1 al.1 && xw_soks hl A gh L h.2.2.1 S (fun S1 => xw_tpr hl A gh L al.2.1 S1 fin)
noncomputable def xw_sub1 {α : Type} (eq : α → α → Bool) (cur : List α) : List α → Bool := List.rec (motive := fun _ => List α → Bool) (fun kept => match kept with
  | [] => true
  | _ :: _ => false) (fun a _ ih kept => match kept with
  | [] => true
  | b :: t => bif eq a b then ih t else ih kept) cur
noncomputable def xw_eqM (a b : xw_M) : Bool := Nat.beq a.1 b.1 && (xw_eqL a.2.1 b.2.1 && xw_eqV a.2.2 b.2.2)
noncomputable def xw_eqG (a b : xw_G) : Bool := Nat.beq a.1 b.1 && (xw_eqL a.2.1 b.2.1 && (xw_eqL a.2.2.1 b.2.2.1 && (xw_ieq a.2.2.2.1 b.2.2.2.1 && (xw_ieq a.2.2.2.2.1 b.2.2.2.2.1 && xw_ieq a.2.2.2.2.2 b.2.2.2.2.2))))
noncomputable def xw_leq (hv : List (Nat × Nat × Nat)) (L : List xw_V) : List xw_V → Nat → Bool := List.rec (motive := fun _ => List xw_V → Nat → Bool) (fun K _ => match K with
  | [] => true
  | _ :: _ => false) (fun a _ ih K i => match K with
  | [] => false
  | b :: K' => (xw_orl (fun h => Nat.beq h.1 i) hv || xw_eqV a b) && ih K' (i + 1)) L
/-- a head is come back to -/
noncomputable def xw_back (hl : Nat × Int) (A : xv_A) (gh : List xw_L) (h : xw_H) (a : xw_A) (L : List xw_V) (S : xw_S) : Bool := xw_leq h.1 L a.2.2.1 0 && (xw_sub1 xw_eqM S.2.2.2.1 a.2.2.2.2.2.2.1 && (xw_sub1 xw_eqG S.2.2.2.2.1 a.2.2.2.2.2.2.2.1 && (xw_anl (fun e => xw_isin a.2.2.2.2.2.2.2.2.2 e.1 e.2) S.2.2.2.2.2.2 &&
  xw_orl (fun al => xw_chk hl A gh h al L S (fun S1 => xw_tv hl A gh L al.2.2 S1 (fun l S2 => xw_prove S2 (xw_k (xw_sub a.2.1 l) (-1)) && xw_prove S2 a.2.1))) h.2.2.2.1)))
/-- the state at a head, by an alternative -/
noncomputable def xw_gen (hl : Nat × Int) (A : xv_A) (gh : List xw_L) (h : xw_H) (al : xw_Al) (L : List xw_V) (S : xw_S) (k : xw_L → List xw_V → xw_S → Bool) : Bool := xw_hav h.1 al.1 L S (fun L1 S1 => xw_sadd hl A gh L1 h.2.2.1 S1 (fun S2 => xw_tas hl A gh L1 al.2.1 S2 (fun S3 => xw_tv hl A gh L1 al.2.2 S3 (fun l S4 => k l L1 S4))))
noncomputable def xw_ent (hl : Nat × Int) (A : xv_A) (gh : List xw_L) (h : xw_H) (pc : Nat) (L : List xw_V) (S : xw_S) (k : xw_A → List xw_V → xw_S → Bool) : Bool := xw_orl (fun al => xw_chk hl A gh h al L S (fun S1 => xw_tv hl A gh L al.2.2 S1 (fun _ _ => true))) h.2.2.2.1 && xw_anl (fun al => xw_gen hl A gh h al L (xw_kills h.2.1 S) (fun l L1 S1 => k (pc, l, L, xw_kills h.2.1 S) L1 S1)) h.2.2.2.1
/-- a number is parted into those from c on, n of them -/
noncomputable def xw_part (l : xw_L) (S : xw_S) (k : xw_S → Bool) (c : Int) (n : Nat) : Bool := Nat.rec (motive := fun _ => Int → Bool) (fun _ => true) (fun _ ih c => xw_asm S (xw_k l (-c)) (fun S1 => xw_asm S1 (xw_k (xw_neg l) c) k) && ih (c + 1)) n c
abbrev xw_F : Type := xw_T × Int × Nat
/-- what is told of a run: heads, forks, calls by contract -/
abbrev xw_Q : Type := List (Nat × Nat × xw_H) × List (Nat × Nat × xw_F) × List (Nat × Nat × List Nat)
noncomputable def xw_find {α : Type} (l : List (Nat × Nat × α)) (i p : Nat) : Option α := List.rec (motive := fun _ => Option α) none (fun a _ ih => bif Nat.beq a.1 i && Nat.beq a.2.1 p then some a.2.2 else ih) l
noncomputable def xw_act (l : List xw_A) (p : Nat) : Option xw_A := List.rec (motive := fun _ => Option xw_A) none (fun a _ ih => bif Nat.beq a.1 p then some a else ih) l
abbrev xw_Kr : Type := Option xw_V → xw_S → Bool
abbrev xw_K : Type := Nat → List xw_V → List xw_V → xw_S → Bool
abbrev xw_Cl : Type := Nat → Nat → Nat → List xw_V → xw_S → xw_Kr → Bool
/-! the steps -/
def xw_un : xw_V := (9, (0, []))
noncomputable def xw_cl1 (L : List xw_V) (i : Nat) : List xw_V := match i with
  | 0 => L
  | j + 1 => match xv_nth L j with
    | some v => bif Nat.beq v.1 1 then xv_put xw_un L j else L
    | none => L
noncomputable def xw_st1 (L : List xw_V) (i : Nat) (v : xw_V) : List xw_V := xv_put v (xw_cl1 L i) i
noncomputable def xw_st2 (L : List xw_V) (i : Nat) (v : xw_V) : List xw_V := xv_put xw_un (xv_put v (xw_cl1 L i) i) (i + 1)
noncomputable def xw_ld (kd : Nat) (L : List xw_V) (i : Nat) (k : xw_V → Bool) : Bool := match xv_nth L i with
  | some v => bif Nat.beq v.1 kd then k v else false
  | none => false
def xw_isr (v : xw_V) : Bool := Nat.beq v.1 2 || (Nat.beq v.1 3 || (Nat.beq v.1 4 || (Nat.beq v.1 5 || Nat.beq v.1 6)))
noncomputable def xw_lda (L : List xw_V) (i : Nat) (k : xw_V → Bool) : Bool := match xv_nth L i with
  | some v => bif xw_isr v then k v else false
  | none => false
noncomputable def xw_sto (kd i : Nat) (L st : List xw_V) (k : List xw_V → List xw_V → Bool) : Bool := match st with
  | v :: r => bif Nat.beq v.1 kd && Nat.ble (i + 1) L.length then k (xw_st1 L i v) r else false
  | [] => false
noncomputable def xw_stoa (i : Nat) (L st : List xw_V) (k : List xw_V → List xw_V → Bool) : Bool := match st with
  | v :: r => bif (Nat.beq v.1 2 || Nat.beq v.1 3) && Nat.ble (i + 1) L.length then k (xw_st1 L i v) r else false
  | [] => false
noncomputable def xw_stol (i : Nat) (L st : List xw_V) (k : List xw_V → List xw_V → Bool) : Bool := match st with
  | v :: r => bif Nat.beq v.1 1 && Nat.ble (i + 2) L.length then k (xw_st2 L i v) r else false
  | [] => false
noncomputable def xw_bin (kd ky : Nat) (st : List xw_V) (f : xw_L → xw_L → List xw_V → Bool) : Bool := match st with
  | y :: x :: r => bif Nat.beq x.1 kd && Nat.beq y.1 ky then f x.2 y.2 r else false
  | _ => false
def xw_cat (v : xw_V) : Nat := bif Nat.beq v.1 1 then 2 else bif Nat.ble v.1 7 then 1 else 100
noncomputable def xw_cats (st : List xw_V) : Nat := List.rec (motive := fun _ => Nat) 0 (fun v _ n => xw_cat v + n) st
noncomputable def xw_take (k : Nat) : List xw_V → List xw_V → Option (List xw_V × List xw_V) := Nat.rec (motive := fun _ => List xw_V → List xw_V → Option (List xw_V × List xw_V)) (fun acc st => some (acc, st)) (fun _ ih acc st => match st with
  | v :: r => ih (v :: acc) r
  | [] => none) k
noncomputable def xw_call (call : xw_Cl) (id pc callee : Nat) (args L rest : List xw_V) (S : xw_S) (k : xw_K) : Bool := bif Nat.ble (xw_cats rest) 8 then call id pc callee args S (fun r S' => match r with
  | some v => k (pc + 3) L (v :: rest) S'
  | none => k (pc + 3) L rest S') else false
/-- rows of one kind: the cells from q on, n of them, are like the first -/
noncomputable def xw_like (A : xv_A) (c : xv_C) (q : Nat) (n : Nat) : Bool := Nat.rec (motive := fun _ => Bool) true (fun j ih => ih && match xv_get 14 A (q + j) with
  | some d => Nat.beq d.1 c.1 && (Nat.beq d.2.1 c.2.1 && (Nat.beq d.2.2.1 1 && (match xv_get 8 d.2.2.2 0, xv_get 8 c.2.2.2 0 with
    | some u, some v => Nat.beq u.1 v.1 && (Nat.ble u.1 1 && (xw_ieq u.2.1 v.2.1 && xw_ieq u.2.2 v.2.2))
    | _, _ => false)))
  | none => false) n
def xw_cnt (v : xw_V) : Nat := match v.2.2 with
  | [t] => t.1
  | _ => 0
noncomputable def xw_scrip (S : xw_S) (len i : xw_L) (k : xw_V → xw_S → Bool) : Bool := bif xw_prove S i && xw_prove S (xw_k (xw_sub len i) (-1)) then (match xw_mem S.2.2.2.1 9999 (xw_nm S.1 i) with
  | some v => k v S
  | none => xw_fr S (-2147483648) 2147483647 (fun l S' => k (0, l) (S'.1, S'.2.1, S'.2.2.1, (9999, xw_nm S.1 i, (0, l)) :: S'.2.2.2.1, S'.2.2.2.2))) else false
/-- a row's place is read: kd the kind of row -/
noncomputable def xw_ald (hl : Nat × Int) (A : xv_A) (kd : Nat) (st : List xw_V) (S : xw_S) (k : xw_V → List xw_V → xw_S → Bool) : Bool := match st with
  | i :: o :: r => bif Nat.beq i.1 0 then
      (bif Nat.beq o.1 5 then (bif Nat.beq kd 1 then xw_scrip S o.2 i.2 (fun v S' => k v r S') else false) else
      bif Nat.beq o.1 2 && xv_le 0 o.2.1 then (match xv_get 14 A o.2.1.toNat with
        | some c => bif Nat.beq c.1 kd then xw_rd hl A S o.2.1.toNat i.2 (fun v S' => k v r S') else false
        | none => false) else
      bif Nat.beq o.1 4 && xv_le 0 o.2.1 then (match xv_get 14 A o.2.1.toNat with
        | some c => bif Nat.beq c.1 kd && (Nat.ble 1 (xw_cnt o) && (xw_like A c o.2.1.toNat (xw_cnt o) && xw_inb S c.2.1 i.2)) then (match xv_get 8 c.2.2.2 0 with
          | some u => xw_fr S u.2.1 u.2.2 (fun l S' => k (u.1, l) r S')
          | none => false) else false
        | none => false) else false) else false
  | _ => false
noncomputable def xw_many (q n : Nat) : xw_D := Nat.rec (motive := fun _ => xw_D) [] (fun j l => (q + j, 0) :: l) n
noncomputable def xw_ast (hl : Nat × Int) (A : xv_A) (kd ke : Nat) (st : List xw_V) (S : xw_S) (k : List xw_V → xw_S → Bool) : Bool := match st with
  | v :: i :: o :: r => bif Nat.beq i.1 0 && Nat.beq v.1 ke then
      (bif Nat.beq o.1 2 && xv_le 0 o.2.1 then (match xv_get 14 A o.2.1.toNat with
        | some c => bif Nat.beq c.1 kd then xw_wr hl A S o.2.1.toNat i.2 v (fun S' => k r S') else false
        | none => false) else
      bif Nat.beq o.1 4 && xv_le 0 o.2.1 then (match xv_get 14 A o.2.1.toNat with
        | some c => bif Nat.beq c.1 kd && (Nat.ble 1 (xw_cnt o) && (xw_like A c o.2.1.toNat (xw_cnt o) && (xw_inb S c.2.1 i.2 && (xw_wok S c.2.2.2 0 v 1 && !(Nat.ble o.2.1.toNat hl.1 && Nat.ble (hl.1 + 1) (o.2.1.toNat + xw_cnt o)))))) then k r (xw_kills (xw_many o.2.1.toNat (xw_cnt o)) S) else false
        | none => false) else false) else false
  | _ => false
