/-! E2, the executor's second form: numbers are forms over variables; variables have intervals; facts are forms that are not below 0; what lies in cells is known by a memo and by the types of the cells -/
abbrev xw_L : Type := Int × List (Nat × Int)
/-- a value: 0 an int, 1 a long, 2 the cell that the form names, 3 null, 4 one of the cells from the form's on (how many: its variable), 5 the script (the form: its length), 6 a text, 7 how a long form stands to 0, 9 nothing is known -/
abbrev xw_V : Type := Nat × xw_L
abbrev xw_N : Type := List (List (Int × Int))
abbrev xw_M : Type := Nat × xw_L × xw_V
/-- a stretch of a row: cell, from where, how far, step, the numbers' bounds -/
abbrev xw_G : Type := Nat × xw_L × xw_L × Int × Int × Int
/-- a record: 0 two to the power, 1 a shift, 2 a bit, 3 a product -/
abbrev xw_R : Type := Nat × Nat × xw_L × xw_L
abbrev xw_D : Type := List (Nat × Nat)
/-- intervals, how many variables, facts, memo, stretches, records, what was written -/
abbrev xw_S : Type := xw_N × Nat × List xw_L × List xw_M × List xw_G × List xw_R × xw_D
def xw_ieq (a b : Int) : Bool := match a - b with
  | .ofNat n => Nat.beq n 0
  | .negSucc _ => false
noncomputable def xw_orl {α : Type} (p : α → Bool) (l : List α) : Bool := List.rec (motive := fun _ => Bool) false (fun a _ ih => p a || ih) l
noncomputable def xw_anl {α : Type} (p : α → Bool) (l : List α) : Bool := List.rec (motive := fun _ => Bool) true (fun a _ ih => p a && ih) l
noncomputable def xw_fil {α : Type} (p : α → Bool) (l : List α) : List α := List.rec (motive := fun _ => List α) [] (fun a _ ih => bif p a then a :: ih else ih) l
noncomputable def xw_ins (t : Nat × Int) (l : List (Nat × Int)) : List (Nat × Int) := List.rec (motive := fun _ => List (Nat × Int)) [t] (fun h tl ih => bif Nat.beq h.1 t.1 then (bif xw_ieq (h.2 + t.2) 0 then tl else (h.1, h.2 + t.2) :: tl) else bif Nat.ble t.1 h.1 then t :: h :: tl else h :: ih) l
noncomputable def xw_add (a b : xw_L) : xw_L := (a.1 + b.1, List.rec (motive := fun _ => List (Nat × Int)) a.2 (fun t _ ih => xw_ins t ih) b.2)
noncomputable def xw_scl (k : Int) (a : xw_L) : xw_L := bif xw_ieq k 0 then (0, []) else (k * a.1, List.rec (motive := fun _ => List (Nat × Int)) [] (fun t _ ih => (t.1, k * t.2) :: ih) a.2)
noncomputable def xw_neg (a : xw_L) : xw_L := xw_scl (-1) a
noncomputable def xw_sub (a b : xw_L) : xw_L := xw_add a (xw_neg b)
def xw_k (a : xw_L) (c : Int) : xw_L := (a.1 + c, a.2)
noncomputable def xw_eqt (l : List (Nat × Int)) : List (Nat × Int) → Bool := List.rec (motive := fun _ => List (Nat × Int) → Bool) (fun m => match m with
  | [] => true
  | _ :: _ => false) (fun t _ ih m => match m with
  | [] => false
  | u :: m' => Nat.beq t.1 u.1 && (xw_ieq t.2 u.2 && ih m')) l
noncomputable def xw_eqL (a b : xw_L) : Bool := xw_ieq a.1 b.1 && xw_eqt a.2 b.2
noncomputable def xw_eqV (a b : xw_V) : Bool := Nat.beq a.1 b.1 && xw_eqL a.2 b.2
noncomputable def xw_e (E : xw_N) (v : Nat) : Int × Int := match xv_get 16 E v with
  | some p => p
  | none => (0, 0)
noncomputable def xw_lo (E : xw_N) (a : xw_L) : Int := List.rec (motive := fun _ => Int) a.1 (fun t _ ih => ih + (bif xv_le 0 t.2 then t.2 * (xw_e E t.1).1 else t.2 * (xw_e E t.1).2)) a.2
noncomputable def xw_hi (E : xw_N) (a : xw_L) : Int := List.rec (motive := fun _ => Int) a.1 (fun t _ ih => ih + (bif xv_le 0 t.2 then t.2 * (xw_e E t.1).2 else t.2 * (xw_e E t.1).1)) a.2
noncomputable def xw_cf (l : List (Nat × Int)) (v : Nat) : Int := List.rec (motive := fun _ => Int) 0 (fun t _ ih => bif Nat.beq t.1 v then t.2 else ih) l
/-- how often a fact goes into a number of another form -/
def xw_q (c k : Int) : Int := bif xw_ieq k 0 then 0 else bif xw_ieq (c / k * k) c then c / k else 0
noncomputable def xw_rev (l : List (Nat × Int)) : List (Nat × Int) := List.rec (motive := fun _ => List (Nat × Int) → List (Nat × Int)) (fun acc => acc) (fun t _ ih acc => ih (t :: acc)) l []
/-- 0 ≤ g, by intervals and by facts, one behind the other -/
noncomputable def xw_chain (E : xw_N) (F : List xw_L) : Nat → xw_L → Bool := Nat.rec (motive := fun _ => xw_L → Bool) (fun g => xv_le 0 (xw_lo E g)) (fun _ ih g => xv_le 0 (xw_lo E g) ||
  List.rec (motive := fun _ => Bool) false (fun t _ more => bif xw_orl (fun f => xv_le 1 (xw_q t.2 (xw_cf f.2 t.1))) F then
      xw_orl (fun f => xv_le 1 (xw_q t.2 (xw_cf f.2 t.1)) && ih (xw_sub g (xw_scl (xw_q t.2 (xw_cf f.2 t.1)) f))) F
    else more) (xw_rev g.2))
noncomputable def xw_prove (S : xw_S) (g : xw_L) : Bool := xw_chain S.1 S.2.2.1 9 g
def xw_max (a b : Int) : Int := bif xv_le a b then b else a
def xw_min (a b : Int) : Int := bif xv_le a b then a else b
/-- a variable's interval by a form that is not below 0 and not above h -/
noncomputable def xw_rf1 (h : Int) (E : xw_N) (t : Nat × Int) : xw_N := bif xv_le 1 t.2 then xv_upd 16 E t.1 (xw_max (xw_e E t.1).1 ((xw_e E t.1).2 - h / t.2), (xw_e E t.1).2) else bif xv_le t.2 (-1) then xv_upd 16 E t.1 ((xw_e E t.1).1, xw_min (xw_e E t.1).2 ((xw_e E t.1).1 + h / (-t.2))) else E
noncomputable def xw_rfs (h : Int) (l : List (Nat × Int)) (E : xw_N) : xw_N := List.rec (motive := fun _ => xw_N → xw_N) (fun E => E) (fun t _ ih E => ih (xw_rf1 h E t)) l E
def xw_two {α : Type} (l : List α) : Bool := match l with
  | _ :: _ :: _ => true
  | _ => false
/-- g is not below 0: k goes on, if that can be -/
noncomputable def xw_asm (S : xw_S) (g : xw_L) (k : xw_S → Bool) : Bool := bif xv_le 0 (xw_lo S.1 g) then k S else bif xv_le (xw_hi S.1 g) (-1) then true else bif xw_two g.2 && xw_prove S (xw_k (xw_neg g) (-1)) then true else
  k (xw_rfs (xw_hi S.1 g) g.2 S.1, S.2.1, bif xw_two g.2 && !(xw_orl (fun f => xw_eqL f g) S.2.2.1) then g :: S.2.2.1 else S.2.2.1, S.2.2.2)
/-- a new variable -/
noncomputable def xw_fr (S : xw_S) (lo hi : Int) (k : xw_L → xw_S → Bool) : Bool := bif xv_le hi lo then k (lo, []) S else bif Nat.ble (S.2.1 + 1) 256 then k (0, [(S.2.1, 1)]) (xv_upd 16 S.1 S.2.1 (lo, hi), S.2.1 + 1, S.2.2) else false
noncomputable def xw_nm (E : xw_N) (a : xw_L) : xw_L := match a.2 with
  | [] => a
  | _ :: _ => bif xv_le (xw_hi E a) (xw_lo E a) then (xw_lo E a, []) else a
/-! cells -/
noncomputable def xw_rst (w : Int) (a : xw_L) : xw_L := (a.1, xw_fil (fun t => !(xw_ieq (t.2 % w) 0)) a.2)
/-- which places of the pattern an index can have: from, how many -/
noncomputable def xw_rr (E : xw_N) (w : Nat) (i : xw_L) : Nat × Nat := bif Nat.beq w 1 then (0, 1) else match (xw_rst (Int.ofNat w) i).2 with
  | [] => ((i.1 % Int.ofNat w).toNat, 1)
  | _ :: _ => bif xv_le (xw_hi E (xw_rst (Int.ofNat w) i) - xw_lo E (xw_rst (Int.ofNat w) i) + 1) (Int.ofNat w) && xv_le (xw_lo E (xw_rst (Int.ofNat w) i) % Int.ofNat w) (xw_hi E (xw_rst (Int.ofNat w) i) % Int.ofNat w) then ((xw_lo E (xw_rst (Int.ofNat w) i) % Int.ofNat w).toNat, (xw_hi E (xw_rst (Int.ofNat w) i) - xw_lo E (xw_rst (Int.ofNat w) i)).toNat + 1) else (0, w)
/-- the places' ranges in one -/
noncomputable def xw_jn (els : List (List xv_V)) (s cnt : Nat) : Option xv_V := Nat.rec (motive := fun _ => Option xv_V) none (fun m _ => Nat.rec (motive := fun _ => Option xv_V) (xv_get 8 els s) (fun j acc => match acc with
  | none => none
  | some v => match xv_get 8 els (s + j + 1) with
    | none => none
    | some u => bif Nat.beq v.1 u.1 && Nat.ble u.1 1 then some (xv_join v u) else none) m) cnt
noncomputable def xw_len (c : xv_C) : Nat := bif Nat.beq c.1 0 then c.2.2.1 else c.2.1
noncomputable def xw_inb (S : xw_S) (n : Nat) (i : xw_L) : Bool := xw_prove S i && xw_prove S (xw_k (xw_neg i) (Int.ofNat n - 1))
noncomputable def xw_mem (M : List xw_M) (r : Nat) (i : xw_L) : Option xw_V := List.rec (motive := fun _ => Option xw_V) none (fun m _ ih => bif Nat.beq m.1 r && xw_eqL m.2.1 i then some m.2.2 else ih) M
noncomputable def xw_dvs (s : Int) (a : xw_L) : Bool := xw_ieq (a.1 % s) 0 && xw_anl (fun t => xw_ieq (t.2 % s) 0) a.2
/-- the bounds at a place: the stretch's in which it lies, or those given -/
noncomputable def xw_sgr (S : xw_S) (r : Nat) (i : xw_L) (d : Int × Int) : Int × Int := List.rec (motive := fun _ => Int × Int) d (fun g _ ih => bif Nat.beq g.1 r && (xv_le 1 g.2.2.2.1 && (xw_dvs g.2.2.2.1 (xw_sub i g.2.1) && (xw_prove S (xw_sub i g.2.1) && xw_prove S (xw_k (xw_sub g.2.2.1 (xw_sub i g.2.1)) (-1))))) then (g.2.2.2.2.1, g.2.2.2.2.2) else ih) S.2.2.2.2.1
/-- a place of a cell is read; hl: the cell with a number that never stands in it -/
noncomputable def xw_rd (hl : Nat × Int) (A : xv_A) (S : xw_S) (r : Nat) (i : xw_L) (k : xw_V → xw_S → Bool) : Bool := match xv_get 14 A r with
  | none => false
  | some c => bif Nat.ble 1 c.2.2.1 && (Nat.ble c.1 6 && xw_inb S (xw_len c) i) then
      (match xw_mem S.2.2.2.1 r (xw_nm S.1 i) with
      | some v => k v S
      | none => (match xw_jn c.2.2.2 (xw_rr S.1 c.2.2.1 (xw_nm S.1 i)).1 (xw_rr S.1 c.2.2.1 (xw_nm S.1 i)).2 with
        | none => false
        | some u => bif Nat.ble u.1 1 then
            xw_fr S (xw_sgr S r (xw_nm S.1 i) (u.2.1, u.2.2)).1 (xw_sgr S r (xw_nm S.1 i) (u.2.1, u.2.2)).2 (fun l S' =>
              bif Nat.beq r hl.1 then
                xw_asm S' (xw_k l (-hl.2 - 1)) (fun S'' => k (u.1, l) (S''.1, S''.2.1, S''.2.2.1, (r, xw_nm S.1 i, (u.1, l)) :: S''.2.2.2.1, S''.2.2.2.2)) && xw_asm S' (xw_k (xw_neg l) (hl.2 - 1)) (fun S'' => k (u.1, l) (S''.1, S''.2.1, S''.2.2.1, (r, xw_nm S.1 i, (u.1, l)) :: S''.2.2.2.1, S''.2.2.2.2))
              else k (u.1, l) (S'.1, S'.2.1, S'.2.2.1, (r, xw_nm S.1 i, (u.1, l)) :: S'.2.2.2.1, S'.2.2.2.2))
          else bif Nat.beq u.1 2 || Nat.beq u.1 3 then k (u.1, (u.2.1, [])) S else false)) else false
noncomputable def xw_apart (E : xw_N) (i j : xw_L) : Bool := xv_le 1 (xw_lo E (xw_sub i j)) || xv_le (xw_hi E (xw_sub i j)) (-1)
noncomputable def xw_killM (E : xw_N) (M : List xw_M) (r : Nat) (i : xw_L) : List xw_M := xw_fil (fun m => !(Nat.beq m.1 r) || xw_apart E m.2.1 i) M
noncomputable def xw_killG (G : List xw_G) (r : Nat) : List xw_G := xw_fil (fun g => !(Nat.beq g.1 r)) G
noncomputable def xw_isin (D : xw_D) (r c : Nat) : Bool := xw_orl (fun e => Nat.beq e.1 r && (Nat.beq e.2 0 || Nat.beq e.2 c)) D
noncomputable def xw_dadd (D : xw_D) (r c : Nat) : xw_D := bif xw_isin D r c then D else (r, c) :: D
noncomputable def xw_dcode (i : xw_L) : Nat := match i.2 with
  | [] => i.1.toNat + 1
  | _ :: _ => 0
/-- a value is within the ranges of the places -/
noncomputable def xw_wok (S : xw_S) (els : List (List xv_V)) (s : Nat) (v : xw_V) : Nat → Bool := Nat.rec (motive := fun _ => Bool) true (fun j ih => ih && match xv_get 8 els (s + j) with
  | some u => Nat.beq u.1 v.1 && (Nat.ble u.1 1 && (xw_prove S (xw_k v.2 (-u.2.1)) && xw_prove S (xw_k (xw_neg v.2) u.2.2)))
  | none => false)
noncomputable def xw_cpy (S : xw_S) (r w n : Nat) (i : xw_L) (v : xw_V) : Bool := xw_orl (fun m => Nat.beq m.1 r && (xw_eqV m.2.2 v && (Nat.ble v.1 1 && (xw_dvs (Int.ofNat w) (xw_sub i m.2.1) && xw_inb S n m.2.1)))) S.2.2.2.1
noncomputable def xw_wr (hl : Nat × Int) (A : xv_A) (S : xw_S) (r : Nat) (i : xw_L) (v : xw_V) (k : xw_S → Bool) : Bool := match xv_get 14 A r with
  | none => false
  | some c => bif Nat.ble 1 c.2.2.1 && (Nat.ble c.1 4 && (xw_inb S (xw_len c) i && ((xw_wok S c.2.2.2 (xw_rr S.1 c.2.2.1 (xw_nm S.1 i)).1 v (xw_rr S.1 c.2.2.1 (xw_nm S.1 i)).2 || xw_cpy S r c.2.2.1 (xw_len c) (xw_nm S.1 i) v) && (!(Nat.beq r hl.1) || (xw_prove S (xw_k v.2 (-hl.2 - 1)) || xw_prove S (xw_k (xw_neg v.2) (hl.2 - 1))))))) then
      k (S.1, S.2.1, S.2.2.1, (r, xw_nm S.1 i, (v.1, xw_nm S.1 v.2)) :: xw_killM S.1 S.2.2.2.1 r (xw_nm S.1 i), xw_killG S.2.2.2.2.1 r, S.2.2.2.2.2.1, xw_dadd S.2.2.2.2.2.2 r (xw_dcode (xw_nm S.1 i))) else false
/-- places are forgotten -/
noncomputable def xw_kill1 (S : xw_S) (e : Nat × Nat) : xw_S := (S.1, S.2.1, S.2.2.1, bif Nat.beq e.2 0 then xw_fil (fun m => !(Nat.beq m.1 e.1)) S.2.2.2.1 else xw_killM S.1 S.2.2.2.1 e.1 (Int.ofNat e.2 - 1, []), xw_killG S.2.2.2.2.1 e.1, S.2.2.2.2.2.1, xw_dadd S.2.2.2.2.2.2 e.1 e.2)
noncomputable def xw_kills (D : xw_D) (S : xw_S) : xw_S := List.rec (motive := fun _ => xw_S → xw_S) (fun S => S) (fun e _ ih S => ih (xw_kill1 S e)) D S
