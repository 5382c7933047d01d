/-! numbers -/
def xw_L0 (kd : Nat) : Int := bif Nat.beq kd 0 then -2147483648 else -9223372036854775808
def xw_H0 (kd : Nat) : Int := bif Nat.beq kd 0 then 2147483647 else 9223372036854775807
noncomputable def xw_top (kd : Nat) (S : xw_S) (k : xw_L → xw_S → Bool) : Bool := xw_fr S (xw_L0 kd) (xw_H0 kd) k
noncomputable def xw_inr (kd : Nat) (S : xw_S) (a : xw_L) (k : xw_L → xw_S → Bool) : Bool := bif xv_le (xw_L0 kd) (xw_lo S.1 a) && xv_le (xw_hi S.1 a) (xw_H0 kd) then k a S else xw_top kd S k
/-- a new variable with a record -/
noncomputable def xw_frr (S : xw_S) (lo hi : Int) (f : Nat → xw_R) (k : xw_L → xw_S → Bool) : Bool := xw_fr S lo hi (fun l S' => match l.2 with
  | [] => k l S'
  | t :: _ => k l (S'.1, S'.2.1, S'.2.2.1, S'.2.2.2.1, S'.2.2.2.2.1, f t.1 :: S'.2.2.2.2.2.1, S'.2.2.2.2.2.2))
/-- a sum, wrapped if need be -/
noncomputable def xw_inw (S : xw_S) (a : xw_L) (k : xw_L → xw_S → Bool) : Bool := bif xv_le (-2147483648) (xw_lo S.1 a) && xv_le (xw_hi S.1 a) 2147483647 then k a S else xw_frr S (-2147483648) 2147483647 (fun v => (6, v, a, a)) k
noncomputable def xw_rec (R : List xw_R) (p : xw_R → Bool) : Option xw_R := List.rec (motive := fun _ => Option xw_R) none (fun a _ ih => bif p a then some a else ih) R
noncomputable def xw_mul2 (kd : Nat) (S : xw_S) (x y : xw_L) (a b c d : Int) (k : xw_L → xw_S → Bool) : Bool := bif xv_le (xw_L0 kd) (xw_min (xw_min (a * c) (a * d)) (xw_min (b * c) (b * d))) && xv_le (xw_max (xw_max (a * c) (a * d)) (xw_max (b * c) (b * d))) (xw_H0 kd) then xw_frr S (xw_min (xw_min (a * c) (a * d)) (xw_min (b * c) (b * d))) (xw_max (xw_max (a * c) (a * d)) (xw_max (b * c) (b * d))) (fun v => (3, v, x, y)) k else xw_top kd S k
noncomputable def xw_lo1 (S : xw_S) (x : xw_L) : Int := bif xv_le 1 (xw_lo S.1 x) then xw_lo S.1 x else bif xw_prove S (xw_k x (-1)) then 1 else xw_lo S.1 x
noncomputable def xw_mul (kd : Nat) (S : xw_S) (x y : xw_L) (k : xw_L → xw_S → Bool) : Bool := match x.2 with
  | [] => xw_inr kd S (xw_scl x.1 y) k
  | _ :: _ => match y.2 with
    | [] => xw_inr kd S (xw_scl y.1 x) k
    | _ :: _ => match xw_rec S.2.2.2.2.2.1 (fun q => Nat.beq q.1 3 && (xw_eqL q.2.2.1 x && xw_eqL q.2.2.2 y)) with
      | some q => xw_inr kd S (0, [(q.2.1, 1)]) k
      | none => xw_mul2 kd S x y (xw_lo1 S x) (xw_hi S.1 x) (xw_lo1 S y) (xw_hi S.1 y) k
/-- the variable of a form that is one -/
def xw_sv (a : xw_L) : Option Nat := match a.2 with
  | [t] => bif xw_ieq a.1 0 && xw_ieq t.2 1 then some t.1 else none
  | _ => none
/-- the variable t of -1 - t -/
def xw_cv (a : xw_L) : Option Nat := match a.2 with
  | [t] => bif xw_ieq a.1 (-1) && xw_ieq t.2 (-1) then some t.1 else none
  | _ => none
/-- t is two to the power q, and bit q of x is known: b -/
noncomputable def xw_bit (S : xw_S) (x : xw_L) (t : Nat) (b : Int) : Bool := match xw_rec S.2.2.2.2.2.1 (fun q => Nat.beq q.1 0 && Nat.beq q.2.1 t) with
  | none => false
  | some p => (match xw_rec S.2.2.2.2.2.1 (fun q => Nat.beq q.1 2 && (xw_eqL q.2.2.1 x && (xw_eqL q.2.2.2 p.2.2.1 && (xv_le b (xw_e S.1 q.2.1).1 && xv_le (xw_e S.1 q.2.1).2 b)))) with
    | none => false
    | some _ => true)
noncomputable def xw_and2 (S : xw_S) (x y : xw_L) (k : xw_L → xw_S → Bool) : Bool := bif xv_le 0 (xw_lo S.1 y) then (bif xv_le 0 (xw_lo S.1 x) then xw_frr S 0 (xw_min (xw_hi S.1 x) (xw_hi S.1 y)) (fun v => (4, v, x, y)) k else xw_frr S 0 (xw_hi S.1 y) (fun v => (4, v, x, y)) k) else bif xv_le 0 (xw_lo S.1 x) then xw_frr S 0 (xw_hi S.1 x) (fun v => (4, v, x, y)) k else xw_top 0 S k
noncomputable def xw_and (S : xw_S) (x y : xw_L) (k : xw_L → xw_S → Bool) : Bool := match xw_cv y with
  | some t => bif xv_le 0 (xw_lo S.1 x) && xw_bit S x t 1 then xw_asm S (xw_sub x (0, [(t, 1)])) (fun S' => k (xw_sub x (0, [(t, 1)])) S') else xw_and2 S x y k
  | none => bif xw_eqL y (1, []) then (match xw_sv x with
      | some u => (match xw_rec S.2.2.2.2.2.1 (fun q => Nat.beq q.1 1 && Nat.beq q.2.1 u) with
        | some q => xw_frr S 0 1 (fun v => (2, v, q.2.2.1, q.2.2.2)) k
        | none => xw_and2 S x y k)
      | none => xw_and2 S x y k) else xw_and2 S x y k
/-- the least number of ones only that is not below n -/
def xw_bits (n : Int) : Int := match n with
  | .ofNat m => bif Nat.beq m 0 then 0 else Int.ofNat (2 ^ (Nat.log2 m + 1) - 1)
  | .negSucc _ => 0
noncomputable def xw_or2 (S : xw_S) (x y : xw_L) (k : xw_L → xw_S → Bool) : Bool := bif xv_le 0 (xw_lo S.1 x) && xv_le 0 (xw_lo S.1 y) then xw_frr S (xw_max (xw_lo S.1 x) (xw_lo S.1 y)) (xw_bits (xw_max (xw_hi S.1 x) (xw_hi S.1 y))) (fun v => (5, v, x, y)) k else xw_top 0 S k
noncomputable def xw_or (S : xw_S) (x y : xw_L) (k : xw_L → xw_S → Bool) : Bool := match xw_sv y with
  | some t => bif xv_le 0 (xw_lo S.1 x) && (xv_le 0 (xw_lo S.1 y) && xw_bit S x t 0) then xw_asm S (xw_k (xw_neg (xw_add x y)) (xw_bits (xw_max (xw_hi S.1 x) (xw_hi S.1 y)))) (fun S' => k (xw_add x y) S') else xw_or2 S x y k
  | none => xw_or2 S x y k
noncomputable def xw_xor (S : xw_S) (x y : xw_L) (k : xw_L → xw_S → Bool) : Bool := bif xw_eqL y (-1, []) then k (xw_k (xw_neg x) (-1)) S else bif xv_le 0 (xw_lo S.1 x) && xv_le 0 (xw_lo S.1 y) then xw_fr S 0 (xw_bits (xw_max (xw_hi S.1 x) (xw_hi S.1 y))) k else xw_top 0 S k
noncomputable def xw_shl (S : xw_S) (x y : xw_L) (k : xw_L → xw_S → Bool) : Bool := bif xv_le 0 (xw_lo S.1 x) && (xv_le 0 (xw_lo S.1 y) && (xv_le (xw_hi S.1 y) 31 && xv_le (xw_hi S.1 x * 2 ^ (xw_hi S.1 y).toNat) 2147483647)) then
    (bif xw_eqL x (1, []) then xw_frr S (xw_lo S.1 x * 2 ^ (xw_lo S.1 y).toNat) (xw_hi S.1 x * 2 ^ (xw_hi S.1 y).toNat) (fun v => (0, v, y, y)) k else xw_fr S (xw_lo S.1 x * 2 ^ (xw_lo S.1 y).toNat) (xw_hi S.1 x * 2 ^ (xw_hi S.1 y).toNat) k) else xw_top 0 S k
noncomputable def xw_shr (S : xw_S) (x y : xw_L) (k : xw_L → xw_S → Bool) : Bool := bif xv_le 0 (xw_lo S.1 x) && (xv_le 0 (xw_lo S.1 y) && xv_le (xw_hi S.1 y) 31) then xw_frr S 0 (xw_hi S.1 x) (fun v => (1, v, x, y)) k else xw_top 0 S k
noncomputable def xw_ushr (S : xw_S) (x : xw_L) (k : xw_L → xw_S → Bool) : Bool := bif xv_le 0 (xw_lo S.1 x) then xw_fr S 0 (xw_hi S.1 x) k else xw_top 0 S k
noncomputable def xw_nz (S : xw_S) (y : xw_L) : Bool := xw_prove S (xw_k y (-1)) || xw_prove S (xw_k (xw_neg y) (-1))
noncomputable def xw_div (kd : Nat) (S : xw_S) (x y : xw_L) (k : xw_L → xw_S → Bool) : Bool := xw_nz S y && (bif xw_prove S x && xw_prove S (xw_k y (-1)) then xw_fr S 0 (xw_max 0 (xw_hi S.1 x)) k else xw_top kd S k)
noncomputable def xw_rem (kd : Nat) (S : xw_S) (x y : xw_L) (k : xw_L → xw_S → Bool) : Bool := xw_nz S y && (bif xw_prove S x && xw_prove S (xw_k y (-1)) then
    xw_fr S 0 (bif xw_prove S (xw_sub x y) then xw_min (xw_min (xw_hi S.1 x) (xw_hi S.1 y - 1)) ((xw_hi S.1 x - 1) / 2) else xw_min (xw_hi S.1 x) (xw_hi S.1 y - 1)) (fun l S' => match y.2 with
      | [] => k l S'
      | _ :: _ => xw_asm S' (xw_k (xw_sub y l) (-1)) (fun S'' => k l S'')) else xw_top kd S k)
/-- a condition of d against 0; sp: what is not 0 is parted -/
noncomputable def xw_eqs (S : xw_S) (d : xw_L) (k : xw_S → Bool) : Bool := xw_asm S d (fun S' => xw_asm S' (xw_neg d) k)
/-- d is not 0: it is noted -/
noncomputable def xw_nrc (S : xw_S) (d : xw_L) : xw_S := bif Nat.ble 1 S.2.1 then (S.1, S.2.1, S.2.2.1, S.2.2.2.1, S.2.2.2.2.1, (7, 0, d, d) :: S.2.2.2.2.2.1, S.2.2.2.2.2.2) else S
noncomputable def xw_nes (sp : Bool) (S : xw_S) (d : xw_L) (k : xw_S → Bool) : Bool := bif xw_prove S d then xw_asm S (xw_k d (-1)) k else bif xw_prove S (xw_neg d) then xw_asm S (xw_k (xw_neg d) (-1)) k else bif sp then xw_asm S (xw_k d (-1)) k && xw_asm S (xw_k (xw_neg d) (-1)) k else k (xw_nrc S d)
noncomputable def xw_br (c : ClassFile.Cond) (sp : Bool) (S : xw_S) (d : xw_L) (kt kf : xw_S → Bool) : Bool := match c with
  | .eq => xw_eqs S d kt && xw_nes sp S d kf
  | .ne => xw_nes sp S d kt && xw_eqs S d kf
  | .lt => xw_asm S (xw_k (xw_neg d) (-1)) kt && xw_asm S d kf
  | .ge => xw_asm S d kt && xw_asm S (xw_k (xw_neg d) (-1)) kf
  | .gt => xw_asm S (xw_k d (-1)) kt && xw_asm S (xw_neg d) kf
  | .le => xw_asm S (xw_neg d) kt && xw_asm S (xw_k d (-1)) kf
