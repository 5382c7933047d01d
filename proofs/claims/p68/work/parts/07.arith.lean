/-! numbers -/
section XV2
variable {p : Program} {l : Launch} {e : Env} {R : Room} {s : State} {m : MethodId} {args : Array Value} {below : List Frame} {meth : Method} {c : Code}
variable {cc : ByteArray} {own : String} {nL : Nat} {D : va_G} {t : Nat → ClassId} {A : Nat → Prop} {as0 : List Nat} {sb : Nat} {scr : List xv_V} {Q : xv_R → State → Prop} {k : xv_K} {pc : Nat} {L st : List xv_V} {S : xv_S} {r : xv_R}
theorem xs_go {pc' : Nat} {o : Option (List xv_V)} (hr : xv_go k pc' L S o = some r) : ∃ st', o = some st' ∧ k pc' L st' S = some r := by
  unfold xv_go at hr
  cases o with
  | none => cases hr
  | some v => exact ⟨v, rfl, hr⟩
theorem xv_two_eq {kd : Nat} {f : xv_V → xv_V → xv_V} {st' : List xv_V} (h : xv_two kd st f = some st') : ∃ (x y : xv_V) (q : List xv_V), st = y :: x :: q ∧ x.1 = kd ∧ y.1 = kd ∧ st' = f x y :: q := by
  unfold xv_two at h
  match st, h with
  | [], h => cases h
  | [_], h => cases h
  | y :: x :: q, h =>
    obtain ⟨b, e⟩ := xv_bt h
    obtain ⟨b1, b2⟩ := xv_and_t b
    cases e
    exact ⟨x, y, q, rfl, xv_beq b1, xv_beq b2, rfl⟩
theorem xs_ii {pc' : Nat} {f : xv_V → xv_V → xv_V} (op : Int32 → Int32 → Int32) (hk : xv_G p l e R s m args below meth c D t A as0 sb nL Q k) (hr : xv_go k pc' L S (xv_two 0 st f) = some r)
    (hop : ∀ (u v : xv_V) (x y : Int32), u.2.1 ≤ x.toInt → x.toInt ≤ u.2.2 → v.2.1 ≤ y.toInt → y.toInt ≤ v.2.2 → (f u v).1 = 0 ∧ (f u v).2.1 ≤ (op x y).toInt ∧ (op x y).toInt ≤ (f u v).2.2)
    (hs : ∀ (ls : Array Slot) (vst : List Value) (H : Heap) (locs : List Loc) (a b : Nat) (Z : State → Prop) (x y : Int32), W p l e R s m args below meth c H locs a b Z (F0 m pc' ls (.int (op x y) :: vst)) → W p l e R s m args below meth c H locs a b Z (F0 m pc ls (.int y :: .int x :: vst))) : xv_T p l e R s m args below meth c D t A as0 sb nL Q pc L st S r := by
  obtain ⟨st', e, hr⟩ := xs_go hr
  obtain ⟨u, v, q, rfl, hu, hv, rfl⟩ := xv_two_eq e
  refine xs_pure hk hr fun ls vst H locs as a b Z _ hst => ?_
  obtain ⟨y0, vst, rfl, hy, ht1_⟩ := hst.un
  obtain ⟨x0, vst, rfl, hx, ht2_⟩ := ht1_.un
  obtain ⟨y, rfl, y1, y2⟩ := hy.1 hv
  obtain ⟨x, rfl, x1, x2⟩ := hx.1 hu
  exact ⟨.int (op x y) :: vst, xv_sm.cons (xv_hv.i (hop u v x y x1 x2 y1 y2)) ht2_, hs ls vst H locs a b Z x y⟩
theorem xs_ll {pc' : Nat} {f : xv_V → xv_V → xv_V} (op : Int64 → Int64 → Int64) (hk : xv_G p l e R s m args below meth c D t A as0 sb nL Q k) (hr : xv_go k pc' L S (xv_two 1 st f) = some r)
    (hop : ∀ (u v : xv_V) (x y : Int64), u.2.1 ≤ x.toInt → x.toInt ≤ u.2.2 → v.2.1 ≤ y.toInt → y.toInt ≤ v.2.2 → (f u v).1 = 1 ∧ (f u v).2.1 ≤ (op x y).toInt ∧ (op x y).toInt ≤ (f u v).2.2)
    (hs : ∀ (ls : Array Slot) (vst : List Value) (H : Heap) (locs : List Loc) (a b : Nat) (Z : State → Prop) (x y : Int64), W p l e R s m args below meth c H locs a b Z (F0 m pc' ls (.long (op x y) :: vst)) → W p l e R s m args below meth c H locs a b Z (F0 m pc ls (.long y :: .long x :: vst))) : xv_T p l e R s m args below meth c D t A as0 sb nL Q pc L st S r := by
  obtain ⟨st', e, hr⟩ := xs_go hr
  obtain ⟨u, v, q, rfl, hu, hv, rfl⟩ := xv_two_eq e
  refine xs_pure hk hr fun ls vst H locs as a b Z _ hst => ?_
  obtain ⟨y0, vst, rfl, hy, ht1_⟩ := hst.un
  obtain ⟨x0, vst, rfl, hx, ht2_⟩ := ht1_.un
  obtain ⟨y, rfl, y1, y2⟩ := hy.2.1 hv
  obtain ⟨x, rfl, x1, x2⟩ := hx.2.1 hu
  exact ⟨.long (op x y) :: vst, xv_sm.cons (xv_hv.l (hop u v x y x1 x2 y1 y2)) ht2_, hs ls vst H locs a b Z x y⟩
theorem xs_iadd (C : xv_Cx p s m args c cc own nL D t A sb scr) (hk : xv_G p l e R s m args below meth c D t A as0 sb nL Q k) (hd : decode cc pc = .ok (.iadd, 1)) (hr : xv_go k (pc + 1) L S (xv_two 0 st xv_add) = some r) : xv_T p l e R s m args below meth c D t A as0 sb nL Q pc L st S r :=
  xs_ii (fun x y => x + y) hk hr (fun u v x y x1 x2 y1 y2 => xv_int_ok (z := x.toInt + y.toInt) (by omega) (by omega) (Int32.toInt_add x y)) fun _ _ _ _ _ _ _ _ _ w => lv_iadd C.1 C.2.1 hd w
theorem xs_isub (C : xv_Cx p s m args c cc own nL D t A sb scr) (hk : xv_G p l e R s m args below meth c D t A as0 sb nL Q k) (hd : decode cc pc = .ok (.isub, 1)) (hr : xv_go k (pc + 1) L S (xv_two 0 st xv_sub) = some r) : xv_T p l e R s m args below meth c D t A as0 sb nL Q pc L st S r :=
  xs_ii (fun x y => x - y) hk hr (fun u v x y x1 x2 y1 y2 => xv_int_ok (z := x.toInt - y.toInt) (by omega) (by omega) (Int32.toInt_sub x y)) fun _ _ _ _ _ _ _ _ _ w => lv_isub C.1 C.2.1 hd w
theorem xs_imul (C : xv_Cx p s m args c cc own nL D t A sb scr) (hk : xv_G p l e R s m args below meth c D t A as0 sb nL Q k) (hd : decode cc pc = .ok (.imul, 1)) (hr : xv_go k (pc + 1) L S (xv_two 0 st xv_mul) = some r) : xv_T p l e R s m args below meth c D t A as0 sb nL Q pc L st S r := by
  refine xs_ii (fun x y => x * y) hk hr (fun u v x y x1 x2 y1 y2 => ?_) fun _ _ _ _ _ _ _ _ _ w => lv_imul C.1 C.2.1 hd w
  unfold xv_mul
  cases hb : (xv_le 0 u.2.1 && xv_le 0 v.2.1) with
  | true =>
    obtain ⟨b1, b2⟩ := xv_and_t hb
    have b1 := xv_le_iff.mp b1
    have b2 := xv_le_iff.mp b2
    exact xv_int_ok (z := x.toInt * y.toInt) (Int.mul_le_mul x1 y1 b2 (by omega)) (Int.mul_le_mul x2 y2 (by omega) (by omega)) (Int32.toInt_mul x y)
  | false => exact ⟨rfl, (xv_i32 _).1, (xv_i32 _).2⟩
theorem xv_and_ok (x y : Int32) (h : 0 ≤ y.toInt) : 0 ≤ (x &&& y).toInt ∧ (x &&& y).toInt ≤ y.toInt := by
  have hy : y.toInt = (y.toBitVec.toNat : Int) := by
    show y.toBitVec.toInt = _
    have h' : 0 ≤ y.toBitVec.toInt := h
    rw [BitVec.toInt_eq_toNat_cond] at h' ⊢
    split
    · rfl
    · rename_i q
      rw [if_neg q] at h'
      have := y.toBitVec.isLt
      omega
  have hlt : y.toBitVec.toNat < 2 ^ 31 := by
    have := Int32.toInt_lt y
    rw [hy] at this
    omega
  have hle : (x.toBitVec &&& y.toBitVec).toNat ≤ y.toBitVec.toNat := by
    rw [BitVec.toNat_and]
    exact Nat.and_le_right
  have hz : (x &&& y).toInt = ((x.toBitVec &&& y.toBitVec).toNat : Int) := by
    show (x &&& y).toBitVec.toInt = _
    rw [Int32.toBitVec_and, BitVec.toInt_eq_toNat_cond, if_pos (by omega)]
  rw [hz, hy]
  omega
theorem xs_iand (C : xv_Cx p s m args c cc own nL D t A sb scr) (hk : xv_G p l e R s m args below meth c D t A as0 sb nL Q k) (hd : decode cc pc = .ok (.iand, 1)) (hr : xv_go k (pc + 1) L S (xv_two 0 st xv_and) = some r) : xv_T p l e R s m args below meth c D t A as0 sb nL Q pc L st S r := by
  refine xs_ii (fun x y => x &&& y) hk hr (fun u v x y x1 x2 y1 y2 => ?_) fun _ _ _ _ _ _ _ _ _ w => lv_iand C.1 C.2.1 hd w
  unfold xv_and
  cases hb : xv_le 0 v.2.1 with
  | true =>
    have b1 := xv_le_iff.mp hb
    have := xv_and_ok x y (by omega)
    exact ⟨rfl, this.1, by show _ ≤ v.2.2; omega⟩
  | false => exact ⟨rfl, (xv_i32 _).1, (xv_i32 _).2⟩
theorem xs_iushr (C : xv_Cx p s m args c cc own nL D t A sb scr) (hk : xv_G p l e R s m args below meth c D t A as0 sb nL Q k) (hd : decode cc pc = .ok (.iushr, 1)) (hr : xv_go k (pc + 1) L S (xv_two 0 st (fun _ _ => xv_ti)) = some r) : xv_T p l e R s m args below meth c D t A as0 sb nL Q pc L st S r :=
  xs_ii (fun x y => (x.toUInt32 >>> (y.toUInt32 &&& Int32.toUInt32 31)).toInt32) hk hr (fun u v x y x1 x2 y1 y2 => ⟨rfl, (xv_i32 _).1, (xv_i32 _).2⟩) fun _ _ _ _ _ _ _ _ _ w => lv_iushr C.1 C.2.1 hd rfl w
theorem xs_ishr (C : xv_Cx p s m args c cc own nL D t A sb scr) (hk : xv_G p l e R s m args below meth c D t A as0 sb nL Q k) (hd : decode cc pc = .ok (.ishr, 1)) (hr : xv_go k (pc + 1) L S (xv_two 0 st (fun _ _ => xv_ti)) = some r) : xv_T p l e R s m args below meth c D t A as0 sb nL Q pc L st S r :=
  xs_ii (fun x y => x >>> (y &&& 31)) hk hr (fun u v x y x1 x2 y1 y2 => ⟨rfl, (xv_i32 _).1, (xv_i32 _).2⟩) fun _ _ _ _ _ _ _ _ _ w => lv_ishr C.1 C.2.1 hd w
theorem xs_lsub (C : xv_Cx p s m args c cc own nL D t A sb scr) (hk : xv_G p l e R s m args below meth c D t A as0 sb nL Q k) (hd : decode cc pc = .ok (.lsub, 1)) (hr : xv_go k (pc + 1) L S (xv_two 1 st xv_lsub) = some r) : xv_T p l e R s m args below meth c D t A as0 sb nL Q pc L st S r :=
  xs_ll (fun x y => x - y) hk hr (fun u v x y x1 x2 y1 y2 => xv_lng_ok (z := x.toInt - y.toInt) (by omega) (by omega) (Int64.toInt_sub x y)) fun _ _ _ _ _ _ _ _ _ w => lv_lsub C.1 C.2.1 hd w
theorem xs_land (C : xv_Cx p s m args c cc own nL D t A sb scr) (hk : xv_G p l e R s m args below meth c D t A as0 sb nL Q k) (hd : decode cc pc = .ok (.land, 1)) (hr : xv_go k (pc + 1) L S (xv_two 1 st (fun _ _ => xv_tl)) = some r) : xv_T p l e R s m args below meth c D t A as0 sb nL Q pc L st S r :=
  xs_ll (fun x y => x &&& y) hk hr (fun u v x y x1 x2 y1 y2 => ⟨rfl, (xv_i64 _).1, (xv_i64 _).2⟩) fun _ _ _ _ _ _ _ _ _ w => lv_land C.1 C.2.1 hd w
theorem xs_lor (C : xv_Cx p s m args c cc own nL D t A sb scr) (hk : xv_G p l e R s m args below meth c D t A as0 sb nL Q k) (hd : decode cc pc = .ok (.lor, 1)) (hr : xv_go k (pc + 1) L S (xv_two 1 st (fun _ _ => xv_tl)) = some r) : xv_T p l e R s m args below meth c D t A as0 sb nL Q pc L st S r :=
  xs_ll (fun x y => x ||| y) hk hr (fun u v x y x1 x2 y1 y2 => ⟨rfl, (xv_i64 _).1, (xv_i64 _).2⟩) fun _ _ _ _ _ _ _ _ _ w => lv_lor C.1 C.2.1 hd w
theorem xs_lshl (C : xv_Cx p s m args c cc own nL D t A sb scr) (hk : xv_G p l e R s m args below meth c D t A as0 sb nL Q k) (hd : decode cc pc = .ok (.lshl, 1)) (hr : (match st with | y :: x :: q => bif Nat.beq y.1 0 && Nat.beq x.1 1 then k (pc + 1) L (xv_tl :: q) S else none | _ => none) = some r) : xv_T p l e R s m args below meth c D t A as0 sb nL Q pc L st S r := by
  match st, hr with
  | [], hr => cases hr
  | [_], hr => cases hr
  | v :: u :: q, hr =>
    obtain ⟨b, hr⟩ := xv_bt hr
    obtain ⟨b1, b2⟩ := xv_and_t b
    refine xs_pure hk hr fun ls vst H locs as a b Z _ hst => ?_
    obtain ⟨y0, vst, rfl, hy, ht1_⟩ := hst.un
    obtain ⟨x0, vst, rfl, hx, ht2_⟩ := ht1_.un
    obtain ⟨y, rfl, y1, y2⟩ := hy.1 (xv_beq b1)
    obtain ⟨x, rfl, x1, x2⟩ := hx.2.1 (xv_beq b2)
    exact ⟨.long (x <<< (y.toInt64 &&& 63)) :: vst, xv_sm.cons (xv_hv.l ⟨rfl, (xv_i64 _).1, (xv_i64 _).2⟩) ht2_, fun w => lv_lshl C.1 C.2.1 hd rfl w⟩
theorem xv_cmpl_ok (u v : xv_V) (x y : Int64) (x1 : u.2.1 ≤ x.toInt) (x2 : x.toInt ≤ u.2.2) (y1 : v.2.1 ≤ y.toInt) (y2 : y.toInt ≤ v.2.2) : (xv_cmpl u v).1 = 0 ∧ (xv_cmpl u v).2.1 ≤ (lg_cmp x y).toInt ∧ (lg_cmp x y).toInt ≤ (xv_cmpl u v).2.2 := by
  have hc : (y.toInt < x.toInt ∧ (lg_cmp x y).toInt = 1) ∨ (x.toInt = y.toInt ∧ (lg_cmp x y).toInt = 0) ∨ (x.toInt < y.toInt ∧ (lg_cmp x y).toInt = -1) := by
    unfold lg_cmp
    by_cases h1 : y < x
    · left; exact ⟨Int64.lt_iff_toInt_lt.mp h1, by simp [h1]⟩
    · by_cases h2 : x = y
      · right; left; subst h2; exact ⟨rfl, by simp⟩
      · right; right
        refine ⟨?_, by simp [h1, h2]⟩
        have h3 : ¬ y.toInt < x.toInt := fun q => h1 (Int64.lt_iff_toInt_lt.mpr q)
        have h4 : x.toInt ≠ y.toInt := fun q => h2 (Int64.toInt_inj.mp q)
        omega
  refine ⟨rfl, ?_, ?_⟩
  · show (bif xv_le (v.2.2 + 1) u.2.1 then (1 : Int) else bif xv_le v.2.2 u.2.1 then 0 else -1) ≤ _
    cases hb : xv_le (v.2.2 + 1) u.2.1 with
    | true => have := xv_le_iff.mp hb; simp only [cond_true]; omega
    | false =>
      simp only [cond_false]
      cases hb2 : xv_le v.2.2 u.2.1 with
      | true => have := xv_le_iff.mp hb2; simp only [cond_true]; omega
      | false => simp only [cond_false]; omega
  · show _ ≤ (bif xv_le (u.2.2 + 1) v.2.1 then (-1 : Int) else bif xv_le u.2.2 v.2.1 then 0 else 1)
    cases hb : xv_le (u.2.2 + 1) v.2.1 with
    | true => have := xv_le_iff.mp hb; simp only [cond_true]; omega
    | false =>
      simp only [cond_false]
      cases hb2 : xv_le u.2.2 v.2.1 with
      | true => have := xv_le_iff.mp hb2; simp only [cond_true]; omega
      | false => simp only [cond_false]; omega
theorem xs_lcmp (C : xv_Cx p s m args c cc own nL D t A sb scr) (hk : xv_G p l e R s m args below meth c D t A as0 sb nL Q k) (hd : decode cc pc = .ok (.lcmp, 1)) (hr : xv_go k (pc + 1) L S (xv_two 1 st xv_cmpl) = some r) : xv_T p l e R s m args below meth c D t A as0 sb nL Q pc L st S r := by
  obtain ⟨st', e, hr⟩ := xs_go hr
  obtain ⟨u, v, q, rfl, hu, hv, rfl⟩ := xv_two_eq e
  refine xs_pure hk hr fun ls vst H locs as a b Z _ hst => ?_
  obtain ⟨y0, vst, rfl, hy, ht1_⟩ := hst.un
  obtain ⟨x0, vst, rfl, hx, ht2_⟩ := ht1_.un
  obtain ⟨y, rfl, y1, y2⟩ := hy.2.1 hv
  obtain ⟨x, rfl, x1, x2⟩ := hx.2.1 hu
  exact ⟨.int (lg_cmp x y) :: vst, xv_sm.cons (xv_hv.i (xv_cmpl_ok u v x y x1 x2 y1 y2)) ht2_, fun w => W.lcmp C.1 C.2.1 hd w⟩
theorem xv_one_eq {kd : Nat} {f : xv_V → xv_V} {st' : List xv_V} (h : xv_one kd st f = some st') : ∃ (x : xv_V) (q : List xv_V), st = x :: q ∧ x.1 = kd ∧ st' = f x :: q := by
  unfold xv_one at h
  match st, h with
  | [], h => cases h
  | x :: q, h =>
    obtain ⟨b, e⟩ := xv_bt h
    cases e
    exact ⟨x, q, rfl, xv_beq b, rfl⟩
theorem xs_i2l (C : xv_Cx p s m args c cc own nL D t A sb scr) (hk : xv_G p l e R s m args below meth c D t A as0 sb nL Q k) (hd : decode cc pc = .ok (.i2l, 1)) (hr : xv_go k (pc + 1) L S (xv_one 0 st (fun x => (1, x.2.1, x.2.2))) = some r) : xv_T p l e R s m args below meth c D t A as0 sb nL Q pc L st S r := by
  obtain ⟨st', e, hr⟩ := xs_go hr
  obtain ⟨u, q, rfl, hu, rfl⟩ := xv_one_eq e
  refine xs_pure hk hr fun ls vst H locs as a b Z _ hst => ?_
  obtain ⟨x0, vst, rfl, hx, ht1_⟩ := hst.un
  obtain ⟨x, rfl, x1, x2⟩ := hx.1 hu
  exact ⟨.long x.toInt64 :: vst, xv_sm.cons (xv_hv.l ⟨rfl, by rw [Int32.toInt_toInt64]; exact x1, by rw [Int32.toInt_toInt64]; exact x2⟩) ht1_, fun w => lv_i2l C.1 C.2.1 hd rfl w⟩
theorem xs_i2b (C : xv_Cx p s m args c cc own nL D t A sb scr) (hk : xv_G p l e R s m args below meth c D t A as0 sb nL Q k) (hd : decode cc pc = .ok (.i2b, 1)) (hr : xv_go k (pc + 1) L S (xv_one 0 st (fun _ => (0, -128, 127))) = some r) : xv_T p l e R s m args below meth c D t A as0 sb nL Q pc L st S r := by
  obtain ⟨st', e, hr⟩ := xs_go hr
  obtain ⟨u, q, rfl, hu, rfl⟩ := xv_one_eq e
  refine xs_pure hk hr fun ls vst H locs as a b Z _ hst => ?_
  obtain ⟨x0, vst, rfl, hx, ht1_⟩ := hst.un
  obtain ⟨x, rfl, x1, x2⟩ := hx.1 hu
  have h1 := Int8.le_toInt x.toInt8
  have h2 := Int8.toInt_lt x.toInt8
  exact ⟨.int x.toInt8.toInt32 :: vst, xv_sm.cons (xv_hv.i ⟨rfl, by rw [Int8.toInt_toInt32]; show -128 ≤ _; omega, by rw [Int8.toInt_toInt32]; show _ ≤ 127; omega⟩) ht1_, fun w => lv_i2b C.1 C.2.1 hd rfl w⟩
theorem xs_dup (C : xv_Cx p s m args c cc own nL D t A sb scr) (hk : xv_G p l e R s m args below meth c D t A as0 sb nL Q k) (hd : decode cc pc = .ok (.dup, 1)) (hr : (match st with | x :: q => bif Nat.beq x.1 0 || (Nat.beq x.1 2 || Nat.beq x.1 5) then k (pc + 1) L (x :: x :: q) S else none | _ => none) = some r) : xv_T p l e R s m args below meth c D t A as0 sb nL Q pc L st S r := by
  match st, hr with
  | [], hr => cases hr
  | u :: q, hr =>
    obtain ⟨b, hr⟩ := xv_bt hr
    simp only [Bool.or_eq_true] at b
    refine xs_pure hk hr fun ls vst H locs as a b' Z _ hst => ?_
    obtain ⟨x, vst, rfl, hx, ht1_⟩ := hst.un
    have hc : x.category = 1 := by
      rcases b with b | b | b
      · obtain ⟨i, rfl, -⟩ := hx.1 (xv_beq b); rfl
      · obtain ⟨i, -, rfl⟩ := hx.2.2.1 (xv_beq b); rfl
      · rw [hx.2.2.2.2 (xv_beq b)]; rfl
    exact ⟨x :: x :: vst, xv_sm.cons hx (xv_sm.cons hx ht1_), fun w => lv_dup C.1 C.2.1 hd hc w⟩
theorem xv_tgt_eq {off : Int} (h : xv_le 0 (Int.ofNat pc + off) = true) : (pc : Int) + off = (xv_tgt pc off : Int) := by
  unfold xv_tgt
  rw [Int.toNat_of_nonneg (xv_le_iff.mp h)]
  rfl
theorem xs_goto {off : Int} (C : xv_Cx p s m args c cc own nL D t A sb scr) (hk : xv_G p l e R s m args below meth c D t A as0 sb nL Q k) (hd : decode cc pc = .ok (.goto off, 3)) (hr : (bif xv_le 0 (Int.ofNat pc + off) then k (xv_tgt pc off) L st S else none) = some r) : xv_T p l e R s m args below meth c D t A as0 sb nL Q pc L st S r := by
  obtain ⟨b, hr⟩ := xv_bt hr
  exact xs_pure hk hr fun ls vst H locs as a b' Z _ hst => ⟨vst, hst, fun w => lv_goto C.1 C.2.1 hd (xv_tgt_eq b) w⟩
def xv_rel (q : ClassFile.Cond) (x y : Int32) : Prop := match q with
  | .eq => x = y
  | .ne => ¬ x = y
  | .lt => x < y
  | .ge => y ≤ x
  | .gt => y < x
  | .le => x ≤ y
theorem xv_lt3_ok {u v : xv_V} {x y : Int32} {b : Bool} (x1 : u.2.1 ≤ x.toInt) (x2 : x.toInt ≤ u.2.2) (y1 : v.2.1 ≤ y.toInt) (y2 : y.toInt ≤ v.2.2) (h : xv_lt3 u v = some b) : b = true ↔ x < y := by
  unfold xv_lt3 at h
  rw [Int32.lt_iff_toInt_lt]
  cases hb : xv_le (u.2.2 + 1) v.2.1 with
  | true => rw [hb] at h; cases h; have := xv_le_iff.mp hb; simp; omega
  | false =>
    rw [hb] at h
    cases hb2 : xv_le v.2.2 u.2.1 with
    | true => rw [hb2] at h; cases h; have := xv_le_iff.mp hb2; simp; omega
    | false => rw [hb2] at h; cases h
theorem xv_eq3_ok {u v : xv_V} {x y : Int32} {b : Bool} (x1 : u.2.1 ≤ x.toInt) (x2 : x.toInt ≤ u.2.2) (y1 : v.2.1 ≤ y.toInt) (y2 : y.toInt ≤ v.2.2) (h : xv_eq3 u v = some b) : b = true ↔ x = y := by
  unfold xv_eq3 at h
  rw [← Int32.toInt_inj]
  cases hb : xv_le (u.2.2 + 1) v.2.1 with
  | true => rw [hb] at h; cases h; have := xv_le_iff.mp hb; simp; omega
  | false =>
    rw [hb] at h
    cases hb2 : xv_le (v.2.2 + 1) u.2.1 with
    | true => rw [hb2] at h; cases h; have := xv_le_iff.mp hb2; simp; omega
    | false =>
      rw [hb2] at h
      cases hb3 : (xv_le u.2.2 v.2.1 && xv_le v.2.2 u.2.1) with
      | true =>
        rw [hb3] at h; cases h
        obtain ⟨q1, q2⟩ := xv_and_t hb3
        have := xv_le_iff.mp q1
        have := xv_le_iff.mp q2
        simp; omega
      | false => rw [hb3] at h; cases h
theorem xv_not_eq {o : Option Bool} {b : Bool} (h : xv_not o = some b) : o = some (!b) := by
  unfold xv_not at h
  cases o with
  | none => cases h
  | some q => cases h; simp
theorem xv_cond_ok {q : ClassFile.Cond} {u v : xv_V} {x y : Int32} {b : Bool} (x1 : u.2.1 ≤ x.toInt) (x2 : x.toInt ≤ u.2.2) (y1 : v.2.1 ≤ y.toInt) (y2 : y.toInt ≤ v.2.2) (h : xv_cond q u v = some b) : b = true ↔ xv_rel q x y := by
  cases q with
  | eq => exact xv_eq3_ok x1 x2 y1 y2 h
  | ne =>
    have := xv_eq3_ok x1 x2 y1 y2 (xv_not_eq h)
    show b = true ↔ ¬ x = y
    rw [← this]; cases b <;> simp
  | lt => exact xv_lt3_ok x1 x2 y1 y2 h
  | ge =>
    have := xv_lt3_ok x1 x2 y1 y2 (xv_not_eq h)
    show b = true ↔ y ≤ x
    rw [← Int32.not_lt, ← this]; cases b <;> simp
  | gt => exact xv_lt3_ok y1 y2 x1 x2 h
  | le =>
    have := xv_lt3_ok y1 y2 x1 x2 (xv_not_eq h)
    show b = true ↔ x ≤ y
    rw [← Int32.not_lt, ← this]; cases b <;> simp
theorem xs_br {o : Option Bool} {off : Int} (hr : xv_br k o pc off L st S = some r) : xv_le 0 (Int.ofNat pc + off) = true ∧ ((o = some true ∧ k (xv_tgt pc off) L st S = some r) ∨ (o = some false ∧ k (pc + 3) L st S = some r)) := by
  unfold xv_br at hr
  obtain ⟨b, hr⟩ := xv_bt hr
  refine ⟨b, ?_⟩
  match o, hr with
  | none, hr => cases hr
  | some true, hr => exact Or.inl ⟨rfl, hr⟩
  | some false, hr => exact Or.inr ⟨rfl, hr⟩
theorem xs_if_icmp {q : ClassFile.Cond} {off : Int} (C : xv_Cx p s m args c cc own nL D t A sb scr) (hk : xv_G p l e R s m args below meth c D t A as0 sb nL Q k) (hd : decode cc pc = .ok (.if_icmp q off, 3)) (hr : (match st with | y :: x :: z => bif Nat.beq x.1 0 && Nat.beq y.1 0 then xv_br k (xv_cond q x y) pc off L z S else none | _ => none) = some r) : xv_T p l e R s m args below meth c D t A as0 sb nL Q pc L st S r := by
  match st, hr with
  | [], hr => cases hr
  | [_], hr => cases hr
  | v :: u :: z, hr =>
    obtain ⟨b, hr⟩ := xv_bt hr
    obtain ⟨b1, b2⟩ := xv_and_t b
    obtain ⟨ht, hr⟩ := xs_br hr
    rcases hr with ⟨ho, hr⟩ | ⟨ho, hr⟩
    · refine xs_pure hk hr fun ls vst H locs as a b Z _ hst => ?_
      obtain ⟨y0, vst, rfl, hy, ht1_⟩ := hst.un
      obtain ⟨x0, vst, rfl, hx, ht2_⟩ := ht1_.un
      obtain ⟨y, rfl, y1, y2⟩ := hy.1 (xv_beq b2)
      obtain ⟨x, rfl, x1, x2⟩ := hx.1 (xv_beq b1)
      refine ⟨vst, ht2_, fun w => ?_⟩
      have key := (xv_cond_ok x1 x2 y1 y2 ho).mp rfl
      cases q with
      | eq => exact lv_icmp_eq C.1 C.2.1 hd (xv_tgt_eq ht) (fun _ => w) (fun n => absurd key n)
      | ne => exact lv_icmp_ne C.1 C.2.1 hd (xv_tgt_eq ht) (fun _ => w) (fun n => absurd n key)
      | lt => exact lv_icmp_lt C.1 C.2.1 hd (xv_tgt_eq ht) (fun _ => w) (fun n => absurd key n)
      | ge => exact lv_icmp_ge C.1 C.2.1 hd (xv_tgt_eq ht) (fun _ => w) (fun n => absurd key n)
      | gt => exact lv_icmp_gt C.1 C.2.1 hd (xv_tgt_eq ht) (fun _ => w) (fun n => absurd key n)
      | le => exact lv_icmp_le C.1 C.2.1 hd (xv_tgt_eq ht) (fun _ => w) (fun n => absurd key n)
    · refine xs_pure hk hr fun ls vst H locs as a b Z _ hst => ?_
      obtain ⟨y0, vst, rfl, hy, ht1_⟩ := hst.un
      obtain ⟨x0, vst, rfl, hx, ht2_⟩ := ht1_.un
      obtain ⟨y, rfl, y1, y2⟩ := hy.1 (xv_beq b2)
      obtain ⟨x, rfl, x1, x2⟩ := hx.1 (xv_beq b1)
      refine ⟨vst, ht2_, fun w => ?_⟩
      have key : ¬ xv_rel q x y := fun z => by have := (xv_cond_ok x1 x2 y1 y2 ho).mpr z; cases this
      cases q with
      | eq => exact lv_icmp_eq C.1 C.2.1 hd (xv_tgt_eq ht) (fun n => absurd n key) (fun _ => w)
      | ne => exact lv_icmp_ne C.1 C.2.1 hd (xv_tgt_eq ht) (fun n => absurd n key) (fun _ => w)
      | lt => exact lv_icmp_lt C.1 C.2.1 hd (xv_tgt_eq ht) (fun n => absurd n key) (fun _ => w)
      | ge => exact lv_icmp_ge C.1 C.2.1 hd (xv_tgt_eq ht) (fun n => absurd n key) (fun _ => w)
      | gt => exact lv_icmp_gt C.1 C.2.1 hd (xv_tgt_eq ht) (fun n => absurd n key) (fun _ => w)
      | le => exact lv_icmp_le C.1 C.2.1 hd (xv_tgt_eq ht) (fun n => absurd n key) (fun _ => w)
theorem xs_ifCond {q : ClassFile.Cond} {off : Int} (C : xv_Cx p s m args c cc own nL D t A sb scr) (hk : xv_G p l e R s m args below meth c D t A as0 sb nL Q k) (hd : decode cc pc = .ok (.ifCond q off, 3)) (hr : (match st with | x :: z => bif Nat.beq x.1 0 then xv_br k (xv_cond q x (0, 0, 0)) pc off L z S else none | _ => none) = some r) : xv_T p l e R s m args below meth c D t A as0 sb nL Q pc L st S r := by
  match st, hr with
  | [], hr => cases hr
  | u :: z, hr =>
    obtain ⟨b1, hr⟩ := xv_bt hr
    obtain ⟨ht, hr⟩ := xs_br hr
    rcases hr with ⟨ho, hr⟩ | ⟨ho, hr⟩
    · refine xs_pure hk hr fun ls vst H locs as a b Z _ hst => ?_
      obtain ⟨x0, vst, rfl, hx, ht1_⟩ := hst.un
      obtain ⟨x, rfl, x1, x2⟩ := hx.1 (xv_beq b1)
      refine ⟨vst, ht1_, fun w => ?_⟩
      have key := (xv_cond_ok (y := 0) x1 x2 (by decide) (by decide) ho).mp rfl
      cases q with
      | eq => exact lv_if_eq C.1 C.2.1 hd (xv_tgt_eq ht) (fun _ => w) (fun n => absurd key n)
      | ne => exact lv_if_ne C.1 C.2.1 hd (xv_tgt_eq ht) (fun _ => w) (fun n => absurd n key)
      | lt => exact lv_if_lt C.1 C.2.1 hd (xv_tgt_eq ht) (fun _ => w) (fun n => absurd key n)
      | ge => exact lv_if_ge C.1 C.2.1 hd (xv_tgt_eq ht) (fun _ => w) (fun n => absurd key n)
      | gt => exact lv_if_gt C.1 C.2.1 hd (xv_tgt_eq ht) (fun _ => w) (fun n => absurd key n)
      | le => exact lv_if_le C.1 C.2.1 hd (xv_tgt_eq ht) (fun _ => w) (fun n => absurd key n)
    · refine xs_pure hk hr fun ls vst H locs as a b Z _ hst => ?_
      obtain ⟨x0, vst, rfl, hx, ht1_⟩ := hst.un
      obtain ⟨x, rfl, x1, x2⟩ := hx.1 (xv_beq b1)
      refine ⟨vst, ht1_, fun w => ?_⟩
      have key : ¬ xv_rel q x 0 := fun z => by have := (xv_cond_ok (y := 0) x1 x2 (by decide) (by decide) ho).mpr z; cases this
      cases q with
      | eq => exact lv_if_eq C.1 C.2.1 hd (xv_tgt_eq ht) (fun n => absurd n key) (fun _ => w)
      | ne => exact lv_if_ne C.1 C.2.1 hd (xv_tgt_eq ht) (fun n => absurd n key) (fun _ => w)
      | lt => exact lv_if_lt C.1 C.2.1 hd (xv_tgt_eq ht) (fun n => absurd n key) (fun _ => w)
      | ge => exact lv_if_ge C.1 C.2.1 hd (xv_tgt_eq ht) (fun n => absurd n key) (fun _ => w)
      | gt => exact lv_if_gt C.1 C.2.1 hd (xv_tgt_eq ht) (fun n => absurd n key) (fun _ => w)
      | le => exact lv_if_le C.1 C.2.1 hd (xv_tgt_eq ht) (fun n => absurd n key) (fun _ => w)
theorem xs_ifnonnull {off : Int} (C : xv_Cx p s m args c cc own nL D t A sb scr) (hk : xv_G p l e R s m args below meth c D t A as0 sb nL Q k) (hd : decode cc pc = .ok (.ifnonnull off, 3)) (hr : (match st with | x :: z => bif Nat.beq x.1 3 then k (pc + 3) L z S else bif Nat.beq x.1 2 && xv_le 0 (Int.ofNat pc + off) then k (xv_tgt pc off) L z S else none | _ => none) = some r) : xv_T p l e R s m args below meth c D t A as0 sb nL Q pc L st S r := by
  match st, hr with
  | [], hr => cases hr
  | u :: z, hr =>
    dsimp only at hr
    cases hb : Nat.beq u.1 3 with
    | true =>
      rw [hb] at hr
      refine xs_pure hk hr fun ls vst H locs as a b Z _ hst => ?_
      obtain ⟨x0, vst, rfl, hx, ht1_⟩ := hst.un
      have e := hx.2.2.2.1 (xv_beq hb)
      subst e
      exact ⟨vst, ht1_, fun w => lv_ifnonnullN C.1 C.2.1 hd w⟩
    | false =>
      rw [hb] at hr
      obtain ⟨b, hr⟩ := xv_bt hr
      obtain ⟨b1, b2⟩ := xv_and_t b
      refine xs_pure hk hr fun ls vst H locs as a b Z _ hst => ?_
      obtain ⟨x0, vst, rfl, hx, ht1_⟩ := hst.un
      obtain ⟨q, -, rfl⟩ := hx.2.2.1 (xv_beq b1)
      exact ⟨vst, ht1_, fun w => lv_ifnonnull C.1 C.2.1 hd (xv_tgt_eq b2) w⟩
theorem xs_tableswitch {d lo hi : Int} {offs : Array Int} {len : Nat} (C : xv_Cx p s m args c cc own nL D t A sb scr) (hk : xv_G p l e R s m args below meth c D t A as0 sb nL Q k) (hd : decode cc pc = .ok (.tableswitch d lo hi offs, len)) (hr : (match st with
    | x :: z => bif Nat.beq x.1 0 then
        (bif xv_le (x.2.2 + 1) lo || xv_le (hi + 1) x.2.1 then (bif xv_le 0 (Int.ofNat pc + d) then k (xv_tgt pc d) L z S else none)
        else bif xv_le lo x.2.1 && (xv_le x.2.2 hi && xv_le x.2.2 x.2.1) then (match xv_nth offs.toList (x.2.1 - lo).toNat with
          | some off => bif xv_le 0 (Int.ofNat pc + off) then k (xv_tgt pc off) L z S else none
          | none => none) else none) else none
    | _ => none) = some r) : xv_T p l e R s m args below meth c D t A as0 sb nL Q pc L st S r := by
  match st, hr with
  | [], hr => cases hr
  | u :: z, hr =>
    obtain ⟨b, hr⟩ := xv_bt hr
    cases hb : (xv_le (u.2.2 + 1) lo || xv_le (hi + 1) u.2.1) with
    | true =>
      rw [hb] at hr
      obtain ⟨b2, hr⟩ := xv_bt hr
      refine xs_pure hk hr fun ls vst H locs as a b' Z _ hst => ?_
      obtain ⟨x0, vst, rfl, hx, ht1_⟩ := hst.un
      obtain ⟨x, rfl, x1, x2⟩ := hx.1 (xv_beq b)
      refine ⟨vst, ht1_, fun w => lv_tableOut C.1 C.2.1 hd ?_ (xv_tgt_eq b2) w⟩
      simp only [Bool.or_eq_true, xv_le_iff] at hb
      omega
    | false =>
      rw [hb] at hr
      obtain ⟨b2, hr⟩ := xv_bt hr
      obtain ⟨b3, b4⟩ := xv_and_t b2
      obtain ⟨b4, b5⟩ := xv_and_t b4
      have b3 := xv_le_iff.mp b3
      have b4 := xv_le_iff.mp b4
      have b5 := xv_le_iff.mp b5
      cases hn : xv_nth offs.toList (u.2.1 - lo).toNat with
      | none => rw [hn] at hr; cases hr
      | some off =>
        rw [hn] at hr
        obtain ⟨b6, hr⟩ := xv_bt hr
        refine xs_pure hk hr fun ls vst H locs as a b' Z _ hst => ?_
        obtain ⟨x0, vst, rfl, hx, ht1_⟩ := hst.un
        obtain ⟨x, rfl, x1, x2⟩ := hx.1 (xv_beq b)
        have e : x.toInt = u.2.1 := by omega
        refine ⟨vst, ht1_, fun w => lv_tableIn C.1 C.2.1 hd (by omega) (by omega) (off := off) ?_ (xv_tgt_eq b6) w⟩
        rw [e, ← Array.getElem?_toList, ← xv_nth_eq]
        exact hn
theorem xs_ldcw {index : Nat} {v : Int} (C : xv_Cx p s m args c cc own nL D t A sb scr) (hk : xv_G p l e R s m args below meth c D t A as0 sb nL Q k) (hd : decode cc pc = .ok (.ldc_w index, 3)) (hw : Jvm.Cond.constant own index (Int32.ofInt v) ∈ xv_tb) (hr : k (pc + 3) L (xv_int v v :: st) S = some r) : xv_T p l e R s m args below meth c D t A as0 sb nL Q pc L st S r :=
  xs_push hk hr (x := .int (Int32.ofInt v)) (fun _ => xv_hv.i (xv_int_ok (Int.le_refl v) (Int.le_refl v) (Int32.toInt_ofInt ..))) fun _ _ _ _ _ _ _ w => lv_ldcw C.1 C.2.1 C.2.2.2.1 (C.2.2.2.2.1 _ hw) hd w
theorem xs_ldc2 {index : Nat} {v : Int} (C : xv_Cx p s m args c cc own nL D t A sb scr) (hk : xv_G p l e R s m args below meth c D t A as0 sb nL Q k) (hd : decode cc pc = .ok (.ldc2_w index, 3)) (hw : Jvm.Cond.constantLong own index (Int64.ofInt v) ∈ xv_tb) (hr : k (pc + 3) L (xv_lng v v :: st) S = some r) : xv_T p l e R s m args below meth c D t A as0 sb nL Q pc L st S r :=
  xs_push hk hr (x := .long (Int64.ofInt v)) (fun _ => xv_hv.l (xv_lng_ok (Int.le_refl v) (Int.le_refl v) (Int64.toInt_ofInt ..))) fun _ _ _ _ _ _ _ w => lv_ldc2 C.1 C.2.1 C.2.2.2.1 (C.2.2.2.2.1 _ hw) hd w
end XV2
