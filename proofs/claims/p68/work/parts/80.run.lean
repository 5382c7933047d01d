/-! the law's straight stretches, run -/
abbrev xl_V : Type := Nat × Nat
/-- 0 an int, 1 a long, 2 a cell, 3 the place i + k, 4 the number k, 5 the script, 6 the number at the place i + k, 7 the number hx -/
def xl_hv (b : Nat) (as : List Nat) (xs : Nat → Int32) (i hz : Int32) (v : xl_V) (x : Value) : Prop := ((v.1 = 0 ∨ v.1 = 6 ∨ v.1 = 7) → ∃ z : Int32, x = .int z) ∧ (v.1 = 1 → ∃ z : Int64, x = .long z) ∧ (v.1 = 2 → ∃ a, as[v.2]? = some a ∧ x = .ref a) ∧ (v.1 = 3 → ∃ z : Int32, x = .int z ∧ z.toInt = i.toInt + (v.2 : Int) ∧ v.2 ≤ 5) ∧ (v.1 = 4 → v.2 ≤ 5 ∧ x = .int (Int32.ofInt v.2)) ∧ (v.1 = 5 → x = .ref b) ∧ (v.1 = 6 → x = .int (xs (i.toInt + (v.2 : Int)).toNat)) ∧ (v.1 = 7 → x = .int hz)
def xl_sk (b : Nat) (as : List Nat) (xs : Nat → Int32) (i hz : Int32) : List xl_V → List Value → Prop
  | [], [] => True
  | v :: st, x :: vs => xl_hv b as xs i hz v x ∧ xl_sk b as xs i hz st vs
  | _, _ => False
def xl_isI (v : xl_V) : Bool := Nat.beq v.1 0 || (Nat.beq v.1 6 || Nat.beq v.1 7)
theorem xl_isI_ok {v : xl_V} (h : xl_isI v = true) : v.1 = 0 ∨ v.1 = 6 ∨ v.1 = 7 := by
  rcases (Bool.or_eq_true _ _).mp h with h | h
  · exact Or.inl (xv_beq h)
  · rcases (Bool.or_eq_true _ _).mp h with h | h
    · exact Or.inr (Or.inl (xv_beq h))
    · exact Or.inr (Or.inr (xv_beq h))
def xl_gd : List Nat := [59, 60, 101, 103, 104, 114]
def xl_eqS : List xl_V → List xl_V → Bool
  | [], [] => true
  | a :: l, b :: m => (Nat.beq a.1 b.1 && Nat.beq a.2 b.2) && xl_eqS l m
  | _, _ => false
theorem xl_eqS_ok : ∀ {l m : List xl_V}, xl_eqS l m = true → l = m
  | [], [], _ => rfl
  | [], _ :: _, h => by cases h
  | _ :: _, [], h => by cases h
  | a :: l, b :: m, h => by
    obtain ⟨h1, h2⟩ := xv_and_t h
    obtain ⟨h0, h1⟩ := xv_and_t h1
    rw [xl_eqS_ok h2, show a = b from Prod.ext (xv_beq h0) (xv_beq h1)]
def xl_okA : List (Nat × Int × Int) → List xl_V → Bool
  | [], [] => true
  | a :: sg, v :: vs => ((Nat.beq a.1 0 && (xl_isI v && (xv_le a.2.1 (-2147483648) && xv_le 2147483647 a.2.2))) || (Nat.beq a.1 1 && (Nat.beq v.1 1 && (xv_le a.2.1 (-9223372036854775808) && xv_le 9223372036854775807 a.2.2)))) && xl_okA sg vs
  | _, _ => false
def xl_pop : Nat → List xl_V → List xl_V → Option (List xl_V × List xl_V)
  | 0, st, acc => some (acc, st)
  | n + 1, v :: st, acc => xl_pop n st (v :: acc)
  | _ + 1, [], _ => none
def xl_fnd : List (Nat × Nat) → Nat → Option Nat
  | [], _ => none
  | q :: l, a => bif Nat.beq q.1 a then some q.2 else xl_fnd l a
def xl_nil : List xw_T → Bool
  | [] => true
  | _ => false
noncomputable def xl_ccB (d a ci : Nat) (c0 : xw_C) (av : List xl_V) (o : xl_V) : Bool := Nat.beq c0.1 a && (Nat.ble c0.2.2.2.2.2.2 d && (xl_nil c0.2.2.1 && (Nat.beq o.1 2 && ((match c0.2.1 with
  | g :: sg => Nat.beq g.1 2 && (decide (g.2.1 = (o.2 : Int)) && xl_okA sg av)
  | [] => false) && ((match xv_get 14 xz_G o.2 with
  | some cl => Nat.beq cl.1 0 && Nat.beq cl.2.1 ci
  | none => false) && c0.2.2.2.2.2.1.all (fun q => xl_gd.all (fun g => !Nat.beq q.1 g)))))))
noncomputable def xl_st (k : Nat → List xl_V → Bool) (ct : List (Nat × Nat)) (d stop : Nat) (sst : List xl_V) (x : xv_E) (pc : Nat) (st : List xl_V) : Bool := match x.2.1 with
  | .aload_n j => bif Nat.beq j.val 0 then k (pc + 1) ((5, 0) :: st) else bif Nat.beq j.val 1 then k (pc + 1) ((2, 0) :: st) else bif Nat.beq j.val 2 then k (pc + 1) ((2, 102) :: st) else false
  | .iload_n j => Nat.beq j.val 3 && k (pc + 1) ((3, 0) :: st)
  | .iconst n => (xv_le 0 n && xv_le n 5) && k (pc + 1) ((4, n.toNat) :: st)
  | .iadd => (match st with
    | y :: x :: st => (Nat.beq y.1 4 && (Nat.beq x.1 3 && Nat.beq x.2 0)) && k (pc + 1) ((3, y.2) :: st)
    | _ => false)
  | .iaload => (match st with
    | y :: x :: st => (Nat.beq y.1 3 && Nat.beq x.1 5) && k (pc + 1) ((6, y.2) :: st)
    | _ => false)
  | .i2l => (match st with
    | y :: st => xl_isI y && k (pc + 1) ((1, 0) :: st)
    | _ => false)
  | .bipush _ => k (pc + 2) ((0, 0) :: st)
  | .ldc2_w _ => k (pc + 3) ((1, 0) :: st)
  | .lshl => (match st with
    | y :: x :: st => (xl_isI y && Nat.beq x.1 1) && k (pc + 1) ((1, 0) :: st)
    | _ => false)
  | .land => (match st with
    | y :: x :: st => (Nat.beq y.1 1 && Nat.beq x.1 1) && k (pc + 1) ((1, 0) :: st)
    | _ => false)
  | .lor => (match st with
    | y :: x :: st => (Nat.beq y.1 1 && Nat.beq x.1 1) && k (pc + 1) ((1, 0) :: st)
    | _ => false)
  | .pop => (match st with
    | y :: st => Nat.beq x.2.2.1 1 && (xl_isI y && k (pc + 1) st)
    | _ => false)
  | .pop2 => (match st with
    | y :: st => Nat.beq x.2.2.1 1 && (Nat.beq y.1 1 && k (pc + 1) st)
    | _ => false)
  | .goto off => (match st with
    | [] => decide ((pc : Int) + off = (stop : Int)) && xl_eqS [] sst
    | _ => false)
  | .invokevirtual _ => (match xl_pop x.2.2.2.2.1 st [] with
    | some (av, [o]) => (match xl_fnd ct x.2.2.2.1 with
      | some n => Nat.ble (n + 1) 422 && (match xv_get 20 xz_CT n with
        | some c0 => xl_ccB d x.2.2.2.1 x.2.2.2.2.2.2.toNat c0 av o && (match c0.2.2.2.2.1 with
          | q :: ps => (Nat.ble q.1 1 && ps.all (fun w => Nat.beq w.1 q.1)) && k (pc + 3) [(q.1, 0)]
          | [] => false)
        | none => false)
      | none => false)
    | _ => false)
  | _ => false
noncomputable def xl_run (ct : List (Nat × Nat)) (d stop : Nat) (sst : List xl_V) : List xv_E → Nat → List xl_V → Bool
  | [], _, _ => false
  | x :: es, pc, st => bif Nat.beq pc stop then xl_eqS st sst else Nat.beq x.1 pc && xl_st (xl_run ct d stop sst es) ct d stop sst x pc st
theorem xl_bad {β : Prop} (h : false = true) : β := by cases h
theorem xl_hv.i {b : Nat} {as : List Nat} {xs : Nat → Int32} {i hz : Int32} {k : Nat} {z : Int32} : xl_hv b as xs i hz (0, k) (.int z) := ⟨fun _ => ⟨z, rfl⟩, fun q => (by cases q), fun q => (by cases q), fun q => (by cases q), fun q => (by cases q), fun q => (by cases q), fun q => (by cases q), fun q => (by cases q)⟩
theorem xl_hv.l {b : Nat} {as : List Nat} {xs : Nat → Int32} {i hz : Int32} {k : Nat} {z : Int64} : xl_hv b as xs i hz (1, k) (.long z) := ⟨(fun q => by rcases q with q | q | q <;> cases q), fun _ => ⟨z, rfl⟩, fun q => (by cases q), fun q => (by cases q), fun q => (by cases q), fun q => (by cases q), fun q => (by cases q), fun q => (by cases q)⟩
theorem xl_hv.r {b : Nat} {as : List Nat} {xs : Nat → Int32} {i hz : Int32} {k a : Nat} (h : as[k]? = some a) : xl_hv b as xs i hz (2, k) (.ref a) := ⟨(fun q => by rcases q with q | q | q <;> cases q), fun q => (by cases q), fun _ => ⟨a, h, rfl⟩, fun q => (by cases q), fun q => (by cases q), fun q => (by cases q), fun q => (by cases q), fun q => (by cases q)⟩
theorem xl_hv.p {b : Nat} {as : List Nat} {xs : Nat → Int32} {i hz : Int32} {k : Nat} {z : Int32} (h : z.toInt = i.toInt + (k : Int)) (h5 : k ≤ 5) : xl_hv b as xs i hz (3, k) (.int z) := ⟨(fun q => by rcases q with q | q | q <;> cases q), fun q => (by cases q), fun q => (by cases q), fun _ => ⟨z, rfl, h, h5⟩, fun q => (by cases q), fun q => (by cases q), fun q => (by cases q), fun q => (by cases q)⟩
theorem xl_hv.n {b : Nat} {as : List Nat} {xs : Nat → Int32} {i hz : Int32} {k : Nat} (h5 : k ≤ 5) : xl_hv b as xs i hz (4, k) (.int (Int32.ofInt k)) := ⟨(fun q => by rcases q with q | q | q <;> cases q), fun q => (by cases q), fun q => (by cases q), fun q => (by cases q), fun _ => ⟨h5, rfl⟩, fun q => (by cases q), fun q => (by cases q), fun q => (by cases q)⟩
theorem xl_hv.s {b : Nat} {as : List Nat} {xs : Nat → Int32} {i hz : Int32}  : xl_hv b as xs i hz (5, 0) (.ref b) := ⟨(fun q => by rcases q with q | q | q <;> cases q), fun q => (by cases q), fun q => (by cases q), fun q => (by cases q), fun q => (by cases q), fun _ => rfl, fun q => (by cases q), fun q => (by cases q)⟩
theorem xl_hv.x {b : Nat} {as : List Nat} {xs : Nat → Int32} {i hz : Int32} {k : Nat} : xl_hv b as xs i hz (6, k) (.int (xs (i.toInt + (k : Int)).toNat)) := ⟨fun _ => ⟨_, rfl⟩, fun q => (by cases q), fun q => (by cases q), fun q => (by cases q), fun q => (by cases q), fun q => (by cases q), fun _ => rfl, fun q => (by cases q)⟩
theorem xl_hv.h {b : Nat} {as : List Nat} {xs : Nat → Int32} {i hz : Int32} {k : Nat} : xl_hv b as xs i hz (7, k) (.int hz) := ⟨fun _ => ⟨_, rfl⟩, fun q => (by cases q), fun q => (by cases q), fun q => (by cases q), fun q => (by cases q), fun q => (by cases q), fun q => (by cases q), fun _ => rfl⟩
theorem xl_sk.un {b : Nat} {as : List Nat} {xs : Nat → Int32} {i hz : Int32} {v : xl_V} {st : List xl_V} {vst : List Value} (h : xl_sk b as xs i hz (v :: st) vst) : ∃ x vs, vst = x :: vs ∧ xl_hv b as xs i hz v x ∧ xl_sk b as xs i hz st vs := by
  match vst, h with
  | x :: vs, h => exact ⟨x, vs, rfl, h.1, h.2⟩
theorem xl_sk.nil {b : Nat} {as : List Nat} {xs : Nat → Int32} {i hz : Int32} {vst : List Value} (h : xl_sk b as xs i hz [] vst) : vst = [] := by
  match vst, h with
  | [], _ => rfl
theorem xl_i64 (x : Int64) : -9223372036854775808 ≤ x.toInt ∧ x.toInt ≤ 9223372036854775807 := by
  have h1 := Int64.le_toInt x
  have h2 := Int64.toInt_lt x
  omega
theorem xl_okA_ok {X : xw_X} {b : Nat} {as : List Nat} {xs : Nat → Int32} {i hz : Int32} : ∀ {sg : List (Nat × Int × Int)} {av : List xl_V} {vs : List Value}, xl_okA sg av = true → xl_sk b as xs i hz av vs → xw_Sv X as sg vs
  | [], [], [], _, _ => True.intro
  | [], [], _ :: _, _, h => False.elim h
  | [], _ :: _, _, h, _ => by cases h
  | _ :: _, [], _, h, _ => by cases h
  | _ :: _, _ :: _, [], _, h => False.elim h
  | a :: sg, v :: av, x :: vs, h, hk => by
    obtain ⟨h1, h2⟩ := xv_and_t h
    refine ⟨?_, xl_okA_ok h2 hk.2⟩
    rcases (Bool.or_eq_true _ _).mp h1 with g | g
    · obtain ⟨g1, g⟩ := xv_and_t g
      obtain ⟨g0, g⟩ := xv_and_t g
      obtain ⟨g2, g3⟩ := xv_and_t g
      have g1 := xv_beq g1
      have g2 := xv_le_iff.mp g2
      have g3 := xv_le_iff.mp g3
      obtain ⟨z, rfl⟩ := hk.1.1 (xl_isI_ok g0)
      have := xv_i32 z
      exact Or.inl ⟨g1, z, rfl, by omega, by omega⟩
    · obtain ⟨g1, g⟩ := xv_and_t g
      obtain ⟨g0, g⟩ := xv_and_t g
      obtain ⟨g2, g3⟩ := xv_and_t g
      have g1 := xv_beq g1
      have g2 := xv_le_iff.mp g2
      have g3 := xv_le_iff.mp g3
      obtain ⟨z, rfl⟩ := hk.1.2.1 (xv_beq g0)
      have := xl_i64 z
      exact Or.inr (Or.inl ⟨g1, z, rfl, by omega, by omega⟩)
theorem xl_pop_ok {b : Nat} {as : List Nat} {xs : Nat → Int32} {i hz : Int32} : ∀ {n : Nat} {st acc av st' : List xl_V} {vst va : List Value}, xl_pop n st acc = some (av, st') → xl_sk b as xs i hz st vst → xl_sk b as xs i hz acc va → ∃ P vst', vst = P ++ vst' ∧ P.length = n ∧ xl_sk b as xs i hz av (P.reverse ++ va) ∧ xl_sk b as xs i hz st' vst'
  | 0, st, acc, av, st', vst, va, h, h1, h2 => by
    cases h
    exact ⟨[], vst, rfl, rfl, h2, h1⟩
  | n + 1, v :: st, acc, av, st', vst, va, h, h1, h2 => by
    obtain ⟨x, vs, rfl, hx, h1⟩ := h1.un
    obtain ⟨P, vst', e1, e2, e3, e4⟩ := xl_pop_ok (n := n) (st := st) (acc := v :: acc) (va := x :: va) h h1 ⟨hx, h2⟩
    refine ⟨x :: P, vst', by rw [e1]; rfl, by simp [e2], ?_, e4⟩
    rw [List.reverse_cons, List.append_assoc]
    exact e3
  | n + 1, [], _, _, _, _, _, h, _, _ => by cases h
section XL2
variable {p : Program} {l : Launch} {e : Env} {R : Room} {s : State} {m : MethodId} {args : Array Value} {below : List Frame} {meth : Method} {c : Code}
variable {cc : ByteArray} {own : String} {nL : Nat} {D : va_G} {t : Nat → ClassId} {A : Nat → Prop} {X : xw_X} {xs : Nat → Int32} {cs sl : Nat} {Q : State → Prop}
/-- the judgement -/
def xl_T (p : Program) (l : Launch) (e : Env) (R : Room) (s : State) (m : MethodId) (args : Array Value) (below : List Frame) (meth : Method) (c : Code) (D : va_G) (t : Nat → ClassId) (A : Nat → Prop) (X : xw_X) (xs : Nat → Int32) (cs sl : Nat) (Q : State → Prop) (ls : Array Slot) (as : List Nat) (e9 : Nat → Option (Nat × va_E)) (wr : va_W) (i hz : Int32) (pc : Nat) (st : List xl_V) : Prop := ∀ (vst : List Value) (H : Heap) (locs : List Loc) (ws : va_W), xl_Wo D t A s.heap X xs H locs ws wr → ws.map Prod.fst = as → (∀ g ∈ xl_gd, ws[g]? = e9 g) → xl_sk X.1 as xs i hz st vst → W p l e R s m args below meth c H locs cs sl Q (F0 m pc ls vst)
theorem xl_step {name : String} {ret : Option FieldType} {I : Nat → Option xv_I} {dF stop a0 a1 : Nat} {ct : List (Nat × Nat)} {sst : List xl_V} {i hz : Int32} {ls : Array Slot} {as : List Nat} {e9 : Nat → Option (Nat × va_E)} {wr : va_W} (C : xw_Cx p s m args c cc own nL D t A X xs xz_G) (hV : ∀ n, n < 422 → ∀ c, xv_get 20 xz_CT n = some c → xw_CV l I xz_hl xz_G c) (hRm : dF + 1 ≤ R.frames ∧ 60 * dF + 60 ≤ R.locals) (hCS : cs ≤ R.cells ∧ sl ≤ R.slots) (hXs : X.2.2.2.1) (hi0 : 0 ≤ i.toInt) (hi5 : i.toInt + 5 < (X.2.1 : Int)) (hls : lv_has ls nL [(0, .ref X.1), (1, .ref a0), (2, .ref a1), (3, .int i)]) (has0 : as[0]? = some a0) (has1 : as[102]? = some a1)
    (hK : xl_T p l e R s m args below meth c D t A X xs cs sl Q ls as e9 wr i hz stop sst) {k : Nat → List xl_V → Bool} (hk : ∀ pc st, k pc st = true → xl_T p l e R s m args below meth c D t A X xs cs sl Q ls as e9 wr i hz pc st) {x : xv_E} (hx : xv_okE cc own name ret I x) {st : List xl_V} (h : xl_st k ct dF stop sst x x.1 st = true) : xl_T p l e R s m args below meth c D t A X xs cs sl Q ls as e9 wr i hz x.1 st := by
  obtain ⟨pc, ins, len, a, b, pp, v⟩ := x
  obtain ⟨hd, hlen, hlk⟩ := hx
  dsimp only at hd hlen hlk h ⊢
  intro vst H locs ws hWl has h101 hsk
  obtain ⟨hXX, hbl, hbA, hL31⟩ := C.2.2.2.2.2.2.2.2.1 hXs
  have hl0 : ls[0]? = some (.val (.ref X.1)) := hls.2.2 (0, .ref X.1) (by simp)
  have hl1 : ls[1]? = some (.val (.ref a0)) := hls.2.2 (1, .ref a0) (by simp)
  have hl2 : ls[2]? = some (.val (.ref a1)) := hls.2.2 (2, .ref a1) (by simp)
  have hl3 : ls[3]? = some (.val (.int i)) := hls.2.2 (3, .int i) (by simp)
  have L1 : ∀ {n : Nat}, xv_len ins = n → n ≠ 0 → len = n := fun h0 h1 => by rcases hlen with q | q <;> omega
  cases ins
  case aload_n j =>
    have el := L1 (n := 1) rfl (by decide)
    subst el
    have h : (bif Nat.beq j.val 0 then k (pc + 1) ((5, 0) :: st) else bif Nat.beq j.val 1 then k (pc + 1) ((2, 0) :: st) else bif Nat.beq j.val 2 then k (pc + 1) ((2, 102) :: st) else false) = true := h
    cases b0 : Nat.beq j.val 0 with
    | true =>
      rw [b0] at h
      exact lv_aload_n C.1 C.2.1 hd (xv_beq b0) hl0 (hk _ _ h _ H locs ws hWl has h101 ⟨xl_hv.s, hsk⟩)
    | false =>
      rw [b0] at h
      simp only [cond_false] at h
      cases b1 : Nat.beq j.val 1 with
      | true =>
        rw [b1] at h
        exact lv_aload_n C.1 C.2.1 hd (xv_beq b1) hl1 (hk _ _ h _ H locs ws hWl has h101 ⟨xl_hv.r has0, hsk⟩)
      | false =>
        rw [b1] at h
        simp only [cond_false] at h
        cases b2 : Nat.beq j.val 2 with
        | true =>
          rw [b2] at h
          exact lv_aload_n C.1 C.2.1 hd (xv_beq b2) hl2 (hk _ _ h _ H locs ws hWl has h101 ⟨xl_hv.r has1, hsk⟩)
        | false => rw [b2] at h; cases h
  case iload_n j =>
    have el := L1 (n := 1) rfl (by decide)
    subst el
    obtain ⟨b3, h⟩ := xv_and_t h
    exact lv_iload_n C.1 C.2.1 hd (xv_beq b3) hl3 (hk _ _ h _ H locs ws hWl has h101 ⟨xl_hv.p (by simp) (by decide), hsk⟩)
  case iconst n =>
    have el := L1 (n := 1) rfl (by decide)
    subst el
    obtain ⟨b3, h⟩ := xv_and_t h
    obtain ⟨b1, b2⟩ := xv_and_t b3
    have b1 := xv_le_iff.mp b1
    have b2 := xv_le_iff.mp b2
    refine lv_iconst (v := Int32.ofInt (n.toNat : Int)) C.1 C.2.1 hd (by rw [Int.toNat_of_nonneg b1]) (hk _ _ h _ H locs ws hWl has h101 ⟨xl_hv.n (by omega), hsk⟩)
  case iadd =>
    have el := L1 (n := 1) rfl (by decide)
    subst el
    match st, h with
    | y :: x :: st, h =>
      obtain ⟨b, h⟩ := xv_and_t h
      obtain ⟨b1, b⟩ := xv_and_t b
      obtain ⟨b2, b3⟩ := xv_and_t b
      have b3 := xv_beq b3
      obtain ⟨vy, vst, rfl, hy, hs1⟩ := hsk.un
      obtain ⟨vx, vst, rfl, hx, hs2⟩ := hs1.un
      obtain ⟨h5, rfl⟩ := hy.2.2.2.2.1 (xv_beq b1)
      obtain ⟨z, rfl, ez, -⟩ := hx.2.2.2.1 (xv_beq b2)
      refine lv_iadd C.1 C.2.1 hd (hk _ _ h _ H locs ws hWl has h101 ⟨xl_hv.p ?_ h5, hs2⟩)
      have e1 : (Int32.ofInt (y.2 : Int)).toInt = (y.2 : Int) := Int32.toInt_ofInt_of_le (by omega) (by omega)
      rw [Int32.toInt_add, e1, ez, b3, Int.bmod_eq_of_le (by omega) (by omega)]
      omega
  case iaload =>
    have el := L1 (n := 1) rfl (by decide)
    subst el
    match st, h with
    | y :: x :: st, h =>
      obtain ⟨b, h⟩ := xv_and_t h
      obtain ⟨b1, b2⟩ := xv_and_t b
      obtain ⟨vy, vst, rfl, hy, hs1⟩ := hsk.un
      obtain ⟨vx, vst, rfl, hx, hs2⟩ := hs1.un
      obtain ⟨z, rfl, ez, h5⟩ := hy.2.2.2.1 (xv_beq b1)
      have ex := hx.2.2.2.2.2.1 (xv_beq b2)
      subst ex
      obtain ⟨q1, q2, q3⟩ := xy_idx (x := z) (n := X.2.1) (by omega) (by omega)
      refine va_sld C.1 C.2.1 hXX hbl hbA hWl.1.2.2.1 q1 hd ?_
      rw [q2, ez]
      exact hk _ _ h _ H locs ws hWl has h101 ⟨xl_hv.x, hs2⟩
  case i2l =>
    have el := L1 (n := 1) rfl (by decide)
    subst el
    match st, h with
    | y :: st, h =>
      obtain ⟨b1, h⟩ := xv_and_t h
      obtain ⟨vy, vst, rfl, hy, hs2⟩ := hsk.un
      obtain ⟨z, rfl⟩ := hy.1 (xl_isI_ok b1)
      exact lv_i2l C.1 C.2.1 hd rfl (hk _ _ h _ H locs ws hWl has h101 ⟨xl_hv.l, hs2⟩)
  case bipush n =>
    have el := L1 (n := 2) rfl (by decide)
    subst el
    exact lv_bipush C.1 C.2.1 hd rfl (hk _ _ h _ H locs ws hWl has h101 ⟨xl_hv.i, hsk⟩)
  case ldc2_w n =>
    have el := L1 (n := 3) rfl (by decide)
    subst el
    exact lv_ldc2 C.1 C.2.1 C.2.2.2.1 (C.2.2.2.2.1 _ hlk) hd (hk _ _ h _ H locs ws hWl has h101 ⟨xl_hv.l, hsk⟩)
  case lshl =>
    have el := L1 (n := 1) rfl (by decide)
    subst el
    match st, h with
    | y :: x :: st, h =>
      obtain ⟨b, h⟩ := xv_and_t h
      obtain ⟨b1, b2⟩ := xv_and_t b
      obtain ⟨vy, vst, rfl, hy, hs1⟩ := hsk.un
      obtain ⟨vx, vst, rfl, hx, hs2⟩ := hs1.un
      obtain ⟨z, rfl⟩ := hy.1 (xl_isI_ok b1)
      obtain ⟨w, rfl⟩ := hx.2.1 (xv_beq b2)
      exact lv_lshl C.1 C.2.1 hd rfl (hk _ _ h _ H locs ws hWl has h101 ⟨xl_hv.l, hs2⟩)
  case land =>
    have el := L1 (n := 1) rfl (by decide)
    subst el
    match st, h with
    | y :: x :: st, h =>
      obtain ⟨b, h⟩ := xv_and_t h
      obtain ⟨b1, b2⟩ := xv_and_t b
      obtain ⟨vy, vst, rfl, hy, hs1⟩ := hsk.un
      obtain ⟨vx, vst, rfl, hx, hs2⟩ := hs1.un
      obtain ⟨z, rfl⟩ := hy.2.1 (xv_beq b1)
      obtain ⟨w, rfl⟩ := hx.2.1 (xv_beq b2)
      exact lv_land C.1 C.2.1 hd (hk _ _ h _ H locs ws hWl has h101 ⟨xl_hv.l, hs2⟩)
  case lor =>
    have el := L1 (n := 1) rfl (by decide)
    subst el
    match st, h with
    | y :: x :: st, h =>
      obtain ⟨b, h⟩ := xv_and_t h
      obtain ⟨b1, b2⟩ := xv_and_t b
      obtain ⟨vy, vst, rfl, hy, hs1⟩ := hsk.un
      obtain ⟨vx, vst, rfl, hx, hs2⟩ := hs1.un
      obtain ⟨z, rfl⟩ := hy.2.1 (xv_beq b1)
      obtain ⟨w, rfl⟩ := hx.2.1 (xv_beq b2)
      exact lv_lor C.1 C.2.1 hd (hk _ _ h _ H locs ws hWl has h101 ⟨xl_hv.l, hs2⟩)
  case pop =>
    match st, h with
    | y :: st, h =>
      obtain ⟨el, h⟩ := xv_and_t h
      have el : len = 1 := xv_beq el
      subst el
      obtain ⟨b1, h⟩ := xv_and_t h
      obtain ⟨vy, vst, rfl, hy, hs2⟩ := hsk.un
      obtain ⟨z, rfl⟩ := hy.1 (xl_isI_ok b1)
      exact lv_pop C.1 C.2.1 hd rfl (hk _ _ h _ H locs ws hWl has h101 hs2)
  case pop2 =>
    match st, h with
    | y :: st, h =>
      obtain ⟨el, h⟩ := xv_and_t h
      have el : len = 1 := xv_beq el
      subst el
      obtain ⟨b1, h⟩ := xv_and_t h
      obtain ⟨vy, vst, rfl, hy, hs2⟩ := hsk.un
      obtain ⟨z, rfl⟩ := hy.2.1 (xv_beq b1)
      exact lv_pop2_2 C.1 C.2.1 hd rfl (hk _ _ h _ H locs ws hWl has h101 hs2)
  case goto off =>
    have el := L1 (n := 3) rfl (by decide)
    subst el
    match st, h with
    | [], h =>
      have ev := hsk.nil
      subst ev
      obtain ⟨h1, g⟩ := xv_and_t h
      have g := xl_eqS_ok g
      clear h
      subst g
      exact lv_goto C.1 C.2.1 hd (of_decide_eq_true h1) (hK _ H locs ws hWl has h101 True.intro)
  case invokevirtual idx =>
    have el := L1 (n := 3) rfl (by decide)
    subst el
    have h : (match xl_pop b st [] with
      | some (av, [o]) => (match xl_fnd ct a with
        | some n => Nat.ble (n + 1) 422 && (match xv_get 20 xz_CT n with
          | some c0 => xl_ccB dF a v.toNat c0 av o && (match c0.2.2.2.2.1 with
            | q :: ps => (Nat.ble q.1 1 && ps.all (fun w => Nat.beq w.1 q.1)) && k (pc + 3) [(q.1, 0)]
            | [] => false)
          | none => false)
        | none => false)
      | _ => false) = true := h
    cases hp : xl_pop b st [] with
    | none => rw [hp] at h; cases h
    | some w =>
      obtain ⟨av, so⟩ := w
      rw [hp] at h
      match so, h, hp with
      | [], h, _ => cases h
      | _ :: _ :: _, h, _ => cases h
      | [o], h, hp =>
        dsimp only at h
        cases hf : xl_fnd ct a with
        | none => rw [hf] at h; cases h
        | some n =>
          rw [hf] at h
          dsimp only at h
          obtain ⟨hn, h⟩ := xv_and_t h
          have hn := xv_ble hn
          cases hc : xv_get 20 xz_CT n with
          | none => rw [hc] at h; cases h
          | some c0 =>
            rw [hc] at h
            dsimp only at h
            obtain ⟨hcc, h⟩ := xv_and_t h
            unfold xl_ccB at hcc
            obtain ⟨k1, hcc⟩ := xv_and_t hcc
            obtain ⟨k2, hcc⟩ := xv_and_t hcc
            obtain ⟨k3, hcc⟩ := xv_and_t hcc
            obtain ⟨k4, hcc⟩ := xv_and_t hcc
            obtain ⟨k5, hcc⟩ := xv_and_t hcc
            obtain ⟨k6, k7⟩ := xv_and_t hcc
            have k1 := xv_beq k1
            have k2 := xv_ble k2
            have k4 := xv_beq k4
            obtain ⟨P, vst', rfl, hPl, hav, ho⟩ := xl_pop_ok hp hsk (va := []) True.intro
            rw [List.append_nil] at hav
            obtain ⟨vo, vs0, rfl, ho1, hs0⟩ := ho.un
            have ev := hs0.nil
            subst ev
            obtain ⟨ad, had, rfl⟩ := ho1.2.2.1 k4
            have k3 : c0.2.2.1 = [] := by
              cases hq : c0.2.2.1 with
              | nil => rfl
              | cons _ _ => rw [hq] at k3; cases k3
            cases hg : xv_get 14 xz_G o.2 with
            | none => rw [hg] at k6; cases k6
            | some cl =>
              rw [hg] at k6
              dsimp only at k6
              obtain ⟨k8, k9⟩ := xv_and_t k6
              cases hsg : c0.2.1 with
              | nil => rw [hsg] at k5; cases k5
              | cons g sg =>
                rw [hsg] at k5
                dsimp only at k5
                obtain ⟨j1, k5⟩ := xv_and_t k5
                obtain ⟨j2, j3⟩ := xv_and_t k5
                have j1 := xv_beq j1
                have j2 : g.2.1 = (o.2 : Int) := of_decide_eq_true j2
                have hsv : xw_Sv X (ws.map Prod.fst) c0.2.1 (.ref ad :: P.reverse) := by
                  rw [hsg, has]
                  exact ⟨Or.inr (Or.inr (Or.inl ⟨j1, ad, by rw [j2]; exact had, rfl⟩)), xl_okA_ok j3 hav⟩
                refine xl_call (I := I) (n := b) (ci := v.toNat) (r := o.2) (cl := cl) (vr := []) C (hV n (by omega) c0 hc) k2 k3 hd hRm hCS (by rw [k1]; exact hlk) hWl hg (xv_beq k8) (xv_beq k9) (by rw [has]; exact had) hls.1 hPl (by decide) hsv (fun rv H' locs' ws' hWl' hB hpo => ?_)
                obtain ⟨q, hq, hpv⟩ := hpo
                cases hps : c0.2.2.2.2.1 with
                | nil => rw [hps] at h; cases h
                | cons q0 ps =>
                  rw [hps] at h hq
                  dsimp only at h
                  obtain ⟨w1, h⟩ := xv_and_t h
                  obtain ⟨w0, w1⟩ := xv_and_t w1
                  have w0 := xv_ble w0
                  have eq1 : q.1 = q0.1 := by
                    rcases List.mem_cons.mp hq with z | z
                    · rw [z]
                    · exact xv_beq (List.all_eq_true.mp w1 q z)
                  have h101' : ∀ g ∈ xl_gd, ws'[g]? = e9 g := fun g hg => by
                    rw [hB.2.1 g (fun cx hcx => ?_), h101 g hg]
                    have := List.all_eq_true.mp (List.all_eq_true.mp k7 _ hcx) g hg
                    rw [show Nat.beq g g = true from Nat.beq_refl g] at this
                    cases this
                  have has' : ws'.map Prod.fst = as := hB.2.2.trans has
                  rcases hpv.1 with ⟨z9, -⟩ | ⟨z0, z, hrv, -, -⟩ | ⟨z1, z, hrv, -, -⟩
                  · omega
                  · rw [hrv]
                    refine hk _ _ h _ H' locs' ws' hWl' has' h101' ⟨?_, True.intro⟩
                    rw [show q0.1 = 0 by omega]
                    exact xl_hv.i
                  · rw [hrv]
                    refine hk _ _ h _ H' locs' ws' hWl' has' h101' ⟨?_, True.intro⟩
                    rw [show q0.1 = 1 by omega]
                    exact xl_hv.l
  all_goals exact xl_bad h
theorem xl_ok {name : String} {ret : Option FieldType} {I : Nat → Option xv_I} {dF stop a0 a1 : Nat} {ct : List (Nat × Nat)} {sst : List xl_V} {i hz : Int32} {ls : Array Slot} {as : List Nat} {e9 : Nat → Option (Nat × va_E)} {wr : va_W} (C : xw_Cx p s m args c cc own nL D t A X xs xz_G) (hV : ∀ n, n < 422 → ∀ c, xv_get 20 xz_CT n = some c → xw_CV l I xz_hl xz_G c) (hRm : dF + 1 ≤ R.frames ∧ 60 * dF + 60 ≤ R.locals) (hCS : cs ≤ R.cells ∧ sl ≤ R.slots) (hXs : X.2.2.2.1) (hi0 : 0 ≤ i.toInt) (hi5 : i.toInt + 5 < (X.2.1 : Int)) (hls : lv_has ls nL [(0, .ref X.1), (1, .ref a0), (2, .ref a1), (3, .int i)]) (has0 : as[0]? = some a0) (has1 : as[102]? = some a1)
    (hK : xl_T p l e R s m args below meth c D t A X xs cs sl Q ls as e9 wr i hz stop sst) : ∀ (es : List xv_E), (∀ x ∈ es, xv_okE cc own name ret I x) → ∀ pc st, xl_run ct dF stop sst es pc st = true → xl_T p l e R s m args below meth c D t A X xs cs sl Q ls as e9 wr i hz pc st
  | [], _, _, _, h => by cases h
  | x :: es, hx, pc, st, h => by
    have h : (bif Nat.beq pc stop then xl_eqS st sst else Nat.beq x.1 pc && xl_st (xl_run ct dF stop sst es) ct dF stop sst x pc st) = true := h
    cases hb : Nat.beq pc stop with
    | true =>
      rw [hb] at h
      have hb := xv_beq hb
      subst hb
      rw [xl_eqS_ok h]
      exact hK
    | false =>
      rw [hb] at h
      simp only [cond_false] at h
      obtain ⟨h1, h⟩ := xv_and_t h
      have h1 := xv_beq h1
      subst h1
      exact xl_step C hV hRm hCS hXs hi0 hi5 hls has0 has1 hK (fun pc st h => xl_ok C hV hRm hCS hXs hi0 hi5 hls has0 has1 hK es (fun y hy => hx y (List.mem_cons_of_mem _ hy)) pc st h) (hx x List.mem_cons_self) h
end XL2
