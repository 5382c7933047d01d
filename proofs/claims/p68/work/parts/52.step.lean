/-! a step, a run -/
def xw_ln (i : Instr) : Nat := match i with
  | .ior => 1
  | .ixor => 1
  | .ishl => 1
  | .irem => 1
  | .ladd => 1
  | .lmul => 1
  | .ldiv => 1
  | .lrem => 1
  | .l2i => 1
  | .i2s => 1
  | .dup2 => 1
  | .pop => 1
  | .pop2 => 1
  | .lload_n _ => 1
  | .lstore_n _ => 1
  | .lstore _ => 2
  | .ldc _ => 2
  | i => xv_len i
/-- what is asked beside xv_okE -/
def xw_ex (own : String) (e : xv_E) : Prop := (xw_ln e.2.1 = 0 ∨ xw_ln e.2.1 = e.2.2.1) ∧ match e.2.1 with
  | .ldc idx => (e.2.2.2.2.1 = 6 ∧ (own, idx) ∈ xw_strs) ∨ (e.2.2.2.2.1 ≠ 6 ∧ Cond.constant own idx (Int32.ofInt e.2.2.2.2.2.2) ∈ xv_tb)
  | _ => True
/-- the rows' types are whole, and narrow where the machine narrows -/
def xw_Nar (Γ : xv_A) : Prop := ((∀ r cl, xv_get 14 Γ r = some cl → cl.1 = 2 → ∀ i u, xv_get 8 cl.2.2.2 i = some u → u.1 = 0 → -128 ≤ u.2.1 ∧ u.2.2 ≤ 127) ∧ (∀ r cl, xv_get 14 Γ r = some cl → cl.1 = 3 → ∀ i u, xv_get 8 cl.2.2.2 i = some u → u.1 = 0 → 0 ≤ u.2.1 ∧ u.2.2 ≤ 1)) ∧ (∀ r cl, xv_get 14 Γ r = some cl → 1 ≤ cl.1 → cl.1 ≤ 3 → ∀ i, i < cl.2.2.1 → ∃ u, xv_get 8 cl.2.2.2 i = some u ∧ u.1 = 0) ∧ (∀ r cl, xv_get 14 Γ r = some cl → cl.1 = 4 → ∀ i, i < cl.2.2.1 → ∃ u, xv_get 8 cl.2.2.2 i = some u ∧ u.1 = 1)
section XY9
variable {p : Program} {l : Launch} {e : Env} {R : Room} {s : State} {m : MethodId} {args : Array Value} {below : List Frame} {meth : Method} {c : Code}
variable {e0 : (Nat → Int) × Nat} {cc : ByteArray} {own : String} {nL : Nat} {D : va_G} {t : Nat → ClassId} {A : Nat → Prop} {hl : Nat × Int} {Γ : xv_A} {X : xw_X} {xs : Nat → Int32} {ws0 : va_W} {gh : List xw_L} {gz : Nat → Int} {fh : Nat → Option xw_H} {cs sl : Nat} {Q : State → Prop} {act : List xw_A} {k : xw_K} {pc : Nat} {L st : List xw_V} {S : xw_S}
theorem xy_bad {β : Prop} (h : false = true) : β := by cases h
/-- the ends of a method -/
def xw_Ends (e0 : (Nat → Int) × Nat) (p : Program) (l : Launch) (e : Env) (R : Room) (s : State) (m : MethodId) (args : Array Value) (below : List Frame) (meth : Method) (c : Code) (D : va_G) (t : Nat → ClassId) (A : Nat → Prop) (hl : Nat × Int) (Γ : xv_A) (X : xw_X) (xs : Nat → Int32) (ws0 : va_W) (nL : Nat) (gh : List xw_L) (gz : Nat → Int) (fh : Nat → Option xw_H) (cs sl : Nat) (Q : State → Prop) (cc : ByteArray) (ret : Option FieldType) (kr : xw_Kr) : Prop :=
  ∀ (act : List xw_A) (pc : Nat) (L st : List xw_V) (S : xw_S) (r : Option xw_V), kr r S = true → ((decode cc pc = .ok (.ireturn, 1) ∧ (∃ x : xw_V, st = [x] ∧ r = some x ∧ x.1 = 0 ∧ (ret = some .int ∨ (ret = some .boolean ∧ xw_prove S x.2 = true ∧ xw_prove S (xw_k (xw_neg x.2) 1) = true)))) ∨ (decode cc pc = .ok (.lreturn, 1) ∧ ret = some .long ∧ ∃ x : xw_V, st = [x] ∧ r = some x ∧ x.1 = 1) ∨ (decode cc pc = .ok (.return_, 1) ∧ ret = none ∧ st = [] ∧ r = none)) → xw_Tj e0 D t A s.heap hl Γ X xs ws0 nL gh gz fh (fun pc ls vst H locs => W p l e R s m args below meth c H locs cs sl Q (F0 m pc ls vst)) act pc L st S
theorem xy_step {name : String} {ret : Option FieldType} {I : Nat → Option xv_I} {call : xw_Cl} {kr : xw_Kr} {dF len a b id p4 : Nat} {v : Int} {ins : Instr} (C : xw_Cx p s m args c cc own nL D t A X xs Γ) (hk : (∀ pc' L' st' S', k pc' L' st' S' = true → xw_Tj e0 D t A s.heap hl Γ X xs ws0 nL gh gz fh (fun pc ls vst H locs => W p l e R s m args below meth c H locs cs sl Q (F0 m pc ls vst)) act pc' L' st' S')) (hCG : xw_CG l dF I hl Γ gh call) (hRm : dF + 1 ≤ R.frames ∧ 60 * dF + 60 ≤ R.locals) (hCS : cs ≤ R.cells ∧ sl ≤ R.slots) (hname : name = meth.name) (hE : xw_Ends e0 p l e R s m args below meth c D t A hl Γ X xs ws0 nL gh gz fh cs sl Q cc ret kr) (hN : xw_Nar Γ)
    (hd : decode cc pc = .ok (ins, len)) (hok : xv_lk own name ret I ins a b v) (hex : xw_ex own (pc, ins, len, a, b, p4, v)) (h : xw_step hl Γ call id k kr ins a b v pc L st S = true) : xw_Tj e0 D t A s.heap hl Γ X xs ws0 nL gh gz fh (fun pc ls vst H locs => W p l e R s m args below meth c H locs cs sl Q (F0 m pc ls vst)) act pc L st S := by
  have hRm2 : 1 ≤ R.frames ∧ 26 ≤ R.locals := ⟨by omega, by omega⟩
  obtain ⟨hlen, hex⟩ := hex
  cases ins
  case tableswitch d lo hi offs => exact xy_tableswitch C hk hd h
  all_goals first | (have hl := hlen.resolve_left (fun h0 => Nat.succ_ne_zero _ h0); dsimp only at hl; subst hl) | exact xy_bad h
  case iconst i => exact xy_iconst C hk hd h
  case bipush i => exact xy_bipush C hk hd h
  case sipush i => exact xy_sipush C hk hd h
  case lconst i => exact xy_lconst C hk hd h
  case iload i => exact xy_ldi hk h fun _ _ _ _ _ hx w => lv_iload C.1 C.2.1 hd hx w
  case iload_n i => exact xy_ldi hk h fun _ _ _ _ _ hx w => lv_iload_n C.1 C.2.1 hd rfl hx w
  case lload i => exact xy_ldl hk h fun _ _ _ _ _ hx w => lv_lload C.1 C.2.1 hd hx w
  case lload_n i => exact xy_ldl hk h fun _ _ _ _ _ hx w => lv_lload_n C.1 C.2.1 hd rfl hx w
  case aload_n i => exact xy_aload_n C hk hd h
  case istore i => exact xy_istore hk h fun _ _ _ _ _ _ h hi w => lv_istore C.1 C.2.1 hd h hi rfl w
  case istore_n i => exact xy_istore hk h fun _ _ _ _ _ _ h hi w => lv_istore_n C.1 C.2.1 hd rfl h hi rfl w
  case lstore i => exact xy_lstore hk h fun _ _ _ _ _ _ h hi w => lv_lstore C.1 C.2.1 hd h hi rfl w
  case lstore_n i => exact xy_lstore hk h fun _ _ _ _ _ _ h hi w => lv_lstore_n C.1 C.2.1 hd rfl h hi rfl w
  case astore_n i => exact xy_astore_n C hk hd h
  case iinc i n => exact xy_iinc C hk hd h
  case iadd => exact xy_iadd C hk hd h
  case isub => exact xy_isub C hk hd h
  case imul => exact xy_imul C hk hd h
  case iand => exact xy_iand C hk hd h
  case ior => exact xy_ior C hk hd h
  case ixor => exact xy_ixor C hk hd h
  case ishl => exact xy_ishl C hk hd h
  case ishr => exact xy_ishr C hk hd h
  case iushr => exact xy_iushr C hk hd h
  case irem => exact xy_irem C hk hd h
  case ladd => exact xy_ladd C hk hd h
  case lsub => exact xy_lsub C hk hd h
  case lmul => exact xy_lmul C hk hd h
  case ldiv => exact xy_ldiv C hk hd h
  case lrem => exact xy_lrem C hk hd h
  case land => exact xy_land C hk hd h
  case lor => exact xy_lor C hk hd h
  case lshl => exact xy_lshl C hk hd h
  case lcmp => exact xy_lcmp C hk hd h
  case i2l => exact xy_i2l C hk hd h
  case l2i => exact xy_l2i C hk hd h
  case i2b => exact xy_i2b C hk hd h
  case i2s => exact xy_i2s C hk hd h
  case dup => exact xy_dup C hk hd h
  case dup2 => exact xy_dup2 C hk hd h
  case pop => exact xy_pop C hk hd h
  case pop2 => exact xy_pop2 C hk hd h
  case goto off => exact xy_goto C hk hd h
  case ifCond q off => exact xy_ifCond C hk hd h
  case if_icmp q off => exact xy_icmp C hk hd h
  case ldc i =>
    have h : (bif Nat.beq b 6 then k (pc + 2) L ((6, (0, [])) :: st) S else bif xv_le (-2147483648) v && xv_le v 2147483647 then k (pc + 2) L ((0, (v, [])) :: st) S else false) = true := h
    rcases hex with ⟨e6, hw⟩ | ⟨e6, hw⟩
    · dsimp only at e6
      rw [e6] at h
      exact xy_ldcS C hk hd hw h
    · have hb : Nat.beq b 6 = false := by
        cases q : Nat.beq b 6 with
        | true => exact absurd (xv_beq q) e6
        | false => rfl
      rw [hb] at h
      exact xy_ldc C hk hd hw h
  case ldc_w i => exact xy_ldcw C hk hd hok h
  case ldc2_w i => exact xy_ldc2 C hk hd hok h
  case getfield i =>
    obtain ⟨q, h1, h2, h3⟩ := hok
    exact xy_getfield C hk hd h1 h2 h3 h
  case putfield i =>
    obtain ⟨q, h1, h2, h3, h4, h5⟩ := hok
    rw [hname] at h5
    exact xy_putfield C hk hd h1 h2 h3 h4 h5 h
  case arraylength => exact xy_alen C hk hd h
  case iaload => exact xy_ald C hk ⟨by omega, by omega⟩ (xy_l1 C hd) (fun _ => hd) h
  case baload =>
    match st, h with
    | [], h => exact xy_bad h
    | [_], h => exact xy_bad h
    | i :: o :: z, h =>
      have h : (match xv_get 14 Γ o.2.1.toNat with
        | some c => bif Nat.beq c.1 2 then xw_ald hl Γ 2 (i :: o :: z) S (fun v r S' => k (pc + 1) L (v :: r) S') else xw_ald hl Γ 3 (i :: o :: z) S (fun v r S' => k (pc + 1) L (v :: r) S')
        | none => false) = true := h
      cases hc : xv_get 14 Γ o.2.1.toNat with
      | none => rw [hc] at h; exact xy_bad h
      | some q =>
        rw [hc] at h
        dsimp only at h
        cases hb : Nat.beq q.1 2 with
        | true => rw [hb] at h; exact xy_ald C hk ⟨by omega, by omega⟩ (xy_l2 C hd) (fun w => by cases w) h
        | false => rw [hb] at h; exact xy_ald C hk ⟨by omega, by omega⟩ (xy_l3 C hd) (fun w => by cases w) h
  case laload => exact xy_ald C hk ⟨by omega, by omega⟩ (xy_l4 C hd) (fun w => by cases w) h
  case aaload => exact xy_aald C hk hd h
  case iastore => exact xy_ast C hk ⟨by omega, by omega⟩ (by omega) ⟨fun w => (by cases w), fun w => (by cases w)⟩ (fun r cl hc e => hN.2.1 r cl hc (by omega) (by omega)) (xy_s1 C hd) h
  case bastore =>
    match st, h with
    | [], h => exact xy_bad h
    | [_], h => exact xy_bad h
    | [_, _], h => exact xy_bad h
    | w :: i :: o :: z, h =>
      have h : (match xv_get 14 Γ o.2.1.toNat with
        | some c => bif Nat.beq c.1 2 then xw_ast hl Γ 2 0 (w :: i :: o :: z) S (fun r S' => k (pc + 1) L r S') else xw_ast hl Γ 3 0 (w :: i :: o :: z) S (fun r S' => k (pc + 1) L r S')
        | none => false) = true := h
      cases hc : xv_get 14 Γ o.2.1.toNat with
      | none => rw [hc] at h; exact xy_bad h
      | some q =>
        rw [hc] at h
        dsimp only at h
        cases hb : Nat.beq q.1 2 with
        | true => rw [hb] at h; exact xy_ast C hk ⟨by omega, by omega⟩ (by omega) ⟨fun _ => hN.1.1, fun w => (by cases w)⟩ (fun r cl hc e => hN.2.1 r cl hc (by omega) (by omega)) (xy_s2 C hd) h
        | false => rw [hb] at h; exact xy_ast C hk ⟨by omega, by omega⟩ (by omega) ⟨fun w => (by cases w), fun _ => hN.1.2⟩ (fun r cl hc e => hN.2.1 r cl hc (by omega) (by omega)) (xy_s3 C hd) h
  case lastore => exact xy_ast C hk ⟨by omega, by omega⟩ (by omega) ⟨fun w => (by cases w), fun w => (by cases w)⟩ (fun r cl hc e => hN.2.2 r cl hc e) (xy_s4 C hd) h
  case invokevirtual i => exact xy_invV C hk hCG hd hRm hCS hok h
  case invokestatic i =>
    rcases hok with ⟨ha, h1, h2, h3, h4⟩ | ⟨ha, h1⟩
    · subst ha
      exact xy_copy C hk hd hRm2 h1 h2 h3 h4 h
    · have hb : Nat.beq a 9999 = false := by
        cases q : Nat.beq a 9999 with
        | true => exact absurd (xv_beq q) ha
        | false => rfl
      unfold xw_step at h
      dsimp only at h
      rw [hb] at h
      exact xy_invS C hk hCG hd hRm hCS h1 h
  case ireturn =>
    match st, h with
    | [], h => exact xy_bad h
    | _ :: _ :: _, h => exact xy_bad h
    | [x], h =>
      have h : (bif Nat.beq x.1 0 && (Nat.beq a 0 || (xw_prove S x.2 && xw_prove S (xw_k (xw_neg x.2) 1))) then kr (some x) S else false) = true := h
      cases hb : (Nat.beq x.1 0 && (Nat.beq a 0 || (xw_prove S x.2 && xw_prove S (xw_k (xw_neg x.2) 1)))) with
      | false => rw [hb] at h; exact xy_bad h
      | true =>
        rw [hb] at h
        obtain ⟨b1, b2⟩ := xv_and_t hb
        refine hE act pc L _ S _ h (Or.inl ⟨hd, x, rfl, rfl, xv_beq b1, ?_⟩)
        rcases hok with ⟨ea, er⟩ | ⟨ea, er⟩
        · exact Or.inl er
        · refine Or.inr ⟨er, ?_⟩
          rw [ea] at b2
          exact xv_and_t (((Bool.or_eq_true _ _).mp b2).resolve_left (fun w => by cases w))
  case lreturn =>
    match st, h with
    | [], h => exact xy_bad h
    | _ :: _ :: _, h => exact xy_bad h
    | [x], h =>
      have h : (bif Nat.beq x.1 1 then kr (some x) S else false) = true := h
      cases hb : Nat.beq x.1 1 with
      | false => rw [hb] at h; exact xy_bad h
      | true =>
        rw [hb] at h
        exact hE act pc L _ S _ h (Or.inr (Or.inl ⟨hd, hok, x, rfl, rfl, xv_beq hb⟩))
  case return_ =>
    match st, h with
    | _ :: _, h => exact xy_bad h
    | [], h => exact hE act pc L _ S _ h (Or.inr (Or.inr ⟨hd, hok, rfl, rfl⟩))
  all_goals exact xy_bad h
end XY9
