/-! a step; a run; a method -/
def xv_len : Instr → Nat
  | .bipush _ => 2
  | .sipush _ => 3
  | .iload _ => 2
  | .lload _ => 2
  | .istore _ => 2
  | .iinc _ _ => 3
  | .goto _ => 3
  | .ifCond _ _ => 3
  | .if_icmp _ _ => 3
  | .ifnonnull _ => 3
  | .tableswitch _ _ _ _ => 0
  | .ldc_w _ => 3
  | .ldc2_w _ => 3
  | .getfield _ => 3
  | .putfield _ => 3
  | .new _ => 3
  | .newarray _ => 2
  | .anewarray _ => 3
  | .multianewarray _ _ => 4
  | .invokevirtual _ => 3
  | .invokestatic _ => 3
  | .invokespecial _ => 3
  | .iconst _ => 1
  | .lconst _ => 1
  | .iload_n _ => 1
  | .lload_n _ => 1
  | .aload_n _ => 1
  | .istore_n _ => 1
  | .astore_n _ => 1
  | .iadd => 1
  | .isub => 1
  | .imul => 1
  | .iand => 1
  | .iushr => 1
  | .ishr => 1
  | .lsub => 1
  | .land => 1
  | .lor => 1
  | .lshl => 1
  | .lcmp => 1
  | .i2l => 1
  | .i2b => 1
  | .dup => 1
  | .arraylength => 1
  | .iaload => 1
  | .baload => 1
  | .laload => 1
  | .aaload => 1
  | .iastore => 1
  | .bastore => 1
  | .lastore => 1
  | .aastore => 1
  | .ireturn => 1
  | .lreturn => 1
  | .return_ => 1
  | _ => 0
/-- what an instruction's three numbers must be -/
def xv_lk (own name : String) (ret : Option FieldType) (I : Nat → Option xv_I) (ins : Instr) (a b : Nat) (v : Int) : Prop := match ins with
  | .getfield idx => ∃ q, vwCl[a]? = some q ∧ b < q.2.2 ∧ Cond.fieldLink own idx (q.2.1 b).1 (q.2.1 b).2.1 (q.2.1 b).2.2.1 ∈ xv_tb
  | .putfield idx => ∃ q, vwCl[a]? = some q ∧ b < q.2.2 ∧ Cond.fieldLink own idx (q.2.1 b).1 (q.2.1 b).2.1 (q.2.1 b).2.2.1 ∈ xv_tb ∧ xv_ftk (q.2.1 b).2.2.1 v.toNat = true ∧ ((q.2.1 b).2.2.2 = false ∨ ((q.2.1 b).2.2.2 = true ∧ name = "<init>" ∧ (q.2.1 b).1 = own))
  | .new idx => ∃ q, vwCl[a]? = some q ∧ Cond.classLink own idx q.1 ∈ xv_tb
  | .newarray ty => Cond.arrayClass (newarray.typeOf ty) ∈ xv_tb
  | .anewarray idx => Cond.classLink own idx "PassedPenance$Image" ∈ xv_tb
  | .multianewarray idx n => n = 2 ∧ ∃ ty, ((ty = .int ∧ a = 1 ∧ b = 1 ∧ v = 0) ∨ (ty = .long ∧ a = 2 ∧ b = 4 ∧ v = 1)) ∧ Cond.classLink own idx ("[" ++ (FieldType.array ty).toString) ∈ xv_tb ∧ Cond.arrayClass ty ∈ xv_tb
  | .ldc_w idx => Cond.constant own idx (Int32.ofInt v) ∈ xv_tb
  | .ldc2_w idx => Cond.constantLong own idx (Int64.ofInt v) ∈ xv_tb
  | .invokestatic idx => (a = 9999 ∧ Cond.methodLink own idx arraycopyName ∈ xv_tb ∧ Cond.native arraycopyName ∈ xv_tb ∧ Cond.static arraycopyName ∈ xv_tb ∧ Cond.initialized "java/lang/System" ∈ xv_tb) ∨ (a ≠ 9999 ∧ ∀ i, I a = some i → xv_callee i b ∧ Cond.methodLink own idx i.1 ∈ xv_tb ∧ Cond.static i.1 ∈ xv_tb)
  | .invokevirtual idx => ∀ i, I a = some i → xv_callee i b ∧ Cond.methodLink own idx i.1 ∈ xv_tb ∧ Cond.instanceMethod i.1 ∈ xv_tb ∧ Cond.selects i.1.cls i.1 i.1 ∈ xv_tb ∧ ∃ q, vwCl[v.toNat]? = some q ∧ q.1 = i.1.cls
  | .invokespecial idx => (a = 9998 ∧ Cond.methodLink own idx objectInit ∈ xv_tb ∧ Cond.instanceMethod objectInit ∈ xv_tb ∧ Cond.code objectInit ⟨#[0xb1]⟩ 1 none ∈ xv_tb) ∨ (a ≠ 9998 ∧ ∀ i, I a = some i → xv_callee i b ∧ i.2.2.2 = none ∧ i.1.name = "<init>" ∧ (Cond.methodLink own idx i.1 ∈ xv_tb ∨ ∃ host, (own, idx, i.1, host) ∈ xv_nest) ∧ Cond.instanceMethod i.1 ∈ xv_tb)
  | .ireturn => (a = 0 ∧ ret = some .int) ∨ (a = 1 ∧ ret = some .boolean)
  | .lreturn => ret = some .long
  | .return_ => ret = none
  | _ => True
section XV8
variable {p : Program} {l : Launch} {e : Env} {R : Room} {s : State} {m : MethodId} {args : Array Value} {below : List Frame} {meth : Method} {c : Code}
variable {cc : ByteArray} {own : String} {nL : Nat} {D : va_G} {t : Nat → ClassId} {A : Nat → Prop} {as0 : List Nat} {sb : Nat} {scr : List xv_V} {Q : xv_R → State → Prop} {k : xv_K} {pc : Nat} {L st : List xv_V} {S : xv_S} {r : xv_R}
theorem xs_bad {β : Prop} (h : (none : Option xv_R) = some r) : β := by cases h
/-- the ends of a method -/
def xv_Ends (p : Program) (l : Launch) (e : Env) (R : Room) (s : State) (m : MethodId) (args : Array Value) (below : List Frame) (meth : Method) (c : Code) (D : va_G) (t : Nat → ClassId) (A : Nat → Prop) (as0 : List Nat) (sb nL : Nat) (Q : xv_R → State → Prop) (cc : ByteArray) (ret : Option FieldType) : Prop :=
  ∀ (pc : Nat) (L st : List xv_V) (S : xv_S), (decode cc pc = .ok (.ireturn, 1) ∧ (∃ x : xv_V, st = [x] ∧ x.1 = 0 ∧ (ret = some .int ∨ (ret = some .boolean ∧ 0 ≤ x.2.1 ∧ x.2.2 ≤ 1)))) ∨ (decode cc pc = .ok (.lreturn, 1) ∧ ret = some .long ∧ ∃ x : xv_V, st = [x] ∧ x.1 = 1) ∨ (decode cc pc = .ok (.return_, 1) ∧ ret = none ∧ st = []) → xv_T p l e R s m args below meth c D t A as0 sb nL Q pc L st S (st, L, S.1, S.2.1, S.2.2.1, S.2.2.2)
theorem xs_step {name : String} {ret : Option FieldType} {I : Nat → Option xv_I} {call : Nat → List xv_V → xv_A → Nat → Option xv_R} {dF len a b : Nat} {v : Int} {ins : Instr} (C : xv_Cx p s m args c cc own nL D t A sb scr) (hk : xv_G p l e R s m args below meth c D t A as0 sb nL Q k) (hCG : xv_CG l dF I call) (hRm : dF + 1 ≤ R.frames ∧ 60 * dF + 60 ≤ R.locals) (hname : name = meth.name) (hE : xv_Ends p l e R s m args below meth c D t A as0 sb nL Q cc ret) (hcr : ∀ id av h n r, call id av h n = some r → ∃ i, I id = some i)
    (hd : decode cc pc = .ok (ins, len)) (hlen : xv_len ins = 0 ∨ xv_len ins = len) (hok : xv_lk own name ret I ins a b v) (hr : xv_step call scr k ins a b v pc L st S = some r) : xv_T p l e R s m args below meth c D t A as0 sb nL Q pc L st S r := by
  have hRm2 : 1 ≤ R.frames ∧ 26 ≤ R.locals := ⟨by omega, by omega⟩
  cases ins
  case tableswitch d lo hi offs => exact xs_tableswitch C hk hd hr
  all_goals first | (have hl := hlen.resolve_left (fun h0 => Nat.succ_ne_zero _ h0); subst hl) | exact xs_bad hr
  case iconst i => exact xs_iconst C hk hd hr
  case bipush i => exact xs_bipush C hk hd hr
  case sipush i => exact xs_sipush C hk hd hr
  case lconst i => exact xs_lconst C hk hd hr
  case iload i => exact xs_iload C hk hd hr
  case iload_n i => exact xs_iload_n C hk hd hr
  case lload i => exact xs_lload C hk hd hr
  case lload_n i => exact xs_lload_n C hk hd hr
  case aload_n i => exact xs_aload_n C hk hd hr
  case istore i => exact xs_istore_i C hk hd hr
  case istore_n i => exact xs_istore_n C hk hd hr
  case astore_n i => exact xs_astore_n C hk hd hr
  case iinc i n => exact xs_iinc C hk hd hr
  case iadd => exact xs_iadd C hk hd hr
  case isub => exact xs_isub C hk hd hr
  case imul => exact xs_imul C hk hd hr
  case iand => exact xs_iand C hk hd hr
  case iushr => exact xs_iushr C hk hd hr
  case ishr => exact xs_ishr C hk hd hr
  case lsub => exact xs_lsub C hk hd hr
  case land => exact xs_land C hk hd hr
  case lor => exact xs_lor C hk hd hr
  case lshl => exact xs_lshl C hk hd hr
  case lcmp => exact xs_lcmp C hk hd hr
  case i2l => exact xs_i2l C hk hd hr
  case i2b => exact xs_i2b C hk hd hr
  case dup => exact xs_dup C hk hd hr
  case goto off => exact xs_goto C hk hd hr
  case ifCond q off => exact xs_ifCond C hk hd hr
  case if_icmp q off => exact xs_if_icmp C hk hd hr
  case ifnonnull off => exact xs_ifnonnull C hk hd hr
  case ldc_w i => exact xs_ldcw C hk hd hok hr
  case ldc2_w i => exact xs_ldc2 C hk hd hok hr
  case getfield i =>
    obtain ⟨q, h1, h2, h3⟩ := hok
    exact xs_getfield C hk hd h1 h2 h3 hr
  case putfield i =>
    obtain ⟨q, h1, h2, h3, h4, h5⟩ := hok
    rw [hname] at h5
    exact xs_putfield C hk hd h1 h2 h3 h4 h5 hr
  case new i =>
    obtain ⟨q, h1, h2⟩ := hok
    exact xs_new C hk hd h1 h2 hr
  case newarray ty => exact xs_newarray C hk hr hd hok
  case anewarray i => exact xs_anewarray C hk hd hok hr
  case multianewarray i n =>
    obtain ⟨rfl, ty, h1, h2, h4⟩ := hok
    exact xs_multi C hk hd h2 h4 h1 hr
  case arraylength => exact xs_alen C hk hd hr
  case iaload =>
    match st, hr with
    | [], hr => exact xs_bad hr
    | [_], hr => exact xs_bad hr
    | i :: o :: z, hr =>
      have hr : (bif Nat.beq o.1 5 then (bif Nat.beq i.1 0 && xv_isOne i then xv_ldk k (pc + 1) L z S (xv_nth scr i.2.1.toNat) else none) else xv_ald k 1 (pc + 1) L (i :: o :: z) S) = some r := hr
      cases hb : Nat.beq o.1 5 with
      | true => rw [hb] at hr; exact xs_sld C hk hd rfl (xv_beq hb) hr
      | false => rw [hb] at hr; exact xs_iald C hk hd hr
  case baload =>
    match st, hr with
    | [], hr => exact xs_bad hr
    | [_], hr => exact xs_bad hr
    | i :: o :: z, hr =>
      have hr : (match xv_cell S.1 o with | some c => bif Nat.beq c.1 2 then xv_ald k 2 (pc + 1) L (i :: o :: z) S else xv_ald k 3 (pc + 1) L (i :: o :: z) S | none => none) = some r := hr
      cases hc : xv_cell S.1 o with
      | none => rw [hc] at hr; exact xs_bad hr
      | some q =>
        rw [hc] at hr
        dsimp only at hr
        cases hb : Nat.beq q.1 2 with
        | true => rw [hb] at hr; exact xs_bald C hk hd hr
        | false => rw [hb] at hr; exact xs_zald C hk hd hr
  case laload => exact xs_lald C hk hd hr
  case aaload =>
    match st, hr with
    | [], hr => exact xs_bad hr
    | [_], hr => exact xs_bad hr
    | i :: o :: z, hr =>
      have hr : (match xv_cell S.1 o with | some c => bif Nat.beq c.1 5 then xv_ald k 5 (pc + 1) L (i :: o :: z) S else bif Nat.beq c.1 6 then xv_ald k 6 (pc + 1) L (i :: o :: z) S else xv_ald k 7 (pc + 1) L (i :: o :: z) S | none => none) = some r := hr
      cases hc : xv_cell S.1 o with
      | none => rw [hc] at hr; exact xs_bad hr
      | some q =>
        rw [hc] at hr
        dsimp only at hr
        cases hb : Nat.beq q.1 5 with
        | true => rw [hb] at hr; exact xs_aald (by omega) C hk hd hr
        | false =>
          rw [hb] at hr
          simp only [cond_false] at hr
          cases hb : Nat.beq q.1 6 with
          | true => rw [hb] at hr; exact xs_aald (by omega) C hk hd hr
          | false => rw [hb] at hr; exact xs_aald (by omega) C hk hd hr
  case iastore => exact xs_iast C hk hd hr
  case bastore =>
    match st, hr with
    | [], hr => exact xs_bad hr
    | [_], hr => exact xs_bad hr
    | [_, _], hr => exact xs_bad hr
    | x :: i :: o :: z, hr =>
      have hr : (match xv_cell S.1 o with
      | some c => bif Nat.beq c.1 2 then xv_ast k 2 (pc + 1) L (x :: i :: o :: z) S (fun v => Nat.beq v.1 0 && (xv_le (-128) v.2.1 && xv_le v.2.2 127)) else xv_ast k 3 (pc + 1) L (x :: i :: o :: z) S (fun v => Nat.beq v.1 0 && (xv_le 0 v.2.1 && xv_le v.2.2 1))
      | none => none) = some r := hr
      cases hc : xv_cell S.1 o with
      | none => rw [hc] at hr; exact xs_bad hr
      | some q =>
        rw [hc] at hr
        dsimp only at hr
        cases hb : Nat.beq q.1 2 with
        | true => rw [hb] at hr; exact xs_bast C hk hd hr
        | false => rw [hb] at hr; exact xs_zast C hk hd hr
  case lastore => exact xs_last C hk hd hr
  case aastore => exact xs_aast C hk hd hr
  case invokevirtual i =>
    have hr : (match xv_take b [] st with | some (as, o :: r) => (match xv_cell S.1 o with | some c => bif Nat.beq c.1 0 && Nat.beq c.2.1 v.toNat then xv_call k call a (pc + 3) (o :: as) L r S else none | none => none) | _ => none) = some r := hr
    have hex : ∃ i, I a = some i := by
      cases htk : xv_take b [] st with
      | none => rw [htk] at hr; exact xs_bad hr
      | some q9 =>
        obtain ⟨av, rest0⟩ := q9
        rw [htk] at hr
        match rest0, hr with
        | [], hr => exact xs_bad hr
        | o :: rest, hr =>
          dsimp only at hr
          cases hc : xv_cell S.1 o with
          | none => rw [hc] at hr; exact xs_bad hr
          | some cl =>
            rw [hc] at hr
            obtain ⟨-, r0, hc0, -⟩ := xs_call (xv_bt hr).2
            exact hcr _ _ _ _ _ hc0
    obtain ⟨ii, hi⟩ := hex
    obtain ⟨h1, h2, h3, h4, q, h5, h6⟩ := hok ii hi
    exact xs_invV C hk hCG hd hRm hi h1 h2 h3 h4 h5 h6 hr
  case invokestatic i =>
    rcases hok with ⟨rfl, h1, h2, h3, h4⟩ | ⟨hne, hok⟩
    · exact xs_copy C hk hd hRm2 h1 h2 h3 h4 hr
    · have hb : Nat.beq a 9999 = false := by
        cases hb : Nat.beq a 9999 with
        | true => exact absurd (xv_beq hb) hne
        | false => rfl
      unfold xv_step at hr
      dsimp only at hr
      rw [hb] at hr
      simp only [cond_false] at hr
      have hr : (match xv_take b [] st with | some (as, r) => xv_call k call a (pc + 3) as L r S | none => none) = some r := hr
      have hex : ∃ i, I a = some i := by
        cases htk : xv_take b [] st with
        | none => rw [htk] at hr; exact xs_bad hr
        | some q9 =>
          obtain ⟨av, rest0⟩ := q9
          rw [htk] at hr
          obtain ⟨-, r0, hc0, -⟩ := xs_call hr
          exact hcr _ _ _ _ _ hc0
      obtain ⟨ii, hi⟩ := hex
      obtain ⟨h1, h2, h3⟩ := hok ii hi
      exact xs_invS C hk hCG hd hRm hi h1 h2 h3 hr
  case invokespecial i =>
    rcases hok with ⟨rfl, h1, h2, h3⟩ | ⟨hne, hok⟩
    · exact xs_obj C hk hd hRm2 h1 h2 h3 hr
    · have hb : Nat.beq a 9998 = false := by
        cases hb : Nat.beq a 9998 with
        | true => exact absurd (xv_beq hb) hne
        | false => rfl
      unfold xv_step at hr
      dsimp only at hr
      rw [hb] at hr
      simp only [cond_false] at hr
      have hr : (match xv_take b [] st with | some (as, o :: r) => bif Nat.beq o.1 2 then xv_call k call a (pc + 3) (o :: as) L r S else none | _ => none) = some r := hr
      have hex : ∃ i, I a = some i := by
        cases htk : xv_take b [] st with
        | none => rw [htk] at hr; exact xs_bad hr
        | some q9 =>
          obtain ⟨av, rest0⟩ := q9
          rw [htk] at hr
          match rest0, hr with
          | [], hr => exact xs_bad hr
          | o :: rest, hr =>
            obtain ⟨-, r0, hc0, -⟩ := xs_call (xv_bt hr).2
            exact hcr _ _ _ _ _ hc0
      obtain ⟨ii, hi⟩ := hex
      obtain ⟨h1, h2, h3, h4, h5⟩ := hok ii hi
      rcases h4 with h4 | ⟨host, h4⟩
      · exact xs_invI (host := "") C hk hCG hd hRm hi h1 h2 h3 (Or.inl h4) h5 hr
      · exact xs_invI C hk hCG hd hRm hi h1 h2 h3 (Or.inr h4) h5 hr
  case ireturn =>
    match st, hr with
    | [], hr => exact xs_bad hr
    | _ :: _ :: _, hr => exact xs_bad hr
    | [x], hr =>
      have hr : (bif Nat.beq x.1 0 && (Nat.beq a 0 || (xv_le 0 x.2.1 && xv_le x.2.2 1)) then xv_ret [x] L S else none) = some r := hr
      obtain ⟨b1, hr⟩ := xv_bt hr
      obtain ⟨b1, b2⟩ := xv_and_t b1
      cases hr
      refine hE pc L [x] S (Or.inl ⟨hd, x, rfl, xv_beq b1, ?_⟩)
      rcases hok with ⟨-, h⟩ | ⟨h0, h⟩
      · exact Or.inl h
      · right
        rw [h0] at b2
        simp only [show Nat.beq 1 0 = false from rfl, Bool.false_or, Bool.and_eq_true, xv_le_iff] at b2
        exact ⟨h, b2⟩
  case lreturn =>
    match st, hr with
    | [], hr => exact xs_bad hr
    | _ :: _ :: _, hr => exact xs_bad hr
    | [x], hr =>
      have hr : (bif Nat.beq x.1 1 then xv_ret [x] L S else none) = some r := hr
      obtain ⟨b1, hr⟩ := xv_bt hr
      cases hr
      exact hE pc L [x] S (Or.inr (Or.inl ⟨hd, hok, x, rfl, xv_beq b1⟩))
  case return_ =>
    match st, hr with
    | _ :: _, hr => exact xs_bad hr
    | [], hr =>
      have hr : xv_ret [] L S = some r := hr
      cases hr
      exact hE pc L [] S (Or.inr (Or.inr ⟨hd, hok, rfl⟩))
/-- a row of a method's table -/
def xv_okE (cc : ByteArray) (own name : String) (ret : Option FieldType) (I : Nat → Option xv_I) (e : xv_E) : Prop := decode cc e.1 = .ok (e.2.1, e.2.2.1) ∧ (xv_len e.2.1 = 0 ∨ xv_len e.2.1 = e.2.2.1) ∧ xv_lk own name ret I e.2.1 e.2.2.2.1 e.2.2.2.2.1 e.2.2.2.2.2.2
theorem xv_find_ok : ∀ (full : List xv_E) (pc : Nat) (e : xv_E) (u : List xv_E), xv_find full pc = some (e, u) → e ∈ full ∧ e.1 = pc ∧ ∀ x ∈ u, x ∈ full
  | [], _, _, _, h => by cases h
  | f :: full, pc, e, u, h => by
    have h : (bif Nat.beq f.1 pc then some (f, full) else xv_find full pc) = some (e, u) := h
    cases hb : Nat.beq f.1 pc with
    | true =>
      rw [hb] at h
      cases h
      exact ⟨List.mem_cons_self, xv_beq hb, fun x hx => List.mem_cons_of_mem _ hx⟩
    | false =>
      rw [hb] at h
      obtain ⟨h1, h2, h3⟩ := xv_find_ok full pc e u h
      exact ⟨List.mem_cons_of_mem _ h1, h2, fun x hx => List.mem_cons_of_mem _ (h3 x hx)⟩
theorem xv_fetch_ok {full rest u : List xv_E} {pc : Nat} {e : xv_E} (hsub : ∀ x ∈ rest, x ∈ full) (h : xv_fetch full rest pc = some (e, u)) : e ∈ full ∧ e.1 = pc ∧ ∀ x ∈ u, x ∈ full := by
  unfold xv_fetch at h
  match rest, h, hsub with
  | [], h, _ => exact xv_find_ok _ _ _ _ h
  | f :: rest, h, hsub =>
    dsimp only at h
    cases hb : Nat.beq f.1 pc with
    | true =>
      rw [hb] at h
      cases h
      exact ⟨hsub _ List.mem_cons_self, xv_beq hb, fun x hx => hsub _ (List.mem_cons_of_mem _ hx)⟩
    | false =>
      rw [hb] at h
      exact xv_find_ok _ _ _ _ h
theorem xs_run {name : String} {ret : Option FieldType} {I : Nat → Option xv_I} {call : Nat → List xv_V → xv_A → Nat → Option xv_R} {dF stop : Nat} {full : List xv_E} (C : xv_Cx p s m args c cc own nL D t A sb scr) (hCG : xv_CG l dF I call) (hcr : ∀ id av h n r, call id av h n = some r → ∃ i, I id = some i) (hRm : dF + 1 ≤ R.frames ∧ 60 * dF + 60 ≤ R.locals) (hname : name = meth.name) (hE : xv_Ends p l e R s m args below meth c D t A as0 sb nL Q cc ret)
    (hst : ∀ pc : Nat, pc + 1 = stop → ∀ (L st : List xv_V) (S : xv_S), xv_T p l e R s m args below meth c D t A as0 sb nL Q pc L st S (st, L, S.1, S.2.1, S.2.2.1, S.2.2.2)) (hfull : ∀ x ∈ full, xv_okE cc own name ret I x) :
    ∀ (F : Nat) (rest : List xv_E), (∀ x ∈ rest, x ∈ full) → xv_G p l e R s m args below meth c D t A as0 sb nL Q (xv_run call scr stop full F rest)
  | 0, _, _ => fun _ _ _ _ _ h => by cases h
  | F + 1, rest, hsub => fun pc L st S r h => by
    have h : (bif Nat.beq (pc + 1) stop then xv_ret st L S else match xv_fetch full rest pc with | some (e, t) => xv_step call scr (xv_run call scr stop full F t) e.2.1 e.2.2.2.1 e.2.2.2.2.1 e.2.2.2.2.2.2 pc L st S | none => none) = some r := h
    cases hb : Nat.beq (pc + 1) stop with
    | true =>
      rw [hb] at h
      cases h
      exact hst pc (xv_beq hb) L st S
    | false =>
      rw [hb] at h
      simp only [cond_false] at h
      cases hf : xv_fetch full rest pc with
      | none => rw [hf] at h; cases h
      | some q =>
        obtain ⟨en, u⟩ := q
        rw [hf] at h
        obtain ⟨h1, h2, h3⟩ := xv_fetch_ok hsub hf
        obtain ⟨d1, d2, d3⟩ := hfull en h1
        rw [h2] at d1
        exact xs_step C (xs_run C hCG hcr hRm hname hE hst hfull F u h3) hCG hRm hname hE hcr d1 d2 d3 h
end XV8
