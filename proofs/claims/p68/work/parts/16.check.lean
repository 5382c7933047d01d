/-! tables are checked by program -/
abbrev xv_J : Type := xv_I × Nat × Nat × Nat × Nat × Nat × Nat
/-- the word w stands at place p of the tables -/
def xv_ck (i : Nat) : List Cond := match i with
  | 0 => lw_tbl
  | k + 1 => lw_tbl.drop (64 * (k + 1))
theorem xv_ck_mem {i : Nat} {w : Cond} (h : w ∈ xv_ck i) : w ∈ lw_tbl := by
  cases i with
  | zero => exact h
  | succ k => exact List.mem_of_mem_drop h
def xv_at (p : Nat) (w : Cond) : Bool := decide ((xv_ck (p / 64))[p % 64]? = some w) && goodWord w
theorem xv_at_ok {p : Nat} {w : Cond} (h : xv_at p w = true) : w ∈ xv_tb := by
  obtain ⟨h1, h2⟩ := xv_and_t h
  exact xv_tbm (xv_ck_mem (List.mem_of_getElem? (of_decide_eq_true h1))) h2
/-- a method that is called: how many numbers, its kind (0 static, 1 virtual, 2 a constructor), the places of its words -/
def xv_ceeB (j : xv_J) : Bool := xv_at j.2.2.2.1 (.code j.1.1 j.1.2.1 j.1.2.2.1 j.1.2.2.2) && (xv_at j.2.2.2.2.1 (.initialized j.1.1.cls) && (decide (j.1.1.cls ≠ "java/lang/invoke/MethodHandle") && (decide (j.1.1.cls ≠ "java/lang/invoke/VarHandle") && (decide ((parseMethodDescriptor j.1.1.desc).map (fun d => d.parameters.length) = some j.2.1) && (Nat.ble j.1.2.2.1 41 && (plainFor j.1.1 &&
  (match j.2.2.1 with
  | 0 => xv_at j.2.2.2.2.2.1 (.static j.1.1)
  | 1 => xv_at j.2.2.2.2.2.1 (.instanceMethod j.1.1) && xv_at j.2.2.2.2.2.2 (.selects j.1.1.cls j.1.1 j.1.1)
  | _ => xv_at j.2.2.2.2.2.1 (.instanceMethod j.1.1) && (decide (j.1.2.2.2 = none) && decide (j.1.1.name = "<init>")))))))))
def xv_lkB (own name : String) (ret : Option FieldType) (J : Nat → Option xv_J) (ins : Instr) (a b p : Nat) (v : Int) : Bool := match ins with
  | .getfield idx => (match vwCl[a]? with
    | some q => Nat.ble (b + 1) q.2.2 && xv_at p (.fieldLink own idx (q.2.1 b).1 (q.2.1 b).2.1 (q.2.1 b).2.2.1)
    | none => false)
  | .putfield idx => (match vwCl[a]? with
    | some q => Nat.ble (b + 1) q.2.2 && (xv_at p (.fieldLink own idx (q.2.1 b).1 (q.2.1 b).2.1 (q.2.1 b).2.2.1) && (xv_ftk (q.2.1 b).2.2.1 v.toNat && (decide ((q.2.1 b).2.2.2 = false) || (decide ((q.2.1 b).2.2.2 = true) && (decide (name = "<init>") && decide ((q.2.1 b).1 = own))))))
    | none => false)
  | .new idx => (match vwCl[a]? with
    | some q => xv_at p (.classLink own idx q.1)
    | none => false)
  | .newarray ty => xv_at 221 (.arrayClass .int) && (match ty with
    | .int => true
    | .byte => xv_at 688 (.arrayClass .byte)
    | .boolean => xv_at 1477 (.arrayClass .boolean)
    | .long => xv_at 312 (.arrayClass .long)
    | _ => false)
  | .anewarray idx => xv_at p (.classLink own idx "PassedPenance$Image")
  | .multianewarray idx n => decide (n = 2) && ((decide (a = 1) && (decide (b = 1) && (decide (v = 0) && (xv_at p (.classLink own idx ("[" ++ (FieldType.array .int).toString)) && xv_at 221 (.arrayClass .int))))) || (decide (a = 2) && (decide (b = 4) && (decide (v = 1) && (xv_at p (.classLink own idx ("[" ++ (FieldType.array .long).toString)) && xv_at 312 (.arrayClass .long))))))
  | .ldc_w idx => xv_at p (.constant own idx (Int32.ofInt v))
  | .ldc2_w idx => xv_at p (.constantLong own idx (Int64.ofInt v))
  | .invokestatic idx => bif Nat.beq a 9999 then xv_at p (.methodLink own idx arraycopyName) && (xv_at 681 (.native arraycopyName) && (xv_at 680 (.static arraycopyName) && xv_at 118 (.initialized "java/lang/System"))) else (match J a with
    | some j => Nat.beq b j.2.1 && (Nat.beq j.2.2.1 0 && xv_at p (.methodLink own idx j.1.1))
    | none => true)
  | .invokevirtual idx => (match J a with
    | some j => Nat.beq b j.2.1 && (Nat.beq j.2.2.1 1 && (xv_at p (.methodLink own idx j.1.1) && (match vwCl[v.toNat]? with
      | some q => decide (q.1 = j.1.1.cls)
      | none => false)))
    | none => true)
  | .invokespecial idx => bif Nat.beq a 9998 then xv_at p (.methodLink own idx objectInit) && (xv_at 127 (.instanceMethod objectInit) && xv_at 128 (.code objectInit ⟨#[0xb1]⟩ 1 none)) else (match J a with
    | some j => Nat.beq b j.2.1 && (Nat.beq j.2.2.1 2 && (xv_at p (.methodLink own idx j.1.1) || decide ((own, idx, j.1.1, "PassedPenance") ∈ xv_nest)))
    | none => true)
  | .ireturn => (Nat.beq a 0 && decide (ret = some .int)) || (Nat.beq a 1 && decide (ret = some .boolean))
  | .lreturn => decide (ret = some .long)
  | .return_ => decide (ret = none)
  | _ => true
def xv_eB (cc : ByteArray) (own name : String) (ret : Option FieldType) (J : Nat → Option xv_J) (e : xv_E) : Bool := xv_dB cc e.1 e.2.1 e.2.2.1 && (decide (xv_len e.2.1 = 0 ∨ xv_len e.2.1 = e.2.2.1) && xv_lkB own name ret J e.2.1 e.2.2.2.1 e.2.2.2.2.1 e.2.2.2.2.2.1 e.2.2.2.2.2.2)
def xv_JI (J : Nat → Option xv_J) : Nat → Option xv_I := fun id => (J id).map (fun j => j.1)
def xv_JOK (J : Nat → Option xv_J) : Prop := ∀ (id : Nat) (j : xv_J), J id = some j → xv_ceeB j = true
theorem xv_cee_ok {j : xv_J} (h : xv_ceeB j = true) : xv_callee j.1 j.2.1 ∧ j.1.2.2.1 ≤ 41 ∧ plainFor j.1.1 = true ∧ (j.2.2.1 = 0 → Cond.static j.1.1 ∈ xv_tb) ∧ (j.2.2.1 = 1 → Cond.instanceMethod j.1.1 ∈ xv_tb ∧ Cond.selects j.1.1.cls j.1.1 j.1.1 ∈ xv_tb) ∧ (j.2.2.1 = 2 → Cond.instanceMethod j.1.1 ∈ xv_tb ∧ j.1.2.2.2 = none ∧ j.1.1.name = "<init>") := by
  unfold xv_ceeB at h
  obtain ⟨h1, h⟩ := xv_and_t h
  obtain ⟨h2, h⟩ := xv_and_t h
  obtain ⟨h3, h⟩ := xv_and_t h
  obtain ⟨h4, h⟩ := xv_and_t h
  obtain ⟨h5, h⟩ := xv_and_t h
  obtain ⟨h6, h⟩ := xv_and_t h
  obtain ⟨h7, h⟩ := xv_and_t h
  refine ⟨⟨xv_at_ok h1, xv_at_ok h2, ⟨of_decide_eq_true h3, of_decide_eq_true h4, of_decide_eq_true h5⟩, xv_ble h6⟩, xv_ble h6, h7, fun e => ?_, fun e => ?_, fun e => ?_⟩
  · rw [e] at h; exact xv_at_ok h
  · rw [e] at h
    obtain ⟨a, b⟩ := xv_and_t h
    exact ⟨xv_at_ok a, xv_at_ok b⟩
  · rw [e] at h
    obtain ⟨a, b⟩ := xv_and_t h
    obtain ⟨b, c⟩ := xv_and_t b
    exact ⟨xv_at_ok a, of_decide_eq_true b, of_decide_eq_true c⟩
theorem xv_JI_eq {J : Nat → Option xv_J} {id : Nat} {i : xv_I} (h : xv_JI J id = some i) : ∃ j, J id = some j ∧ j.1 = i := by
  unfold xv_JI at h
  obtain ⟨j, h1, h2⟩ := Option.map_eq_some_iff.mp h
  exact ⟨j, h1, h2⟩
theorem xv_nw {own name : String} {ret : Option FieldType} {J : Nat → Option xv_J} {a b p : Nat} {v : Int} {ty : ArrayType} (h : xv_lkB own name ret J (.newarray ty) a b p v = true) : Cond.arrayClass (newarray.typeOf ty) ∈ xv_tb := by
  unfold xv_lkB at h
  dsimp only at h
  obtain ⟨c1, c2⟩ := xv_and_t h
  cases ty with
  | int => exact xv_at_ok c1
  | byte => exact xv_at_ok c2
  | boolean => exact xv_at_ok c2
  | long => exact xv_at_ok c2
  | char => cases c2
  | float => cases c2
  | double => cases c2
  | short => cases c2
theorem xv_e_ok {cc : ByteArray} {own name : String} {ret : Option FieldType} {J : Nat → Option xv_J} {e : xv_E} (hJ : xv_JOK J) (h : xv_eB cc own name ret J e = true) : xv_okE cc own name ret (xv_JI J) e := by
  unfold xv_eB at h
  obtain ⟨h1, h⟩ := xv_and_t h
  obtain ⟨h2, h⟩ := xv_and_t h
  refine ⟨xv_dB_ok h1, of_decide_eq_true h2, ?_⟩
  obtain ⟨pc, ins, len, a, b, p, v⟩ := e
  dsimp only at h ⊢
  unfold xv_lkB at h
  unfold xv_lk
  cases ins
  case getfield i =>
    dsimp only at h ⊢
    cases hq : vwCl[a]? with
    | none => rw [hq] at h; cases h
    | some q =>
      rw [hq] at h
      obtain ⟨c1, c2⟩ := xv_and_t h
      exact ⟨q, rfl, xv_ble c1, xv_at_ok c2⟩
  case putfield i =>
    dsimp only at h ⊢
    cases hq : vwCl[a]? with
    | none => rw [hq] at h; cases h
    | some q =>
      rw [hq] at h
      obtain ⟨c1, c2⟩ := xv_and_t h
      obtain ⟨c2, c3⟩ := xv_and_t c2
      obtain ⟨c3, c4⟩ := xv_and_t c3
      refine ⟨q, rfl, xv_ble c1, xv_at_ok c2, c3, ?_⟩
      rcases (Bool.or_eq_true _ _).mp c4 with c4 | c4
      · exact Or.inl (of_decide_eq_true c4)
      · obtain ⟨c4, c5⟩ := xv_and_t c4
        obtain ⟨c5, c6⟩ := xv_and_t c5
        exact Or.inr ⟨of_decide_eq_true c4, of_decide_eq_true c5, of_decide_eq_true c6⟩
  case new i =>
    dsimp only at h ⊢
    cases hq : vwCl[a]? with
    | none => rw [hq] at h; cases h
    | some q => rw [hq] at h; exact ⟨q, rfl, xv_at_ok h⟩
  case newarray => exact xv_nw (own := own) (name := name) (ret := ret) (J := J) (a := a) (b := b) (p := p) (v := v) h
  case anewarray i =>
    exact xv_at_ok h
  case multianewarray i n =>
    obtain ⟨c1, c2⟩ := xv_and_t h
    refine ⟨of_decide_eq_true c1, ?_⟩
    rcases (Bool.or_eq_true _ _).mp c2 with c2 | c2
    · obtain ⟨d1, c2⟩ := xv_and_t c2
      obtain ⟨d2, c2⟩ := xv_and_t c2
      obtain ⟨d3, c2⟩ := xv_and_t c2
      obtain ⟨d4, d5⟩ := xv_and_t c2
      exact ⟨.int, Or.inl ⟨rfl, of_decide_eq_true d1, of_decide_eq_true d2, of_decide_eq_true d3⟩, xv_at_ok d4, xv_at_ok d5⟩
    · obtain ⟨d1, c2⟩ := xv_and_t c2
      obtain ⟨d2, c2⟩ := xv_and_t c2
      obtain ⟨d3, c2⟩ := xv_and_t c2
      obtain ⟨d4, d5⟩ := xv_and_t c2
      exact ⟨.long, Or.inr ⟨rfl, of_decide_eq_true d1, of_decide_eq_true d2, of_decide_eq_true d3⟩, xv_at_ok d4, xv_at_ok d5⟩
  case ldc_w i => exact xv_at_ok h
  case ldc2_w i => exact xv_at_ok h
  case invokestatic i =>
    dsimp only at h ⊢
    cases hb : Nat.beq a 9999 with
    | true =>
      rw [hb] at h
      simp only [cond_true] at h
      obtain ⟨c1, c2⟩ := xv_and_t h
      obtain ⟨c2, c3⟩ := xv_and_t c2
      obtain ⟨c3, c4⟩ := xv_and_t c3
      exact Or.inl ⟨xv_beq hb, xv_at_ok c1, xv_at_ok c2, xv_at_ok c3, xv_at_ok c4⟩
    | false =>
      rw [hb] at h
      simp only [cond_false] at h
      refine Or.inr ⟨fun e => (by rw [e] at hb; cases hb), fun ii hi => ?_⟩
      obtain ⟨j, hj, rfl⟩ := xv_JI_eq hi
      rw [hj] at h
      obtain ⟨c1, c2⟩ := xv_and_t h
      obtain ⟨c2, c3⟩ := xv_and_t c2
      obtain ⟨k1, -, -, k2, -, -⟩ := xv_cee_ok (hJ a j hj)
      rw [xv_beq c1]
      exact ⟨k1, xv_at_ok c3, k2 (xv_beq c2)⟩
  case invokevirtual i =>
    intro ii hi
    obtain ⟨j, hj, rfl⟩ := xv_JI_eq hi
    dsimp only at h
    rw [hj] at h
    obtain ⟨c1, c2⟩ := xv_and_t h
    obtain ⟨c2, c3⟩ := xv_and_t c2
    obtain ⟨c3, c4⟩ := xv_and_t c3
    obtain ⟨k1, -, -, -, k2, -⟩ := xv_cee_ok (hJ a j hj)
    rw [xv_beq c1]
    refine ⟨k1, xv_at_ok c3, (k2 (xv_beq c2)).1, (k2 (xv_beq c2)).2, ?_⟩
    cases hq : vwCl[v.toNat]? with
    | none => rw [hq] at c4; cases c4
    | some q => rw [hq] at c4; exact ⟨q, rfl, of_decide_eq_true c4⟩
  case invokespecial i =>
    dsimp only at h ⊢
    cases hb : Nat.beq a 9998 with
    | true =>
      rw [hb] at h
      simp only [cond_true] at h
      obtain ⟨c1, c2⟩ := xv_and_t h
      obtain ⟨c2, c3⟩ := xv_and_t c2
      exact Or.inl ⟨xv_beq hb, xv_at_ok c1, xv_at_ok c2, xv_at_ok c3⟩
    | false =>
      rw [hb] at h
      simp only [cond_false] at h
      refine Or.inr ⟨fun e => (by rw [e] at hb; cases hb), fun ii hi => ?_⟩
      obtain ⟨j, hj, rfl⟩ := xv_JI_eq hi
      rw [hj] at h
      obtain ⟨c1, c2⟩ := xv_and_t h
      obtain ⟨c2, c3⟩ := xv_and_t c2
      obtain ⟨k1, -, -, -, -, k2⟩ := xv_cee_ok (hJ a j hj)
      have k2 := k2 (xv_beq c2)
      rw [xv_beq c1]
      refine ⟨k1, k2.2.1, k2.2.2, ?_, k2.1⟩
      rcases (Bool.or_eq_true _ _).mp c3 with c3 | c3
      · exact Or.inl (xv_at_ok c3)
      · exact Or.inr ⟨_, of_decide_eq_true c3⟩
  case ireturn =>
    rcases (Bool.or_eq_true _ _).mp h with h | h
    · obtain ⟨c1, c2⟩ := xv_and_t h
      exact Or.inl ⟨xv_beq c1, of_decide_eq_true c2⟩
    · obtain ⟨c1, c2⟩ := xv_and_t h
      exact Or.inr ⟨xv_beq c1, of_decide_eq_true c2⟩
  case lreturn => exact of_decide_eq_true h
  case return_ => exact of_decide_eq_true h
  all_goals exact True.intro
/-- a method's table, checked -/
noncomputable def xv_mB (M : xv_M) (J : Nat → Option xv_J) (id : Nat) : Bool := match xv_get 20 M id, J id with
  | some q, some j => xv_ceeB j && (Nat.beq q.2 j.1.2.2.1 && q.1.all (fun e => xv_eB j.1.2.1 j.1.1.cls j.1.1.name j.1.2.2.2 J e))
  | none, none => true
  | _, _ => false
theorem xv_mB_ok {M : xv_M} {J : Nat → Option xv_J} (h : ∀ id, xv_mB M J id = true) : xv_JOK J ∧ xv_MOK M (xv_JI J) := by
  have hJ : xv_JOK J := fun id j hj => by
    have := h id
    unfold xv_mB at this
    rw [hj] at this
    cases hq : xv_get 20 M id with
    | none => rw [hq] at this; cases this
    | some q => rw [hq] at this; exact (xv_and_t this).1
  refine ⟨hJ, fun id q hq => ?_⟩
  have := h id
  unfold xv_mB at this
  rw [hq] at this
  cases hj : J id with
  | none => rw [hj] at this; cases this
  | some j =>
    rw [hj] at this
    obtain ⟨c1, c2⟩ := xv_and_t this
    obtain ⟨c2, c3⟩ := xv_and_t c2
    obtain ⟨-, k1, k2, -⟩ := xv_cee_ok c1
    exact ⟨j.1, by unfold xv_JI; rw [hj]; rfl, xv_beq c2, k1, k2, fun x hx => xv_e_ok hJ (List.all_eq_true.mp c3 x hx)⟩
