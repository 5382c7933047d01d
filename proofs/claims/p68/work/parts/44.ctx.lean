/-! the machine's steps: numbers, locals, jumps -/
/-- a text, and what the machine's own methods need beside it -/
def xw_Tx (a : Nat) (A : Nat → Prop) (U : State) : Prop := ∃ (v n : Nat) (f : Nat → Int32), va_O "java/lang/String" a A U U.heap ∧ va_OF "java/lang/String" "coder" "B" (.int 0) a A U U.heap ∧ va_OF "java/lang/String" "value" "[B" (.ref v) a A U U.heap ∧ va_T .byte v n (fun j => .int (f j)) A U U.heap ∧ n ≤ 1000 ∧ va_Z "java/lang/String" "COMPACT_STRINGS" "Z" (.int 1) A U U.heap ∧ va_Zq "jdk/internal/util/Preconditions" "SIOOBE_FORMATTER" "Ljava/util/function/BiFunction;" A U U.heap
/-- what is told of the texts stays -/
def xw_Inv (X : xw_X) : Prop := (∀ (A B : Nat → Prop) (U U' : State), (∀ q, B q → A q) → (∀ a, a < U.heap.size → ¬ A a → U'.heap[a]? = U.heap[a]?) → U.WarmedH U'.vm → X.2.2.2.2 A U → X.2.2.2.2 B U') ∧ (∀ (A : Nat → Prop) (U U' : State), U'.vm = U.vm → U'.heap = U.heap → X.2.2.2.2 A U → X.2.2.2.2 A U') ∧ (∀ (A : Nat → Prop) (U : State) (own : String) (idx : Nat), (own, idx) ∈ xw_strs → X.2.2.2.2 A U → ∃ tx a, vk_R own idx tx a U ∧ X.2.2.1 a) ∧ ∀ (A : Nat → Prop) (U : State) (a : Nat), X.2.2.1 a → X.2.2.2.2 A U → xw_Tx a A U
def xw_Cx (p : Program) (s : State) (m : MethodId) (args : Array Value) (c : Code) (cc : ByteArray) (own : String) (nL : Nat) (D : va_G) (t : Nat → ClassId) (A : Nat → Prop) (X : xw_X) (xs : Nat → Int32) (Γ : xv_A) : Prop :=
  p.tables.exec = Jvm.exec ∧ c.code = cc ∧ c.maxLocals = nL ∧ s.vm.findClass own = some m.cls ∧ (∀ w ∈ xv_tb, w.before args s = true) ∧ va_K D vwCl (xv_tys t) s ∧ (∀ q : Nat, s.heap.size ≤ q → A q) ∧ xv_Ex s ∧ (X.2.2.2.1 → va_X X.1 X.2.1 xs s s.heap ∧ X.1 < s.heap.size ∧ ¬ A X.1 ∧ X.2.1 < 2 ^ 31) ∧ X.2.2.2.2 A s ∧ xw_Inv X ∧ xv_get 14 Γ 9999 = none
section XY1
variable {p : Program} {l : Launch} {e : Env} {R : Room} {s : State} {m : MethodId} {args : Array Value} {below : List Frame} {meth : Method} {c : Code}
variable {e0 : (Nat → Int) × Nat} {cc : ByteArray} {own : String} {nL : Nat} {D : va_G} {t : Nat → ClassId} {A : Nat → Prop} {hl : Nat × Int} {Γ : xv_A} {X : xw_X} {xs : Nat → Int32} {ws0 : va_W} {gh : List xw_L} {gz : Nat → Int} {fh : Nat → Option xw_H} {cs sl : Nat} {Q : State → Prop} {act : List xw_A} {k : xw_K} {pc : Nat} {L st : List xw_V} {S : xw_S}
theorem xy_k {ρ ρ' : Nat → Int} {n : Nat} {pc' : Nat} {L' st' : List xw_V} {S' : xw_S} {ls : Array Slot} {vst : List Value} {H : Heap} {locs : List Loc} {ws : va_W} (hk : (∀ pc' L' st' S', k pc' L' st' S' = true → xw_Tj e0 D t A s.heap hl Γ X xs ws0 nL gh gz fh (fun pc ls vst H locs => W p l e R s m args below meth c H locs cs sl Q (F0 m pc ls vst)) act pc' L' st' S')) (h : k pc' L' st' S' = true) (hR : xw_Rl D t A s.heap hl Γ X xs ws0 nL ρ' L' st' S' ls vst H locs ws) (hu : xw_Up ρ n ρ' S'.2.1) (hG : xw_Gy e0 ρ n gh gz) (hH : ∀ a ∈ act, xw_Hy D t A s.heap hl Γ X xs ws0 nL gz fh (fun pc ls vst H locs => W p l e R s m args below meth c H locs cs sl Q (F0 m pc ls vst)) a ρ n) : W p l e R s m args below meth c H locs cs sl Q (F0 m pc' ls vst) :=
  hk _ _ _ _ h ρ' ls vst H locs ws hR (hG.more hu) (fun a ha => (hH a ha).more hu)
/-- other stack, other state -/
theorem xw_Rl.stk {ρ ρ' : Nat → Int} {st' : List xw_V} {S' : xw_S} {ls : Array Slot} {vst vst' : List Value} {H : Heap} {locs : List Loc} {ws : va_W} (h : xw_Rl D t A s.heap hl Γ X xs ws0 nL ρ L st S ls vst H locs ws) (hst : xw_sk X (ws.map Prod.fst) ρ' S'.2.1 st' vst') (hu : xw_Up ρ S.2.1 ρ' S'.2.1) (hS : xw_St ρ' S') (e1 : S'.2.2.2.1 = S.2.2.2.1) (e2 : S'.2.2.2.2.1 = S.2.2.2.2.1) (e3 : S'.2.2.2.2.2.2 = S.2.2.2.2.2.2) : xw_Rl D t A s.heap hl Γ X xs ws0 nL ρ' L st' S' ls vst' H locs ws := by
  obtain ⟨⟨h0, lvs, h1, h2⟩, h3, h4, h5, h6⟩ := h
  exact ⟨⟨h0, lvs, h1, h2.more hu⟩, hst, by rw [e3]; exact h4, hS, xw_Re.me h6 hu e1 e2⟩
theorem xw_sk.cons {as : List Nat} {ρ : Nat → Int} {n : Nat} {v : xw_V} {x : Value} {st : List xw_V} {vst : List Value} (h : xw_hv X as ρ n v x) (h2 : xw_sk X as ρ n st vst) : xw_sk X as ρ n (v :: st) (x :: vst) := ⟨h, h2⟩
/-- the state stays, the stack is another -/
theorem xy_pure {pc' : Nat} {st' : List xw_V} (hk : (∀ pc' L' st' S', k pc' L' st' S' = true → xw_Tj e0 D t A s.heap hl Γ X xs ws0 nL gh gz fh (fun pc ls vst H locs => W p l e R s m args below meth c H locs cs sl Q (F0 m pc ls vst)) act pc' L' st' S')) (h : k pc' L st' S = true)
    (hs : ∀ (ρ : Nat → Int) (ls : Array Slot) (vst : List Value) (H : Heap) (locs : List Loc) (as : List Nat) (lvs : List (Nat × Value)), xw_St ρ S → lv_has ls nL lvs → xw_lm X as ρ S.2.1 L lvs → xw_sk X as ρ S.2.1 st vst → ∃ vst', xw_sk X as ρ S.2.1 st' vst' ∧ (W p l e R s m args below meth c H locs cs sl Q (F0 m pc' ls vst') → W p l e R s m args below meth c H locs cs sl Q (F0 m pc ls vst))) : xw_Tj e0 D t A s.heap hl Γ X xs ws0 nL gh gz fh (fun pc ls vst H locs => W p l e R s m args below meth c H locs cs sl Q (F0 m pc ls vst)) act pc L st S := by
  intro ρ ls vst H locs ws hR hG hH
  obtain ⟨⟨h0, lvs, h1, h2⟩, h3, h4, h5, h6⟩ := id hR
  obtain ⟨vst', g1, g2⟩ := hs ρ ls vst H locs _ lvs h5 h1 h2 h3
  exact g2 (xy_k hk h (hR.stk g1 xw_Up.rf h5 rfl rfl rfl) xw_Up.rf hG hH)
theorem xy_push {pc' : Nat} {v : xw_V} {x : Value} (hk : (∀ pc' L' st' S', k pc' L' st' S' = true → xw_Tj e0 D t A s.heap hl Γ X xs ws0 nL gh gz fh (fun pc ls vst H locs => W p l e R s m args below meth c H locs cs sl Q (F0 m pc ls vst)) act pc' L' st' S')) (h : k pc' L (v :: st) S = true) (hx : ∀ (as : List Nat) (ρ : Nat → Int) (n : Nat), xw_hv X as ρ n v x)
    (hs : ∀ (ls : Array Slot) (vst : List Value) (H : Heap) (locs : List Loc), W p l e R s m args below meth c H locs cs sl Q (F0 m pc' ls (x :: vst)) → W p l e R s m args below meth c H locs cs sl Q (F0 m pc ls vst)) : xw_Tj e0 D t A s.heap hl Γ X xs ws0 nL gh gz fh (fun pc ls vst H locs => W p l e R s m args below meth c H locs cs sl Q (F0 m pc ls vst)) act pc L st S :=
  xy_pure hk h fun ρ ls vst H locs as lvs _ _ _ hst => ⟨x :: vst, xw_sk.cons (hx as ρ _) hst, hs ls vst H locs⟩
theorem xy_ii {i : Int} (h1 : -2147483648 ≤ i) (h2 : i ≤ 2147483647) (as : List Nat) (ρ : Nat → Int) (n : Nat) : xw_hv X as ρ n (0, (i, [])) (.int (Int32.ofInt i)) := by
  refine xw_hv.i ?_
  rw [Int32.toInt_ofInt, xw_bm0 h1 h2]
  exact xw_is.c i
theorem xy_iconst {i : Int} (C : xw_Cx p s m args c cc own nL D t A X xs Γ) (hk : (∀ pc' L' st' S', k pc' L' st' S' = true → xw_Tj e0 D t A s.heap hl Γ X xs ws0 nL gh gz fh (fun pc ls vst H locs => W p l e R s m args below meth c H locs cs sl Q (F0 m pc ls vst)) act pc' L' st' S')) (hd : decode cc pc = .ok (.iconst i, 1)) (h : (bif xv_le (-2147483648) i && xv_le i 2147483647 then k (pc + 1) L ((0, (i, [])) :: st) S else false) = true) : xw_Tj e0 D t A s.heap hl Γ X xs ws0 nL gh gz fh (fun pc ls vst H locs => W p l e R s m args below meth c H locs cs sl Q (F0 m pc ls vst)) act pc L st S := by
  cases hb : (xv_le (-2147483648) i && xv_le i 2147483647) with
  | false => rw [hb] at h; cases h
  | true =>
    rw [hb] at h
    obtain ⟨b1, b2⟩ := xv_and_t hb
    exact xy_push hk h (xy_ii (xv_le_iff.mp b1) (xv_le_iff.mp b2)) fun _ _ _ _ w => lv_iconst C.1 C.2.1 hd rfl w
theorem xy_bipush {i : Int} (C : xw_Cx p s m args c cc own nL D t A X xs Γ) (hk : (∀ pc' L' st' S', k pc' L' st' S' = true → xw_Tj e0 D t A s.heap hl Γ X xs ws0 nL gh gz fh (fun pc ls vst H locs => W p l e R s m args below meth c H locs cs sl Q (F0 m pc ls vst)) act pc' L' st' S')) (hd : decode cc pc = .ok (.bipush i, 2)) (h : (bif xv_le (-128) i && xv_le i 127 then k (pc + 2) L ((0, (i, [])) :: st) S else false) = true) : xw_Tj e0 D t A s.heap hl Γ X xs ws0 nL gh gz fh (fun pc ls vst H locs => W p l e R s m args below meth c H locs cs sl Q (F0 m pc ls vst)) act pc L st S := by
  cases hb : (xv_le (-128) i && xv_le i 127) with
  | false => rw [hb] at h; cases h
  | true =>
    rw [hb] at h
    obtain ⟨b1, b2⟩ := xv_and_t hb
    have b1 := xv_le_iff.mp b1
    have b2 := xv_le_iff.mp b2
    have e : ((Int8.ofInt i).toInt32).toInt = i := by
      rw [Int8.toInt_toInt32, Int8.toInt_ofInt, show Int8.size = 256 from rfl]
      exact Int.bmod_eq_of_le (by omega) (by omega)
    exact xy_push hk h (x := .int ((Int8.ofInt i).toInt32)) (fun as ρ n => xw_hv.i (by rw [e]; exact xw_is.c i)) fun _ _ _ _ w => lv_bipush C.1 C.2.1 hd rfl w
theorem xy_sipush {i : Int} (C : xw_Cx p s m args c cc own nL D t A X xs Γ) (hk : (∀ pc' L' st' S', k pc' L' st' S' = true → xw_Tj e0 D t A s.heap hl Γ X xs ws0 nL gh gz fh (fun pc ls vst H locs => W p l e R s m args below meth c H locs cs sl Q (F0 m pc ls vst)) act pc' L' st' S')) (hd : decode cc pc = .ok (.sipush i, 3)) (h : (bif xv_le (-32768) i && xv_le i 32767 then k (pc + 3) L ((0, (i, [])) :: st) S else false) = true) : xw_Tj e0 D t A s.heap hl Γ X xs ws0 nL gh gz fh (fun pc ls vst H locs => W p l e R s m args below meth c H locs cs sl Q (F0 m pc ls vst)) act pc L st S := by
  cases hb : (xv_le (-32768) i && xv_le i 32767) with
  | false => rw [hb] at h; cases h
  | true =>
    rw [hb] at h
    obtain ⟨b1, b2⟩ := xv_and_t hb
    have b1 := xv_le_iff.mp b1
    have b2 := xv_le_iff.mp b2
    have e : ((Int16.ofInt i).toInt32).toInt = i := by
      rw [Int16.toInt_toInt32, Int16.toInt_ofInt, show Int16.size = 65536 from rfl]
      exact Int.bmod_eq_of_le (by omega) (by omega)
    exact xy_push hk h (x := .int ((Int16.ofInt i).toInt32)) (fun as ρ n => xw_hv.i (by rw [e]; exact xw_is.c i)) fun _ _ _ _ w => lv_sipush C.1 C.2.1 hd rfl w
theorem xy_lconst {i : Fin 2} (C : xw_Cx p s m args c cc own nL D t A X xs Γ) (hk : (∀ pc' L' st' S', k pc' L' st' S' = true → xw_Tj e0 D t A s.heap hl Γ X xs ws0 nL gh gz fh (fun pc ls vst H locs => W p l e R s m args below meth c H locs cs sl Q (F0 m pc ls vst)) act pc' L' st' S')) (hd : decode cc pc = .ok (.lconst i, 1)) (h : k (pc + 1) L ((1, (Int.ofNat i.val, [])) :: st) S = true) : xw_Tj e0 D t A s.heap hl Γ X xs ws0 nL gh gz fh (fun pc ls vst H locs => W p l e R s m args below meth c H locs cs sl Q (F0 m pc ls vst)) act pc L st S := by
  have e : (Int64.ofNat i.val).toInt = Int.ofNat i.val := by
    have := i.isLt
    rw [Int64.toInt_ofNat']
    exact Int.bmod_eq_of_le (by omega) (by simp; omega)
  exact xy_push hk h (x := .long (Int64.ofNat i.val)) (fun as ρ n => xw_hv.l (by rw [e]; exact xw_is.c _)) fun _ _ _ _ w => lv_lconst C.1 C.2.1 hd rfl w
theorem xy_ldc {index : Nat} {v : Int} (C : xw_Cx p s m args c cc own nL D t A X xs Γ) (hk : (∀ pc' L' st' S', k pc' L' st' S' = true → xw_Tj e0 D t A s.heap hl Γ X xs ws0 nL gh gz fh (fun pc ls vst H locs => W p l e R s m args below meth c H locs cs sl Q (F0 m pc ls vst)) act pc' L' st' S')) (hd : decode cc pc = .ok (.ldc index, 2)) (hw : Jvm.Cond.constant own index (Int32.ofInt v) ∈ xv_tb) (h : (bif xv_le (-2147483648) v && xv_le v 2147483647 then k (pc + 2) L ((0, (v, [])) :: st) S else false) = true) : xw_Tj e0 D t A s.heap hl Γ X xs ws0 nL gh gz fh (fun pc ls vst H locs => W p l e R s m args below meth c H locs cs sl Q (F0 m pc ls vst)) act pc L st S := by
  cases hb : (xv_le (-2147483648) v && xv_le v 2147483647) with
  | false => rw [hb] at h; cases h
  | true =>
    rw [hb] at h
    obtain ⟨b1, b2⟩ := xv_and_t hb
    exact xy_push hk h (xy_ii (xv_le_iff.mp b1) (xv_le_iff.mp b2)) fun _ _ _ _ w => lv_ldc C.1 C.2.1 C.2.2.2.1 (C.2.2.2.2.1 _ hw) hd w
theorem xy_ldcw {index : Nat} {v : Int} (C : xw_Cx p s m args c cc own nL D t A X xs Γ) (hk : (∀ pc' L' st' S', k pc' L' st' S' = true → xw_Tj e0 D t A s.heap hl Γ X xs ws0 nL gh gz fh (fun pc ls vst H locs => W p l e R s m args below meth c H locs cs sl Q (F0 m pc ls vst)) act pc' L' st' S')) (hd : decode cc pc = .ok (.ldc_w index, 3)) (hw : Jvm.Cond.constant own index (Int32.ofInt v) ∈ xv_tb) (h : (bif xv_le (-2147483648) v && xv_le v 2147483647 then k (pc + 3) L ((0, (v, [])) :: st) S else false) = true) : xw_Tj e0 D t A s.heap hl Γ X xs ws0 nL gh gz fh (fun pc ls vst H locs => W p l e R s m args below meth c H locs cs sl Q (F0 m pc ls vst)) act pc L st S := by
  cases hb : (xv_le (-2147483648) v && xv_le v 2147483647) with
  | false => rw [hb] at h; cases h
  | true =>
    rw [hb] at h
    obtain ⟨b1, b2⟩ := xv_and_t hb
    exact xy_push hk h (xy_ii (xv_le_iff.mp b1) (xv_le_iff.mp b2)) fun _ _ _ _ w => lv_ldcw C.1 C.2.1 C.2.2.2.1 (C.2.2.2.2.1 _ hw) hd w
theorem xy_ldc2 {index : Nat} {v : Int} (C : xw_Cx p s m args c cc own nL D t A X xs Γ) (hk : (∀ pc' L' st' S', k pc' L' st' S' = true → xw_Tj e0 D t A s.heap hl Γ X xs ws0 nL gh gz fh (fun pc ls vst H locs => W p l e R s m args below meth c H locs cs sl Q (F0 m pc ls vst)) act pc' L' st' S')) (hd : decode cc pc = .ok (.ldc2_w index, 3)) (hw : Jvm.Cond.constantLong own index (Int64.ofInt v) ∈ xv_tb) (h : (bif xv_le (-9223372036854775808) v && xv_le v 9223372036854775807 then k (pc + 3) L ((1, (v, [])) :: st) S else false) = true) : xw_Tj e0 D t A s.heap hl Γ X xs ws0 nL gh gz fh (fun pc ls vst H locs => W p l e R s m args below meth c H locs cs sl Q (F0 m pc ls vst)) act pc L st S := by
  cases hb : (xv_le (-9223372036854775808) v && xv_le v 9223372036854775807) with
  | false => rw [hb] at h; cases h
  | true =>
    rw [hb] at h
    obtain ⟨b1, b2⟩ := xv_and_t hb
    refine xy_push hk h (x := .long (Int64.ofInt v)) (fun as ρ n => xw_hv.l ?_) fun _ _ _ _ w => lv_ldc2 C.1 C.2.1 C.2.2.2.1 (C.2.2.2.2.1 _ hw) hd w
    rw [Int64.toInt_ofInt, xw_bm1 (xv_le_iff.mp b1) (xv_le_iff.mp b2)]
    exact xw_is.c v
theorem xy_ldcS {index : Nat} (C : xw_Cx p s m args c cc own nL D t A X xs Γ) (hk : (∀ pc' L' st' S', k pc' L' st' S' = true → xw_Tj e0 D t A s.heap hl Γ X xs ws0 nL gh gz fh (fun pc ls vst H locs => W p l e R s m args below meth c H locs cs sl Q (F0 m pc ls vst)) act pc' L' st' S')) (hd : decode cc pc = .ok (.ldc index, 2)) (hw : (own, index) ∈ xw_strs) (h : k (pc + 2) L ((6, (0, [])) :: st) S = true) : xw_Tj e0 D t A s.heap hl Γ X xs ws0 nL gh gz fh (fun pc ls vst H locs => W p l e R s m args below meth c H locs cs sl Q (F0 m pc ls vst)) act pc L st S := by
  obtain ⟨tx, a, h1, h2⟩ := C.2.2.2.2.2.2.2.2.2.2.1.2.2.1 A s own index hw C.2.2.2.2.2.2.2.2.2.1
  exact xy_push hk h (x := .ref a) (fun as ρ n => ⟨fun q => (by cases q), fun q => (by cases q), fun q => (by cases q), fun q => (by cases q), fun q => (by cases q), fun q => (by cases q), fun _ => ⟨a, rfl, h2⟩, fun q => (by cases q)⟩) fun _ _ _ _ w => va_ldcS C.1 C.2.1 C.2.2.2.1 h1 hd w
/-! locals -/
theorem xy_ldeq {kd i : Nat} {f : xw_V → Bool} (h : xw_ld kd L i f = true) : ∃ v, L[i]? = some v ∧ v.1 = kd ∧ f v = true := by
  unfold xw_ld at h
  rw [xv_nth_eq] at h
  cases hl : L[i]? with
  | none => rw [hl] at h; cases h
  | some v =>
    rw [hl] at h
    dsimp only at h
    cases hb : Nat.beq v.1 kd with
    | false => rw [hb] at h; cases h
    | true => rw [hb] at h; exact ⟨v, rfl, xv_beq hb, h⟩
theorem xy_ldi {i pc' : Nat} (hk : (∀ pc' L' st' S', k pc' L' st' S' = true → xw_Tj e0 D t A s.heap hl Γ X xs ws0 nL gh gz fh (fun pc ls vst H locs => W p l e R s m args below meth c H locs cs sl Q (F0 m pc ls vst)) act pc' L' st' S')) (h : xw_ld 0 L i (fun v => k pc' L (v :: st) S) = true)
    (hs : ∀ (ls : Array Slot) (vst : List Value) (H : Heap) (locs : List Loc) (x : Int32), ls[i]? = some (.val (.int x)) → W p l e R s m args below meth c H locs cs sl Q (F0 m pc' ls (.int x :: vst)) → W p l e R s m args below meth c H locs cs sl Q (F0 m pc ls vst)) : xw_Tj e0 D t A s.heap hl Γ X xs ws0 nL gh gz fh (fun pc ls vst H locs => W p l e R s m args below meth c H locs cs sl Q (F0 m pc ls vst)) act pc L st S := by
  obtain ⟨v, e1, e2, h⟩ := xy_ldeq h
  refine xy_pure hk h fun ρ ls vst H locs as lvs _ hls hL hst => ?_
  obtain ⟨x, hx, hv⟩ := hL i v e1 (by omega)
  obtain ⟨y, rfl, hy⟩ := hv.1 e2
  exact ⟨.int y :: vst, xw_sk.cons hv hst, hs ls vst H locs y (hls.2.2 (i, _) hx)⟩
theorem xy_ldl {i pc' : Nat} (hk : (∀ pc' L' st' S', k pc' L' st' S' = true → xw_Tj e0 D t A s.heap hl Γ X xs ws0 nL gh gz fh (fun pc ls vst H locs => W p l e R s m args below meth c H locs cs sl Q (F0 m pc ls vst)) act pc' L' st' S')) (h : xw_ld 1 L i (fun v => k pc' L (v :: st) S) = true)
    (hs : ∀ (ls : Array Slot) (vst : List Value) (H : Heap) (locs : List Loc) (x : Int64), ls[i]? = some (.val (.long x)) → W p l e R s m args below meth c H locs cs sl Q (F0 m pc' ls (.long x :: vst)) → W p l e R s m args below meth c H locs cs sl Q (F0 m pc ls vst)) : xw_Tj e0 D t A s.heap hl Γ X xs ws0 nL gh gz fh (fun pc ls vst H locs => W p l e R s m args below meth c H locs cs sl Q (F0 m pc ls vst)) act pc L st S := by
  obtain ⟨v, e1, e2, h⟩ := xy_ldeq h
  refine xy_pure hk h fun ρ ls vst H locs as lvs _ hls hL hst => ?_
  obtain ⟨x, hx, hv⟩ := hL i v e1 (by omega)
  obtain ⟨y, rfl, hy⟩ := hv.2.1 e2
  exact ⟨.long y :: vst, xw_sk.cons hv hst, hs ls vst H locs y (hls.2.2 (i, _) hx)⟩
theorem xy_ref {as : List Nat} {ρ : Nat → Int} {n : Nat} {v : xw_V} {x : Value} (hb : xw_isr v = true) (hv : xw_hv X as ρ n v x) : (∃ a, x = .ref a) ∨ x = .null := by
  unfold xw_isr at hb
  rcases (Bool.or_eq_true _ _).mp hb with q | hb
  · obtain ⟨a, -, e⟩ := hv.2.2.1 (xv_beq q); exact Or.inl ⟨a, e⟩
  rcases (Bool.or_eq_true _ _).mp hb with q | hb
  · exact Or.inr (hv.2.2.2.1 (xv_beq q))
  rcases (Bool.or_eq_true _ _).mp hb with q | hb
  · obtain ⟨j, a, -, -, e⟩ := hv.2.2.2.2.1 (xv_beq q); exact Or.inl ⟨a, e⟩
  rcases (Bool.or_eq_true _ _).mp hb with q | q
  · obtain ⟨e, -⟩ := hv.2.2.2.2.2.1 (xv_beq q); exact Or.inl ⟨_, e⟩
  · obtain ⟨a, e, -⟩ := hv.2.2.2.2.2.2.1 (xv_beq q); exact Or.inl ⟨a, e⟩
theorem xy_isr9 {v : xw_V} (hb : xw_isr v = true) : v.1 ≤ 7 ∧ v.1 ≠ 1 := by
  unfold xw_isr at hb
  simp only [Bool.or_eq_true] at hb
  rcases hb with q | q | q | q | q <;> (have := xv_beq q; omega)
theorem xy_aload_n {i : Fin 4} (C : xw_Cx p s m args c cc own nL D t A X xs Γ) (hk : (∀ pc' L' st' S', k pc' L' st' S' = true → xw_Tj e0 D t A s.heap hl Γ X xs ws0 nL gh gz fh (fun pc ls vst H locs => W p l e R s m args below meth c H locs cs sl Q (F0 m pc ls vst)) act pc' L' st' S')) (hd : decode cc pc = .ok (.aload_n i, 1)) (h : xw_lda L i.val (fun v => k (pc + 1) L (v :: st) S) = true) : xw_Tj e0 D t A s.heap hl Γ X xs ws0 nL gh gz fh (fun pc ls vst H locs => W p l e R s m args below meth c H locs cs sl Q (F0 m pc ls vst)) act pc L st S := by
  unfold xw_lda at h
  rw [xv_nth_eq] at h
  cases hl : L[i.val]? with
  | none => rw [hl] at h; cases h
  | some v =>
    rw [hl] at h
    dsimp only at h
    cases hb : xw_isr v with
    | false => rw [hb] at h; cases h
    | true =>
      rw [hb] at h
      refine xy_pure hk h fun ρ ls vst H locs as lvs _ hls hL hst => ?_
      obtain ⟨x, hx, hv⟩ := hL i.val v hl (xy_isr9 hb).1
      refine ⟨x :: vst, xw_sk.cons hv hst, fun w => ?_⟩
      rcases xy_ref hb hv with ⟨a, rfl⟩ | rfl
      · exact lv_aload_n C.1 C.2.1 hd rfl (hls.2.2 (i.val, _) hx) w
      · exact lv_aload_nN C.1 C.2.1 hd rfl (hls.2.2 (i.val, _) hx) w
theorem xy_cat1 {as : List Nat} {ρ : Nat → Int} {n : Nat} {v : xw_V} {x : Value} (hv : xw_hv X as ρ n v x) (h7 : v.1 ≤ 7) (h1 : v.1 ≠ 1) : x.category = 1 := by
  rcases (show v.1 = 0 ∨ v.1 = 2 ∨ v.1 = 3 ∨ v.1 = 4 ∨ v.1 = 5 ∨ v.1 = 6 ∨ v.1 = 7 by omega) with q | q | q | q | q | q | q
  · obtain ⟨i, rfl, -⟩ := hv.1 q; rfl
  · obtain ⟨a, -, rfl⟩ := hv.2.2.1 q; rfl
  · rw [hv.2.2.2.1 q]; rfl
  · obtain ⟨j, a, -, -, rfl⟩ := hv.2.2.2.2.1 q; rfl
  · rw [(hv.2.2.2.2.2.1 q).1]; rfl
  · obtain ⟨a, rfl, -⟩ := hv.2.2.2.2.2.2.1 q; rfl
  · obtain ⟨i, d, rfl, -⟩ := hv.2.2.2.2.2.2.2 q; rfl
theorem xw_cl1_get {i j : Nat} {w : xw_V} (hj : j ≠ i) (h : (xw_cl1 L i)[j]? = some w) (hk : w.1 ≤ 7) : L[j]? = some w ∧ (j + 1 = i → w.1 ≠ 1) := by
  unfold xw_cl1 at h
  cases i with
  | zero => exact ⟨h, fun q => by omega⟩
  | succ i =>
    dsimp only at h
    rw [xv_nth_eq] at h
    cases hl : L[i]? with
    | none =>
      rw [hl] at h
      refine ⟨h, fun q => ?_⟩
      have e : j = i := by omega
      subst e
      rw [hl] at h; cases h
    | some v =>
      rw [hl] at h
      dsimp only at h
      cases hb : Nat.beq v.1 1 with
      | true =>
        rw [hb] at h
        simp only [cond_true] at h
        rw [xv_put_eq] at h
        by_cases e : i = j
        · subst e
          have hlt : i < L.length := (List.getElem?_eq_some_iff.mp hl).1
          rw [List.getElem?_set_self hlt] at h
          cases h
          exact absurd hk (by decide)
        · rw [List.getElem?_set_ne e] at h
          exact ⟨h, fun q => by omega⟩
      | false =>
        rw [hb] at h
        simp only [cond_false] at h
        refine ⟨h, fun q q1 => ?_⟩
        have e : j = i := by omega
        subst e
        rw [hl] at h; cases h
        rw [q1] at hb; cases hb
theorem xw_cl1_len (L : List xw_V) (i : Nat) : (xw_cl1 L i).length = L.length := by
  unfold xw_cl1
  cases i with
  | zero => rfl
  | succ i =>
    dsimp only
    cases xv_nth L i with
    | none => rfl
    | some v =>
      dsimp only
      cases Nat.beq v.1 1 with
      | true => simp [xv_put_eq]
      | false => rfl
theorem xw_lm.st1 {as : List Nat} {ρ : Nat → Int} {n i : Nat} {v : xw_V} {x : Value} {lvs : List (Nat × Value)} (hi : i < L.length) (hx : xw_hv X as ρ n v x) (h3 : xw_lm X as ρ n L lvs) : xw_lm X as ρ n (xw_st1 L i v) ((i, x) :: lvs.filter (fun q => !(q.1 == i) && !(q.1 + 1 == i && q.2.category == 2))) := fun j w hj hk => by
  unfold xw_st1 at hj
  rw [xv_put_eq] at hj
  by_cases e : i = j
  · subst e
    rw [List.getElem?_set_self (by rw [xw_cl1_len]; exact hi)] at hj
    cases hj
    exact ⟨x, List.mem_cons_self, hx⟩
  · rw [List.getElem?_set_ne e] at hj
    obtain ⟨h4, h5⟩ := xw_cl1_get (fun q => e q.symm) hj hk
    obtain ⟨y, hy, hv⟩ := h3 j w h4 hk
    refine ⟨y, List.mem_cons_of_mem _ (List.mem_filter.mpr ⟨hy, ?_⟩), hv⟩
    have e1 : (j == i) = false := by simp; omega
    simp only [e1, Bool.not_false, Bool.true_and, Bool.not_eq_true', Bool.and_eq_false_iff, beq_eq_false_iff_ne]
    by_cases q : j + 1 = i
    · right
      rw [xy_cat1 hv hk (h5 q)]; decide
    · left; exact q
end XY1
