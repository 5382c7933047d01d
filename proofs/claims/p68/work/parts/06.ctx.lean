/-! what the cells are, and where a walk stands -/
def xv_tys (t : Nat → ClassId) : List (ClassId × FieldType) := [(t 1, .int), (t 2, .byte), (t 3, .boolean), (t 4, .long), (t 5, .array .int), (t 6, .array .long), (t 7, .object "PassedPenance$Image")]
def xv_hc (t : Nat → ClassId) (sb : Nat) (as : List Nat) (k : xv_C) (x : va_E) : Prop :=
  (k.1 = 0 → ∃ fs, x = .inr (k.2.1, fs) ∧ fs.length = k.2.2.1 ∧ ∀ (b : Nat) (v : xv_V), xv_get 8 k.2.2.2 b = some v → ∃ y, fs[b]? = some y ∧ xv_hv sb as v y) ∧
  ((k.1 = 1 ∨ k.1 = 2 ∨ k.1 = 3) → ∃ f : Nat → Int32, x = .inl (t k.1, k.2.1, .inl f) ∧ ∀ i : Nat, i < k.2.1 → ∀ v : xv_V, xv_get 8 k.2.2.2 (i % k.2.2.1) = some v → xv_hv sb as v (.int (f i))) ∧
  (k.1 = 4 → ∃ f : Nat → Int64, x = .inl (t k.1, k.2.1, .inr (.inl f)) ∧ ∀ i : Nat, i < k.2.1 → ∀ v : xv_V, xv_get 8 k.2.2.2 (i % k.2.2.1) = some v → xv_hv sb as v (.long (f i))) ∧
  ((k.1 = 5 ∨ k.1 = 6 ∨ k.1 = 7) → ∃ f : Nat → Option Nat, x = .inl (t k.1, k.2.1, .inr (.inr (.inr (.inr f)))) ∧ ∀ i : Nat, i < k.2.1 → ∀ v : xv_V, xv_get 8 k.2.2.2 (i % k.2.2.1) = some v → xv_hv sb as v (va_rf (f i))) ∧
  (k.1 ≠ 0 → k.2.1 ≤ 65536)
theorem xv_hc.more {t : Nat → ClassId} {sb : Nat} {as as' : List Nat} {k : xv_C} {x : va_E} (hp : ∀ (n a : Nat), as[n]? = some a → as'[n]? = some a) (h : xv_hc t sb as k x) : xv_hc t sb as' k x := by
  obtain ⟨h0, h1, h4, h5, h6⟩ := h
  refine ⟨fun q => ?_, fun q => ?_, fun q => ?_, fun q => ?_, h6⟩
  · obtain ⟨fs, e, hl, hf⟩ := h0 q
    exact ⟨fs, e, hl, fun b v hb => (hf b v hb).elim fun y hy => ⟨y, hy.1, hy.2.more hp⟩⟩
  · obtain ⟨f, e, hf⟩ := h1 q
    exact ⟨f, e, fun i hi v hb => (hf i hi v hb).more hp⟩
  · obtain ⟨f, e, hf⟩ := h4 q
    exact ⟨f, e, fun i hi v hb => (hf i hi v hb).more hp⟩
  · obtain ⟨f, e, hf⟩ := h5 q
    exact ⟨f, e, fun i hi v hb => (hf i hi v hb).more hp⟩
def xv_H (t : Nat → ClassId) (sb : Nat) (h : xv_A) (n : Nat) (ws : va_W) : Prop := ws.length = n ∧ ∀ (r : Nat) (k : xv_C), xv_get 14 h r = some k → k.1 ≠ 99 → ∃ (a : Nat) (x : va_E), ws[r]? = some (a, x) ∧ xv_hc t sb (ws.map Prod.fst) k x
theorem xv_fst_set {ws : va_W} {q a : Nat} {x y : va_E} (h : ws[q]? = some (a, x)) : (ws.set q (a, y)).map Prod.fst = ws.map Prod.fst := by
  rw [List.map_set]
  apply List.ext_getElem?
  intro i
  by_cases e : q = i
  · subst e
    have hlt : q < ws.length := (List.getElem?_eq_some_iff.mp h).1
    rw [List.getElem?_set_self (by simpa using hlt), List.getElem?_map, h]
    rfl
  · rw [List.getElem?_set_ne e]
/-- a cell is changed -/
theorem xv_H.set {t : Nat → ClassId} {sb : Nat} {h : xv_A} {n : Nat} {ws : va_W} (hH : xv_H t sb h n ws) {q a : Nat} {x y : va_E} {k : xv_C} (hq : ws[q]? = some (a, x)) (hk : xv_hc t sb (ws.map Prod.fst) k y) : xv_H t sb (xv_upd 14 h q k) n (ws.set q (a, y)) := by
  refine ⟨by rw [List.length_set]; exact hH.1, fun r k' hr h9 => ?_⟩
  rw [xv_fst_set hq]
  have hlt : q < ws.length := (List.getElem?_eq_some_iff.mp hq).1
  rcases xv_get_upd hr with ⟨rfl, rfl⟩ | ⟨hne, hr⟩
  · exact ⟨a, y, by rw [List.getElem?_set_self hlt], hk⟩
  · obtain ⟨a', x', e1, e2⟩ := hH.2 r k' hr h9
    exact ⟨a', x', by rw [List.getElem?_set_ne (fun e => hne e.symm)]; exact e1, e2⟩
theorem xv_pre_app {as bs : List Nat} : ∀ (n a : Nat), as[n]? = some a → (as ++ bs)[n]? = some a := fun n a h => by
  rw [List.getElem?_append_left (List.getElem?_eq_some_iff.mp h).1]; exact h
/-- a cell is new -/
theorem xv_H.push {t : Nat → ClassId} {sb : Nat} {h : xv_A} {n : Nat} {ws : va_W} (hH : xv_H t sb h n ws) {a : Nat} {y : va_E} {k : xv_C} (hk : xv_hc t sb ((ws ++ [(a, y)]).map Prod.fst) k y) : xv_H t sb (xv_upd 14 h n k) (n + 1) (ws ++ [(a, y)]) := by
  refine ⟨by rw [List.length_append, hH.1]; rfl, fun r k' hr h9 => ?_⟩
  rcases xv_get_upd hr with ⟨rfl, rfl⟩ | ⟨hne, hr⟩
  · refine ⟨a, y, ?_, hk⟩
    rw [← hH.1, List.getElem?_append_right (Nat.le_refl _), Nat.sub_self]; rfl
  · obtain ⟨a', x', e1, e2⟩ := hH.2 r k' hr h9
    refine ⟨a', x', by rw [List.getElem?_append_left (List.getElem?_eq_some_iff.mp e1).1]; exact e1, e2.more ?_⟩
    rw [List.map_append]
    exact xv_pre_app
def xv_sm (sb : Nat) (as : List Nat) : List xv_V → List Value → Prop
  | [], [] => True
  | v :: r, x :: xs => xv_hv sb as v x ∧ xv_sm sb as r xs
  | _, _ => False
theorem xv_sm.cons {sb : Nat} {as : List Nat} {v : xv_V} {r : List xv_V} {x : Value} {xs : List Value} (h1 : xv_hv sb as v x) (h2 : xv_sm sb as r xs) : xv_sm sb as (v :: r) (x :: xs) := And.intro h1 h2
theorem xv_sm.un {sb : Nat} {as : List Nat} {v : xv_V} {r : List xv_V} {vst : List Value} (h : xv_sm sb as (v :: r) vst) : ∃ x xs, vst = x :: xs ∧ xv_hv sb as v x ∧ xv_sm sb as r xs := by
  cases vst with
  | nil => exact False.elim h
  | cons x xs => exact ⟨x, xs, rfl, h.1, h.2⟩
theorem xv_sm.nil {sb : Nat} {as : List Nat} {vst : List Value} (h : xv_sm sb as [] vst) : vst = [] := by
  cases vst with
  | nil => rfl
  | cons x xs => exact False.elim h
theorem xv_sm.more {sb : Nat} {as as' : List Nat} (hp : ∀ (n a : Nat), as[n]? = some a → as'[n]? = some a) : ∀ {st : List xv_V} {vst : List Value}, xv_sm sb as st vst → xv_sm sb as' st vst
  | [], [], _ => True.intro
  | [], _ :: _, h => False.elim h
  | _ :: _, [], h => False.elim h
  | _ :: _, _ :: _, h => And.intro (h.1.more hp) (xv_sm.more hp h.2)
def xv_Rl (D : va_G) (t : Nat → ClassId) (A : Nat → Prop) (H0 : Heap) (as0 : List Nat) (sb nL : Nat) (L st : List xv_V) (S : xv_S) (ls : Array Slot) (vst : List Value) (H : Heap) (locs : List Loc) (ws : va_W) : Prop :=
  xv_lm sb (ws.map Prod.fst) L ls nL ∧ xv_sm sb (ws.map Prod.fst) st vst ∧ va_P D vwCl ws H ∧ va_D A ws ∧ va_S A H0 H locs ∧ xv_H t sb S.1 S.2.1 ws ∧ ∃ more, ws.map Prod.fst = as0 ++ more
/-- from a place on, with this known, the machine comes to the end r -/
def xv_T (p : Program) (l : Launch) (e : Env) (R : Room) (s : State) (m : MethodId) (args : Array Value) (below : List Frame) (meth : Method) (c : Code) (D : va_G) (t : Nat → ClassId) (A : Nat → Prop) (as0 : List Nat) (sb nL : Nat) (Q : xv_R → State → Prop) (pc : Nat) (L st : List xv_V) (S : xv_S) (r : xv_R) : Prop :=
  S.2.2.1 ≤ r.2.2.2.2.1 ∧ S.2.2.2 ≤ r.2.2.2.2.2 ∧ (r.2.2.2.2.1 ≤ R.cells → r.2.2.2.2.2 ≤ R.slots → ∀ (ls : Array Slot) (vst : List Value) (H : Heap) (locs : List Loc) (ws : va_W), xv_Rl D t A s.heap as0 sb nL L st S ls vst H locs ws → W p l e R s m args below meth c H locs S.2.2.1 S.2.2.2 (Q r) (F0 m pc ls vst))
def xv_G (p : Program) (l : Launch) (e : Env) (R : Room) (s : State) (m : MethodId) (args : Array Value) (below : List Frame) (meth : Method) (c : Code) (D : va_G) (t : Nat → ClassId) (A : Nat → Prop) (as0 : List Nat) (sb nL : Nat) (Q : xv_R → State → Prop) (k : xv_K) : Prop :=
  ∀ (pc : Nat) (L st : List xv_V) (S : xv_S) (r : xv_R), k pc L st S = some r → xv_T p l e R s m args below meth c D t A as0 sb nL Q pc L st S r
/-- an array class over a class of rows is there -/
def xv_AOA (ty : FieldType) (U : State) : Prop := ∃ (cI cO : ClassId) (k : Class), U.vm.findClass (FieldType.array ty).toString = some cI ∧ U.vm.classes[cO]? = some k ∧ k.kind = .array cI (.array ty) ∧ U.vm.findClass ("[" ++ (FieldType.array ty).toString) = some cO
theorem xv_AOA.moved {ty : FieldType} {u U : State} (hvm : u.vm.Alike U.vm) (h : xv_AOA ty u) : xv_AOA ty U := by
  obtain ⟨cI, cO, k, h1, h2, h3, h4⟩ := h
  obtain ⟨k', hk', he⟩ := hvm.2.2 _ _ h2
  exact ⟨cI, cO, k', by rw [hvm.findClass]; exact h1, hk', by rw [he]; exact h3, by rw [hvm.findClass]; exact h4⟩
/-- what the tables say besides, that is carried from call to call -/
def xv_Ex (U : State) : Prop := (∀ q ∈ xv_nest, va_Nw (.methodLinkNest q.1 q.2.1 q.2.2.1 q.2.2.2) U) ∧ va_AO "PassedPenance$Image" U ∧ xv_AOA .int U ∧ xv_AOA .long U
theorem xv_Ex.warm {s U : State} (hW : s.WarmedH U.vm) (h : xv_Ex s) : xv_Ex U := ⟨fun q hq => va_Nw.warmM hW (h.1 q hq), h.2.1.moved hW.alike, h.2.2.1.moved hW.alike, h.2.2.2.moved hW.alike⟩
theorem xv_Ex.same {u U : State} (e : u.vm = U.vm) (h : xv_Ex u) : xv_Ex U := ⟨fun q hq => va_Nw.same rfl e (h.1 q hq), h.2.1.moved (e ▸ Vm.Alike.refl u.vm), h.2.2.1.moved (e ▸ Vm.Alike.refl u.vm), h.2.2.2.moved (e ▸ Vm.Alike.refl u.vm)⟩
/-- what holds all through a method's body -/
def xv_Cx (p : Program) (s : State) (m : MethodId) (args : Array Value) (c : Code) (cc : ByteArray) (own : String) (nL : Nat) (D : va_G) (t : Nat → ClassId) (A : Nat → Prop) (sb : Nat) (scr : List xv_V) : Prop :=
  p.tables.exec = Jvm.exec ∧ c.code = cc ∧ c.maxLocals = nL ∧ s.vm.findClass own = some m.cls ∧ (∀ w ∈ xv_tb, w.before args s = true) ∧ va_K D vwCl (xv_tys t) s ∧ (∀ q : Nat, s.heap.size ≤ q → A q) ∧
  (scr = [] ∨ ∃ xs : Nat → Int32, va_X sb scr.length xs s s.heap ∧ sb < s.heap.size ∧ ¬ A sb ∧ scr.length < 2 ^ 31 ∧ ∀ (j : Nat) (v : xv_V), scr[j]? = some v → v.1 = 0 ∧ v.2.1 ≤ (xs j).toInt ∧ (xs j).toInt ≤ v.2.2) ∧ xv_Ex s
section XV1
variable {p : Program} {l : Launch} {e : Env} {R : Room} {s : State} {m : MethodId} {args : Array Value} {below : List Frame} {meth : Method} {c : Code}
variable {cc : ByteArray} {own : String} {nL : Nat} {D : va_G} {t : Nat → ClassId} {A : Nat → Prop} {as0 : List Nat} {sb : Nat} {scr : List xv_V} {Q : xv_R → State → Prop} {k : xv_K} {pc : Nat} {L st : List xv_V} {S : xv_S} {r : xv_R}
/-- a step that leaves locals and cells as they are -/
theorem xs_pure {pc' : Nat} {st' : List xv_V} (hk : xv_G p l e R s m args below meth c D t A as0 sb nL Q k) (hr : k pc' L st' S = some r)
    (hs : ∀ (ls : Array Slot) (vst : List Value) (H : Heap) (locs : List Loc) (as : List Nat) (x y : Nat) (Z : State → Prop), xv_lm sb as L ls nL → xv_sm sb as st vst → ∃ vst', xv_sm sb as st' vst' ∧ (W p l e R s m args below meth c H locs x y Z (F0 m pc' ls vst') → W p l e R s m args below meth c H locs x y Z (F0 m pc ls vst))) : xv_T p l e R s m args below meth c D t A as0 sb nL Q pc L st S r := by
  obtain ⟨h1, h2, h3⟩ := hk _ _ _ _ _ hr
  refine ⟨h1, h2, fun hc hz ls vst H locs ws hR => ?_⟩
  obtain ⟨hl, hst, hrest⟩ := hR
  obtain ⟨vst', h4, h5⟩ := hs ls vst H locs _ _ _ _ hl hst
  exact h5 (h3 hc hz ls vst' H locs ws ⟨hl, h4, hrest⟩)
theorem xs_push {pc' : Nat} {v : xv_V} (hk : xv_G p l e R s m args below meth c D t A as0 sb nL Q k) (hr : k pc' L (v :: st) S = some r) {x : Value}
    (hx : ∀ as : List Nat, xv_hv sb as v x) (hs : ∀ (ls : Array Slot) (vst : List Value) (H : Heap) (locs : List Loc) (a b : Nat) (Z : State → Prop), W p l e R s m args below meth c H locs a b Z (F0 m pc' ls (x :: vst)) → W p l e R s m args below meth c H locs a b Z (F0 m pc ls vst)) : xv_T p l e R s m args below meth c D t A as0 sb nL Q pc L st S r :=
  xs_pure hk hr fun ls vst H locs as a b Z _ hst => ⟨x :: vst, xv_sm.cons (hx as) hst, hs ls vst H locs a b Z⟩
theorem xs_iconst {i : Int} (C : xv_Cx p s m args c cc own nL D t A sb scr) (hk : xv_G p l e R s m args below meth c D t A as0 sb nL Q k) (hd : decode cc pc = .ok (.iconst i, 1)) (hr : k (pc + 1) L (xv_int i i :: st) S = some r) : xv_T p l e R s m args below meth c D t A as0 sb nL Q pc L st S r :=
  xs_push hk hr (x := .int (Int32.ofInt i)) (fun _ => xv_hv.i (xv_int_ok (Int.le_refl i) (Int.le_refl i) (Int32.toInt_ofInt ..))) fun _ _ _ _ _ _ _ w => lv_iconst C.1 C.2.1 hd rfl w
theorem xs_bipush {i : Int} (C : xv_Cx p s m args c cc own nL D t A sb scr) (hk : xv_G p l e R s m args below meth c D t A as0 sb nL Q k) (hd : decode cc pc = .ok (.bipush i, 2)) (hr : (bif xv_le (-128) i && xv_le i 127 then k (pc + 2) L ((0, i, i) :: st) S else none) = some r) : xv_T p l e R s m args below meth c D t A as0 sb nL Q pc L st S r := by
  obtain ⟨hb, hr⟩ := xv_bt hr
  obtain ⟨b1, b2⟩ := xv_and_t hb
  have b1 := xv_le_iff.mp b1
  have b2 := xv_le_iff.mp b2
  have e : ((Int8.ofInt i).toInt32).toInt = i := by
    rw [Int8.toInt_toInt32, Int8.toInt_ofInt, show Int8.size = 256 from rfl]
    exact Int.bmod_eq_of_le (by omega) (by omega)
  exact xs_push hk hr (x := .int ((Int8.ofInt i).toInt32)) (fun _ => xv_hv.i ⟨rfl, by rw [e]; exact Int.le_refl _, by rw [e]; exact Int.le_refl _⟩) fun _ _ _ _ _ _ _ w => lv_bipush C.1 C.2.1 hd rfl w
theorem xs_sipush {i : Int} (C : xv_Cx p s m args c cc own nL D t A sb scr) (hk : xv_G p l e R s m args below meth c D t A as0 sb nL Q k) (hd : decode cc pc = .ok (.sipush i, 3)) (hr : (bif xv_le (-32768) i && xv_le i 32767 then k (pc + 3) L ((0, i, i) :: st) S else none) = some r) : xv_T p l e R s m args below meth c D t A as0 sb nL Q pc L st S r := by
  obtain ⟨hb, hr⟩ := xv_bt hr
  obtain ⟨b1, b2⟩ := xv_and_t hb
  have b1 := xv_le_iff.mp b1
  have b2 := xv_le_iff.mp b2
  have e : ((Int16.ofInt i).toInt32).toInt = i := by
    rw [Int16.toInt_toInt32, Int16.toInt_ofInt, show Int16.size = 65536 from rfl]
    exact Int.bmod_eq_of_le (by omega) (by omega)
  exact xs_push hk hr (x := .int ((Int16.ofInt i).toInt32)) (fun _ => xv_hv.i ⟨rfl, by rw [e]; exact Int.le_refl _, by rw [e]; exact Int.le_refl _⟩) fun _ _ _ _ _ _ _ w => lv_sipush C.1 C.2.1 hd rfl w
theorem xs_lconst {i : Fin 2} (C : xv_Cx p s m args c cc own nL D t A sb scr) (hk : xv_G p l e R s m args below meth c D t A as0 sb nL Q k) (hd : decode cc pc = .ok (.lconst i, 1)) (hr : k (pc + 1) L ((1, Int.ofNat i.val, Int.ofNat i.val) :: st) S = some r) : xv_T p l e R s m args below meth c D t A as0 sb nL Q pc L st S r := by
  have e : (Int64.ofNat i.val).toInt = Int.ofNat i.val := by
    have := i.isLt
    rw [Int64.toInt_ofNat']
    exact Int.bmod_eq_of_le (by omega) (by simp; omega)
  exact xs_push hk hr (x := .long (Int64.ofNat i.val)) (fun _ => xv_hv.l ⟨rfl, by rw [e]; exact Int.le_refl _, by rw [e]; exact Int.le_refl _⟩) fun _ _ _ _ _ _ _ w => lv_lconst C.1 C.2.1 hd rfl w
theorem xs_ldk {pc' : Nat} {o : Option xv_V} (hr : xv_ldk k pc' L st S o = some r) : ∃ v, o = some v ∧ k pc' L (v :: st) S = some r := by
  unfold xv_ldk at hr
  cases o with
  | none => cases hr
  | some v => exact ⟨v, rfl, hr⟩
theorem xv_ld_eq {kd i : Nat} {v : xv_V} (h : xv_ld kd L i = some v) : L[i]? = some v ∧ v.1 = kd := by
  unfold xv_ld at h
  rw [xv_nth_eq] at h
  cases hl : L[i]? with
  | none => rw [hl] at h; cases h
  | some w =>
    rw [hl] at h
    obtain ⟨b, e⟩ := xv_bt h
    cases e
    exact ⟨rfl, xv_beq b⟩
theorem xs_ldi {i pc' : Nat} (hk : xv_G p l e R s m args below meth c D t A as0 sb nL Q k) (hr : xv_ldk k pc' L st S (xv_ld 0 L i) = some r)
    (hs : ∀ (ls : Array Slot) (vst : List Value) (H : Heap) (locs : List Loc) (a b : Nat) (Z : State → Prop) (x : Int32), ls[i]? = some (.val (.int x)) → W p l e R s m args below meth c H locs a b Z (F0 m pc' ls (.int x :: vst)) → W p l e R s m args below meth c H locs a b Z (F0 m pc ls vst)) : xv_T p l e R s m args below meth c D t A as0 sb nL Q pc L st S r := by
  obtain ⟨v, e, hr⟩ := xs_ldk hr
  obtain ⟨e1, e2⟩ := xv_ld_eq e
  refine xs_pure hk hr fun ls vst H locs as a b Z hl hst => ?_
  obtain ⟨x, hx, hv⟩ := hl.at e1 (Or.inl e2)
  obtain ⟨y, rfl, -⟩ := hv.1 e2
  exact ⟨.int y :: vst, xv_sm.cons hv hst, hs ls vst H locs a b Z y hx⟩
theorem xs_ldl {i pc' : Nat} (hk : xv_G p l e R s m args below meth c D t A as0 sb nL Q k) (hr : xv_ldk k pc' L st S (xv_ld 1 L i) = some r)
    (hs : ∀ (ls : Array Slot) (vst : List Value) (H : Heap) (locs : List Loc) (a b : Nat) (Z : State → Prop) (x : Int64), ls[i]? = some (.val (.long x)) → W p l e R s m args below meth c H locs a b Z (F0 m pc' ls (.long x :: vst)) → W p l e R s m args below meth c H locs a b Z (F0 m pc ls vst)) : xv_T p l e R s m args below meth c D t A as0 sb nL Q pc L st S r := by
  obtain ⟨v, e, hr⟩ := xs_ldk hr
  obtain ⟨e1, e2⟩ := xv_ld_eq e
  refine xs_pure hk hr fun ls vst H locs as a b Z hl hst => ?_
  obtain ⟨x, hx, hv⟩ := hl.at e1 (Or.inr (Or.inl e2))
  obtain ⟨y, rfl, -⟩ := hv.2.1 e2
  exact ⟨.long y :: vst, xv_sm.cons hv hst, hs ls vst H locs a b Z y hx⟩
theorem xs_iload {i : Nat} (C : xv_Cx p s m args c cc own nL D t A sb scr) (hk : xv_G p l e R s m args below meth c D t A as0 sb nL Q k) (hd : decode cc pc = .ok (.iload i, 2)) (hr : xv_ldk k (pc + 2) L st S (xv_ld 0 L i) = some r) : xv_T p l e R s m args below meth c D t A as0 sb nL Q pc L st S r :=
  xs_ldi hk hr fun _ _ _ _ _ _ _ _ hx w => lv_iload C.1 C.2.1 hd hx w
theorem xs_iload_n {i : Fin 4} (C : xv_Cx p s m args c cc own nL D t A sb scr) (hk : xv_G p l e R s m args below meth c D t A as0 sb nL Q k) (hd : decode cc pc = .ok (.iload_n i, 1)) (hr : xv_ldk k (pc + 1) L st S (xv_ld 0 L i.val) = some r) : xv_T p l e R s m args below meth c D t A as0 sb nL Q pc L st S r :=
  xs_ldi hk hr fun _ _ _ _ _ _ _ _ hx w => lv_iload_n C.1 C.2.1 hd rfl hx w
theorem xs_lload {i : Nat} (C : xv_Cx p s m args c cc own nL D t A sb scr) (hk : xv_G p l e R s m args below meth c D t A as0 sb nL Q k) (hd : decode cc pc = .ok (.lload i, 2)) (hr : xv_ldk k (pc + 2) L st S (xv_ld 1 L i) = some r) : xv_T p l e R s m args below meth c D t A as0 sb nL Q pc L st S r :=
  xs_ldl hk hr fun _ _ _ _ _ _ _ _ hx w => lv_lload C.1 C.2.1 hd hx w
theorem xs_lload_n {i : Fin 4} (C : xv_Cx p s m args c cc own nL D t A sb scr) (hk : xv_G p l e R s m args below meth c D t A as0 sb nL Q k) (hd : decode cc pc = .ok (.lload_n i, 1)) (hr : xv_ldk k (pc + 1) L st S (xv_ld 1 L i.val) = some r) : xv_T p l e R s m args below meth c D t A as0 sb nL Q pc L st S r :=
  xs_ldl hk hr fun _ _ _ _ _ _ _ _ hx w => lv_lload_n C.1 C.2.1 hd rfl hx w
theorem xs_aload_n {i : Fin 4} (C : xv_Cx p s m args c cc own nL D t A sb scr) (hk : xv_G p l e R s m args below meth c D t A as0 sb nL Q k) (hd : decode cc pc = .ok (.aload_n i, 1)) (hr : xv_ldk k (pc + 1) L st S (xv_lda L i.val) = some r) : xv_T p l e R s m args below meth c D t A as0 sb nL Q pc L st S r := by
  obtain ⟨v, e, hr⟩ := xs_ldk hr
  unfold xv_lda at e
  rw [xv_nth_eq] at e
  cases hl : L[i.val]? with
  | none => rw [hl] at e; cases e
  | some w =>
    rw [hl] at e
    obtain ⟨b, e⟩ := xv_bt e
    cases e
    simp only [Bool.or_eq_true] at b
    refine xs_pure hk hr fun ls vst H locs as a b' Z hlm hst => ?_
    have hkn : xv_known v := by
      rcases b with b | b | b
      · exact Or.inr (Or.inr (Or.inl (xv_beq b)))
      · exact Or.inr (Or.inr (Or.inr (Or.inl (xv_beq b))))
      · exact Or.inr (Or.inr (Or.inr (Or.inr (xv_beq b))))
    obtain ⟨x, hx, hv⟩ := hlm.at hl hkn
    refine ⟨x :: vst, xv_sm.cons hv hst, fun w => ?_⟩
    rcases b with b | b | b
    · obtain ⟨q, -, rfl⟩ := hv.2.2.1 (xv_beq b)
      exact lv_aload_n C.1 C.2.1 hd rfl hx w
    · have e := hv.2.2.2.1 (xv_beq b)
      subst e
      exact lv_aload_nN C.1 C.2.1 hd rfl hx w
    · have e := hv.2.2.2.2 (xv_beq b)
      subst e
      exact lv_aload_n C.1 C.2.1 hd rfl hx w
/-- a local is written -/
theorem xs_sto {i pc' : Nat} {v : xv_V} {rest : List xv_V} (hk : xv_G p l e R s m args below meth c D t A as0 sb nL Q k) (hr : k pc' (xv_st1 L i v) rest S = some r) (hst : st = v :: rest) (hi : i + 1 ≤ L.length)
    (hs : ∀ (ls : Array Slot) (vst : List Value) (H : Heap) (locs : List Loc) (as : List Nat) (a b : Nat) (Z : State → Prop) (x : Value) (lv : List (Nat × Value)), xv_hv sb as v x → lv_has ls nL lv → i < nL → (∀ ls' : Array Slot, lv_has ls' nL ((i, x) :: lv.filter (fun q => !(q.1 == i) && !(q.1 + 1 == i && q.2.category == 2))) → W p l e R s m args below meth c H locs a b Z (F0 m pc' ls' vst)) → W p l e R s m args below meth c H locs a b Z (F0 m pc ls (x :: vst))) : xv_T p l e R s m args below meth c D t A as0 sb nL Q pc L st S r := by
  obtain ⟨h1, h2, h3⟩ := hk _ _ _ _ _ hr
  refine ⟨h1, h2, fun hc hz ls vst H locs ws hR => ?_⟩
  obtain ⟨hl, hfa, hrest⟩ := hR
  subst hst
  obtain ⟨x, vst, rfl, hx, htl⟩ := hfa.un
  obtain ⟨h0, lv, h4, h5⟩ := hl
  exact hs ls vst H locs _ _ _ _ x lv hx h4 (by omega) fun ls' hls' => h3 hc hz ls' vst H locs ws ⟨xv_lm.st1 (by omega) hx h0 h5 hls', htl, hrest⟩
theorem xs_istore {i pc' : Nat} (hk : xv_G p l e R s m args below meth c D t A as0 sb nL Q k) (hr : xv_sto k 0 pc' i L st S = some r)
    (hs : ∀ (ls : Array Slot) (vst : List Value) (H : Heap) (locs : List Loc) (a b : Nat) (Z : State → Prop) (x : Int32) (lv : List (Nat × Value)), lv_has ls nL lv → i < nL → (∀ ls' : Array Slot, lv_has ls' nL ((i, .int x) :: lv.filter (fun q => !(q.1 == i) && !(q.1 + 1 == i && q.2.category == 2))) → W p l e R s m args below meth c H locs a b Z (F0 m pc' ls' vst)) → W p l e R s m args below meth c H locs a b Z (F0 m pc ls (.int x :: vst))) : xv_T p l e R s m args below meth c D t A as0 sb nL Q pc L st S r := by
  unfold xv_sto at hr
  cases st with
  | nil => cases hr
  | cons v rest =>
    obtain ⟨b, hr⟩ := xv_bt hr
    obtain ⟨b1, b2⟩ := xv_and_t b
    refine xs_sto hk hr rfl (xv_ble b2) fun ls vst H locs as a b Z x lv hx hlv hi w => ?_
    obtain ⟨y, rfl, -⟩ := hx.1 (xv_beq b1)
    exact hs ls vst H locs a b Z y lv hlv hi w
theorem xs_istore_i {i : Nat} (C : xv_Cx p s m args c cc own nL D t A sb scr) (hk : xv_G p l e R s m args below meth c D t A as0 sb nL Q k) (hd : decode cc pc = .ok (.istore i, 2)) (hr : xv_sto k 0 (pc + 2) i L st S = some r) : xv_T p l e R s m args below meth c D t A as0 sb nL Q pc L st S r :=
  xs_istore hk hr fun _ _ _ _ _ _ _ _ _ h hi w => lv_istore C.1 C.2.1 hd h hi rfl w
theorem xs_istore_n {i : Fin 4} (C : xv_Cx p s m args c cc own nL D t A sb scr) (hk : xv_G p l e R s m args below meth c D t A as0 sb nL Q k) (hd : decode cc pc = .ok (.istore_n i, 1)) (hr : xv_sto k 0 (pc + 1) i.val L st S = some r) : xv_T p l e R s m args below meth c D t A as0 sb nL Q pc L st S r :=
  xs_istore hk hr fun _ _ _ _ _ _ _ _ _ h hi w => lv_istore_n C.1 C.2.1 hd rfl h hi rfl w
theorem xs_astore_n {i : Fin 4} (C : xv_Cx p s m args c cc own nL D t A sb scr) (hk : xv_G p l e R s m args below meth c D t A as0 sb nL Q k) (hd : decode cc pc = .ok (.astore_n i, 1)) (hr : xv_stoa k (pc + 1) i.val L st S = some r) : xv_T p l e R s m args below meth c D t A as0 sb nL Q pc L st S r := by
  unfold xv_stoa at hr
  cases st with
  | nil => cases hr
  | cons v rest =>
    obtain ⟨b, hr⟩ := xv_bt hr
    obtain ⟨b1, b2⟩ := xv_and_t b
    refine xs_sto hk hr rfl (xv_ble b2) fun ls vst H locs as a b Z x lv hx hlv hi w => ?_
    simp only [Bool.or_eq_true] at b1
    rcases b1 with b1 | b1
    · obtain ⟨q, -, rfl⟩ := hx.2.2.1 (xv_beq b1)
      exact lv_astore_n C.1 C.2.1 hd rfl hlv hi rfl w
    · have e := hx.2.2.2.1 (xv_beq b1)
      subst e
      exact lv_astore_nN C.1 C.2.1 hd rfl hlv hi rfl w
theorem xs_iinc {i : Nat} {n : Int} (C : xv_Cx p s m args c cc own nL D t A sb scr) (hk : xv_G p l e R s m args below meth c D t A as0 sb nL Q k) (hd : decode cc pc = .ok (.iinc i n, 3)) (hr : (match xv_ld 0 L i with | some x => k (pc + 3) (xv_st1 L i (xv_int (x.2.1 + n) (x.2.2 + n))) st S | none => none) = some r) : xv_T p l e R s m args below meth c D t A as0 sb nL Q pc L st S r := by
  cases hl : xv_ld 0 L i with
  | none => rw [hl] at hr; cases hr
  | some v =>
    rw [hl] at hr
    obtain ⟨e1, e2⟩ := xv_ld_eq hl
    obtain ⟨h1, h2, h3⟩ := hk _ _ _ _ _ hr
    refine ⟨h1, h2, fun hc hz ls vst H locs ws hR => ?_⟩
    obtain ⟨⟨h0, lv, h4, h5⟩, hfa, hrest⟩ := hR
    obtain ⟨x, hm, hv⟩ := h5 i v e1 (Or.inl e2)
    obtain ⟨y, rfl, y1, y2⟩ := hv.1 e2
    obtain ⟨j, hj⟩ := List.mem_iff_getElem?.mp hm
    have hi : i < nL := by rw [← h0]; exact (List.getElem?_eq_some_iff.mp e1).1
    refine lv_iinc C.1 C.2.1 hd h4 hj rfl hi rfl (fun ls' hls' => ?_)
    refine h3 hc hz ls' vst H locs ws ⟨xv_lm.st1 hi ?_ h0 h5 hls', hfa, hrest⟩
    refine xv_hv.i (xv_int_ok (z := y.toInt + n) (by omega) (by omega) ?_)
    rw [Int32.toInt_add, Int32.toInt_ofInt]
    exact Int.add_bmod_bmod
end XV1
