/-! new T[n][m] in one instruction: the outer row, then row by row, each put into its place as soon as it is made -/
/-- the outer row when i of its rows are made -/
def xm_out (cO : ClassId) (N h0 i : Nat) : Cell := arrV cO N (fun j => va_rf (if j < i then some (h0 + 1 + j) else none))
def xm_in (cI : ClassId) (M : Nat) (dv : Value) : Cell := { cls := cI, slots := Array.replicate M dv, vm := .none }
/-- the state when i rows are made -/
def xm_st (s : State) (cO cI : ClassId) (N M : Nat) (dv : Value) : Nat → State
  | 0 => s.pushCell (xm_out cO N s.heap.size 0)
  | i + 1 => ((xm_st s cO cI N M dv i).pushCell (xm_in cI M dv)).setCell s.heap.size (xm_out cO N s.heap.size (i + 1))
theorem xm_out_next (cO : ClassId) (N h0 i : Nat) : (xm_out cO N h0 i).setSlot i (.ref (h0 + 1 + i)) = xm_out cO N h0 (i + 1) := by
  unfold xm_out
  rw [arrV_store]
  refine congrArg (arrV cO N) (funext fun j => ?_)
  by_cases e : j = i
  · subst e; simp [updV, va_rf]
  · by_cases h : j < i
    · simp [updV, e, h, Nat.lt_succ_of_lt h]
    · simp [updV, e, h, show ¬ j < i + 1 by omega]
theorem xm_size (s : State) (cO cI : ClassId) (N M : Nat) (dv : Value) : ∀ i, (xm_st s cO cI N M dv i).heap.size = s.heap.size + 1 + i
  | 0 => size_pushCell _ _
  | i + 1 => by
    have := xm_size s cO cI N M dv i
    simp only [xm_st]
    rw [size_setCell, size_pushCell, this]
    omega
theorem xm_head (s : State) (cO cI : ClassId) (N M : Nat) (dv : Value) (i : Nat) : (xm_st s cO cI N M dv i).heap[s.heap.size]? = some (xm_out cO N s.heap.size i) := by
  cases i with
  | zero => exact State.heap_pushCell_size _ _
  | succ i =>
    have h := xm_size s cO cI N M dv i
    have hlt : s.heap.size < ((xm_st s cO cI N M dv i).pushCell (xm_in cI M dv)).heap.size := by rw [size_pushCell, h]; omega
    exact heapAt_setCell_self _ hlt
theorem xm_vm (s : State) (cO cI : ClassId) (N M : Nat) (dv : Value) : ∀ i, (xm_st s cO cI N M dv i).vm = s.vm
  | 0 => rfl
  | i + 1 => xm_vm s cO cI N M dv i
theorem xm_used (s : State) (cO cI : ClassId) (N M : Nat) (dv : Value) : ∀ i, (xm_st s cO cI N M dv i).slotsUsed = s.slotsUsed + N + i * M
  | 0 => by
    show s.slotsUsed + (xm_out cO N s.heap.size 0).slots.size = _
    rw [xm_out, arrV_size]; omega
  | i + 1 => by
    have := xm_used s cO cI N M dv i
    show (xm_st s cO cI N M dv i).slotsUsed + (xm_in cI M dv).slots.size = _
    rw [this, Nat.succ_mul]
    simp [xm_in]; omega
theorem xm_top (s : State) (f : JFrame) (cO cI : ClassId) (N M : Nat) (dv : Value) : ∀ i, xm_st (s.setTop f) cO cI N M dv i = (xm_st s cO cI N M dv i).setTop f
  | 0 => rfl
  | i + 1 => by
    have := xm_top s f cO cI N M dv i
    simp only [xm_st, this]
    rfl
theorem xm_old (s : State) (cO cI : ClassId) (N M : Nat) (dv : Value) {a : Nat} (ha : a < s.heap.size) : ∀ i, (xm_st s cO cI N M dv i).heap[a]? = s.heap[a]?
  | 0 => State.heap_pushCell_of_lt _ _ ha
  | i + 1 => by
    have h := xm_size s cO cI N M dv i
    have hlt : a < (xm_st s cO cI N M dv i).heap.size := by omega
    show (((xm_st s cO cI N M dv i).pushCell (xm_in cI M dv)).setCell s.heap.size _).heap[a]? = _
    rw [heapAt_setCell_ne _ (show s.heap.size ≠ a by omega), State.heap_pushCell_of_lt _ _ hlt]
    exact xm_old s cO cI N M dv ha i
theorem xm_row (s : State) (cO cI : ClassId) (N M : Nat) (dv : Value) : ∀ i j, j < i → (xm_st s cO cI N M dv i).heap[s.heap.size + 1 + j]? = some (xm_in cI M dv)
  | 0, _, h => absurd h (Nat.not_lt_zero _)
  | i + 1, j, h => by
    have hz := xm_size s cO cI N M dv i
    show (((xm_st s cO cI N M dv i).pushCell (xm_in cI M dv)).setCell s.heap.size _).heap[s.heap.size + 1 + j]? = _
    rw [heapAt_setCell_ne _ (show s.heap.size ≠ s.heap.size + 1 + j by omega)]
    by_cases hj : j < i
    · rw [State.heap_pushCell_of_lt _ _ (show s.heap.size + 1 + j < (xm_st s cO cI N M dv i).heap.size by omega)]
      exact xm_row s cO cI N M dv i j hj
    · have e : s.heap.size + 1 + j = (xm_st s cO cI N M dv i).heap.size := by omega
      rw [e]
      exact State.heap_pushCell_size _ _
section XM0
variable {E : CtlPost} {e : Env} {d : Bool} {acts : List Action} {s : State}
theorem xm_new {cO comp : ClassId} {k : Class} {ty : FieldType} {len : Nat} {z : Value} (hk : s.vm.classes[cO]? = some k) (hkind : k.kind = .array comp ty) (hl : ¬ len > e.platform.arrayLengthLimit) (hh : ¬ len * componentBytes ty > e.platform.maxHeapBytes) (hf : fits ty z = true) (hz : z.isDefault = true)
    (h1 : s.heap.size < e.platform.maxCells) (h2 : s.slotsUsed + len ≤ e.platform.maxSlots) {Q : Addr → Pre} (hq : Q s.heap.size d acts (s.pushCell { cls := cO, slots := Array.replicate len z, vm := .none })) : wp (Jvm.newArray cO len z) Q E e d acts s := by
  have a1 : ∀ i v, (Array.replicate len z)[i]? = some v → s.fitsSlot cO .none i v = true := fun i v hv => by
    rw [Array.getElem?_replicate] at hv
    by_cases hi : i < len
    · rw [if_pos hi] at hv
      cases hv
      simp [State.fitsSlot, State.slotType?, hk, hkind, hf]
    · rw [if_neg hi] at hv; cases hv
  have a2 : allocActs (Array.replicate len z) s.heap.size acts = acts := by
    have : ((Array.replicate len z).all (·.isDefault)) = true := by
      rw [Array.all_replicate]; split <;> simp [hz]
    unfold allocActs
    rw [if_pos this]
  simp only [Jvm.newArray, Jvm.arrayFits, wp_bind', W.ask, W.ite, hl, if_false, wp_pure', W.theClass, hk, hkind, hh, W.alloc, W.stop, Option.some.injEq, exists_eq_left', Array.size_replicate, a2]
  rw [if_neg (by omega)]
  exact ⟨h1, h2, a1, hq⟩
theorem xm_make1 {cI comp : ClassId} {k : Class} {ty : FieldType} {m : Int32} (hk : s.vm.classes[cI]? = some k) (hkind : k.kind = .array comp ty) (hm : ¬ m < 0) (hl : ¬ m.toNatClampNeg > e.platform.arrayLengthLimit) (hh : ¬ m.toNatClampNeg * componentBytes ty > e.platform.maxHeapBytes) (hf : fits ty (defaultValue ty) = true) (hz : (defaultValue ty).isDefault = true)
    (h1 : s.heap.size < e.platform.maxCells) (h2 : s.slotsUsed + m.toNatClampNeg ≤ e.platform.maxSlots) {Q : Addr → Pre} (hq : Q s.heap.size d acts (s.pushCell (xm_in cI m.toNatClampNeg (defaultValue ty)))) : wp (multianewarray.make cI [m]) Q E e d acts s := by
  rw [multianewarray.make]
  simp only [wp_bind', W.ite, hm, if_false, wp_pure', W.theClass, hk, hkind, Option.some.injEq, exists_eq_left']
  exact xm_new hk hkind hl hh hf hz h1 h2 hq
theorem xm_make2 {cO cI comp : ClassId} {k kI : Class} {ty : FieldType} {n m : Int32} (hk : s.vm.classes[cO]? = some k) (hkind : k.kind = .array cI (.array ty)) (hkI : s.vm.classes[cI]? = some kI) (hkindI : kI.kind = .array comp ty) (hn : ¬ n < 0) (hm : ¬ m < 0)
    (hl1 : ¬ n.toNatClampNeg > e.platform.arrayLengthLimit) (hh1 : ¬ n.toNatClampNeg * componentBytes (.array ty) > e.platform.maxHeapBytes) (hl2 : ¬ m.toNatClampNeg > e.platform.arrayLengthLimit) (hh2 : ¬ m.toNatClampNeg * componentBytes ty > e.platform.maxHeapBytes)
    (hf : fits ty (defaultValue ty) = true) (hz : (defaultValue ty).isDefault = true) (hc : s.heap.size + 1 + n.toNatClampNeg ≤ e.platform.maxCells) (hs : s.slotsUsed + n.toNatClampNeg + n.toNatClampNeg * m.toNatClampNeg ≤ e.platform.maxSlots)
    {Q : Addr → Pre} (hq : ∀ d' acts', Q s.heap.size d' acts' (xm_st s cO cI n.toNatClampNeg m.toNatClampNeg (defaultValue ty) n.toNatClampNeg)) : wp (multianewarray.make cO [n, m]) Q E e d acts s := by
  generalize hN : n.toNatClampNeg = N at *
  generalize hM : m.toNatClampNeg = M at *
  have hfind : ([m].find? (· < 0)) = none := by simp [hm]
  rw [multianewarray.make]
  simp only [wp_bind', W.ite, hn, if_false, wp_pure', W.theClass, hk, hkind, Option.some.injEq, exists_eq_left', hN]
  have hNM : 0 ≤ N * M := Nat.zero_le _
  refine xm_new hk hkind hl1 hh1 rfl rfl (by omega) (by omega) ?_
  have hstart : s.pushCell ({ cls := cO, slots := Array.replicate N .null, vm := .none } : Cell) = xm_st s cO cI N M (defaultValue ty) 0 := by
    show _ = s.pushCell _
    refine congrArg s.pushCell ?_
    rw [arrV_new, xm_out]
    refine congrArg (arrV cO N) (funext fun j => ?_)
    simp [va_rf]
  rw [hstart]
  simp only [hfind]
  rw [ite_self, wp_bind', Std.Legacy.Range.forIn_eq_forIn_range']
  have hsz : ([:N] : Std.Legacy.Range).size = N := by simp [Std.Legacy.Range.size]
  rw [hsz]
  show wp (forIn (List.range' 0 N 1) PUnit.unit _) _ E e d acts _
  refine wp_forIn_inv (fun rest s' => ∃ i, i ≤ N ∧ rest = List.range' i (N - i) ∧ s' = xm_st s cO cI N M (defaultValue ty) i) _ _ ⟨0, Nat.zero_le _, rfl, rfl⟩ ?_ ?_
  · rintro x rest s' d' acts' Q' ⟨i, hi, hl, rfl⟩ hnext
    obtain ⟨w, hw⟩ : ∃ w, N - i = w + 1 := by
      cases hw : N - i with
      | zero => rw [hw] at hl; simp at hl
      | succ w => exact ⟨w, rfl⟩
    rw [hw, List.range'_succ] at hl
    obtain ⟨rfl, hrest⟩ := List.cons.inj hl
    have z1 := xm_size s cO cI N M (defaultValue ty) x
    have z2 := xm_head s cO cI N M (defaultValue ty) x
    have z3 := xm_vm s cO cI N M (defaultValue ty) x
    have z4 := xm_used s cO cI N M (defaultValue ty) x
    have hmul : x * M + M ≤ N * M := by
      have := Nat.mul_le_mul_right M (show x + 1 ≤ N by omega)
      rw [Nat.succ_mul] at this
      exact this
    simp only [wp_bind']
    refine xm_make1 (by rw [z3]; exact hkI) hkindI hm (by rw [hM]; exact hl2) (by rw [hM]; exact hh2) hf hz (by rw [z1]; omega) (by rw [z4, hM]; omega) ?_
    have hlt : s.heap.size < (xm_st s cO cI N M (defaultValue ty) x).heap.size := by rw [z1]; omega
    simp only [wp_bind', W.writeLoc, wp_pure', hM]
    refine ⟨xm_out cO N s.heap.size x, by rw [State.heap_pushCell_of_lt _ _ hlt]; exact z2, (fun q => by cases q), by rw [xm_out, arrV_size]; omega, ?_, hnext _ _ _ ⟨x + 1, by omega, by rw [hrest, show N - (x + 1) = w by omega], ?_⟩⟩
    · show State.fitsSlot _ cO .none x _ = true
      simp [State.fitsSlot, State.slotType?, z3, hk, hkind]
      rfl
    · show _ = ((xm_st s cO cI N M (defaultValue ty) x).pushCell _).setCell s.heap.size _
      rw [← xm_out_next, z1]
  · rintro s' d' acts' ⟨i, hi, hl, rfl⟩
    have hiN : i = N := by
      cases hw : N - i with
      | zero => omega
      | succ w => rw [hw, List.range'_succ] at hl; cases hl
    subst hiN
    simp only [wp_pure']
    exact hq _ _
end XM0
theorem xm_over {args : Array Value} {s : State} {ty : FieldType} (h : (Cond.arrayOver (.array ty)).before args s = true) : xv_AOA ty s := by
  have h : (Cond.arrayOver (.array ty)).holds args s none s [] = true := h
  simp only [Cond.holds, Cond.value, beq_iff_eq] at h
  cases hc : s.vm.findClass (FieldType.array ty).toString with
  | none => simp [hc] at h
  | some cI =>
    simp only [hc, Option.bind_some, Option.bind_eq_some_iff, Option.map_eq_some_iff] at h
    obtain ⟨cO, hi, k, hk, hb⟩ := h
    obtain ⟨hlt, hp, -⟩ := Array.findIdx?_eq_some_iff_getElem.mp hi
    rw [(Array.getElem?_eq_some_iff.mp hk).2] at hp
    cases hkind : k.kind with
    | array comp ty2 =>
      rw [hkind] at hb hp
      simp at hb hp
      exact ⟨cI, cO, k, hc, hk, by rw [hkind, hp, hb.1], hb.2⟩
    | _ => rw [hkind] at hb; simp at hb
section XM1
variable {p : Program} {l : Launch} {e : Env} {R : Room} {s : State} {m : MethodId} {args : Array Value} {below : List Frame} {meth : Method} {c : Code} {T : State} {locs : List Loc} {cells slots : Nat}
theorem xm_stand (X : Stand p l e R s m args below meth c T locs cells slots) (hb : s.heap.size ≤ T.heap.size) (cO cI : ClassId) (N M : Nat) (dv : Value) : ∀ i, Stand p l e R s m args below meth c (xm_st T cO cI N M dv i) (locs ++ (List.range i).map fun j => ⟨T.heap.size, j⟩) (cells + 1 + i) (slots + N + i * M)
  | 0 => by
    have h := X.pushed (xm_out cO N T.heap.size 0)
    rw [show (xm_out cO N T.heap.size 0).slots.size = N by rw [xm_out, arrV_size]] at h
    simpa [xm_st] using h
  | i + 1 => by
    have Xi := xm_stand X hb cO cI N M dv i
    have z1 := xm_size T cO cI N M dv i
    have hcell : ((xm_st T cO cI N M dv i).pushCell (xm_in cI M dv)).heap[T.heap.size]? = some (xm_out cO N T.heap.size i) := by
      rw [State.heap_pushCell_of_lt _ _ (show T.heap.size < (xm_st T cO cI N M dv i).heap.size by rw [z1]; omega)]; exact xm_head T cO cI N M dv i
    have h := (Xi.pushed (xm_in cI M dv)).stored hcell i (.ref (T.heap.size + 1 + i))
    rw [show (xm_in cI M dv).slots.size = M by simp [xm_in], xm_out_next] at h
    rw [show slots + N + (i + 1) * M = slots + N + i * M + M by rw [Nat.succ_mul]; omega, List.range_succ, List.map_append, ← List.append_assoc]
    exact h
theorem xm_go (X : Stand p l e R s m args below meth c T locs cells slots) (hexec : p.tables.exec = Jvm.exec) {own : String} {index : Nat} {ty : FieldType} (hown : s.vm.findClass own = some m.cls) (hcl : (Cond.classLink own index ("[" ++ (FieldType.array ty).toString)).before args s = true) (hov : xv_AOA ty s) (har : (Cond.arrayClass ty).before args s = true)
    {g : JFrame} (hg : g.method = m) (hdg : decode c.code g.pc = .ok (.multianewarray index 2, 4)) {n k : Int32} {rest : List Value} (hstack : g.stack = .int k :: .int n :: rest) (hn : ¬ n < 0) (hk : ¬ k < 0) (hb1 : n.toNatClampNeg * 4 ≤ 536870912) (hb2 : k.toNatClampNeg * componentBytes ty ≤ 536870912) (hb3 : k.toNatClampNeg ≤ 536870912)
    (hf : fits ty (defaultValue ty) = true) (hz : (defaultValue ty).isDefault = true) (hcells : cells + (1 + n.toNatClampNeg) ≤ R.cells) (hslots : slots + (n.toNatClampNeg + n.toNatClampNeg * k.toNatClampNeg) ≤ R.slots) (hsz : s.heap.size ≤ T.heap.size) :
    ∃ (vm₁ : Vm) (cO cI : ClassId), s.vm.findClass ("[" ++ (FieldType.array ty).toString) = some cO ∧ s.vm.findClass (FieldType.array ty).toString = some cI ∧ Stand p l e R s m args below meth c (xm_st (T.setVm vm₁) cO cI n.toNatClampNeg k.toNatClampNeg (defaultValue ty) n.toNatClampNeg) locs (cells + 1 + n.toNatClampNeg) (slots + n.toNatClampNeg + n.toNatClampNeg * k.toNatClampNeg) ∧
      ∀ target, Steps p.tables e below ((xm_st (T.setVm vm₁) cO cI n.toNatClampNeg k.toNatClampNeg (defaultValue ty) n.toNatClampNeg).setTop { g with pc := g.pc + 4, stack := .ref T.heap.size :: rest }) target → Steps p.tables e below (T.setTop g) target := by
  subst hg
  have hpl : e.platform.magicAccessors = ({} : Platform).magicAccessors := by rw [X.admits.platform]
  obtain ⟨cI, cO, kO, fI, hkO, hkindO, fO⟩ := hov
  obtain ⟨cI', kI, comp, fI', hkI, hkindI⟩ := Cond.arrayClass_spec har
  cases Option.some.inj (fI'.symm.trans fI)
  obtain ⟨c0, f0, hlink⟩ := Cond.classLink_spec hown hcl e.platform hpl
  cases Option.some.inj (fO.symm.trans f0)
  obtain ⟨hg1, hwarm, hready⟩ := State.classEntry (e := e) X.warmed hlink
  generalize T.vm.noted g.method.cls index (.cls cO) = vm₁ at hg1 hwarm hready
  obtain ⟨kO1, hkO1, eO⟩ := hwarm.alike.2.2 _ _ hkO
  obtain ⟨kI1, hkI1, eI⟩ := hwarm.alike.2.2 _ _ hkI
  have X1 := X.noted hwarm
  obtain ⟨hr1, hr2⟩ := X.roomAbove hcells hslots
  have XF := xm_stand X1 hsz cO cI n.toNatClampNeg k.toNatClampNeg (defaultValue ty) n.toNatClampNeg
  have XG : Stand p l e R s g.method args below meth c (xm_st (T.setVm vm₁) cO cI n.toNatClampNeg k.toNatClampNeg (defaultValue ty) n.toNatClampNeg) locs (cells + 1 + n.toNatClampNeg) (slots + n.toNatClampNeg + n.toNatClampNeg * k.toNatClampNeg) := by
    refine Stand.forget XF (fun q hq => ?_)
    obtain ⟨j, -, rfl⟩ := List.mem_map.mp hq
    exact hsz
  refine ⟨vm₁, cO, cI, fO, fI, XG, fun target hrest => ?_⟩
  have hl1 : ¬ n.toNatClampNeg > e.platform.arrayLengthLimit := by rw [Launch.admits_arrayLengthLimit X.admits]; omega
  have hh1 : ¬ n.toNatClampNeg * componentBytes (.array ty) > e.platform.maxHeapBytes := by
    rw [Launch.admits_maxHeapBytes X.admits]; show ¬ n.toNatClampNeg * 4 > 536870912; omega
  have hl2 : ¬ k.toNatClampNeg > e.platform.arrayLengthLimit := by rw [Launch.admits_arrayLengthLimit X.admits]; omega
  have hh2 : ¬ k.toNatClampNeg * componentBytes ty > e.platform.maxHeapBytes := by rw [Launch.admits_maxHeapBytes X.admits]; omega
  jvm_step X.here [hexec, hdg]
  simp only [multianewarray.sem, wp_bind', W.resolveClassAt_links (State.method?_setTop g X.here.top) hg1]
  rw [W.popN, if_neg (by decide)]
  refine ⟨g, State.topJava?_setTop' (s := T.setVm vm₁) g X.here.top, [.int n, .int k], rest, rfl, hstack, ?_⟩
  simp only [List.mapM_cons, List.mapM_nil, wp_bind', wp_pure']
  refine xm_make2 (k := kO1) (kI := kI1) (cI := cI) (comp := comp) (ty := ty) hkO1 (by rw [eO]; exact hkindO) hkI1 (by rw [eI]; exact hkindI) hn hk hl1 hh1 hl2 hh2 hf hz (by show T.heap.size + 1 + _ ≤ _; omega) (by show T.slotsUsed + _ + _ ≤ _; omega) (fun d' acts' => ?_)
  have eS : ((T.setTop g).setVm vm₁).setTop { g with stack := rest } = (T.setVm vm₁).setTop { g with stack := rest } := by
    show ((T.setVm vm₁).setTop g).setTop _ = _
    rw [State.setTop_setTop]
  rw [eS, xm_top]
  simp only [wp_bind', W.mark, W.pushRef, State.topJava?_setTop' _ XG.here.top, Option.some.injEq, exists_eq_left', State.setTop_setTop, State.heap_setTop]
  intro acts
  simp [jvm, XG.here.top]
  exact hrest
end XM1
