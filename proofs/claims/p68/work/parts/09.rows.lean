/-! new objects; rows -/
def xv_zv (v : xv_V) : Value := if v.1 = 0 then .int 0 else if v.1 = 1 then .long 0 else .null
noncomputable def xv_newB (q : vw_C) (n : Nat × List (List xv_V)) : Bool := decide (n.1 = q.2.2) && (decide (n.2.length ≤ 6) && (decide (n.2.flatten.length = n.1) && (n.2.flatten.all (fun v => decide (v = (0, 0, 0) ∨ v = (1, 0, 0) ∨ v = (3, 0, 0))) && ((List.range 48).all (fun b => decide (xv_get 8 n.2 b = n.2.flatten[b]?)) &&
  (List.range q.2.2).all (fun j => match parseFieldDescriptor (q.2.1 j).2.2.1 with
    | some ty => decide (defaultValue ty = (n.2.flatten.map xv_zv).getD j .null)
    | none => false)))))
set_option maxRecDepth 100000 in
theorem xv_new_all : (List.range 13).all (fun a => match vwCl[a]?, xv_news[a]? with
  | some q, some n => xv_newB q n
  | _, _ => false) = true := by decide +kernel
theorem xv_zv_ok {sb : Nat} {as : List Nat} {v : xv_V} (h : v = (0, 0, 0) ∨ v = (1, 0, 0) ∨ v = (3, 0, 0)) : xv_hv sb as v (xv_zv v) := by
  rcases h with rfl | rfl | rfl
  · exact xv_zi
  · exact xv_zl
  · exact xv_zn
theorem xv_new_ok {a : Nat} {q : vw_C} {n : Nat × List (List xv_V)} (hq : vwCl[a]? = some q) (hn : xv_news[a]? = some n) : n.1 = q.2.2 ∧ ∃ (ty : Nat → FieldType) (fs : List Value), (∀ k, k < q.2.2 → parseFieldDescriptor (q.2.1 k).2.2.1 = some (ty k)) ∧ (∀ j, j < q.2.2 → defaultValue (ty j) = vp_V fs j) ∧ fs.length = n.1 ∧
    ∀ (sb : Nat) (as : List Nat) (b : Nat) (v : xv_V), xv_get 8 n.2 b = some v → ∃ y, fs[b]? = some y ∧ xv_hv sb as v y := by
  have ha : a < 13 := (List.getElem?_eq_some_iff.mp hq).1
  have h := List.all_eq_true.mp xv_new_all a (List.mem_range.mpr ha)
  rw [hq, hn] at h
  dsimp only at h
  unfold xv_newB at h
  simp only [Bool.and_eq_true, decide_eq_true_eq] at h
  obtain ⟨h1, h2, h3, h4, h5, h6⟩ := h
  obtain ⟨-, ⟨ty, hty⟩, -⟩ := xv_cls a q hq
  refine ⟨h1, ty, n.2.flatten.map xv_zv, hty, fun j hj => ?_, by rw [List.length_map]; exact h3, fun sb as b v hb => ?_⟩
  · have := List.all_eq_true.mp h6 j (List.mem_range.mpr hj)
    rw [hty j hj] at this
    exact of_decide_eq_true this
  · have hlt : b < 48 := by
      rw [xv_get_eq] at hb
      obtain ⟨l, hl, -⟩ := Option.bind_eq_some_iff.mp hb
      have := (List.getElem?_eq_some_iff.mp hl).1
      omega
    have e := of_decide_eq_true (List.all_eq_true.mp h5 b (List.mem_range.mpr hlt))
    rw [e] at hb
    refine ⟨xv_zv v, by rw [List.getElem?_map, hb]; rfl, xv_zv_ok ?_⟩
    exact of_decide_eq_true (List.all_eq_true.mp h4 v (List.mem_of_getElem? hb))
theorem xv_hc.nobj {t : Nat → ClassId} {sb : Nat} {as : List Nat} {k : xv_C} {fs : List Value} (h0 : k.1 = 0) (hl : fs.length = k.2.2.1) (hf : ∀ (b : Nat) (v : xv_V), xv_get 8 k.2.2.2 b = some v → ∃ y, fs[b]? = some y ∧ xv_hv sb as v y) : xv_hc t sb as k (.inr (k.2.1, fs)) :=
  ⟨fun _ => ⟨fs, rfl, hl, hf⟩, fun q => (by omega), fun q => (by omega), fun q => (by omega), fun q => absurd h0 q⟩
theorem xv_hc.irow {t : Nat → ClassId} {sb : Nat} {as : List Nat} {k : xv_C} {f : Nat → Int32} (h0 : k.1 = 1 ∨ k.1 = 2 ∨ k.1 = 3) (hl : k.2.1 ≤ 65536) (hf : ∀ i : Nat, i < k.2.1 → ∀ v : xv_V, xv_get 8 k.2.2.2 (i % k.2.2.1) = some v → xv_hv sb as v (.int (f i))) : xv_hc t sb as k (.inl (t k.1, k.2.1, .inl f)) :=
  ⟨fun q => (by omega), fun _ => ⟨f, rfl, hf⟩, fun q => (by omega), fun q => (by omega), fun _ => hl⟩
theorem xv_hc.lrow {t : Nat → ClassId} {sb : Nat} {as : List Nat} {k : xv_C} {f : Nat → Int64} (h0 : k.1 = 4) (hl : k.2.1 ≤ 65536) (hf : ∀ i : Nat, i < k.2.1 → ∀ v : xv_V, xv_get 8 k.2.2.2 (i % k.2.2.1) = some v → xv_hv sb as v (.long (f i))) : xv_hc t sb as k (.inl (t k.1, k.2.1, .inr (.inl f))) :=
  ⟨fun q => (by omega), fun q => (by omega), fun _ => ⟨f, rfl, hf⟩, fun q => (by omega), fun _ => hl⟩
theorem xv_hc.arow {t : Nat → ClassId} {sb : Nat} {as : List Nat} {k : xv_C} {f : Nat → Option Nat} (h0 : k.1 = 5 ∨ k.1 = 6 ∨ k.1 = 7) (hl : k.2.1 ≤ 65536) (hf : ∀ i : Nat, i < k.2.1 → ∀ v : xv_V, xv_get 8 k.2.2.2 (i % k.2.2.1) = some v → xv_hv sb as v (va_rf (f i))) : xv_hc t sb as k (.inl (t k.1, k.2.1, .inr (.inr (.inr (.inr f))))) :=
  ⟨fun q => (by omega), fun q => (by omega), fun q => (by omega), fun _ => ⟨f, rfl, hf⟩, fun _ => hl⟩
/-- a number that stands for itself -/
theorem xv_idx {i : xv_V} {x : Int32} (h1 : i.2.2 ≤ i.2.1) (h2 : 0 ≤ i.2.1) (x1 : i.2.1 ≤ x.toInt) (x2 : x.toInt ≤ i.2.2) : x.toInt = i.2.1 ∧ x.toNatClampNeg = i.2.1.toNat ∧ ¬ x < 0 := by
  have e : x.toInt = i.2.1 := by omega
  refine ⟨e, ?_, fun h => ?_⟩
  · show x.toInt.toNat = _
    rw [e]
  · have := Int32.lt_iff_toInt_lt.mp h
    rw [e] at this
    have h0 : (0 : Int32).toInt = 0 := by decide
    omega
section XV4
variable {p : Program} {l : Launch} {e : Env} {R : Room} {s : State} {m : MethodId} {args : Array Value} {below : List Frame} {meth : Method} {c : Code}
variable {cc : ByteArray} {own : String} {nL : Nat} {D : va_G} {t : Nat → ClassId} {A : Nat → Prop} {as0 : List Nat} {sb : Nat} {scr : List xv_V} {Q : xv_R → State → Prop} {k : xv_K} {pc : Nat} {L st : List xv_V} {S : xv_S} {r : xv_R}
theorem xs_new {index a : Nat} {q : vw_C} (C : xv_Cx p s m args c cc own nL D t A sb scr) (hk : xv_G p l e R s m args below meth c D t A as0 sb nL Q k) (hd : decode cc pc = .ok (.new index, 3)) (hq : vwCl[a]? = some q) (hw : Cond.classLink own index q.1 ∈ xv_tb)
    (hr : (match xv_nth xv_news a with | some q => k (pc + 3) L ((2, Int.ofNat S.2.1, 0) :: st) (xv_upd 14 S.1 S.2.1 (0, a, q.1, q.2), S.2.1 + 1, S.2.2.1 + 1, S.2.2.2 + q.1) | none => none) = some r) : xv_T p l e R s m args below meth c D t A as0 sb nL Q pc L st S r := by
  rw [xv_nth_eq] at hr
  cases hn : xv_news[a]? with
  | none => rw [hn] at hr; cases hr
  | some n =>
    rw [hn] at hr
    obtain ⟨h1, h2, h3⟩ := hk _ _ _ _ _ hr
    dsimp only at h1 h2 h3
    obtain ⟨e1, ty, fs, hty, hfs, hlen, hf⟩ := xv_new_ok hq hn
    refine ⟨by omega, by omega, fun hcc hz ls vst H locs ws hR => ?_⟩
    have hcl := xv_cls a q hq
    have hH := hR.2.2.2.2.2.1
    refine va_new (C := q.1) (T := q.2.1) (N := q.2.2) C.1 C.2.1 C.2.2.2.2.1 hcl.1 ty hty C.2.2.2.1 (C.2.2.2.2.1 _ hw) (C.2.2.2.2.1 _ hcl.2.2.2.1) (C.2.2.2.2.1 _ hcl.2.2.2.2) C.2.2.2.2.2.1 hR.2.2.1 hR.2.2.2.1 hR.2.2.2.2.1 C.2.2.2.2.2.2.1 hq hfs (by omega) (by omega) hd (fun ad H1 hP1 hD1 hS1 => ?_)
    rw [e1] at h3
    have hm : (ws ++ [(ad, (Sum.inr (a, fs) : va_E))]).map Prod.fst = ws.map Prod.fst ++ [ad] := by rw [List.map_append]; rfl
    refine h3 hcc hz ls _ H1 locs _ (hR.new ⟨[ad], hm⟩ (xv_sm.cons ?_ (hR.2.1.more ?_)) hP1 hD1 hS1 (hH.push ?_))
    · rw [hm]
      apply xv_hv.r
      rw [← hH.1, List.getElem?_append_right (by simp), List.length_map, Nat.sub_self]; rfl
    · rw [hm]; exact xv_pre_app
    · exact xv_hc.nobj (k := (0, a, q.2.2, n.2)) rfl (by rw [hlen, e1]) (hf sb _)
/-- a new row, of one class of rows -/
theorem xs_newrow {pc' N : Nat} {x : xv_V} {z : List xv_V} {row : xv_C} (hk : xv_G p l e R s m args below meth c D t A as0 sb nL Q k) (hst : st = x :: z) (hx0 : x.1 = 0) (hone : xv_isOne x = true) (hr : k pc' L ((2, Int.ofNat S.2.1, 0) :: z) (xv_upd 14 S.1 S.2.1 row, S.2.1 + 1, S.2.2.1 + 1, S.2.2.2 + x.2.1.toNat) = some r)
    (hs : ∀ (ls : Array Slot) (vst : List Value) (H : Heap) (locs : List Loc) (ws : va_W) (Z : State → Prop) (i : Int32), va_P D vwCl ws H → va_D A ws → va_S A s.heap H locs → i.toNatClampNeg = x.2.1.toNat → ¬ i < 0 → S.2.2.1 + 1 ≤ R.cells → S.2.2.2 + x.2.1.toNat ≤ R.slots →
      (∀ (ad : Nat) (en : va_E) (H1 : Heap), (∀ as : List Nat, xv_hc t sb as row en) → va_P D vwCl (ws ++ [(ad, en)]) H1 → va_D A (ws ++ [(ad, en)]) → va_S A s.heap H1 locs → W p l e R s m args below meth c H1 locs (S.2.2.1 + 1) (S.2.2.2 + x.2.1.toNat) Z (F0 m pc' ls (.ref ad :: vst))) → W p l e R s m args below meth c H locs S.2.2.1 S.2.2.2 Z (F0 m pc ls (.int i :: vst))) : xv_T p l e R s m args below meth c D t A as0 sb nL Q pc L st S r := by
  subst hst
  obtain ⟨h1, h2, h3⟩ := hk _ _ _ _ _ hr
  dsimp only at h1 h2 h3
  obtain ⟨o1, o2⟩ := xv_isOne_eq hone
  refine ⟨by omega, by omega, fun hcc hz ls vst H locs ws hR => ?_⟩
  obtain ⟨y0, vst, rfl, hy, hst⟩ := hR.2.1.un
  obtain ⟨i, rfl, i1, i2⟩ := hy.1 hx0
  have hH := hR.2.2.2.2.2.1
  obtain ⟨e1, e2, e3⟩ := xv_idx o1 o2 i1 i2
  refine hs ls vst H locs ws _ i hR.2.2.1 hR.2.2.2.1 hR.2.2.2.2.1 e2 e3 (by omega) (by omega) (fun ad en H1 hen hP1 hD1 hS1 => ?_)
  have hm : (ws ++ [(ad, en)]).map Prod.fst = ws.map Prod.fst ++ [ad] := by rw [List.map_append]; rfl
  refine h3 hcc hz ls _ H1 locs _ (hR.new ⟨[ad], hm⟩ (xv_sm.cons ?_ (hst.more ?_)) hP1 hD1 hS1 (hH.push (hen _)))
  · rw [hm]
    apply xv_hv.r
    rw [← hH.1, List.getElem?_append_right (by simp), List.length_map, Nat.sub_self]; rfl
  · rw [hm]; exact xv_pre_app
theorem xv_ty_same {tys : List (ClassId × FieldType)} {cA cB : ClassId} {ty : FieldType} {j : Nat} (hty : ∀ C, ty ≠ .object C) (hK : va_K D vwCl tys s) (hj : tys[j]? = some (cB, ty)) (hK2 : va_K D vwCl (tys ++ [(cA, ty)]) s) : cA = cB := by
  have h1 := (hK.2 j _ hj).2
  have h2 := (hK2.2 tys.length (cA, ty) (by rw [List.getElem?_append_right (Nat.le_refl _), Nat.sub_self]; rfl)).2
  cases ty with
  | object C => exact absurd rfl (hty C)
  | _ => exact Option.some.inj (h2.symm.trans h1)
theorem xv_ty_sameO {tys : List (ClassId × FieldType)} {cA cB : ClassId} {E : String} {j : Nat} (hK : va_K D vwCl tys s) (hj : tys[j]? = some (cB, .object E)) (hK2 : va_K D vwCl (tys ++ [(cA, .object E)]) s) : cA = cB := by
  obtain ⟨_, _, -, -, -, h1⟩ := (hK.2 j _ hj).2
  obtain ⟨_, _, -, -, -, h2⟩ := (hK2.2 tys.length (cA, .object E) (by rw [List.getElem?_append_right (Nat.le_refl _), Nat.sub_self]; rfl)).2
  exact Option.some.inj (h2.symm.trans h1)
theorem xs_newarray {ty : ArrayType} (C : xv_Cx p s m args c cc own nL D t A sb scr) (hk : xv_G p l e R s m args below meth c D t A as0 sb nL Q k) 
    (hr : (match st with
    | x :: r => bif Nat.beq x.1 0 && (xv_isOne x && xv_le x.2.1 65536) then
        (match ty with
        | .int => k (pc + 2) L ((2, Int.ofNat S.2.1, 0) :: r) (xv_upd 14 S.1 S.2.1 (xv_row 1 x.2.1.toNat (0, 0, 0)), S.2.1 + 1, S.2.2.1 + 1, S.2.2.2 + x.2.1.toNat)
        | .byte => k (pc + 2) L ((2, Int.ofNat S.2.1, 0) :: r) (xv_upd 14 S.1 S.2.1 (xv_row 2 x.2.1.toNat (0, 0, 0)), S.2.1 + 1, S.2.2.1 + 1, S.2.2.2 + x.2.1.toNat)
        | .boolean => k (pc + 2) L ((2, Int.ofNat S.2.1, 0) :: r) (xv_upd 14 S.1 S.2.1 (xv_row 3 x.2.1.toNat (0, 0, 0)), S.2.1 + 1, S.2.2.1 + 1, S.2.2.2 + x.2.1.toNat)
        | .long => k (pc + 2) L ((2, Int.ofNat S.2.1, 0) :: r) (xv_upd 14 S.1 S.2.1 (xv_row 4 x.2.1.toNat (1, 0, 0)), S.2.1 + 1, S.2.2.1 + 1, S.2.2.2 + x.2.1.toNat)
        | _ => none) else none
    | _ => none) = some r) (hd : decode cc pc = .ok (.newarray ty, 2)) (hw : Cond.arrayClass (newarray.typeOf ty) ∈ xv_tb) : xv_T p l e R s m args below meth c D t A as0 sb nL Q pc L st S r := by
  match st, hr with
  | [], hr => cases hr
  | x :: z, hr =>
    obtain ⟨b1, hr⟩ := xv_bt hr
    obtain ⟨b1, b2⟩ := xv_and_t b1
    obtain ⟨b2, b3⟩ := xv_and_t b2
    have b3 := xv_le_iff.mp b3
    have hn : x.2.1.toNat ≤ 65536 := by omega
    cases ty with
    | int =>
      refine xs_newrow (N := 0) hk rfl (xv_beq b1) b2 hr (fun ls vst H locs ws Z i hP hD hS ei hi hc1 hc2 kk => ?_)
      refine va_newa (a0 := (x.2.1.toNat, .inl (fun _ => 0))) C.1 C.2.1 (C.2.2.2.2.1 _ hw) rfl C.2.2.2.2.2.1 hP hD hS C.2.2.2.2.2.2.1 (fun _ => rfl) hi ei (by show _ * 4 ≤ _; omega) hc1 hc2 hd (fun q cA H1 hK1 hP1 hD1 hS1 => ?_)
      have e := xv_ty_same (j := 0) (by intro C h; cases h) C.2.2.2.2.2.1 rfl hK1
      subst e
      refine kk q _ H1 (fun as => ?_) hP1 hD1 hS1
      have hrk := xv_row_k 1 x.2.1.toNat (0, 0, 0)
      have := xv_hc.irow (t := t) (sb := sb) (as := as) (k := xv_row 1 x.2.1.toNat (0, 0, 0)) (f := fun _ => 0) (Or.inl hrk.1) (by rw [hrk.2]; exact hn) (fun j _ v hv => by rw [xv_row_ok hv]; exact xv_zi)
      rw [hrk.1, hrk.2] at this
      exact this
    | byte =>
      refine xs_newrow (N := 0) hk rfl (xv_beq b1) b2 hr (fun ls vst H locs ws Z i hP hD hS ei hi hc1 hc2 kk => ?_)
      refine va_newa (a0 := (x.2.1.toNat, .inl (fun _ => 0))) C.1 C.2.1 (C.2.2.2.2.1 _ hw) rfl C.2.2.2.2.2.1 hP hD hS C.2.2.2.2.2.2.1 (fun _ => rfl) hi ei (by show _ * 1 ≤ _; omega) hc1 hc2 hd (fun q cA H1 hK1 hP1 hD1 hS1 => ?_)
      have e := xv_ty_same (j := 1) (by intro C h; cases h) C.2.2.2.2.2.1 rfl hK1
      subst e
      refine kk q _ H1 (fun as => ?_) hP1 hD1 hS1
      have hrk := xv_row_k 2 x.2.1.toNat (0, 0, 0)
      have := xv_hc.irow (t := t) (sb := sb) (as := as) (k := xv_row 2 x.2.1.toNat (0, 0, 0)) (f := fun _ => 0) (Or.inr (Or.inl hrk.1)) (by rw [hrk.2]; exact hn) (fun j _ v hv => by rw [xv_row_ok hv]; exact xv_zi)
      rw [hrk.1, hrk.2] at this
      exact this
    | boolean =>
      refine xs_newrow (N := 0) hk rfl (xv_beq b1) b2 hr (fun ls vst H locs ws Z i hP hD hS ei hi hc1 hc2 kk => ?_)
      refine va_newa (a0 := (x.2.1.toNat, .inl (fun _ => 0))) C.1 C.2.1 (C.2.2.2.2.1 _ hw) rfl C.2.2.2.2.2.1 hP hD hS C.2.2.2.2.2.2.1 (fun _ => rfl) hi ei (by show _ * 1 ≤ _; omega) hc1 hc2 hd (fun q cA H1 hK1 hP1 hD1 hS1 => ?_)
      have e := xv_ty_same (j := 2) (by intro C h; cases h) C.2.2.2.2.2.1 rfl hK1
      subst e
      refine kk q _ H1 (fun as => ?_) hP1 hD1 hS1
      have hrk := xv_row_k 3 x.2.1.toNat (0, 0, 0)
      have := xv_hc.irow (t := t) (sb := sb) (as := as) (k := xv_row 3 x.2.1.toNat (0, 0, 0)) (f := fun _ => 0) (Or.inr (Or.inr hrk.1)) (by rw [hrk.2]; exact hn) (fun j _ v hv => by rw [xv_row_ok hv]; exact xv_zi)
      rw [hrk.1, hrk.2] at this
      exact this
    | long =>
      refine xs_newrow (N := 0) hk rfl (xv_beq b1) b2 hr (fun ls vst H locs ws Z i hP hD hS ei hi hc1 hc2 kk => ?_)
      refine va_newa (a0 := (x.2.1.toNat, .inr (.inl (fun _ => 0)))) C.1 C.2.1 (C.2.2.2.2.1 _ hw) rfl C.2.2.2.2.2.1 hP hD hS C.2.2.2.2.2.2.1 (fun _ => rfl) hi ei (by show _ * 8 ≤ _; omega) hc1 hc2 hd (fun q cA H1 hK1 hP1 hD1 hS1 => ?_)
      have e := xv_ty_same (j := 3) (by intro C h; cases h) C.2.2.2.2.2.1 rfl hK1
      subst e
      refine kk q _ H1 (fun as => ?_) hP1 hD1 hS1
      have hrk := xv_row_k 4 x.2.1.toNat (1, 0, 0)
      have := xv_hc.lrow (t := t) (sb := sb) (as := as) (k := xv_row 4 x.2.1.toNat (1, 0, 0)) (f := fun _ => 0) hrk.1 (by rw [hrk.2]; exact hn) (fun j _ v hv => by rw [xv_row_ok hv]; exact xv_zl)
      rw [hrk.1, hrk.2] at this
      exact this
    | char => cases hr
    | float => cases hr
    | double => cases hr
    | short => cases hr
theorem xs_anewarray {index : Nat} (C : xv_Cx p s m args c cc own nL D t A sb scr) (hk : xv_G p l e R s m args below meth c D t A as0 sb nL Q k) (hd : decode cc pc = .ok (.anewarray index, 3)) (hw : Cond.classLink own index "PassedPenance$Image" ∈ xv_tb)
    (hr : (match st with
    | x :: r => bif Nat.beq x.1 0 && (xv_isOne x && xv_le x.2.1 65536) then k (pc + 3) L ((2, Int.ofNat S.2.1, 0) :: r) (xv_upd 14 S.1 S.2.1 (xv_row 7 x.2.1.toNat (3, 0, 0)), S.2.1 + 1, S.2.2.1 + 1, S.2.2.2 + x.2.1.toNat) else none
    | _ => none) = some r) : xv_T p l e R s m args below meth c D t A as0 sb nL Q pc L st S r := by
  match st, hr with
  | [], hr => cases hr
  | x :: z, hr =>
    obtain ⟨b1, hr⟩ := xv_bt hr
    obtain ⟨b1, b2⟩ := xv_and_t b1
    obtain ⟨b2, b3⟩ := xv_and_t b2
    have b3 := xv_le_iff.mp b3
    have hn : x.2.1.toNat ≤ 65536 := by omega
    refine xs_newrow (N := 0) hk rfl (xv_beq b1) b2 hr (fun ls vst H locs ws Z i hP hD hS ei hi hc1 hc2 kk => ?_)
    refine va_newq C.1 C.2.1 C.2.2.2.1 (C.2.2.2.2.1 _ hw) C.2.2.2.2.2.2.2.2.2.1 C.2.2.2.2.2.1 hP hD hS C.2.2.2.2.2.2.1 hi ei (by omega) hc1 hc2 hd (fun q cA H1 hK1 hP1 hD1 hS1 => ?_)
    have e := xv_ty_sameO (j := 6) C.2.2.2.2.2.1 rfl hK1
    subst e
    refine kk q _ H1 (fun as => ?_) hP1 hD1 hS1
    have hrk := xv_row_k 7 x.2.1.toNat (3, 0, 0)
    have := xv_hc.arow (t := t) (sb := sb) (as := as) (k := xv_row 7 x.2.1.toNat (3, 0, 0)) (f := fun _ => none) (Or.inr (Or.inr hrk.1)) (by rw [hrk.2]; exact hn) (fun j _ v hv => by rw [xv_row_ok hv]; exact xv_zn)
    rw [hrk.1, hrk.2] at this
    exact this
end XV4
