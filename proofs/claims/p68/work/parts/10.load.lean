/-! rows are read and written -/
theorem xv_hc.row {t : Nat → ClassId} {sb : Nat} {as : List Nat} {k : xv_C} {x : va_E} (h : xv_hc t sb as k x) (h1 : 1 ≤ k.1) (h7 : k.1 ≤ 7) : ∃ (y : vp_A) (ty : FieldType), x = .inl (t k.1, y) ∧ y.1 = k.2.1 ∧ (xv_tys t)[k.1 - 1]? = some (t k.1, ty) := by
  have hk : k.1 = 1 ∨ k.1 = 2 ∨ k.1 = 3 ∨ k.1 = 4 ∨ k.1 = 5 ∨ k.1 = 6 ∨ k.1 = 7 := by omega
  rcases hk with e | e | e | e | e | e | e
  · obtain ⟨f, rfl, -⟩ := h.2.1 (by omega); exact ⟨_, .int, rfl, rfl, by rw [e]; rfl⟩
  · obtain ⟨f, rfl, -⟩ := h.2.1 (by omega); exact ⟨_, .byte, rfl, rfl, by rw [e]; rfl⟩
  · obtain ⟨f, rfl, -⟩ := h.2.1 (by omega); exact ⟨_, .boolean, rfl, rfl, by rw [e]; rfl⟩
  · obtain ⟨f, rfl, -⟩ := h.2.2.1 (by omega); exact ⟨_, .long, rfl, rfl, by rw [e]; rfl⟩
  · obtain ⟨f, rfl, -⟩ := h.2.2.2.1 (by omega); exact ⟨_, .array .int, rfl, rfl, by rw [e]; rfl⟩
  · obtain ⟨f, rfl, -⟩ := h.2.2.2.1 (by omega); exact ⟨_, .array .long, rfl, rfl, by rw [e]; rfl⟩
  · obtain ⟨f, rfl, -⟩ := h.2.2.2.1 (by omega); exact ⟨_, .object "PassedPenance$Image", rfl, rfl, by rw [e]; rfl⟩
theorem xv_ofNat {n : Nat} (h : n ≤ 65536) : (Int32.ofNat n).toInt = Int.ofNat n := by
  have := nI_toInt (n := n) (by omega)
  exact this
section XV5
variable {p : Program} {l : Launch} {e : Env} {R : Room} {s : State} {m : MethodId} {args : Array Value} {below : List Frame} {meth : Method} {c : Code}
variable {cc : ByteArray} {own : String} {nL : Nat} {D : va_G} {t : Nat → ClassId} {A : Nat → Prop} {as0 : List Nat} {sb : Nat} {scr : List xv_V} {Q : xv_R → State → Prop} {k : xv_K} {pc : Nat} {L st : List xv_V} {S : xv_S} {r : xv_R}
theorem xs_alen (C : xv_Cx p s m args c cc own nL D t A sb scr) (hk : xv_G p l e R s m args below meth c D t A as0 sb nL Q k) (hd : decode cc pc = .ok (.arraylength, 1))
    (hr : (match st with
    | o :: r => bif Nat.beq o.1 5 then (bif !scr.isEmpty then k (pc + 1) L ((0, Int.ofNat scr.length, Int.ofNat scr.length) :: r) S else none) else (match xv_cell S.1 o with
      | some c => bif Nat.ble 1 c.1 && Nat.ble c.1 7 then k (pc + 1) L ((0, Int.ofNat c.2.1, Int.ofNat c.2.1) :: r) S else none
      | none => none)
    | _ => none) = some r) : xv_T p l e R s m args below meth c D t A as0 sb nL Q pc L st S r := by
  match st, hr with
  | [], hr => cases hr
  | o :: z, hr =>
    dsimp only at hr
    cases hb : Nat.beq o.1 5 with
    | true =>
      rw [hb] at hr
      simp only [cond_true] at hr
      obtain ⟨hne0, hr⟩ := xv_bt hr
      have hne : scr ≠ [] := fun q => by rw [q] at hne0; cases hne0
      obtain ⟨h1, h2, h3⟩ := hk _ _ _ _ _ hr
      refine ⟨h1, h2, fun hcc hz ls vst H locs ws hR => ?_⟩
      obtain ⟨x0, vst, rfl, hx, hst⟩ := hR.2.1.un
      have e := hx.2.2.2.2 (xv_beq hb)
      subst e
      rcases C.2.2.2.2.2.2.2.1 with e | ⟨xs, hX, hbl, hbA, hlt, hxs⟩
      · exact absurd e hne
      · refine va_slen C.1 C.2.1 hX hbl hbA hR.2.2.2.2.1 hd (h3 hcc hz ls _ H locs ws ⟨hR.1, xv_sm.cons ?_ hst, hR.2.2⟩)
        have e : (Int32.ofNat scr.length).toInt = Int.ofNat scr.length := nI_toInt hlt
        exact xv_hv.i ⟨rfl, by rw [e]; exact Int.le_refl _, by rw [e]; exact Int.le_refl _⟩
    | false =>
      rw [hb] at hr
      simp only [cond_false] at hr
      cases hc : xv_cell S.1 o with
      | none => rw [hc] at hr; cases hr
      | some x =>
        rw [hc] at hr
        obtain ⟨b1, hr⟩ := xv_bt hr
        obtain ⟨b1, b2⟩ := xv_and_t b1
        have b1 := xv_ble b1
        have b2 := xv_ble b2
        obtain ⟨h1, h2, h3⟩ := hk _ _ _ _ _ hr
        refine ⟨h1, h2, fun hcc hz ls vst H locs ws hR => ?_⟩
        obtain ⟨x0, vst, rfl, hx, hst⟩ := hR.2.1.un
        obtain ⟨ad, en, rfl, hen, hce⟩ := hR.2.2.2.2.2.1.cell hc (by omega) hx
        obtain ⟨y, ty, rfl, hy, hty⟩ := hce.row b1 b2
        refine va_alen C.1 C.2.1 C.2.2.2.2.2.1 hR.2.2.1 _ _ hen hty rfl hd (h3 hcc hz ls _ H locs ws ⟨hR.1, xv_sm.cons ?_ hst, hR.2.2⟩)
        have e := xv_ofNat (hce.2.2.2.2 (by omega))
        rw [← hy] at e ⊢
        exact xv_hv.i ⟨rfl, by rw [e]; exact Int.le_refl _, by rw [e]; exact Int.le_refl _⟩
theorem xv_vpin {i : xv_V} {x : Int32} {n : Nat} (h : x.toInt = i.2.1) (h0 : 0 ≤ i.2.1) (hn : i.2.1.toNat < n) : vp_in x n := by
  rw [vp_in_iff]; omega
/-- a place of a row is read -/
theorem xs_ald {kd pc' : Nat} (hk : xv_G p l e R s m args below meth c D t A as0 sb nL Q k) (hr : xv_ald k kd pc' L st S = some r) (hkd : kd ≠ 99)
    (hs : ∀ (ls : Array Slot) (vst : List Value) (H : Heap) (locs : List Loc) (a b : Nat) (Z : State → Prop) (ws : va_W) (q ad : Nat) (en : va_E) (x : Int32) (cl : xv_C) (v : xv_V), va_P D vwCl ws H → ws[q]? = some (ad, en) → xv_hc t sb (ws.map Prod.fst) cl en → cl.1 = kd → vp_in x cl.2.1 → x.toNatClampNeg < cl.2.1 → xv_get 8 cl.2.2.2 (x.toNatClampNeg % cl.2.2.1) = some v →
      ∃ y, xv_hv sb (ws.map Prod.fst) v y ∧ (W p l e R s m args below meth c H locs a b Z (F0 m pc' ls (y :: vst)) → W p l e R s m args below meth c H locs a b Z (F0 m pc ls (.int x :: .ref ad :: vst)))) : xv_T p l e R s m args below meth c D t A as0 sb nL Q pc L st S r := by
  unfold xv_ald at hr
  match st, hr with
  | [], hr => cases hr
  | [_], hr => cases hr
  | i :: o :: z, hr =>
    dsimp only at hr
    cases hc : xv_cell S.1 o with
    | none => rw [hc] at hr; cases hr
    | some cl =>
      rw [hc] at hr
      obtain ⟨b1, hr⟩ := xv_bt hr
      obtain ⟨b1, b2⟩ := xv_and_t b1
      have b1 := xv_beq b1
      have b2 := xv_beq b2
      obtain ⟨v, hv, hr⟩ := xs_ldk hr
      obtain ⟨r1, r2, r3, r4⟩ := xv_read_eq hv
      obtain ⟨h1, h2, h3⟩ := hk _ _ _ _ _ hr
      refine ⟨h1, h2, fun hcc hz ls vst H locs ws hR => ?_⟩
      obtain ⟨i0, vst, rfl, hi, hst⟩ := hR.2.1.un
      obtain ⟨x0, vst, rfl, hx, hst2⟩ := hst.un
      obtain ⟨ad, en, rfl, hen, hce⟩ := hR.2.2.2.2.2.1.cell hc (by omega) hx
      obtain ⟨x, rfl, x1, x2⟩ := hi.1 b1
      obtain ⟨e1, e2, e3⟩ := xv_idx r1 r2 x1 x2
      obtain ⟨y, hy, hw⟩ := hs ls vst H locs S.2.2.1 S.2.2.2 (Q r) ws _ ad en x cl v hR.2.2.1 hen hce b2 (xv_vpin e1 r2 r3) (by rw [e2]; exact r3) (by rw [e2]; exact r4)
      exact hw (h3 hcc hz ls _ H locs ws ⟨hR.1, xv_sm.cons hy hst2, hR.2.2⟩)
theorem xs_iald (C : xv_Cx p s m args c cc own nL D t A sb scr) (hk : xv_G p l e R s m args below meth c D t A as0 sb nL Q k) (hd : decode cc pc = .ok (.iaload, 1)) (hr : xv_ald k 1 (pc + 1) L st S = some r) : xv_T p l e R s m args below meth c D t A as0 sb nL Q pc L st S r :=
  xs_ald hk hr (by decide) fun ls vst H locs a b Z ws q ad en x cl v hP hen hce hkd hin hlt hg => by
    obtain ⟨f, rfl, hf⟩ := hce.2.1 (by omega)
    rw [hkd] at hen
    exact ⟨_, hf _ hlt v hg, fun w => va_iald C.1 C.2.1 C.2.2.2.2.2.1 hP _ 0 hen rfl hin hd w⟩
theorem xs_bald (C : xv_Cx p s m args c cc own nL D t A sb scr) (hk : xv_G p l e R s m args below meth c D t A as0 sb nL Q k) (hd : decode cc pc = .ok (.baload, 1)) (hr : xv_ald k 2 (pc + 1) L st S = some r) : xv_T p l e R s m args below meth c D t A as0 sb nL Q pc L st S r :=
  xs_ald hk hr (by decide) fun ls vst H locs a b Z ws q ad en x cl v hP hen hce hkd hin hlt hg => by
    obtain ⟨f, rfl, hf⟩ := hce.2.1 (by omega)
    rw [hkd] at hen
    exact ⟨_, hf _ hlt v hg, fun w => va_bald C.1 C.2.1 C.2.2.2.2.2.1 hP _ 1 hen rfl hin hd w⟩
theorem xs_zald (C : xv_Cx p s m args c cc own nL D t A sb scr) (hk : xv_G p l e R s m args below meth c D t A as0 sb nL Q k) (hd : decode cc pc = .ok (.baload, 1)) (hr : xv_ald k 3 (pc + 1) L st S = some r) : xv_T p l e R s m args below meth c D t A as0 sb nL Q pc L st S r :=
  xs_ald hk hr (by decide) fun ls vst H locs a b Z ws q ad en x cl v hP hen hce hkd hin hlt hg => by
    obtain ⟨f, rfl, hf⟩ := hce.2.1 (by omega)
    rw [hkd] at hen
    exact ⟨_, hf _ hlt v hg, fun w => va_zald C.1 C.2.1 C.2.2.2.2.2.1 hP _ 2 hen rfl hin hd w⟩
theorem xs_lald (C : xv_Cx p s m args c cc own nL D t A sb scr) (hk : xv_G p l e R s m args below meth c D t A as0 sb nL Q k) (hd : decode cc pc = .ok (.laload, 1)) (hr : xv_ald k 4 (pc + 1) L st S = some r) : xv_T p l e R s m args below meth c D t A as0 sb nL Q pc L st S r :=
  xs_ald hk hr (by decide) fun ls vst H locs a b Z ws q ad en x cl v hP hen hce hkd hin hlt hg => by
    obtain ⟨f, rfl, hf⟩ := hce.2.2.1 (by omega)
    rw [hkd] at hen
    exact ⟨_, hf _ hlt v hg, fun w => va_lald C.1 C.2.1 C.2.2.2.2.2.1 hP _ 3 hen rfl hin hd w⟩
/-- a row of rows -/
theorem xv_aald {H : Heap} {locs : List Loc} {a b : Nat} {Z : State → Prop} {ws : va_W} {q ad n : Nat} {tys : List (ClassId × FieldType)} {t0 : Nat} {cA : ClassId} {ty : FieldType} {f : Nat → Option Nat} {x : Int32} {ls : Array Slot} {rest : List Value} (hty : ty.isReference = true) (hexec : p.tables.exec = Jvm.exec) (hb : c.code = cc) (hK : va_K D vwCl tys s) (hP : va_P D vwCl ws H) (ha : ws[q]? = some (ad, .inl (cA, n, .inr (.inr (.inr (.inr f)))))) (ht : tys[t0]? = some (cA, ty)) (hin : vp_in x n) (hdg : decode cc pc = .ok (.aaload, 1))
    (kk : W p l e R s m args below meth c H locs a b Z (F0 m (pc + 1) ls (va_rf (f x.toNatClampNeg) :: rest))) : W p l e R s m args below meth c H locs a b Z (F0 m pc ls (.int x :: .ref ad :: rest)) := by
  have hlt : x.toNatClampNeg < n := Nat.not_le.mp fun q => hin (Or.inr q)
  exact W.aald (v := va_rf (f x.toNatClampNeg)) (ty := ty) hexec hb (hP q _ ha) ((hK.2 t0 _ ht).1 n (fun j => va_rf (f j))) hty (fun q => by cases q) (by show ¬ (x < 0 ∨ (arrV _ _ _).slots.size ≤ _); rw [arrV_size]; exact hin) (by show (arrV _ _ _).slots[_]? = _; rw [arrV_read _ _ hlt]) rfl rfl hdg kk
theorem xs_aald {kd : Nat} (h5 : kd = 5 ∨ kd = 6 ∨ kd = 7) (C : xv_Cx p s m args c cc own nL D t A sb scr) (hk : xv_G p l e R s m args below meth c D t A as0 sb nL Q k) (hd : decode cc pc = .ok (.aaload, 1)) (hr : xv_ald k kd (pc + 1) L st S = some r) : xv_T p l e R s m args below meth c D t A as0 sb nL Q pc L st S r :=
  xs_ald hk hr (by omega) fun ls vst H locs a b Z ws q ad en x cl v hP hen hce hkd hin hlt hg => by
    obtain ⟨f, rfl, hf⟩ := hce.2.2.2.1 (by omega)
    rw [hkd] at hen
    refine ⟨_, hf _ hlt v hg, fun w => ?_⟩
    rcases h5 with rfl | rfl | rfl
    · exact xv_aald (ty := .array .int) (t0 := 4) rfl C.1 C.2.1 C.2.2.2.2.2.1 hP hen rfl hin hd w
    · exact xv_aald (ty := .array .long) (t0 := 5) rfl C.1 C.2.1 C.2.2.2.2.2.1 hP hen rfl hin hd w
    · exact xv_aald (ty := .object "PassedPenance$Image") (t0 := 6) rfl C.1 C.2.1 C.2.2.2.2.2.1 hP hen rfl hin hd w
/-- a place of the script is read -/
theorem xs_sld {z : List xv_V} {i o : xv_V} (C : xv_Cx p s m args c cc own nL D t A sb scr) (hk : xv_G p l e R s m args below meth c D t A as0 sb nL Q k) (hd : decode cc pc = .ok (.iaload, 1)) (hst : st = i :: o :: z) (ho : o.1 = 5) (hr : (bif Nat.beq i.1 0 && xv_isOne i then xv_ldk k (pc + 1) L z S (xv_nth scr i.2.1.toNat) else none) = some r) : xv_T p l e R s m args below meth c D t A as0 sb nL Q pc L st S r := by
  subst hst
  obtain ⟨b1, hr⟩ := xv_bt hr
  obtain ⟨b1, b2⟩ := xv_and_t b1
  have b1 := xv_beq b1
  obtain ⟨q1, q2⟩ := xv_isOne_eq b2
  obtain ⟨v, hv, hr⟩ := xs_ldk hr
  rw [xv_nth_eq] at hv
  obtain ⟨h1, h2, h3⟩ := hk _ _ _ _ _ hr
  refine ⟨h1, h2, fun hcc hz ls vst H locs ws hR => ?_⟩
  obtain ⟨i0, vst, rfl, hi, hst⟩ := hR.2.1.un
  obtain ⟨x0, vst, rfl, hx, hst2⟩ := hst.un
  have e := hx.2.2.2.2 ho
  subst e
  obtain ⟨x, rfl, x1, x2⟩ := hi.1 b1
  obtain ⟨e1, e2, e3⟩ := xv_idx q1 q2 x1 x2
  have hlt : i.2.1.toNat < scr.length := (List.getElem?_eq_some_iff.mp hv).1
  rcases C.2.2.2.2.2.2.2.1 with e | ⟨xs, hX, hbl, hbA, hlt2, hxs⟩
  · rw [e] at hlt; exact absurd hlt (Nat.not_lt_zero _)
  · refine va_sld C.1 C.2.1 hX hbl hbA hR.2.2.2.2.1 (xv_vpin e1 q2 hlt) hd (h3 hcc hz ls _ H locs ws ⟨hR.1, xv_sm.cons ?_ hst2, hR.2.2⟩)
    rw [e2]
    exact xv_hv.i (hxs _ v hv)
/-- a place of a row is written -/
theorem xs_ast {kd pc' : Nat} {ok : xv_V → Bool} (hk : xv_G p l e R s m args below meth c D t A as0 sb nL Q k) (hr : xv_ast k kd pc' L st S ok = some r) (hkd : kd ≠ 99 ∧ kd ≠ 0)
    (hs : ∀ (ls : Array Slot) (vst : List Value) (H : Heap) (locs : List Loc) (a b : Nat) (Z : State → Prop) (ws : va_W) (q ad : Nat) (en : va_E) (x : Int32) (cl : xv_C) (v : xv_V) (y : Value), va_P D vwCl ws H → va_D A ws → va_S A s.heap H locs → xv_H t sb S.1 S.2.1 ws → ws[q]? = some (ad, en) → xv_hc t sb (ws.map Prod.fst) cl en → cl.1 = kd → vp_in x cl.2.1 → xv_hv sb (ws.map Prod.fst) v y → ok v = true →
      ∃ (en' : va_E) (g g' : Nat → Value), (∀ j : Nat, j < cl.2.1 → ∀ u : xv_V, xv_get 8 cl.2.2.2 (j % cl.2.2.1) = some u → xv_hv sb (ws.map Prod.fst) u (g j)) ∧ xv_hv sb (ws.map Prod.fst) v (g' x.toNatClampNeg) ∧ (∀ j : Nat, j ≠ x.toNatClampNeg → g' j = g j) ∧
        (∀ c' : xv_C, c'.1 = cl.1 → c'.2.1 = cl.2.1 → (∀ j : Nat, j < cl.2.1 → ∀ u : xv_V, xv_get 8 c'.2.2.2 (j % c'.2.2.1) = some u → xv_hv sb (ws.map Prod.fst) u (g' j)) → xv_hc t sb (ws.map Prod.fst) c' en') ∧
        ((∀ (H1 : Heap) (locs1 : List Loc), va_P D vwCl (ws.set q (ad, en')) H1 → va_D A (ws.set q (ad, en')) → va_S A s.heap H1 locs1 → W p l e R s m args below meth c H1 locs1 a b Z (F0 m pc' ls vst)) → W p l e R s m args below meth c H locs a b Z (F0 m pc ls (y :: .int x :: .ref ad :: vst)))) : xv_T p l e R s m args below meth c D t A as0 sb nL Q pc L st S r := by
  unfold xv_ast at hr
  match st, hr with
  | [], hr => cases hr
  | [_], hr => cases hr
  | [_, _], hr => cases hr
  | v :: i :: o :: z, hr =>
    dsimp only at hr
    cases hc : xv_cell S.1 o with
    | none => rw [hc] at hr; cases hr
    | some cl =>
      rw [hc] at hr
      obtain ⟨b1, hr⟩ := xv_bt hr
      obtain ⟨b1, b3⟩ := xv_and_t b1
      obtain ⟨b1, b2⟩ := xv_and_t b1
      have b1 := xv_beq b1
      have b2 := xv_beq b2
      cases hwr : xv_write cl i v with
      | none => rw [hwr] at hr; cases hr
      | some c' =>
        rw [hwr] at hr
        obtain ⟨h1, h2, h3⟩ := hk _ _ _ _ _ hr
        refine ⟨h1, h2, fun hcc hz ls vst H locs ws hR => ?_⟩
        obtain ⟨y, vst, rfl, hy, hst⟩ := hR.2.1.un
        obtain ⟨i0, vst, rfl, hi, hst2⟩ := hst.un
        obtain ⟨x0, vst, rfl, hx, hst3⟩ := hst2.un
        have hH := hR.2.2.2.2.2.1
        obtain ⟨ad, en, rfl, hen, hce⟩ := hH.cell hc (by omega) hx
        obtain ⟨x, rfl, x1, x2⟩ := hi.1 b1
        have hone : i.2.2 ≤ i.2.1 ∧ 0 ≤ i.2.1 ∧ i.2.1.toNat < cl.2.1 := by
          have hw2 := hwr
          unfold xv_write at hw2
          obtain ⟨b, -⟩ := xv_bt hw2
          obtain ⟨b4, b5⟩ := xv_and_t b
          exact ⟨(xv_isOne_eq b4).1, (xv_isOne_eq b4).2, xv_ble b5⟩
        obtain ⟨e1, e2, e3⟩ := xv_idx hone.1 hone.2.1 x1 x2
        obtain ⟨en', g, g', g1, g2, g3, g4, g5⟩ := hs ls vst H locs S.2.2.1 S.2.2.2 (Q r) ws _ ad en x cl v y hR.2.2.1 hR.2.2.2.1 hR.2.2.2.2.1 hH hen hce b2 (xv_vpin e1 hone.2.1 hone.2.2) hy b3
        rw [e2] at g2 g3
        obtain ⟨-, -, -, w1, w2, w3⟩ := xv_write_ok hwr g1 g2 g3
        refine g5 (fun H1 locs1 hP1 hD1 hS1 => ?_)
        refine h3 hcc hz ls vst H1 locs1 _ (hR.new ⟨[], ?_⟩ ?_ hP1 hD1 hS1 ?_)
        · rw [xv_fst_set hen, List.append_nil]
        · rw [xv_fst_set hen]; exact hst3
        · exact hH.set hen (g4 c' w1 w2 w3)
theorem xs_iast (C : xv_Cx p s m args c cc own nL D t A sb scr) (hk : xv_G p l e R s m args below meth c D t A as0 sb nL Q k) (hd : decode cc pc = .ok (.iastore, 1)) (hr : xv_ast k 1 (pc + 1) L st S (fun v => Nat.beq v.1 0) = some r) : xv_T p l e R s m args below meth c D t A as0 sb nL Q pc L st S r :=
  xs_ast hk hr (by decide) fun ls vst H locs a b Z ws q ad en x cl v y hP hD hS hH hen hce hkd hin hy hok => by
    obtain ⟨f, rfl, hf⟩ := hce.2.1 (by omega)
    have h6 := hce.2.2.2.2 (by omega)
    obtain ⟨i, rfl, i1, i2⟩ := hy.1 (xv_beq hok)
    refine ⟨.inl (t 1, cl.2.1, .inl (upd f x.toNatClampNeg i)), fun j => .int (f j), fun j => .int (upd f x.toNatClampNeg i j), hf, ?_, fun j hj => by simp [upd, hj], fun c' w1 w2 w3 => ?_, fun kk => ?_⟩
    · dsimp only; rw [show upd f x.toNatClampNeg i x.toNatClampNeg = i by simp [upd]]; exact hy
    · have := xv_hc.irow (t := t) (k := c') (by omega) (by omega) (fun j hj => w3 j (by omega))
      rw [w1, hkd, w2] at this
      exact this
    · rw [hkd] at hen
      exact va_iast C.1 C.2.1 C.2.2.2.2.2.1 hP hD hS _ 0 hen rfl hin hd kk
theorem xv_nar_b {x : Int32} (h1 : -128 ≤ x.toInt) (h2 : x.toInt ≤ 127) : vp_nar .byte x = x := by
  rw [vp_nar_byte]
  apply Int32.toInt_inj.mp
  rw [Int8.toInt_toInt32, Int32.toInt_toInt8]
  exact Int.bmod_eq_of_le (by omega) (by omega)
theorem xv_nar_z {x : Int32} (h1 : 0 ≤ x.toInt) (h2 : x.toInt ≤ 1) : vp_nar .boolean x = x ∧ narrow .boolean (.int x) = .int x := by
  have h : x = 0 ∨ x = 1 := by
    rcases (show x.toInt = 0 ∨ x.toInt = 1 by omega) with e | e
    · left; apply Int32.toInt_inj.mp; rw [e]; decide
    · right; apply Int32.toInt_inj.mp; rw [e]; decide
  rcases h with rfl | rfl
  · exact ⟨by decide, by decide⟩
  · exact ⟨by decide, by decide⟩
theorem xs_bast (C : xv_Cx p s m args c cc own nL D t A sb scr) (hk : xv_G p l e R s m args below meth c D t A as0 sb nL Q k) (hd : decode cc pc = .ok (.bastore, 1)) (hr : xv_ast k 2 (pc + 1) L st S (fun v => Nat.beq v.1 0 && (xv_le (-128) v.2.1 && xv_le v.2.2 127)) = some r) : xv_T p l e R s m args below meth c D t A as0 sb nL Q pc L st S r :=
  xs_ast hk hr (by decide) fun ls vst H locs a b Z ws q ad en x cl v y hP hD hS hH hen hce hkd hin hy hok => by
    obtain ⟨f, rfl, hf⟩ := hce.2.1 (by omega)
    have h6 := hce.2.2.2.2 (by omega)
    obtain ⟨o1, o2⟩ := xv_and_t hok
    obtain ⟨o2, o3⟩ := xv_and_t o2
    have o2 := xv_le_iff.mp o2
    have o3 := xv_le_iff.mp o3
    obtain ⟨i, rfl, i1, i2⟩ := hy.1 (xv_beq o1)
    refine ⟨.inl (t 2, cl.2.1, .inl (upd f x.toNatClampNeg i)), fun j => .int (f j), fun j => .int (upd f x.toNatClampNeg i j), hf, ?_, fun j hj => by simp [upd, hj], fun c' w1 w2 w3 => ?_, fun kk => ?_⟩
    · dsimp only; rw [show upd f x.toNatClampNeg i x.toNatClampNeg = i by simp [upd]]; exact hy
    · have := xv_hc.irow (t := t) (k := c') (by omega) (by omega) (fun j hj => w3 j (by omega))
      rw [w1, hkd, w2] at this
      exact this
    · rw [hkd] at hen
      refine va_bast C.1 C.2.1 C.2.2.2.2.2.1 hP hD hS _ 1 hen rfl hin hd ?_
      rw [xv_nar_b (by omega) (by omega)]
      exact kk
theorem xs_zast (C : xv_Cx p s m args c cc own nL D t A sb scr) (hk : xv_G p l e R s m args below meth c D t A as0 sb nL Q k) (hd : decode cc pc = .ok (.bastore, 1)) (hr : xv_ast k 3 (pc + 1) L st S (fun v => Nat.beq v.1 0 && (xv_le 0 v.2.1 && xv_le v.2.2 1)) = some r) : xv_T p l e R s m args below meth c D t A as0 sb nL Q pc L st S r :=
  xs_ast hk hr (by decide) fun ls vst H locs a b Z ws q ad en x cl v y hP hD hS hH hen hce hkd hin hy hok => by
    obtain ⟨f, rfl, hf⟩ := hce.2.1 (by omega)
    have h6 := hce.2.2.2.2 (by omega)
    obtain ⟨o1, o2⟩ := xv_and_t hok
    obtain ⟨o2, o3⟩ := xv_and_t o2
    have o2 := xv_le_iff.mp o2
    have o3 := xv_le_iff.mp o3
    obtain ⟨i, rfl, i1, i2⟩ := hy.1 (xv_beq o1)
    refine ⟨.inl (t 3, cl.2.1, .inl (upd f x.toNatClampNeg i)), fun j => .int (f j), fun j => .int (upd f x.toNatClampNeg i j), hf, ?_, fun j hj => by simp [upd, hj], fun c' w1 w2 w3 => ?_, fun kk => ?_⟩
    · dsimp only; rw [show upd f x.toNatClampNeg i x.toNatClampNeg = i by simp [upd]]; exact hy
    · have := xv_hc.irow (t := t) (k := c') (by omega) (by omega) (fun j hj => w3 j (by omega))
      rw [w1, hkd, w2] at this
      exact this
    · rw [hkd] at hen
      refine va_zast C.1 C.2.1 C.2.2.2.2.2.1 hP hD hS _ 2 hen rfl hin hd ?_
      rw [(xv_nar_z (by omega) (by omega)).1]
      exact kk
theorem xs_last (C : xv_Cx p s m args c cc own nL D t A sb scr) (hk : xv_G p l e R s m args below meth c D t A as0 sb nL Q k) (hd : decode cc pc = .ok (.lastore, 1)) (hr : xv_ast k 4 (pc + 1) L st S (fun v => Nat.beq v.1 1) = some r) : xv_T p l e R s m args below meth c D t A as0 sb nL Q pc L st S r :=
  xs_ast hk hr (by decide) fun ls vst H locs a b Z ws q ad en x cl v y hP hD hS hH hen hce hkd hin hy hok => by
    obtain ⟨f, rfl, hf⟩ := hce.2.2.1 (by omega)
    have h6 := hce.2.2.2.2 (by omega)
    obtain ⟨i, rfl, i1, i2⟩ := hy.2.1 (xv_beq hok)
    refine ⟨.inl (t 4, cl.2.1, .inr (.inl (vp_updL f x.toNatClampNeg i))), fun j => .long (f j), fun j => .long (vp_updL f x.toNatClampNeg i j), hf, ?_, fun j hj => by simp [vp_updL, hj], fun c' w1 w2 w3 => ?_, fun kk => ?_⟩
    · dsimp only; rw [show vp_updL f x.toNatClampNeg i x.toNatClampNeg = i by simp [vp_updL]]; exact hy
    · have := xv_hc.lrow (t := t) (k := c') (by omega) (by omega) (fun j hj => w3 j (by omega))
      rw [w1, hkd, w2] at this
      exact this
    · rw [hkd] at hen
      exact va_last C.1 C.2.1 C.2.2.2.2.2.1 hP hD hS _ 3 hen rfl hin hd kk
theorem xs_aast (C : xv_Cx p s m args c cc own nL D t A sb scr) (hk : xv_G p l e R s m args below meth c D t A as0 sb nL Q k) (hd : decode cc pc = .ok (.aastore, 1)) (hr : xv_ast k 7 (pc + 1) L st S (fun v => Nat.beq v.1 2 && (match xv_cell S.1 v with | some c => Nat.beq c.1 0 && Nat.beq c.2.1 4 | none => false)) = some r) : xv_T p l e R s m args below meth c D t A as0 sb nL Q pc L st S r :=
  xs_ast hk hr (by decide) fun ls vst H locs a b Z ws q ad en x cl v y hP hD hS hH hen hce hkd hin hy hok => by
    obtain ⟨f, rfl, hf⟩ := hce.2.2.2.1 (by omega)
    have h6 := hce.2.2.2.2 (by omega)
    obtain ⟨o1, o2⟩ := xv_and_t hok
    cases hc : xv_cell S.1 v with
    | none => rw [hc] at o2; cases o2
    | some cv =>
      rw [hc] at o2
      obtain ⟨o2, o3⟩ := xv_and_t o2
      have o2 := xv_beq o2
      have o3 := xv_beq o3
      obtain ⟨av, ev, rfl, hev, hcv⟩ := hH.cell hc (by omega) hy
      obtain ⟨fs, rfl, -, -⟩ := hcv.1 o2
      rw [o3] at hev
      refine ⟨.inl (t 7, cl.2.1, .inr (.inr (.inr (.inr (va_up f x.toNatClampNeg (some av)))))), fun j => va_rf (f j), fun j => va_rf (va_up f x.toNatClampNeg (some av) j), hf, ?_, fun j hj => by simp [va_up, hj], fun c' w1 w2 w3 => ?_, fun kk => ?_⟩
      · dsimp only; rw [show va_up f x.toNatClampNeg (some av) x.toNatClampNeg = some av by simp [va_up]]; exact hy
      · have := xv_hc.arow (t := t) (k := c') (by omega) (by omega) (fun j hj => w3 j (by omega))
        rw [w1, hkd, w2] at this
        exact this
      · rw [hkd] at hen
        exact va_astq (r := (RX4, TX4, 2)) C.1 C.2.1 C.2.2.2.2.2.1 hP hD hS _ 6 _ 4 hen rfl hev rfl hin hd kk
end XV5
