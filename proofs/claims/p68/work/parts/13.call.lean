/-! copies, calls -/
theorem xv_good : xv_tb.all goodWord = true := List.all_eq_true.mpr fun w hw => (List.mem_filter.mp hw).2
theorem xv_goodIn {y : MethodName} {cc : ByteArray} {mL : Nat} {ret : Option FieldType} (h : Cond.code y cc mL ret ∈ xv_tb) : GoodIn xv_tb (Cond.code y cc mL ret :: xv_tb) := fun w hw => by
  have hm : w ∈ xv_tb := (List.mem_cons.mp hw).elim (fun e => e ▸ h) id
  exact ⟨hm, good_of_word (List.all_eq_true.mp xv_good w hm)⟩
theorem xv_cats_ok {sb : Nat} {as : List Nat} : ∀ {st : List xv_V} {vst : List Value}, xv_sm sb as st vst → xv_cats st ≤ 8 → (vst.map fun v => v.category).sum ≤ xv_cats st
  | [], [], _, _ => Nat.le_refl _
  | [], _ :: _, h, _ => False.elim h
  | _ :: _, [], h, _ => False.elim h
  | v :: st, x :: vst, h, h8 => by
    have e : xv_cats (v :: st) = xv_cat v + xv_cats st := rfl
    rw [e] at h8 ⊢
    have ih := xv_cats_ok h.2 (by omega)
    have hc : x.category ≤ xv_cat v := by
      unfold xv_cat at h8 ⊢
      cases hb : Nat.beq v.1 1 with
      | true =>
        simp only [cond_true]
        rcases lv_cat x with q | q <;> rw [q] <;> omega
      | false =>
        rw [hb] at h8
        simp only [cond_false] at h8 ⊢
        cases hb2 : (Nat.ble v.1 3 || Nat.beq v.1 5) with
        | false => rw [hb2] at h8; simp only [cond_false] at h8; omega
        | true =>
          simp only [cond_true]
          have hne : v.1 ≠ 1 := fun q => by rw [q] at hb; cases hb
          have hkn : xv_known v := by
            rcases (Bool.or_eq_true _ _).mp hb2 with q | q
            · have := xv_ble q
              unfold xv_known; omega
            · exact Or.inr (Or.inr (Or.inr (Or.inr (xv_beq q))))
          rw [xv_cat1 h.1 hkn hne]
          exact Nat.le_refl 1
    simp only [List.map_cons, List.sum_cons]
    omega
theorem xv_sm.app {sb : Nat} {as : List Nat} : ∀ {a b : List xv_V} {x y : List Value}, xv_sm sb as a x → xv_sm sb as b y → xv_sm sb as (a ++ b) (x ++ y)
  | [], _, [], _, _, h => h
  | [], _, _ :: _, _, h, _ => False.elim h
  | _ :: _, _, [], _, h, _ => False.elim h
  | _ :: _, _, _ :: _, _, h, h2 => And.intro h.1 (xv_sm.app h.2 h2)
theorem xv_take_ok {sb : Nat} {as : List Nat} : ∀ (k : Nat) (acc st : List xv_V) (vacc vst : List Value) (a b : List xv_V), xv_take k acc st = some (a, b) → xv_sm sb as acc vacc → xv_sm sb as st vst → ∃ P vr, vst = P ++ vr ∧ P.length = k ∧ xv_sm sb as a (P.reverse ++ vacc) ∧ xv_sm sb as b vr
  | 0, acc, st, vacc, vst, a, b, h, h1, h2 => by
    cases h
    exact ⟨[], vst, rfl, rfl, h1, h2⟩
  | k + 1, acc, [], vacc, vst, a, b, h, h1, h2 => by cases h
  | k + 1, acc, v :: st, vacc, vst, a, b, h, h1, h2 => by
    obtain ⟨x, xs, rfl, hx, hxs⟩ := h2.un
    obtain ⟨P, vr, rfl, hP, ha, hb⟩ := xv_take_ok k (v :: acc) st (x :: vacc) xs a b h (xv_sm.cons hx h1) hxs
    exact ⟨x :: P, vr, rfl, by simp [hP], by simpa using ha, hb⟩
theorem xv_copy_ok {sb : Nat} {as : List Nat} {e e' : List (List xv_V)} {sp dp n0 n1 : Nat} {f : Nat → Int32} : ∀ (n : Nat) (g : List (List xv_V)) (h : Nat → Int32), xv_copy e sp dp n g = some e' → (∀ i : Nat, i < n0 → ∀ v : xv_V, xv_get 8 e i = some v → xv_hv sb as v (.int (f i))) → (∀ i : Nat, i < n1 → ∀ v : xv_V, xv_get 8 g i = some v → xv_hv sb as v (.int (h i))) → sp + n ≤ n0 → dp + n ≤ n1 →
    ∀ i : Nat, i < n1 → ∀ v : xv_V, xv_get 8 e' i = some v → xv_hv sb as v (.int (va_cpy f h sp dp n i))
  | 0, g, h, hc, hf, hg, h1, h2 => by
    cases hc
    intro i hi v hv
    rw [show va_cpy f h sp dp 0 i = h i by unfold va_cpy; rw [if_neg (by omega)]]
    exact hg i hi v hv
  | n + 1, g, h, hc, hf, hg, h1, h2 => by
    have hc : (match xv_get 8 e (sp + n) with | some v => xv_copy e sp dp n (xv_upd 8 g (dp + n) v) | none => none) = some e' := hc
    cases hq : xv_get 8 e (sp + n) with
    | none => rw [hq] at hc; cases hc
    | some w =>
      rw [hq] at hc
      have ih := xv_copy_ok n (xv_upd 8 g (dp + n) w) (upd h (dp + n) (f (sp + n))) hc hf (fun i hi v hv => by
        rcases xv_get_upd hv with ⟨rfl, rfl⟩ | ⟨hne, hv⟩
        · rw [show upd h (dp + n) (f (sp + n)) (dp + n) = f (sp + n) by simp [upd]]
          exact hf _ (by omega) _ hq
        · rw [show upd h (dp + n) (f (sp + n)) i = h i by simp [upd, hne]]
          exact hg i hi v hv) (by omega) (by omega)
      intro i hi v hv
      have := ih i hi v hv
      rw [show va_cpy f h sp dp (n + 1) i = va_cpy f (upd h (dp + n) (f (sp + n))) sp dp n i from ?_]
      · exact this
      · unfold va_cpy upd
        by_cases q1 : dp ≤ i ∧ i < dp + n
        · rw [if_pos q1, if_pos (by omega)]
        · rw [if_neg q1]
          by_cases q2 : i = dp + n
          · rw [if_pos (by omega), if_pos q2, show sp + (i - dp) = sp + n by omega]
          · rw [if_neg (by omega), if_neg q2]
section XV7
variable {p : Program} {l : Launch} {e : Env} {R : Room} {s : State} {m : MethodId} {args : Array Value} {below : List Frame} {meth : Method} {c : Code}
variable {cc : ByteArray} {own : String} {nL : Nat} {D : va_G} {t : Nat → ClassId} {A : Nat → Prop} {as0 : List Nat} {sb : Nat} {scr : List xv_V} {Q : xv_R → State → Prop} {k : xv_K} {pc : Nat} {L st : List xv_V} {S : xv_S} {r : xv_R}
theorem xs_copy {index : Nat} (C : xv_Cx p s m args c cc own nL D t A sb scr) (hk : xv_G p l e R s m args below meth c D t A as0 sb nL Q k) (hd : decode cc pc = .ok (.invokestatic index, 3)) (hRm : 1 ≤ R.frames ∧ 26 ≤ R.locals) (hw : Cond.methodLink own index arraycopyName ∈ xv_tb) (hw2 : Cond.native arraycopyName ∈ xv_tb) (hw3 : Cond.static arraycopyName ∈ xv_tb) (hw4 : Cond.initialized "java/lang/System" ∈ xv_tb)
    (hr : (match st with
      | n :: dp :: d :: sp :: o :: r => (match xv_cell S.1 o, xv_cell S.1 d with
        | some c, some g => bif Nat.beq n.1 0 && (Nat.beq dp.1 0 && (Nat.beq sp.1 0 && (xv_isOne n && (xv_isOne dp && (xv_isOne sp && (Nat.beq c.1 1 && (Nat.beq g.1 1 && (Nat.ble (sp.2.1.toNat + n.2.1.toNat) c.2.1 && (Nat.ble (dp.2.1.toNat + n.2.1.toNat) g.2.1 && (Nat.beq c.2.1 c.2.2.1 && (Nat.beq g.2.1 g.2.2.1 && (Nat.ble (xv_cats r) 8 && !(Nat.beq o.2.1.toNat d.2.1.toNat))))))))))))) then
            (match xv_copy c.2.2.2 sp.2.1.toNat dp.2.1.toNat n.2.1.toNat g.2.2.2 with
            | some e => k (pc + 3) L r (xv_upd 14 S.1 d.2.1.toNat (g.1, g.2.1, g.2.2.1, e), S.2)
            | none => none) else none
        | _, _ => none)
      | _ => none) = some r) : xv_T p l e R s m args below meth c D t A as0 sb nL Q pc L st S r := by
  match st, hr with
  | [], hr => cases hr
  | [_], hr => cases hr
  | [_, _], hr => cases hr
  | [_, _, _], hr => cases hr
  | [_, _, _, _], hr => cases hr
  | n :: dp :: d :: sp :: o :: z, hr =>
    dsimp only at hr
    cases hc1 : xv_cell S.1 o with
    | none => rw [hc1] at hr; cases hr
    | some ca =>
      cases hc2 : xv_cell S.1 d with
      | none => rw [hc1, hc2] at hr; cases hr
      | some cb =>
        rw [hc1, hc2] at hr
        obtain ⟨b1, hr⟩ := xv_bt hr
        simp only [Bool.and_eq_true] at b1
        obtain ⟨b1, b2, b3, b4, b5, b6, b7, b8, b9, b10, b11, b12, b13, -⟩ := b1
        have b1 := xv_beq b1
        have b2 := xv_beq b2
        have b3 := xv_beq b3
        have b7 := xv_beq b7
        have b8 := xv_beq b8
        have b9 := xv_ble b9
        have b10 := xv_ble b10
        have b11 := xv_beq b11
        have b12 := xv_beq b12
        have b13 := xv_ble b13
        obtain ⟨n1, n2⟩ := xv_isOne_eq b4
        obtain ⟨d1, d2⟩ := xv_isOne_eq b5
        obtain ⟨s1, s2⟩ := xv_isOne_eq b6
        cases hcp : xv_copy ca.2.2.2 sp.2.1.toNat dp.2.1.toNat n.2.1.toNat cb.2.2.2 with
        | none => rw [hcp] at hr; cases hr
        | some e' =>
          rw [hcp] at hr
          obtain ⟨h1, h2, h3⟩ := hk _ _ _ _ _ hr
          refine ⟨h1, h2, fun hcc hz ls vst H locs ws hR => ?_⟩
          obtain ⟨n0, vst, rfl, hn, hst1⟩ := hR.2.1.un
          obtain ⟨dp0, vst, rfl, hdp, hst2⟩ := hst1.un
          obtain ⟨d0, vst, rfl, hdd, hst3⟩ := hst2.un
          obtain ⟨sp0, vst, rfl, hsp, hst4⟩ := hst3.un
          obtain ⟨o0, vst, rfl, ho, hst5⟩ := hst4.un
          have hH := hR.2.2.2.2.2.1
          obtain ⟨ad1, en1, rfl, hen1, hce1⟩ := hH.cell hc1 (by omega) ho
          obtain ⟨ad2, en2, rfl, hen2, hce2⟩ := hH.cell hc2 (by omega) hdd
          obtain ⟨f, rfl, hf⟩ := hce1.2.1 (by omega)
          obtain ⟨g, rfl, hg⟩ := hce2.2.1 (by omega)
          have h65 := hce2.2.2.2.2 (by omega)
          obtain ⟨ni, rfl, q1, q2⟩ := hn.1 b1
          obtain ⟨di, rfl, q3, q4⟩ := hdp.1 b2
          obtain ⟨si, rfl, q5, q6⟩ := hsp.1 b3
          obtain ⟨en1', en2', en3'⟩ := xv_idx n1 n2 q1 q2
          obtain ⟨ed1, ed2, ed3⟩ := xv_idx d1 d2 q3 q4
          obtain ⟨es1, es2, es3⟩ := xv_idx s1 s2 q5 q6
          have hcat := xv_cats_ok hst5 b13
          rw [b7] at hen1
          rw [b8] at hen2
          refine va_copyi C.1 C.2.1 (by rw [C.2.2.1]; exact hR.1.2.elim fun lv h => h.1.1.symm) C.2.2.2.1 (C.2.2.2.2.1 _ hw) (C.2.2.2.2.1 _ hw2) (C.2.2.2.2.1 _ hw3) (C.2.2.2.2.1 _ hw4) C.2.2.2.2.2.1 hR.2.2.1 hR.2.2.2.1 hR.2.2.2.2.1 _ _ 0 0 hen1 hen2 rfl rfl rfl es3 ed3 en3' (by rw [es2, en2']; exact b9) (by rw [ed2, en2']; exact b10) (fun _ _ => rfl) hRm.1 (by rw [show nativeFrameWords "java/lang/System" "arraycopy" 5 = 7 by decide]; omega) hd (fun H1 locs1 hP1 hD1 hS1 => ?_)
          rw [es2, ed2, en2'] at hP1 hD1
          refine h3 hcc hz ls vst H1 locs1 _ (hR.new ⟨[], ?_⟩ ?_ hP1 hD1 hS1 ?_)
          · rw [xv_fst_set hen2, List.append_nil]
          · rw [xv_fst_set hen2]; exact hst5
          · refine hH.set hen2 ?_
            have key := xv_copy_ok (sb := sb) (as := ws.map Prod.fst) (f := f) (n0 := ca.2.1) (n1 := cb.2.1) n.2.1.toNat cb.2.2.2 g hcp (fun i hi v hv => hf i hi v (by rw [← b11, Nat.mod_eq_of_lt hi]; exact hv)) (fun i hi v hv => hg i hi v (by rw [← b12, Nat.mod_eq_of_lt hi]; exact hv)) b9 b10
            have := xv_hc.irow (t := t) (sb := sb) (as := ws.map Prod.fst) (k := (cb.1, cb.2.1, cb.2.2.1, e')) (f := va_cpy f g sp.2.1.toNat dp.2.1.toNat n.2.1.toNat) (by show cb.1 = 1 ∨ _; omega) h65 (fun i hi v hv => key i hi v (by dsimp only at hv; rw [← b12, Nat.mod_eq_of_lt hi] at hv; exact hv))
            dsimp only at this
            rw [b8] at this ⊢
            exact this
theorem xs_obj {index : Nat} (C : xv_Cx p s m args c cc own nL D t A sb scr) (hk : xv_G p l e R s m args below meth c D t A as0 sb nL Q k) (hd : decode cc pc = .ok (.invokespecial index, 3)) (hRm : 1 ≤ R.frames ∧ 26 ≤ R.locals) (hw : Cond.methodLink own index objectInit ∈ xv_tb) (hw2 : Cond.instanceMethod objectInit ∈ xv_tb) (hw3 : Cond.code objectInit ⟨#[0xb1]⟩ 1 none ∈ xv_tb)
    (hr : (match st with
      | o :: r => bif Nat.beq o.1 2 && Nat.ble (xv_cats r) 8 then k (pc + 3) L r S else none
      | _ => none) = some r) : xv_T p l e R s m args below meth c D t A as0 sb nL Q pc L st S r := by
  match st, hr with
  | [], hr => cases hr
  | o :: z, hr =>
    obtain ⟨b1, hr⟩ := xv_bt hr
    obtain ⟨b1, b2⟩ := xv_and_t b1
    refine xs_pure hk hr fun ls vst H locs as a b Z hl hst => ?_
    obtain ⟨x0, vst, rfl, hx, hst2⟩ := hst.un
    obtain ⟨ad, -, rfl⟩ := hx.2.2.1 (xv_beq b1)
    have hcat := xv_cats_ok hst2 (xv_ble b2)
    have := xv_ble b2
    refine ⟨vst, hst2, fun w => W.objInit C.1 C.2.1 C.2.2.2.1 (C.2.2.2.2.1 _ hw) (C.2.2.2.2.1 _ hw2) (C.2.2.2.2.1 _ hw3) rfl (by rw [C.2.2.1]; exact hl.2.elim fun lv h => h.1.1) rfl hd hRm.1 ?_ w⟩
    show 2 * 0 + _ + 12 ≤ _
    omega
def xv_P (D : va_G) (t : Nat → ClassId) (ws : va_W) (vs : List Value) (sz : Nat) : Array Value → State → Prop := va_Pc vs (fun U => U.heap.size = sz ∧ va_P D vwCl ws U.heap ∧ va_K D vwCl (xv_tys t) U ∧ xv_Ex U)
def xv_Qc (D : va_G) (t : Nat → ClassId) (sb : Nat) (ws : va_W) (sz : Nat) (r : xv_R) : Array Value → State → Outcome → State → Prop := fun _ st oc tt => (∃ (rv : Option Value) (ws' : va_W), oc = .returned rv ∧ va_P D vwCl ws' tt.heap ∧ va_D (va_A ws sz) ws' ∧ xv_H t sb r.2.2.1 r.2.2.2.1 ws' ∧ (∃ more, ws'.map Prod.fst = ws.map Prod.fst ++ more) ∧ xv_sm sb (ws'.map Prod.fst) r.1 rv.toList) ∧ va_F (va_A ws sz) st tt
abbrev xv_I : Type := MethodName × ByteArray × Nat × Option FieldType
/-- what a table of calls promises -/
def xv_CG (l : Launch) (dF : Nat) (I : Nat → Option xv_I) (call : Nat → List xv_V → xv_A → Nat → Option xv_R) : Prop :=
  ∀ (id : Nat) (av : List xv_V) (h : xv_A) (n : Nat) (r : xv_R), call id av h n = some r → ∃ i : xv_I, I id = some i ∧ ∀ (D : va_G) (t : Nat → ClassId) (sb : Nat) (ws : va_W) (vs : List Value) (sz : Nat), xv_H t sb h n ws → xv_sm sb (ws.map Prod.fst) av vs → va_D (fun _ => True) ws →
    Met l i.1 (Cond.code i.1 i.2.1 i.2.2.1 i.2.2.2 :: xv_tb) { frames := dF, cells := r.2.2.2.2.1, slots := r.2.2.2.2.2, locals := 60 * dF } (xv_P D t ws vs sz) (xv_Qc D t sb ws sz r) r.2.2.2.2.1 r.2.2.2.2.2 (va_A ws sz)
theorem xv_blind {ws : va_W} {vs : List Value} {sz : Nat} : FrameBlind (xv_P D t ws vs sz) := fun a U g mk q => by
  obtain ⟨q0, q1, q2, q3, q4⟩ := q
  exact ⟨q0, q1, q2, va_K.moved (u := U) (U := U.calling g mk a) (Vm.Alike.refl U.vm) q3, xv_Ex.same (u := U) (U := U.calling g mk a) rfl q4⟩
/-- behind a call -/
theorem xs_behind {r0 : xv_R} {pc' : Nat} {rest : List xv_V} {vrest : List Value} {ls : Array Slot} {H : Heap} {locs : List Loc} {ws : va_W} {vst : List Value} {aa : Array Value} (C : xv_Cx p s m args c cc own nL D t A sb scr) (hR : xv_Rl D t A s.heap as0 sb nL L st S ls vst H locs ws) (hrest : xv_sm sb (ws.map Prod.fst) rest vrest)
    (hrun : va_Run p l e R s m args below meth c H locs S.2.2.1 S.2.2.2 r0.2.2.2.2.1 r0.2.2.2.2.2 (F0 m pc ls vst) vrest (xv_Qc D t sb ws H.size r0 aa) (va_A ws H.size)) {Z : State → Prop}
    (kk : ∀ (vst' : List Value) (H' : Heap) (locs' : List Loc) (ws' : va_W), xv_Rl D t A s.heap as0 sb nL L (r0.1 ++ rest) (r0.2.2.1, r0.2.2.2.1, S.2.2.1 + r0.2.2.2.2.1, S.2.2.2 + r0.2.2.2.2.2) ls vst' H' locs' ws' → W p l e R s m args below meth c H' locs' (S.2.2.1 + r0.2.2.2.2.1) (S.2.2.2 + r0.2.2.2.2.2) Z (F0 m (pc + 3) ls vst')) : W p l e R s m args below meth c H locs S.2.2.1 S.2.2.2 Z (F0 m pc ls vst) := by
  intro T hT X
  obtain ⟨v, st₀, t1, T', L', h0, X', hL, e1, e2, ⟨⟨rv, ws', hrv, hP', hD', hH', hmore, hsm⟩, hF⟩, hgo⟩ := hrun T hT X
  cases hrv
  have hin : ∀ q : Nat, va_A ws H.size q → A q := fun q hq => by
    rcases hq with ⟨k9, e9, h9⟩ | hq
    · exact hR.2.2.2.1.2 k9 _ h9
    · exact C.2.2.2.2.2.2.1 q (Nat.le_trans hR.2.2.2.2.1.1 hq)
  have hS := hR.2.2.2.2.1
  have hF1 := hF.1
  rw [h0] at hF1
  have hS' : va_S A s.heap T'.heap (locs ++ L') := ⟨by rw [e1]; exact Nat.le_trans hS.1 hF1, fun q h1 h2 => by
    rw [e1, hF.2 q (by rw [h0]; exact Nat.lt_of_lt_of_le h1 hS.1) (fun hq => h2 (hin q hq)), h0]
    exact hS.2.1 q h1 h2, fun q hq => (List.mem_append.mp hq).elim (hS.2.2 q) (fun hq => hin _ (hL q hq))⟩
  obtain ⟨mr, hmr⟩ := hmore
  obtain ⟨tt, a1, b1⟩ := kk (v.toList ++ vrest) T'.heap (locs ++ L') ws' (hR.new ⟨mr, hmr⟩ (xv_sm.app hsm (hrest.more (by rw [hmr]; exact xv_pre_app))) (by rw [e1]; exact hP') (hD'.weaken (fun _ _ _ hq => hin _ hq)) hS' hH') T' rfl X'
  exact ⟨tt, hgo tt a1, b1⟩
/-- what is asked of a method that is called -/
def xv_callee (i : xv_I) (n : Nat) : Prop := Cond.code i.1 i.2.1 i.2.2.1 i.2.2.2 ∈ xv_tb ∧ Cond.initialized i.1.cls ∈ xv_tb ∧ (i.1.cls ≠ "java/lang/invoke/MethodHandle" ∧ i.1.cls ≠ "java/lang/invoke/VarHandle" ∧ (parseMethodDescriptor i.1.desc).map (fun d => d.parameters.length) = some n) ∧ i.2.2.1 ≤ 41
theorem xs_call {call : Nat → List xv_V → xv_A → Nat → Option xv_R} {id pc' : Nat} {av rest : List xv_V} (hr : xv_call k call id pc' av L rest S = some r) : xv_cats rest ≤ 8 ∧ ∃ r0, call id av S.1 S.2.1 = some r0 ∧ k pc' L (r0.1 ++ rest) (r0.2.2.1, r0.2.2.2.1, S.2.2.1 + r0.2.2.2.2.1, S.2.2.2 + r0.2.2.2.2.2) = some r := by
  unfold xv_call at hr
  obtain ⟨b, hr⟩ := xv_bt hr
  refine ⟨xv_ble b, ?_⟩
  cases hc : call id av S.1 S.2.1 with
  | none => rw [hc] at hr; cases hr
  | some r0 => rw [hc] at hr; exact ⟨r0, rfl, hr⟩
theorem xs_invS {index id n dF : Nat} {call : Nat → List xv_V → xv_A → Nat → Option xv_R} {I : Nat → Option xv_I} {i : xv_I} (C : xv_Cx p s m args c cc own nL D t A sb scr) (hk : xv_G p l e R s m args below meth c D t A as0 sb nL Q k) (hCG : xv_CG l dF I call) (hd : decode cc pc = .ok (.invokestatic index, 3)) (hRm : dF + 1 ≤ R.frames ∧ 60 * dF + 60 ≤ R.locals) (hi : I id = some i) (hcal : xv_callee i n) (hw : Cond.methodLink own index i.1 ∈ xv_tb) (hw2 : Cond.static i.1 ∈ xv_tb)
    (hr : (match xv_take n [] st with | some (as, r) => xv_call k call id (pc + 3) as L r S | none => none) = some r) : xv_T p l e R s m args below meth c D t A as0 sb nL Q pc L st S r := by
  cases htk : xv_take n [] st with
  | none => rw [htk] at hr; cases hr
  | some q =>
    obtain ⟨av, rest⟩ := q
    rw [htk] at hr
    obtain ⟨h8, r0, hc0, hr⟩ := xs_call hr
    obtain ⟨i', hi', hM⟩ := hCG _ _ _ _ _ hc0
    cases hi.symm.trans hi'
    obtain ⟨h1, h2, h3⟩ := hk _ _ _ _ _ hr
    dsimp only at h1 h2 h3
    refine ⟨by omega, by omega, fun hcc hz ls vst H locs ws hR => ?_⟩
    obtain ⟨P, vr, rfl, hPl, hav, hrest⟩ := xv_take_ok n [] st [] vst av rest htk True.intro hR.2.1
    rw [List.append_nil] at hav
    have hcat := xv_cats_ok hrest h8
    refine xs_behind C hR hrest (va_runS (As := P.reverse) (n := n) (own := own) (Ts := xv_tb) (nL := nL) (index := index) ⟨C.1, C.2.1, C.2.2.1, C.2.2.2.1, C.2.2.2.2.1⟩ (hM D t sb ws P.reverse H.size hR.2.2.2.2.2.1 hav (hR.2.2.2.1.weaken fun _ _ _ _ => trivial)) ⟨callB_of n C.2.2.2.2.1 (xv_goodIn hcal.1) rfl rfl rfl (C.2.2.2.2.1 _ hcal.2.1) (C.2.2.2.2.1 _ hw) hcal.2.2.1 ⟨hRm.1, by have := hcal.2.2.2; show 8 + (_ + 11) + 60 * dF ≤ _; omega⟩, C.2.2.2.2.1 _ hw2⟩ ⟨xv_blind, fun U hU hW => ⟨rfl, by rw [hU], by rw [hU]; exact hR.2.2.1, va_K.moved hW.alike C.2.2.2.2.2.1, C.2.2.2.2.2.2.2.2.warm hW⟩⟩ rfl (by rw [List.length_reverse]; exact hPl) (hR.1.2.elim fun lv h => h.1.1) (by rw [List.reverse_reverse]) (lv_room (by omega)) hd ⟨by omega, by omega⟩) (pc' := pc + 3) (fun vst' H' locs' ws' hR' => h3 hcc hz ls vst' H' locs' ws' hR')
theorem xs_invV {index id n dF ci : Nat} {call : Nat → List xv_V → xv_A → Nat → Option xv_R} {I : Nat → Option xv_I} {i : xv_I} {q : vw_C} (C : xv_Cx p s m args c cc own nL D t A sb scr) (hk : xv_G p l e R s m args below meth c D t A as0 sb nL Q k) (hCG : xv_CG l dF I call) (hd : decode cc pc = .ok (.invokevirtual index, 3)) (hRm : dF + 1 ≤ R.frames ∧ 60 * dF + 60 ≤ R.locals) (hi : I id = some i) (hcal : xv_callee i n) (hw : Cond.methodLink own index i.1 ∈ xv_tb) (hw2 : Cond.instanceMethod i.1 ∈ xv_tb) (hw3 : Cond.selects i.1.cls i.1 i.1 ∈ xv_tb) (hq : vwCl[ci]? = some q) (hqc : q.1 = i.1.cls)
    (hr : (match xv_take n [] st with | some (as, o :: r) => (match xv_cell S.1 o with | some c => bif Nat.beq c.1 0 && Nat.beq c.2.1 ci then xv_call k call id (pc + 3) (o :: as) L r S else none | none => none) | _ => none) = some r) : xv_T p l e R s m args below meth c D t A as0 sb nL Q pc L st S r := by
  cases htk : xv_take n [] st with
  | none => rw [htk] at hr; cases hr
  | some q9 =>
    obtain ⟨av, rest0⟩ := q9
    rw [htk] at hr
    match rest0, hr with
    | [], hr => cases hr
    | o :: rest, hr =>
      dsimp only at hr
      cases hc : xv_cell S.1 o with
      | none => rw [hc] at hr; cases hr
      | some cl =>
        rw [hc] at hr
        obtain ⟨b1, hr⟩ := xv_bt hr
        obtain ⟨b1, b2⟩ := xv_and_t b1
        have b1 := xv_beq b1
        have b2 := xv_beq b2
        obtain ⟨h8, r0, hc0, hr⟩ := xs_call hr
        obtain ⟨i', hi', hM⟩ := hCG _ _ _ _ _ hc0
        cases hi.symm.trans hi'
        obtain ⟨h1, h2, h3⟩ := hk _ _ _ _ _ hr
        dsimp only at h1 h2 h3
        refine ⟨by omega, by omega, fun hcc hz ls vst H locs ws hR => ?_⟩
        obtain ⟨P, vr, rfl, hPl, hav, hrest0⟩ := xv_take_ok n [] st [] vst av (o :: rest) htk True.intro hR.2.1
        rw [List.append_nil] at hav
        obtain ⟨x0, vr, rfl, hx, hrest⟩ := hrest0.un
        have hcat := xv_cats_ok hrest h8
        obtain ⟨ad, en, rfl, hen, hce⟩ := hR.2.2.2.2.2.1.cell hc (by omega) hx
        obtain ⟨fs, rfl, -, -⟩ := hce.1 b1
        rw [b2] at hen
        have hrecv := va_recv C.2.2.2.2.2.1 hR.2.2.1 hq hen
        rw [hqc] at hrecv
        refine xs_behind C hR hrest (va_runV (C := i.1.cls) (As := P.reverse) (n := n) (own := own) (Ts := xv_tb) (nL := nL) (index := index) ⟨C.1, C.2.1, C.2.2.1, C.2.2.2.1, C.2.2.2.2.1⟩ (hM D t sb ws (.ref ad :: P.reverse) H.size hR.2.2.2.2.2.1 (xv_sm.cons hx hav) (hR.2.2.2.1.weaken fun _ _ _ _ => trivial)) ⟨callB_of n C.2.2.2.2.1 (xv_goodIn hcal.1) rfl rfl rfl (C.2.2.2.2.1 _ hcal.2.1) (C.2.2.2.2.1 _ hw) hcal.2.2.1 ⟨hRm.1, by have := hcal.2.2.2; show 8 + (_ + 11) + 60 * dF ≤ _; omega⟩, C.2.2.2.2.1 _ hw2, C.2.2.2.2.1 _ hw3⟩ ⟨xv_blind, hrecv, fun U hU hW => ⟨rfl, by rw [hU], by rw [hU]; exact hR.2.2.1, va_K.moved hW.alike C.2.2.2.2.2.1, C.2.2.2.2.2.2.2.2.warm hW⟩⟩ rfl (by rw [List.length_reverse]; exact hPl) (hR.1.2.elim fun lv h => h.1.1) (by rw [List.reverse_reverse]) (lv_room (by omega)) hd ⟨by omega, by omega⟩) (pc' := pc + 3) (fun vst' H' locs' ws' hR' => h3 hcc hz ls vst' H' locs' ws' hR')
theorem xs_invI {index id n dF : Nat} {call : Nat → List xv_V → xv_A → Nat → Option xv_R} {I : Nat → Option xv_I} {i : xv_I} {host : String} (C : xv_Cx p s m args c cc own nL D t A sb scr) (hk : xv_G p l e R s m args below meth c D t A as0 sb nL Q k) (hCG : xv_CG l dF I call) (hd : decode cc pc = .ok (.invokespecial index, 3)) (hRm : dF + 1 ≤ R.frames ∧ 60 * dF + 60 ≤ R.locals) (hi : I id = some i) (hcal : xv_callee i n) (hret : i.2.2.2 = none) (hnm : i.1.name = "<init>") (hw : Cond.methodLink own index i.1 ∈ xv_tb ∨ (own, index, i.1, host) ∈ xv_nest) (hw2 : Cond.instanceMethod i.1 ∈ xv_tb)
    (hr : (match xv_take n [] st with | some (as, o :: r) => bif Nat.beq o.1 2 then xv_call k call id (pc + 3) (o :: as) L r S else none | _ => none) = some r) : xv_T p l e R s m args below meth c D t A as0 sb nL Q pc L st S r := by
  cases htk : xv_take n [] st with
  | none => rw [htk] at hr; cases hr
  | some q9 =>
    obtain ⟨av, rest0⟩ := q9
    rw [htk] at hr
    match rest0, hr with
    | [], hr => cases hr
    | o :: rest, hr =>
      obtain ⟨b1, hr⟩ := xv_bt hr
      have b1 := xv_beq b1
      obtain ⟨h8, r0, hc0, hr⟩ := xs_call hr
      obtain ⟨i', hi', hM⟩ := hCG _ _ _ _ _ hc0
      cases hi.symm.trans hi'
      obtain ⟨h1, h2, h3⟩ := hk _ _ _ _ _ hr
      dsimp only at h1 h2 h3
      refine ⟨by omega, by omega, fun hcc hz ls vst H locs ws hR => ?_⟩
      obtain ⟨P, vr, rfl, hPl, hav, hrest0⟩ := xv_take_ok n [] st [] vst av (o :: rest) htk True.intro hR.2.1
      rw [List.append_nil] at hav
      obtain ⟨x0, vr, rfl, hx, hrest⟩ := hrest0.un
      have hcat := xv_cats_ok hrest h8
      obtain ⟨ad, -, rfl⟩ := hx.2.2.1 b1
      have hM0 := hM D t sb ws (.ref ad :: P.reverse) H.size hR.2.2.2.2.2.1 (xv_sm.cons hx hav) (hR.2.2.2.1.weaken fun _ _ _ _ => trivial)
      have hcode := hcal.1
      rw [hret] at hM0 hcode
      have hroom : ({ frames := dF, cells := r0.2.2.2.2.1, slots := r0.2.2.2.2.2, locals := 60 * dF } : Room).frames + 1 ≤ R.frames ∧ 8 + (i.2.2.1 + 11) + ({ frames := dF, cells := r0.2.2.2.2.1, slots := r0.2.2.2.2.2, locals := 60 * dF } : Room).locals ≤ R.locals := ⟨hRm.1, by have := hcal.2.2.2; show 8 + (_ + 11) + 60 * dF ≤ _; omega⟩
      rcases hw with hw | hw
      · exact xs_behind C hR hrest (va_runI (As := P.reverse) (n := n) (own := own) (Ts := xv_tb) (nL := nL) (index := index) ⟨C.1, C.2.1, C.2.2.1, C.2.2.2.1, C.2.2.2.2.1⟩ hM0 ⟨callB_of n C.2.2.2.2.1 (xv_goodIn hcode) rfl rfl rfl (C.2.2.2.2.1 _ hcal.2.1) (C.2.2.2.2.1 _ hw) hcal.2.2.1 hroom, hnm, C.2.2.2.2.1 _ hw2⟩ ⟨xv_blind, fun U hU hW => ⟨rfl, by rw [hU], by rw [hU]; exact hR.2.2.1, va_K.moved hW.alike C.2.2.2.2.2.1, C.2.2.2.2.2.2.2.2.warm hW⟩⟩ rfl (by rw [List.length_reverse]; exact hPl) (hR.1.2.elim fun lv h => h.1.1) (by rw [List.reverse_reverse]) (lv_room (by omega)) hd ⟨by omega, by omega⟩) (pc' := pc + 3) (fun vst' H' locs' ws' hR' => h3 hcc hz ls vst' H' locs' ws' hR')
      · exact xs_behind C hR hrest (va_runIN (As := P.reverse) (n := n) (own := own) (host := host) (Ts := xv_tb) (nL := nL) (index := index) ⟨C.1, C.2.1, C.2.2.1, C.2.2.2.1, C.2.2.2.2.1⟩ hM0 ⟨va_cnB n C.2.2.2.2.1 (xv_goodIn hcode) rfl rfl rfl (C.2.2.2.2.2.2.2.2.1 _ hw) (C.2.2.2.2.1 _ hcal.2.1) hcal.2.2.1 hroom, hnm, C.2.2.2.2.1 _ hw2⟩ ⟨xv_blind, fun U hU hW => ⟨rfl, by rw [hU], by rw [hU]; exact hR.2.2.1, va_K.moved hW.alike C.2.2.2.2.2.1, C.2.2.2.2.2.2.2.2.warm hW⟩⟩ rfl (by rw [List.length_reverse]; exact hPl) (hR.1.2.elim fun lv h => h.1.1) (by rw [List.reverse_reverse]) (lv_room (by omega)) hd ⟨by omega, by omega⟩) (pc' := pc + 3) (fun vst' H' locs' ws' hR' => h3 hcc hz ls vst' H' locs' ws' hR')
end XV7
