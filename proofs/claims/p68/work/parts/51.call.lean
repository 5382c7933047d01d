/-! calls -/
def xw_Pr (D : va_G) (t : Nat → ClassId) (X : xw_X) (xs : Nat → Int32) (ws : va_W) (vs : List Value) (sz : Nat) : Array Value → State → Prop := va_Pc vs (fun U => U.heap.size = sz ∧ va_P D vwCl ws U.heap ∧ va_K D vwCl (xv_tys t) U ∧ xv_Ex U ∧ (X.2.2.2.1 → va_X X.1 X.2.1 xs U U.heap ∧ X.1 < U.heap.size ∧ ¬ va_A ws sz X.1 ∧ X.2.1 < 2 ^ 31) ∧ X.2.2.2.2 (va_A ws sz) U)
/-- the world behind a call, the frame aside -/
def xw_Wb (D : va_G) (t : Nat → ClassId) (hl : Nat × Int) (Γ : xv_A) (X : xw_X) (xs : Nat → Int32) (ws0 ws : va_W) (sz : Nat) (dt : xw_D) (H : Heap) (ws' : va_W) : Prop := va_P D vwCl ws' H ∧ va_D (va_A ws sz) ws' ∧ xw_Wd hl Γ t X (xw_mu xs ws') ws' ∧ xw_Dt dt (xw_mu xs ws0) (xw_mu xs ws') ∧ xw_Dc dt ws0 ws' ∧ ws'.map Prod.fst = ws0.map Prod.fst
def xw_Po (D : va_G) (t : Nat → ClassId) (hl : Nat × Int) (Γ : xv_A) (X : xw_X) (xs : Nat → Int32) (ws0 ws : va_W) (sz : Nat) (ρ : Nat → Int) (n : Nat) (kr : xw_Kr) : Array Value → State → Outcome → State → Prop := fun _ st oc tt => (∃ (rv : Option Value) (ws' : va_W) (ρ' : Nat → Int) (r : Option xw_V) (S' : xw_S), oc = .returned rv ∧ kr r S' = true ∧ xw_Wb D t hl Γ X xs ws0 ws sz S'.2.2.2.2.2.2 tt.heap ws' ∧ xw_Up ρ n ρ' S'.2.1 ∧ xw_St ρ' S' ∧ xw_Me X (ws'.map Prod.fst) (xw_mu xs ws') ρ' S' ∧ xw_sk X (ws'.map Prod.fst) ρ' S'.2.1 r.toList rv.toList) ∧ va_F (va_A ws sz) st tt
/-- what a table of calls promises -/
def xw_CG (l : Launch) (dF : Nat) (I : Nat → Option xv_I) (hl : Nat × Int) (Γ : xv_A) (gh : List xw_L) (call : xw_Cl) : Prop :=
  ∀ (caller pc id : Nat) (av : List xw_V) (S : xw_S) (kr : xw_Kr), call caller pc id av S kr = true → ∃ i : xv_I, I id = some i ∧ ∀ (D : va_G) (t : Nat → ClassId) (X : xw_X) (xs : Nat → Int32) (ws0 ws : va_W) (vs : List Value) (sz : Nat) (ρ gz : Nat → Int), xw_Inv X → xw_Wd hl Γ t X (xw_mu xs ws) ws → xw_Dt S.2.2.2.2.2.2 (xw_mu xs ws0) (xw_mu xs ws) → xw_Dc S.2.2.2.2.2.2 ws0 ws → ws.map Prod.fst = ws0.map Prod.fst → xw_St ρ S → xw_Me X (ws.map Prod.fst) (xw_mu xs ws) ρ S → xw_Gz ρ S.2.1 gh gz → xw_sk X (ws.map Prod.fst) ρ S.2.1 av vs → va_D (fun _ => True) ws →
    Met l i.1 (Cond.code i.1 i.2.1 i.2.2.1 i.2.2.2 :: xv_tb) { frames := dF, cells := 0, slots := 0, locals := 60 * dF } (xw_Pr D t X xs ws vs sz) (xw_Po D t hl Γ X xs ws0 ws sz ρ S.2.1 kr) 0 0 (va_A ws sz)
theorem xw_blind {D : va_G} {t : Nat → ClassId} {X : xw_X} {xs : Nat → Int32} {ws : va_W} {vs : List Value} {sz : Nat} (hI : xw_Inv X) : FrameBlind (xw_Pr D t X xs ws vs sz) := fun a U g mk q => by
  obtain ⟨q0, q1, q2, q3, q4, q5, q6⟩ := q
  exact ⟨q0, q1, q2, va_K.moved (u := U) (U := U.calling g mk a) (Vm.Alike.refl U.vm) q3, xv_Ex.same (u := U) (U := U.calling g mk a) rfl q4, fun w => ⟨va_X.moved (u := U) (U := U.calling g mk a) (Vm.Alike.refl U.vm) (q5 w).1, (q5 w).2⟩, hI.2.1 _ U (U.calling g mk a) rfl rfl q6⟩
section XY8
variable {p : Program} {l : Launch} {e : Env} {R : Room} {s : State} {m : MethodId} {args : Array Value} {below : List Frame} {meth : Method} {c : Code}
variable {e0 : (Nat → Int) × Nat} {cc : ByteArray} {own : String} {nL : Nat} {D : va_G} {t : Nat → ClassId} {A : Nat → Prop} {hl : Nat × Int} {Γ : xv_A} {X : xw_X} {xs : Nat → Int32} {ws0 : va_W} {gh : List xw_L} {gz : Nat → Int} {fh : Nat → Option xw_H} {cs sl : Nat} {Q : State → Prop} {act : List xw_A} {k : xw_K} {pc : Nat} {L st : List xw_V} {S : xw_S}
theorem xw_sk.app {as : List Nat} {ρ : Nat → Int} {n : Nat} : ∀ {a b : List xw_V} {x y : List Value}, xw_sk X as ρ n a x → xw_sk X as ρ n b y → xw_sk X as ρ n (a ++ b) (x ++ y)
  | [], _, [], _, _, h => h
  | [], _, _ :: _, _, h, _ => False.elim h
  | _ :: _, _, [], _, h, _ => False.elim h
  | _ :: _, _, _ :: _, _, h, h2 => And.intro h.1 (xw_sk.app h.2 h2)
theorem xw_take_ok {as : List Nat} {ρ : Nat → Int} {n : Nat} : ∀ (k : Nat) (acc st : List xw_V) (vacc vst : List Value) (a b : List xw_V), xw_take k acc st = some (a, b) → xw_sk X as ρ n acc vacc → xw_sk X as ρ n st vst → ∃ P vr, vst = P ++ vr ∧ P.length = k ∧ xw_sk X as ρ n a (P.reverse ++ vacc) ∧ xw_sk X as ρ n b vr
  | 0, acc, st, vacc, vst, a, b, h, h1, h2 => by
    cases h
    exact ⟨[], vst, rfl, rfl, h1, h2⟩
  | k + 1, acc, [], vacc, vst, a, b, h, h1, h2 => by cases h
  | k + 1, acc, v :: st, vacc, vst, a, b, h, h1, h2 => by
    obtain ⟨x, xs, rfl, hx, hxs⟩ := h2.un
    obtain ⟨P, vr, rfl, hP, ha, hb⟩ := xw_take_ok k (v :: acc) st (x :: vacc) xs a b h (xw_sk.cons hx h1) hxs
    exact ⟨x :: P, vr, rfl, by simp [hP], by simpa using ha, hb⟩
theorem xy_in {ρ : Nat → Int} {ls : Array Slot} {vst : List Value} {H : Heap} {locs : List Loc} {ws : va_W} (C : xw_Cx p s m args c cc own nL D t A X xs Γ) (hR : xw_Rl D t A s.heap hl Γ X xs ws0 nL ρ L st S ls vst H locs ws) : ∀ q : Nat, va_A ws H.size q → A q := fun q hq => by
  rcases hq with ⟨k9, e9, h9⟩ | hq
  · exact hR.2.2.1.2.1.2 k9 _ h9
  · exact C.2.2.2.2.2.2.1 q (Nat.le_trans hR.2.2.1.2.2.1.1 hq)
/-- what a method finds that is called -/
theorem xy_pre {ρ : Nat → Int} {ls : Array Slot} {vst : List Value} {H : Heap} {locs : List Loc} {ws : va_W} {vs : List Value} (C : xw_Cx p s m args c cc own nL D t A X xs Γ) (hR : xw_Rl D t A s.heap hl Γ X xs ws0 nL ρ L st S ls vst H locs ws) (U : State) (hU : U.heap = H) (hW : s.WarmedH U.vm) : xw_Pr D t X xs ws vs H.size vs.toArray U := by
  have hin := xy_in C hR
  have hS := hR.2.2.1.2.2.1
  refine ⟨rfl, by rw [hU], by rw [hU]; exact hR.2.2.1.1, va_K.moved hW.alike C.2.2.2.2.2.1, C.2.2.2.2.2.2.2.1.warm hW, fun w => ?_, ?_⟩
  · obtain ⟨c1, c2, c3, c4⟩ := C.2.2.2.2.2.2.2.2.1 w
    refine ⟨va_X.moved hW.alike (c1.kept ?_), ?_, fun q => c3 (hin _ q), c4⟩
    · rw [hU]; exact hS.2.1 X.1 c2 c3
    · rw [hU]; exact Nat.lt_of_lt_of_le c2 hS.1
  · refine C.2.2.2.2.2.2.2.2.2.2.1.1 A (va_A ws H.size) s U hin (fun a h1 h2 => ?_) hW C.2.2.2.2.2.2.2.2.2.1
    rw [hU]; exact hS.2.1 a h1 h2
/-- behind a call -/
theorem xy_behind {ρ : Nat → Int} {kr : xw_Kr} {rest : List xw_V} {vrest : List Value} {ls : Array Slot} {H : Heap} {locs : List Loc} {ws : va_W} {vst : List Value} {aa : Array Value} (C : xw_Cx p s m args c cc own nL D t A X xs Γ) (hR : xw_Rl D t A s.heap hl Γ X xs ws0 nL ρ L st S ls vst H locs ws) (hrest : xw_sk X (ws.map Prod.fst) ρ S.2.1 rest vrest) (hG : xw_Gy e0 ρ S.2.1 gh gz) (hH : ∀ a ∈ act, xw_Hy D t A s.heap hl Γ X xs ws0 nL gz fh (fun pc ls vst H locs => W p l e R s m args below meth c H locs cs sl Q (F0 m pc ls vst)) a ρ S.2.1)
    (hrun : va_Run p l e R s m args below meth c H locs cs sl 0 0 (F0 m pc ls vst) vrest (xw_Po D t hl Γ X xs ws0 ws H.size ρ S.2.1 kr aa) (va_A ws H.size))
    (kk : ∀ (r : Option xw_V) (S' : xw_S), kr r S' = true → xw_Tj e0 D t A s.heap hl Γ X xs ws0 nL gh gz fh (fun pc ls vst H locs => W p l e R s m args below meth c H locs cs sl Q (F0 m pc ls vst)) act (pc + 3) L (r.toList ++ rest) S') : W p l e R s m args below meth c H locs cs sl Q (F0 m pc ls vst) := by
  intro T hT XX
  obtain ⟨v, st₀, t1, T', L', h0, X', hL, e1, e2, ⟨⟨rv, ws', ρ', r, S', hrv, hkr, ⟨hP', hD', hWd', hDt', hDc', has'⟩, hu, hS', hM', hsk⟩, hF⟩, hgo⟩ := hrun T hT XX
  cases hrv
  have hin := xy_in C hR
  obtain ⟨⟨h1, lvs, h2, h3⟩, h4, ⟨hP, hD, hS, hWd, hDt, hDc, has⟩, h6, h7⟩ := id hR
  have hF1 := hF.1
  rw [h0] at hF1
  have hS2 : va_S A s.heap T'.heap (locs ++ L') := ⟨by rw [e1]; exact Nat.le_trans hS.1 hF1, fun q h1 h2 => by
    rw [e1, hF.2 q (by rw [h0]; exact Nat.lt_of_lt_of_le h1 hS.1) (fun hq => h2 (hin q hq)), h0]
    exact hS.2.1 q h1 h2, fun q hq => (List.mem_append.mp hq).elim (hS.2.2 q) (fun hq => hin _ (hL q hq))⟩
  have hfst : ws'.map Prod.fst = ws.map Prod.fst := has'.trans has.symm
  have hR' : xw_Rl D t A s.heap hl Γ X xs ws0 nL ρ' L (r.toList ++ rest) S' ls (v.toList ++ vrest) T'.heap (locs ++ L') ws' := by
    refine ⟨⟨h1, lvs, h2, ?_⟩, ?_, ⟨by rw [e1]; exact hP', hD'.weaken (fun _ _ _ hq => hin _ hq), hS2, hWd', hDt', hDc', has'⟩, hS', hM'⟩
    · rw [hfst]; exact h3.more hu
    · exact xw_sk.app hsk (by rw [hfst]; exact hrest.more hu)
  obtain ⟨tt, a1, b1⟩ := kk r S' hkr ρ' ls _ T'.heap (locs ++ L') ws' hR' (hG.more hu) (fun a ha => (hH a ha).more hu) T' rfl X'
  exact ⟨tt, hgo tt a1, b1⟩
theorem xy_call {call : xw_Cl} {id callee : Nat} {av rest : List xw_V} (h : xw_call call id pc callee av L rest S k = true) : xw_cats rest ≤ 8 ∧ ∃ kr : xw_Kr, call id pc callee av S kr = true ∧ ∀ r S', kr r S' = true → k (pc + 3) L (r.toList ++ rest) S' = true := by
  unfold xw_call at h
  cases hb : Nat.ble (xw_cats rest) 8 with
  | false => rw [hb] at h; cases h
  | true =>
    rw [hb] at h
    simp only [cond_true] at h
    refine ⟨xv_ble hb, _, h, fun r S' hr => ?_⟩
    cases r with
    | none => exact hr
    | some v => exact hr
theorem xy_invS {index id n dF own' : Nat} {call : xw_Cl} {I : Nat → Option xv_I} (C : xw_Cx p s m args c cc own nL D t A X xs Γ) (hk : (∀ pc' L' st' S', k pc' L' st' S' = true → xw_Tj e0 D t A s.heap hl Γ X xs ws0 nL gh gz fh (fun pc ls vst H locs => W p l e R s m args below meth c H locs cs sl Q (F0 m pc ls vst)) act pc' L' st' S')) (hCG : xw_CG l dF I hl Γ gh call) (hd : decode cc pc = .ok (.invokestatic index, 3)) (hRm : dF + 1 ≤ R.frames ∧ 60 * dF + 60 ≤ R.locals) (hCS : cs ≤ R.cells ∧ sl ≤ R.slots) (hok : ∀ i, I id = some i → xv_callee i n ∧ Cond.methodLink own index i.1 ∈ xv_tb ∧ Cond.static i.1 ∈ xv_tb)
    (h : (match xw_take n [] st with | some (as, r) => xw_call call own' pc id as L r S k | none => false) = true) : xw_Tj e0 D t A s.heap hl Γ X xs ws0 nL gh gz fh (fun pc ls vst H locs => W p l e R s m args below meth c H locs cs sl Q (F0 m pc ls vst)) act pc L st S := by
  cases htk : xw_take n [] st with
  | none => rw [htk] at h; cases h
  | some q =>
    obtain ⟨av, rest⟩ := q
    rw [htk] at h
    obtain ⟨h8, kr, hc0, hkr⟩ := xy_call h
    obtain ⟨i, hi, hM⟩ := hCG _ _ _ _ _ _ hc0
    obtain ⟨hcal, hw, hw2⟩ := hok i hi
    intro ρ ls vst H locs ws hR hG hH
    obtain ⟨P, vr, rfl, hPl, hav, hrest⟩ := xw_take_ok n [] st [] vst av rest htk True.intro hR.2.1
    rw [List.append_nil] at hav
    have hcat := xw_cats_ok hrest h8
    have hWl := hR.2.2.1
    refine xy_behind C hR hrest hG hH (va_runS (As := P.reverse) (n := n) (own := own) (Ts := xv_tb) (nL := nL) (index := index) ⟨C.1, C.2.1, C.2.2.1, C.2.2.2.1, C.2.2.2.2.1⟩ (hM D t X xs ws0 ws P.reverse H.size ρ gz C.2.2.2.2.2.2.2.2.2.2.1 hWl.2.2.2.1 hWl.2.2.2.2.1 hWl.2.2.2.2.2.1 hWl.2.2.2.2.2.2 hR.2.2.2.1 hR.2.2.2.2 hG.1 hav (hWl.2.1.weaken fun _ _ _ _ => trivial)) ⟨callB_of n C.2.2.2.2.1 (xv_goodIn hcal.1) rfl rfl rfl (C.2.2.2.2.1 _ hcal.2.1) (C.2.2.2.2.1 _ hw) hcal.2.2.1 ⟨hRm.1, by have := hcal.2.2.2; show 8 + (_ + 11) + 60 * dF ≤ _; omega⟩, C.2.2.2.2.1 _ hw2⟩ ⟨xw_blind C.2.2.2.2.2.2.2.2.2.2.1, fun U hU hW => xy_pre C hR U hU hW⟩ rfl (by rw [List.length_reverse]; exact hPl) (hR.1.2.elim fun lv h => h.1.1) (by rw [List.reverse_reverse]) (lv_room (by omega)) hd ⟨by omega, by omega⟩) (fun r S' hr => hk _ _ _ _ (hkr r S' hr))
theorem xy_invV {index id n dF ci own' : Nat} {call : xw_Cl} {I : Nat → Option xv_I} (C : xw_Cx p s m args c cc own nL D t A X xs Γ) (hk : (∀ pc' L' st' S', k pc' L' st' S' = true → xw_Tj e0 D t A s.heap hl Γ X xs ws0 nL gh gz fh (fun pc ls vst H locs => W p l e R s m args below meth c H locs cs sl Q (F0 m pc ls vst)) act pc' L' st' S')) (hCG : xw_CG l dF I hl Γ gh call) (hd : decode cc pc = .ok (.invokevirtual index, 3)) (hRm : dF + 1 ≤ R.frames ∧ 60 * dF + 60 ≤ R.locals) (hCS : cs ≤ R.cells ∧ sl ≤ R.slots) (hok : ∀ i, I id = some i → xv_callee i n ∧ Cond.methodLink own index i.1 ∈ xv_tb ∧ Cond.instanceMethod i.1 ∈ xv_tb ∧ Cond.selects i.1.cls i.1 i.1 ∈ xv_tb ∧ ∃ q, vwCl[ci]? = some q ∧ q.1 = i.1.cls)
    (h : (match xw_take n [] st with
    | some (as, o :: r) => bif Nat.beq o.1 2 && xv_le 0 o.2.1 then (match xv_get 14 Γ o.2.1.toNat with
      | some c => bif Nat.beq c.1 0 && Nat.beq c.2.1 ci then xw_call call own' pc id (o :: as) L r S k else false
      | none => false) else false
    | _ => false) = true) : xw_Tj e0 D t A s.heap hl Γ X xs ws0 nL gh gz fh (fun pc ls vst H locs => W p l e R s m args below meth c H locs cs sl Q (F0 m pc ls vst)) act pc L st S := by
  cases htk : xw_take n [] st with
  | none => rw [htk] at h; cases h
  | some q9 =>
    obtain ⟨av, rest0⟩ := q9
    rw [htk] at h
    match rest0, h with
    | [], h => cases h
    | o :: rest, h =>
      dsimp only at h
      cases hb : (Nat.beq o.1 2 && xv_le 0 o.2.1) with
      | false => rw [hb] at h; cases h
      | true =>
        rw [hb] at h
        simp only [cond_true] at h
        obtain ⟨b1, -⟩ := xv_and_t hb
        cases hc : xv_get 14 Γ o.2.1.toNat with
        | none => rw [hc] at h; cases h
        | some cl =>
          rw [hc] at h
          dsimp only at h
          cases hb2 : (Nat.beq cl.1 0 && Nat.beq cl.2.1 ci) with
          | false => rw [hb2] at h; cases h
          | true =>
            rw [hb2] at h
            simp only [cond_true] at h
            obtain ⟨b2, b3⟩ := xv_and_t hb2
            have b2 := xv_beq b2
            have b3 := xv_beq b3
            obtain ⟨h8, kr, hc0, hkr⟩ := xy_call h
            obtain ⟨i, hi, hM⟩ := hCG _ _ _ _ _ _ hc0
            obtain ⟨hcal, hw, hw2, hw3, q, hq, hqc⟩ := hok i hi
            intro ρ ls vst H locs ws hR hG hH
            obtain ⟨P, vr, rfl, hPl, hav, hrest0⟩ := xw_take_ok n [] st [] vst av (o :: rest) htk True.intro hR.2.1
            rw [List.append_nil] at hav
            obtain ⟨x0, vr, rfl, hx, hrest⟩ := hrest0.un
            have hcat := xw_cats_ok hrest h8
            have hWl := hR.2.2.1
            obtain ⟨ad, ha, rfl⟩ := hx.2.2.1 (xv_beq b1)
            obtain ⟨en, hen, hce⟩ := xy_at hWl.2.2.2.1.1 hc (by omega) ha
            obtain ⟨fs, rfl, -, -⟩ := hce.1 b2
            rw [b3] at hen
            have hrecv := va_recv C.2.2.2.2.2.1 hWl.1 hq hen
            rw [hqc] at hrecv
            refine xy_behind C hR hrest hG hH (va_runV (C := i.1.cls) (As := P.reverse) (n := n) (own := own) (Ts := xv_tb) (nL := nL) (index := index) ⟨C.1, C.2.1, C.2.2.1, C.2.2.2.1, C.2.2.2.2.1⟩ (hM D t X xs ws0 ws (.ref ad :: P.reverse) H.size ρ gz C.2.2.2.2.2.2.2.2.2.2.1 hWl.2.2.2.1 hWl.2.2.2.2.1 hWl.2.2.2.2.2.1 hWl.2.2.2.2.2.2 hR.2.2.2.1 hR.2.2.2.2 hG.1 (xw_sk.cons hx hav) (hWl.2.1.weaken fun _ _ _ _ => trivial)) ⟨callB_of n C.2.2.2.2.1 (xv_goodIn hcal.1) rfl rfl rfl (C.2.2.2.2.1 _ hcal.2.1) (C.2.2.2.2.1 _ hw) hcal.2.2.1 ⟨hRm.1, by have := hcal.2.2.2; show 8 + (_ + 11) + 60 * dF ≤ _; omega⟩, C.2.2.2.2.1 _ hw2, C.2.2.2.2.1 _ hw3⟩ ⟨xw_blind C.2.2.2.2.2.2.2.2.2.2.1, hrecv, fun U hU hW => xy_pre C hR U hU hW⟩ rfl (by rw [List.length_reverse]; exact hPl) (hR.1.2.elim fun lv h => h.1.1) (by rw [List.reverse_reverse]) (lv_room (by omega)) hd ⟨by omega, by omega⟩) (fun r S' hr => hk _ _ _ _ (hkr r S' hr))
end XY8
