/-! a run -/
theorem xw_act_ok {p : Nat} {a : xw_A} : ∀ {l : List xw_A}, xw_act l p = some a → a ∈ l ∧ a.1 = p
  | [], h => by cases h
  | b :: l, h => by
    have h : (bif Nat.beq b.1 p then some b else xw_act l p) = some a := h
    cases hb : Nat.beq b.1 p with
    | true =>
      rw [hb] at h
      cases h
      exact ⟨List.mem_cons_self, xv_beq hb⟩
    | false =>
      rw [hb] at h
      obtain ⟨h1, h2⟩ := xw_act_ok h
      exact ⟨List.mem_cons_of_mem _ h1, h2⟩
theorem xw_run_eq {hl : Nat × Int} {Γ : xv_A} {gh : List xw_L} {Qd : xw_Q} {call : xw_Cl} {id : Nat} {hs : List Nat} {full : List xv_E} {kr : xw_Kr} {F : Nat} {rest : List xv_E} {pv : Nat} {act : List xw_A} {pc : Nat} {L st : List xw_V} {S : xw_S} : xw_run hl Γ gh Qd call id hs full kr (F + 1) rest pv act pc L st S = (bif xw_orl (fun h => Nat.beq h pc) hs then
    (match xw_find Qd.1 id pc with
    | some h => (match st with
      | [] => (match (bif Nat.ble (pc + 1) pv then xw_act act pc else none) with
        | some a => xw_back hl Γ gh h a L S
        | none => bif h.2.2.2.2 && Nat.ble pv pc then (match xv_fetch full rest pc with
            | some (e, t) => xw_step hl Γ call id (fun pc' L' st' S' => xw_run hl Γ gh Qd call id hs full kr F t (pc + 1) (xw_fil (fun a => !(Nat.beq a.1 pc)) act) pc' L' st' S') kr e.2.1 e.2.2.2.1 e.2.2.2.2.1 e.2.2.2.2.2.2 pc L [] S
            | none => false) else xw_ent hl Γ gh h pc L S (fun a L1 S1 => match xv_fetch full rest pc with
            | some (e, t) => xw_step hl Γ call id (fun pc' L' st' S' => xw_run hl Γ gh Qd call id hs full kr F t (pc + 1) (a :: act) pc' L' st' S') kr e.2.1 e.2.2.2.1 e.2.2.2.2.1 e.2.2.2.2.2.2 pc L1 [] S1
            | none => false))
      | _ :: _ => false)
    | none => (match xw_find Qd.2.1 id pc with
      | some f => xw_tv hl Γ gh L f.1 S (fun l S1 => xw_prove S1 (xw_k l (-f.2.1)) && (xw_prove S1 (xw_k (xw_neg l) (f.2.1 + Int.ofNat f.2.2 - 1)) && xw_part l S1 (fun S2 => match xv_fetch full rest pc with
          | some (e, t) => xw_step hl Γ call id (fun pc' L' st' S' => xw_run hl Γ gh Qd call id hs full kr F t (pc + 1) act pc' L' st' S') kr e.2.1 e.2.2.2.1 e.2.2.2.2.1 e.2.2.2.2.2.2 pc L st S2
          | none => false) f.2.1 f.2.2))
      | none => (match xv_fetch full rest pc with
        | some (e, t) => xw_step hl Γ call id (fun pc' L' st' S' => xw_run hl Γ gh Qd call id hs full kr F t (pc + 1) act pc' L' st' S') kr e.2.1 e.2.2.2.1 e.2.2.2.2.1 e.2.2.2.2.2.2 pc L st S
        | none => false)))
  else (match xv_fetch full rest pc with
    | some (e, t) => xw_step hl Γ call id (fun pc' L' st' S' => xw_run hl Γ gh Qd call id hs full kr F t (pc + 1) act pc' L' st' S') kr e.2.1 e.2.2.2.1 e.2.2.2.2.1 e.2.2.2.2.2.2 pc L st S
    | none => false)) := rfl
section XYa
variable {p : Program} {l : Launch} {e : Env} {R : Room} {s : State} {m : MethodId} {args : Array Value} {below : List Frame} {meth : Method} {c : Code}
variable {e0 : (Nat → Int) × Nat} {cc : ByteArray} {own : String} {nL : Nat} {D : va_G} {t : Nat → ClassId} {A : Nat → Prop} {hl : Nat × Int} {Γ : xv_A} {X : xw_X} {xs : Nat → Int32} {ws0 : va_W} {gh : List xw_L} {gz : Nat → Int} {fh : Nat → Option xw_H} {cs sl : Nat} {Q : State → Prop} {act : List xw_A} {k : xw_K} {pc : Nat} {L st : List xw_V} {S : xw_S}
/-- what is asked of a method's code -/
def xw_okM (cc : ByteArray) (own name : String) (ret : Option FieldType) (I : Nat → Option xv_I) (full : List xv_E) : Prop := ∀ x ∈ full, xv_okE cc own name ret I x ∧ xw_ex own x
theorem xy_fs {name : String} {ret : Option FieldType} {I : Nat → Option xv_I} {call : xw_Cl} {kr : xw_Kr} {dF id : Nat} {full rest : List xv_E} {g : List xv_E → xw_K} (C : xw_Cx p s m args c cc own nL D t A X xs Γ) (hCG : xw_CG l dF I hl Γ gh call) (hRm : dF + 1 ≤ R.frames ∧ 60 * dF + 60 ≤ R.locals) (hCS : cs ≤ R.cells ∧ sl ≤ R.slots) (hname : name = meth.name) (hE : xw_Ends e0 p l e R s m args below meth c D t A hl Γ X xs ws0 nL gh gz fh cs sl Q cc ret kr) (hN : xw_Nar Γ) (hfull : xw_okM cc own name ret I full) (hsub : ∀ x ∈ rest, x ∈ full)
    (ih : ∀ u : List xv_E, (∀ x ∈ u, x ∈ full) → ∀ pc' L' st' S', g u pc' L' st' S' = true → xw_Tj e0 D t A s.heap hl Γ X xs ws0 nL gh gz fh (fun pc ls vst H locs => W p l e R s m args below meth c H locs cs sl Q (F0 m pc ls vst)) act pc' L' st' S')
    (h : (match xv_fetch full rest pc with
    | some (e, t) => xw_step hl Γ call id (fun pc' L' st' S' => g t pc' L' st' S') kr e.2.1 e.2.2.2.1 e.2.2.2.2.1 e.2.2.2.2.2.2 pc L st S
    | none => false) = true) : xw_Tj e0 D t A s.heap hl Γ X xs ws0 nL gh gz fh (fun pc ls vst H locs => W p l e R s m args below meth c H locs cs sl Q (F0 m pc ls vst)) act pc L st S := by
  cases hf : xv_fetch full rest pc with
  | none => rw [hf] at h; cases h
  | some q =>
    obtain ⟨en, u⟩ := q
    rw [hf] at h
    obtain ⟨h1, h2, h3⟩ := xv_fetch_ok hsub hf
    obtain ⟨⟨d1, d2, d3⟩, d4⟩ := hfull en h1
    rw [h2] at d1
    obtain ⟨e1, ei, e3, e4, e5, e6, e7⟩ := en
    cases h2
    exact xy_step (k := fun pc' L' st' S' => g u pc' L' st' S') C (ih u h3) hCG hRm hCS hname hE hN d1 d3 d4 h
theorem xy_run {name : String} {ret : Option FieldType} {I : Nat → Option xv_I} {call : xw_Cl} {kr : xw_Kr} {dF id : Nat} {full : List xv_E} {Qd : xw_Q} {hs : List Nat} (C : xw_Cx p s m args c cc own nL D t A X xs Γ) (hCG : xw_CG l dF I hl Γ gh call) (hRm : dF + 1 ≤ R.frames ∧ 60 * dF + 60 ≤ R.locals) (hCS : cs ≤ R.cells ∧ sl ≤ R.slots) (hname : name = meth.name) (hfh : fh = xw_find Qd.1 id) (hE : xw_Ends e0 p l e R s m args below meth c D t A hl Γ X xs ws0 nL gh gz fh cs sl Q cc ret kr) (hN : xw_Nar Γ) (hfull : xw_okM cc own name ret I full) :
    ∀ (F : Nat) (rest : List xv_E) (pv : Nat) (act : List xw_A), (∀ x ∈ rest, x ∈ full) → ∀ pc L st S, xw_run hl Γ gh Qd call id hs full kr F rest pv act pc L st S = true → xw_Tj e0 D t A s.heap hl Γ X xs ws0 nL gh gz fh (fun pc ls vst H locs => W p l e R s m args below meth c H locs cs sl Q (F0 m pc ls vst)) act pc L st S
  | 0, _, _, _, _, _, _, _, _, h => by cases h
  | F + 1, rest, pv, act, hsub, pc, L, st, S, h => by
    have ih := xy_run C hCG hRm hCS hname hfh hE hN hfull F (Qd := Qd) (hs := hs) (id := id) (kr := kr) (call := call)
    have fs : ∀ (act' : List xw_A) (L : List xw_V) (st : List xw_V) (S : xw_S), (match xv_fetch full rest pc with
      | some (e, t) => xw_step hl Γ call id (fun pc' L' st' S' => xw_run hl Γ gh Qd call id hs full kr F t (pc + 1) act' pc' L' st' S') kr e.2.1 e.2.2.2.1 e.2.2.2.2.1 e.2.2.2.2.2.2 pc L st S
      | none => false) = true → xw_Tj e0 D t A s.heap hl Γ X xs ws0 nL gh gz fh (fun pc ls vst H locs => W p l e R s m args below meth c H locs cs sl Q (F0 m pc ls vst)) act' pc L st S := fun act' L st S h => xy_fs (g := fun t => xw_run hl Γ gh Qd call id hs full kr F t (pc + 1) act') C hCG hRm hCS hname hE hN hfull hsub (fun u hu pc' L' st' S' h' => ih u (pc + 1) act' hu pc' L' st' S' h') h
    rw [xw_run_eq] at h
    cases hb : xw_orl (fun h => Nat.beq h pc) hs with
    | false => rw [hb] at h; exact fs act L st S h
    | true =>
      rw [hb] at h
      simp only [cond_true] at h
      cases hq : xw_find Qd.1 id pc with
      | none =>
        rw [hq] at h
        dsimp only at h
        cases hq2 : xw_find Qd.2.1 id pc with
        | none => rw [hq2] at h; exact fs act L st S h
        | some f =>
          rw [hq2] at h
          exact xw_fork_ok h (fun S2 h2 => fs act L st S2 h2)
      | some hd =>
        rw [hq] at h
        have hf : fh pc = some hd := by rw [hfh]; exact hq
        match st, h with
        | _ :: _, h => exact xy_bad h
        | [], h =>
          dsimp only at h
          cases ha : (bif Nat.ble (pc + 1) pv then xw_act act pc else none) with
          | some a =>
            rw [ha] at h
            obtain ⟨-, ha⟩ := xv_bt ha
            obtain ⟨ha1, ha2⟩ := xw_act_ok ha
            subst ha2
            exact xw_back_ok h hf ha1
          | none =>
            rw [ha] at h
            dsimp only at h
            cases hp : (hd.2.2.2.2 && Nat.ble pv pc) with
            | true =>
              rw [hp] at h
              exact xw_Tj.sub (fun a hm => (xw_fil_mem hm).1) (fs _ L [] S h)
            | false =>
              rw [hp] at h
              simp only [cond_false] at h
              exact xw_ent_ok h hf (fun a L1 S1 _ h2 => fs (a :: act) L1 [] S1 h2)
end XYa
