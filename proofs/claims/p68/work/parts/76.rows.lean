/-! rows by hand: fields and places are read -/
section XHc
variable {p : Program} {l : Launch} {e : Env} {R : Room} {s : State} {m : MethodId} {args : Array Value} {below : List Frame} {meth : Method} {c : Code}
variable {e0 : (Nat → Int) × Nat} {cc : ByteArray} {own : String} {nL : Nat} {D : va_G} {t : Nat → ClassId} {A : Nat → Prop} {hl : Nat × Int} {Γ : xv_A} {X : xw_X} {xs : Nat → Int32} {ws0 : va_W} {gh : List xw_L} {gz : Nat → Int} {fh : Nat → Option xw_H} {cs sl : Nat} {Q : State → Prop} {act : List xw_A} {k : xw_K} {pc : Nat} {L st : List xw_V} {S : xw_S}
/-- a field with a number -/
theorem xh_getI {index a b r ad : Nat} {q : vw_C} {cl : xv_C} {lo hi : Int} {ls : Array Slot} {rest : List Value} {H : Heap} {locs : List Loc} {ws : va_W} (C : xw_Cx p s m args c cc own nL D t A X xs Γ) (hWo : xh_Wo D t A s.heap hl Γ X xs H locs ws) (hd : decode cc pc = .ok (.getfield index, 3)) (hq : vwCl[a]? = some q) (hbn : b < q.2.2) (hw : Cond.fieldLink own index (q.2.1 b).1 (q.2.1 b).2.1 (q.2.1 b).2.2.1 ∈ xv_tb) (hcl : xv_get 14 Γ r = some cl) (h0 : cl.1 = 0) (ha : cl.2.1 = a) (hbl : b < cl.2.2.1) (hu : xv_get 8 cl.2.2.2 (b % cl.2.2.1) = some (0, lo, hi)) (had : (ws.map Prod.fst)[r]? = some ad)
    (kk : ∀ x : Int32, xw_mu xs ws r b = .int x → lo ≤ x.toInt → x.toInt ≤ hi → W p l e R s m args below meth c H locs cs sl Q (F0 m (pc + 3) ls (.int x :: rest))) : W p l e R s m args below meth c H locs cs sl Q (F0 m pc ls (.ref ad :: rest)) := by
  obtain ⟨hP, hD, hS, hWd⟩ := hWo
  have hty := xw_ty_ok hWd.1 hcl (by omega) (by unfold xw_len; rw [h0]; exact hbl) hu
  obtain ⟨x, ex, h1, h2⟩ := hty.1 rfl
  obtain ⟨en, hen, hce⟩ := xy_at hWd.1 hcl (by omega) had
  obtain ⟨fs, rfl, hl', hf⟩ := hce.1 h0
  have hy : fs[b]? = some (.int x) := by
    rw [← ex]
    unfold xw_ct
    rw [hen]
    show fs[b]? = some (fs.getD b .null)
    rw [List.getD_eq_getElem?_getD, List.getElem?_eq_getElem (by omega)]; rfl
  rw [ha] at hen
  exact va_get C.1 C.2.1 C.2.2.2.2.1 (xv_cls a q hq).1 C.2.2.2.1 C.2.2.2.2.2.1 hP _ hen hq b hbn (C.2.2.2.2.1 _ hw) (fun _ h => h) hy hd (kk x (by rw [xy_mu (xy_ne9 C hcl)]; exact ex) h1 h2)
/-- a field with a cell -/
theorem xh_getR {index a b r ad k' : Nat} {q : vw_C} {cl : xv_C} {ls : Array Slot} {rest : List Value} {H : Heap} {locs : List Loc} {ws : va_W} (C : xw_Cx p s m args c cc own nL D t A X xs Γ) (hWo : xh_Wo D t A s.heap hl Γ X xs H locs ws) (hd : decode cc pc = .ok (.getfield index, 3)) (hq : vwCl[a]? = some q) (hbn : b < q.2.2) (hw : Cond.fieldLink own index (q.2.1 b).1 (q.2.1 b).2.1 (q.2.1 b).2.2.1 ∈ xv_tb) (hcl : xv_get 14 Γ r = some cl) (h0 : cl.1 = 0) (ha : cl.2.1 = a) (hbl : b < cl.2.2.1) (hu : xv_get 8 cl.2.2.2 (b % cl.2.2.1) = some (2, (k' : Int), 0)) (had : (ws.map Prod.fst)[r]? = some ad)
    (kk : ∀ ad' : Nat, (ws.map Prod.fst)[k']? = some ad' → W p l e R s m args below meth c H locs cs sl Q (F0 m (pc + 3) ls (.ref ad' :: rest))) : W p l e R s m args below meth c H locs cs sl Q (F0 m pc ls (.ref ad :: rest)) := by
  obtain ⟨hP, hD, hS, hWd⟩ := hWo
  have hty := xw_ty_ok hWd.1 hcl (by omega) (by unfold xw_len; rw [h0]; exact hbl) hu
  obtain ⟨ad', e1, ex⟩ := hty.2.2.1 rfl
  have e1 : (ws.map Prod.fst)[k']? = some ad' := by simpa using e1
  obtain ⟨en, hen, hce⟩ := xy_at hWd.1 hcl (by omega) had
  obtain ⟨fs, rfl, hl', hf⟩ := hce.1 h0
  have hy : fs[b]? = some (.ref ad') := by
    rw [← ex]
    unfold xw_ct
    rw [hen]
    show fs[b]? = some (fs.getD b .null)
    rw [List.getD_eq_getElem?_getD, List.getElem?_eq_getElem (by omega)]; rfl
  rw [ha] at hen
  exact va_get C.1 C.2.1 C.2.2.2.2.1 (xv_cls a q hq).1 C.2.2.2.1 C.2.2.2.2.2.1 hP _ hen hq b hbn (C.2.2.2.2.1 _ hw) (fun _ h => h) hy hd (kk ad' e1)
/-- a place of a row of ints -/
theorem xh_iald {r ad : Nat} {cl : xv_C} {x : Int32} {ls : Array Slot} {vst : List Value} {H : Heap} {locs : List Loc} {ws : va_W} (C : xw_Cx p s m args c cc own nL D t A X xs Γ) (hWo : xh_Wo D t A s.heap hl Γ X xs H locs ws) (hd : decode cc pc = .ok (.iaload, 1)) (hcl : xv_get 14 Γ r = some cl) (hk : cl.1 = 1) (had : (ws.map Prod.fst)[r]? = some ad) (hx0 : 0 ≤ x.toInt) (hx1 : x.toInt.toNat < cl.2.1)
    (kk : ∀ y : Int32, W p l e R s m args below meth c H locs cs sl Q (F0 m (pc + 1) ls (.int y :: vst))) : W p l e R s m args below meth c H locs cs sl Q (F0 m pc ls (.int x :: .ref ad :: vst)) := by
  obtain ⟨hP, hD, hS, hWd⟩ := hWo
  obtain ⟨en, hen, hce⟩ := xy_at hWd.1 hcl (by omega) had
  obtain ⟨q1, q2, q3⟩ := xy_idx hx0 hx1
  obtain ⟨f, rfl, -⟩ := hce.2.1 (by omega)
  rw [hk] at hen
  exact va_iald C.1 C.2.1 C.2.2.2.2.2.1 hP _ 0 hen rfl q1 hd (kk _)
end XHc
/-- a method by hand that answers true or false -/
theorem xh_methZ {l : Launch} {I : Nat → Option xv_I} {hl : Nat × Int} {Γ : xv_A} {d : Nat} {q : List xv_E × Nat} {i : xv_I} (h9 : xv_get 14 Γ 9999 = none) (hok : xw_okI i I q) {D : va_G} {t : Nat → ClassId} {X : xw_X} {xs : Nat → Int32} {ws : va_W} {vs : List Value} {sz : Nat} {dd : xw_D} {Po : va_W → Option Value → Prop} (hI : xw_Inv X) (hWd : xw_Wd hl Γ t X (xw_mu xs ws) ws) (hD0 : va_D (fun _ => True) ws) (hsl : (lg_sl vs).length ≤ i.2.2.1)
    (body : ∀ (p : Program) (e : Env) (s : State) (m : MethodId) (args : Array Value) (below : List Frame) (meth : Method) (c : Code) (R : Room) (Q : State → Prop), (d + 1 ≤ R.frames ∧ 60 * d + 60 ≤ R.locals) → (0 ≤ R.cells ∧ 0 ≤ R.slots) → xw_Cx p s m args c i.2.1 i.1.cls i.2.2.1 D t (va_A ws sz) X xs Γ → i.1.name = meth.name →
      (∀ (pc : Nat) (ls : Array Slot) (H : Heap) (locs : List Loc) (ws' : va_W) (x : Int32), i.2.2.2 = some .boolean → decode i.2.1 pc = .ok (.ireturn, 1) → x = 0 ∨ x = 1 → xh_Wo D t (va_A ws sz) s.heap hl Γ X xs H locs ws' → xh_B xs dd ws ws' → Po ws' (some (.int x)) → W p l e R s m args below meth c H locs 0 0 Q (F0 m pc ls [.int x])) →
      ∀ ls, lv_has ls i.2.2.1 (lv_args 0 vs) → xh_Wo D t (va_A ws sz) s.heap hl Γ X xs s.heap [] ws → W p l e R s m args below meth c s.heap [] 0 0 Q (F0 m 0 ls [])) :
    Met l i.1 (Cond.code i.1 i.2.1 i.2.2.1 i.2.2.2 :: xv_tb) { frames := d + 1, cells := 0, slots := 0, locals := 60 * (d + 1) } (xw_Pr D t X xs ws vs sz) (xh_Q D t hl Γ X xs ws sz dd Po) 0 0 (va_A ws sz) := by
  obtain ⟨y, cc, mL, ret⟩ := i
  obtain ⟨e1, hmL, hpn, hcode⟩ := hok
  dsimp only at e1 hmL hpn hcode hsl body ⊢
  refine va_MetF (cc := cc) (maxL := mL) (ret := ret) hpn rfl ?_
  intro p e s m args below meth c s₁ B hml hv
  obtain ⟨hargs, hsz, hP, hK, hEx, hX, hti⟩ := hv
  subst hargs
  have hts := atoms_spec (ws := Cond.code y cc mL ret :: xv_tb) B.pre
  have hown : s.vm.findClass y.cls = some m.cls := findClass_of_methodNamed B.named
  have hnm : meth.name = y.name := (name_of_methodNamed B.named B.method).1
  have hA : ∀ w : Nat, s.heap.size ≤ w → va_A ws sz w := fun w hw => Or.inr (by rw [← hsz]; exact hw)
  have C : xw_Cx p s m vs.toArray c cc y.cls mL D t (va_A ws sz) X xs Γ := ⟨B.exec, B.bytes, hml, hown, fun w hw => hts w (List.mem_cons_of_mem _ hw), hK, hA, hEx, hX, hti, hI, h9⟩
  rw [lg_entry_eq]
  exact body p e s m vs.toArray below meth c _ _ ⟨Nat.le_refl _, by show 60 * d + 60 ≤ 60 * (d + 1); omega⟩ ⟨Nat.le_refl _, Nat.le_refl _⟩ C hnm.symm (fun pc ls H locs ws' x hrt hd hx hWo hB hPo => W.zret B.exec B.bytes (by rw [B.returns, hrt]) (by rcases hx with rfl | rfl <;> decide) (xh_q hsz hWo hB hPo) hWo.2.2.1.2.2 hd) _ (lv_entry vs (n := mL) hsl) ⟨hP, hD0.self, va_S.rf, hWd⟩
