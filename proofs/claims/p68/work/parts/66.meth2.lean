/-! a method by hand: ends first -/
section XHr
variable {l : Launch} {hl : Nat × Int} {Γ : xv_A} {rm : Room} {y : MethodName} {cc : ByteArray} {mL : Nat} {ret : Option FieldType} {D : va_G} {t : Nat → ClassId} {X : xw_X} {xs : Nat → Int32} {ws ws' : va_W} {vs : List Value} {sz : Nat} {dd : xw_D} {Po : va_W → Option Value → Prop} {p : Program} {e : Env} {s : State} {m : MethodId} {below : List Frame} {meth : Method} {c : Code} {s₁ : State} {pc : Nat} {ls : Array Slot} {H : Heap} {locs : List Loc} {R : Room}
theorem xh_q (hsz : s.heap.size = sz) (hWo : xh_Wo D t (va_A ws sz) s.heap hl Γ X xs H locs ws') (hB : xh_B xs dd ws ws') {rv : Option Value} (hPo : Po ws' rv) : ∀ tt : State, tt.heap = H → s.WarmedH tt.vm → xh_Q D t hl Γ X xs ws sz dd Po vs.toArray s (.returned rv) tt := fun tt htt _ => by
  obtain ⟨hP, hD, hS, hWd⟩ := hWo
  exact ⟨⟨rv, ws', rfl, ⟨by rw [htt]; exact hP, hD, hWd, hB.1, hB.2.1, hB.2.2⟩, hPo⟩, hS.F htt⟩
theorem xh_iret (B : BodyLoose p l y (headSpec (Cond.code y cc mL ret :: xv_tb) rm) cc mL ret e s m vs.toArray below meth c s₁) (hrt : ret = some .int) (hd : decode cc pc = .ok (.ireturn, 1)) (hsz : s.heap.size = sz) (hWo : xh_Wo D t (va_A ws sz) s.heap hl Γ X xs H locs ws') (hB : xh_B xs dd ws ws') {x : Int32} (hPo : Po ws' (some (.int x))) :
    W p l e R s m vs.toArray below meth c H locs 0 0 (MQ below (xh_Q D t hl Γ X xs ws sz dd Po) vs.toArray s 0 0 (va_A ws sz)) (F0 m pc ls [.int x]) :=
  W.iret B.exec B.bytes (by rw [B.returns, hrt]) (xh_q hsz hWo hB hPo) hWo.2.2.1.2.2 hd
theorem xh_vret (B : BodyLoose p l y (headSpec (Cond.code y cc mL ret :: xv_tb) rm) cc mL ret e s m vs.toArray below meth c s₁) (hrt : ret = none) (hd : decode cc pc = .ok (.return_, 1)) (hsz : s.heap.size = sz) (hWo : xh_Wo D t (va_A ws sz) s.heap hl Γ X xs H locs ws') (hB : xh_B xs dd ws ws') (hPo : Po ws' none) :
    W p l e R s m vs.toArray below meth c H locs 0 0 (MQ below (xh_Q D t hl Γ X xs ws sz dd Po) vs.toArray s 0 0 (va_A ws sz)) (F0 m pc ls []) :=
  W.vret B.exec B.bytes (by rw [B.returns, hrt]) (xh_q hsz hWo hB hPo) hWo.2.2.1.2.2 hd
end XHr

theorem xh_meth {l : Launch} {I : Nat → Option xv_I} {hl : Nat × Int} {Γ : xv_A} {d : Nat} {q : List xv_E × Nat} {i : xv_I} (h9 : xv_get 14 Γ 9999 = none) (hok : xw_okI i I q) {D : va_G} {t : Nat → ClassId} {X : xw_X} {xs : Nat → Int32} {ws : va_W} {vs : List Value} {sz : Nat} {dd : xw_D} {Po : va_W → Option Value → Prop} (hI : xw_Inv X) (hWd : xw_Wd hl Γ t X (xw_mu xs ws) ws) (hD0 : va_D (fun _ => True) ws) (hsl : (lg_sl vs).length ≤ i.2.2.1)
    (body : ∀ (p : Program) (e : Env) (s : State) (m : MethodId) (args : Array Value) (below : List Frame) (meth : Method) (c : Code) (R : Room) (Q : State → Prop), (d + 1 ≤ R.frames ∧ 60 * d + 60 ≤ R.locals) → (0 ≤ R.cells ∧ 0 ≤ R.slots) → xw_Cx p s m args c i.2.1 i.1.cls i.2.2.1 D t (va_A ws sz) X xs Γ → i.1.name = meth.name →
      (∀ (pc : Nat) (ls : Array Slot) (H : Heap) (locs : List Loc) (ws' : va_W) (x : Int32), i.2.2.2 = some .int → decode i.2.1 pc = .ok (.ireturn, 1) → xh_Wo D t (va_A ws sz) s.heap hl Γ X xs H locs ws' → xh_B xs dd ws ws' → Po ws' (some (.int x)) → W p l e R s m args below meth c H locs 0 0 Q (F0 m pc ls [.int x])) →
      (∀ (pc : Nat) (ls : Array Slot) (H : Heap) (locs : List Loc) (ws' : va_W), i.2.2.2 = none → decode i.2.1 pc = .ok (.return_, 1) → xh_Wo D t (va_A ws sz) s.heap hl Γ X xs H locs ws' → xh_B xs dd ws ws' → Po ws' none → W p l e R s m args below meth c H locs 0 0 Q (F0 m pc ls [])) →
      ∀ ls, lv_has ls i.2.2.1 (lv_args 0 vs) → xh_Wo D t (va_A ws sz) s.heap hl Γ X xs s.heap [] ws → W p l e R s m args below meth c s.heap [] 0 0 Q (F0 m 0 ls [])) :
    Met l i.1 (Cond.code i.1 i.2.1 i.2.2.1 i.2.2.2 :: xv_tb) { frames := d + 1, cells := 0, slots := 0, locals := 60 * (d + 1) } (xw_Pr D t X xs ws vs sz) (xh_Q D t hl Γ X xs ws sz dd Po) 0 0 (va_A ws sz) := by
  obtain ⟨y, cc, mL, ret⟩ := i
  obtain ⟨e1, hmL, hpn, hcode⟩ := hok
  dsimp only at e1 hmL hpn hcode hsl body ⊢
  refine va_MetF (cc := cc) (maxL := mL) (ret := ret) hpn rfl ?_
  intro p e s m args below meth c s₁ B hml hv
  obtain ⟨hargs, hsz, hP, hK, hEx, hX, hti⟩ := hv
  subst hargs
  have hts := atoms_spec (ws := Cond.code y cc mL ret :: xv_tb) B.pre
  have hown : s.vm.findClass y.cls = some m.cls := findClass_of_methodNamed B.named
  have hnm : meth.name = y.name := (name_of_methodNamed B.named B.method).1
  have hA : ∀ w : Nat, s.heap.size ≤ w → va_A ws sz w := fun w hw => Or.inr (by rw [← hsz]; exact hw)
  have C : xw_Cx p s m vs.toArray c cc y.cls mL D t (va_A ws sz) X xs Γ := ⟨B.exec, B.bytes, hml, hown, fun w hw => hts w (List.mem_cons_of_mem _ hw), hK, hA, hEx, hX, hti, hI, h9⟩
  rw [lg_entry_eq]
  exact body p e s m vs.toArray below meth c _ _ ⟨Nat.le_refl _, by show 60 * d + 60 ≤ 60 * (d + 1); omega⟩ ⟨Nat.le_refl _, Nat.le_refl _⟩ C hnm.symm (fun pc ls H locs ws' x hrt hd hWo hB hPo => xh_iret B hrt hd hsz hWo hB hPo) (fun pc ls H locs ws' hrt hd hWo hB hPo => xh_vret B hrt hd hsz hWo hB hPo) _ (lv_entry vs (n := mL) hsl) ⟨hP, hD0.self, va_S.rf, hWd⟩
