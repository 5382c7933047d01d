/-! a method's contract out of a run of it -/
theorem xv_rep_len {α : Type} (n : Nat) (v : α) : (xv_rep n v).length = n := by
  induction n with
  | zero => rfl
  | succ n ih => show (v :: xv_rep n v).length = _; simp [ih]
theorem xv_sm.cats {sb : Nat} {as : List Nat} {v : xv_V} {x : Value} (h : xv_hv sb as v x) (hc : xv_cat v < 100) : xv_known v ∧ x.category = xv_cat v := by
  unfold xv_cat at hc ⊢
  cases hb : Nat.beq v.1 1 with
  | true =>
    obtain ⟨i, rfl, -⟩ := h.2.1 (xv_beq hb)
    exact ⟨Or.inr (Or.inl (xv_beq hb)), rfl⟩
  | false =>
    rw [hb] at hc
    simp only [cond_false] at hc ⊢
    cases hb2 : (Nat.ble v.1 3 || Nat.beq v.1 5) with
    | false => rw [hb2] at hc; simp only [cond_false] at hc; omega
    | true =>
      simp only [cond_true]
      have hne : v.1 ≠ 1 := fun q => by rw [q] at hb; cases hb
      have hkn : xv_known v := by
        rcases (Bool.or_eq_true _ _).mp hb2 with q | q
        · have := xv_ble q
          unfold xv_known; omega
        · exact Or.inr (Or.inr (Or.inr (Or.inr (xv_beq q))))
      exact ⟨hkn, xv_cat1 h hkn hne⟩
theorem xv_locs_ok {sb : Nat} {as : List Nat} : ∀ (av : List xv_V) (vs : List Value) (n i0 : Nat), xv_sm sb as av vs → xv_cats av ≤ n → n < 100 → (lg_sl vs).length ≤ n ∧ (xv_locs av n).length = n ∧ ∀ (i : Nat) (v : xv_V), (xv_locs av n)[i]? = some v → xv_known v → ∃ x, (i0 + i, x) ∈ lv_args i0 vs ∧ xv_hv sb as v x
  | [], [], n, i0, _, _, _ => by
    refine ⟨Nat.zero_le _, xv_rep_len n _, fun i v hi hk => ?_⟩
    have hm : v ∈ xv_rep n xv_un := List.mem_of_getElem? hi
    rw [xv_rep_mem hm] at hk
    rcases hk with q | q | q | q | q <;> cases q
  | [], _ :: _, _, _, h, _, _ => False.elim h
  | _ :: _, [], _, _, h, _, _ => False.elim h
  | v :: av, x :: vs, n, i0, h, hc, hn => by
    have ec : xv_cats (v :: av) = xv_cat v + xv_cats av := rfl
    rw [ec] at hc
    obtain ⟨hkn, hcat⟩ := xv_sm.cats h.1 (by omega)
    have esl : lg_sl (x :: vs) = (if x.category = 2 then [.val x, .second] else [.val x]) ++ lg_sl vs := rfl
    have eargs : lv_args i0 (x :: vs) = (i0, x) :: lv_args (if x.category = 2 then i0 + 2 else i0 + 1) vs := rfl
    have elo : xv_locs (v :: av) n = bif Nat.beq v.1 1 then v :: xv_un :: xv_locs av (n - 2) else v :: xv_locs av (n - 1) := rfl
    rw [esl, eargs, elo]
    cases hb : Nat.beq v.1 1 with
    | true =>
      have e2 : xv_cat v = 2 := by unfold xv_cat; rw [hb]; rfl
      rw [e2] at hcat hc
      simp only [cond_true, hcat, if_true]
      obtain ⟨h1, h2, h3⟩ := xv_locs_ok av vs (n - 2) (i0 + 2) h.2 (by omega) (by omega)
      refine ⟨by simp; omega, by simp; omega, fun i w hi hk => ?_⟩
      match i, hi with
      | 0, hi => cases hi; exact ⟨x, List.mem_cons_self, h.1⟩
      | 1, hi => cases hi; rcases hk with q | q | q | q | q <;> cases q
      | i + 2, hi =>
        obtain ⟨y, hy, hv⟩ := h3 i w hi hk
        exact ⟨y, List.mem_cons_of_mem _ (by rw [show i0 + (i + 2) = i0 + 2 + i by omega]; exact hy), hv⟩
    | false =>
      have hne : v.1 ≠ 1 := fun q => by rw [q] at hb; cases hb
      have e1 : x.category = 1 := xv_cat1 h.1 hkn hne
      have e2 : xv_cat v = 1 := hcat.symm.trans e1
      rw [e2] at hc
      simp only [cond_false, e1]
      rw [if_neg (by decide), if_neg (by decide)]
      obtain ⟨h1, h2, h3⟩ := xv_locs_ok av vs (n - 1) (i0 + 1) h.2 (by omega) (by omega)
      refine ⟨by simp; omega, by simp; omega, fun i w hi hk => ?_⟩
      match i, hi with
      | 0, hi => cases hi; exact ⟨x, List.mem_cons_self, h.1⟩
      | i + 1, hi =>
        obtain ⟨y, hy, hv⟩ := h3 i w hi hk
        exact ⟨y, List.mem_cons_of_mem _ (by rw [show i0 + (i + 1) = i0 + 1 + i by omega]; exact hy), hv⟩
/-- a table of methods is as the class files have it -/
def xv_MOK (M : xv_M) (I : Nat → Option xv_I) : Prop := ∀ (id : Nat) (q : List xv_E × Nat), xv_get 20 M id = some q → ∃ i : xv_I, I id = some i ∧ q.2 = i.2.2.1 ∧ i.2.2.1 ≤ 41 ∧ plainFor i.1 = true ∧ ∀ x ∈ q.1, xv_okE i.2.1 i.1.cls i.1.name i.2.2.2 I x
set_option maxHeartbeats 4000000 in
theorem xv_meth {M : xv_M} {I : Nat → Option xv_I} (hM : xv_MOK M I) (l : Launch) (F : Nat) : ∀ d : Nat, xv_CG l d I (xv_calls M F d) ∧ ∀ id av h n r, xv_calls M F d id av h n = some r → ∃ i, I id = some i
  | 0 => ⟨fun _ _ _ _ _ h => (by cases h), fun _ _ _ _ _ h => (by cases h)⟩
  | d + 1 => by
    obtain ⟨ih, ihr⟩ := xv_meth hM l F d
    have key : ∀ id av h n r, xv_calls M F (d + 1) id av h n = some r → ∃ q : List xv_E × Nat, xv_get 20 M id = some q ∧ xv_cats av ≤ q.2 ∧ xv_run (xv_calls M F d) [] 0 q.1 F q.1 0 (xv_locs av q.2) [] (h, n, 0, 0) = some r := by
      intro id av h n r hr
      have hr : (match xv_get 20 M id with | some q => bif Nat.ble (xv_cats av) q.2 then xv_run (xv_calls M F d) [] 0 q.1 F q.1 0 (xv_locs av q.2) [] (h, n, 0, 0) else none | none => none) = some r := hr
      cases hq : xv_get 20 M id with
      | none => rw [hq] at hr; cases hr
      | some q =>
        rw [hq] at hr
        obtain ⟨b, hr⟩ := xv_bt hr
        exact ⟨q, rfl, xv_ble b, hr⟩
    refine ⟨fun id av h n r hr => ?_, fun id av h n r hr => ?_⟩
    · obtain ⟨q, hq, hcats, hr⟩ := key id av h n r hr
      obtain ⟨⟨y, cc, mL, ret⟩, hi, e1, hmL, hpn, hok⟩ := hM id q hq
      dsimp only at e1 hmL hpn hok
      refine ⟨(y, cc, mL, ret), hi, fun D t sb ws vs sz hH hsm hD0 => ?_⟩
      dsimp only
      refine va_MetF (cc := cc) (maxL := mL) (ret := ret) hpn rfl ?_
      intro p e s m args below meth c s₁ B hml hv
      obtain ⟨hargs, hsz, hP, hK, hEx⟩ := hv
      subst hargs
      subst hsz
      have hts := atoms_spec (ws := Cond.code y cc mL ret :: xv_tb) B.pre
      have hown : s.vm.findClass y.cls = some m.cls := findClass_of_methodNamed B.named
      have hlocks := B.notSynchronized
      have hnm : meth.name = y.name := (name_of_methodNamed B.named B.method).1
      have hret := B.returns
      rw [e1] at hr hcats
      have hA : ∀ w : Nat, s.heap.size ≤ w → va_A ws s.heap.size w := fun w hw => Or.inr hw
      have C : xv_Cx p s m vs.toArray c cc y.cls mL D t (va_A ws s.heap.size) sb [] := ⟨B.exec, B.bytes, hml, hown, fun w hw => hts w (List.mem_cons_of_mem _ hw), hK, hA, Or.inl rfl, hEx⟩
      obtain ⟨l1, l2, l3⟩ := xv_locs_ok av vs mL 0 hsm hcats (by omega)
      have hE : xv_Ends p l e (headSpec (Cond.code y cc mL ret :: xv_tb) { frames := d + 1, cells := r.2.2.2.2.1, slots := r.2.2.2.2.2, locals := 60 * (d + 1) }).room s m vs.toArray below meth c D t (va_A ws s.heap.size) (ws.map Prod.fst) sb mL (fun r' => MQ below (xv_Qc D t sb ws s.heap.size r') vs.toArray s r'.2.2.2.2.1 r'.2.2.2.2.2 (va_A ws s.heap.size)) cc ret := by
        intro pc L st S hcase
        refine ⟨Nat.le_refl _, Nat.le_refl _, fun hc9 hz9 ls vst H locs ws' hR => ?_⟩
        have hfree : ∀ w ∈ locs, va_A ws s.heap.size w.base := hR.2.2.2.2.1.2.2
        have hq : ∀ rv : Option Value, xv_sm sb (ws'.map Prod.fst) st rv.toList → ∀ tt : State, tt.heap = H → s.WarmedH tt.vm → xv_Qc D t sb ws s.heap.size (st, L, S.1, S.2.1, S.2.2.1, S.2.2.2) vs.toArray s (.returned rv) tt := fun rv hrv tt htt hW =>
          ⟨⟨rv, ws', rfl, by rw [htt]; exact hR.2.2.1, hR.2.2.2.1, hR.2.2.2.2.2.1, hR.2.2.2.2.2.2, hrv⟩, hR.2.2.2.2.1.F htt⟩
        rcases hcase with ⟨hd, x, rfl, hx0, hcase⟩ | ⟨hd, hrt, x, rfl, hx1⟩ | ⟨hd, hrt, rfl⟩
        · obtain ⟨y0, vst, rfl, hy, hst⟩ := hR.2.1.un
          have e := hst.nil
          subst e
          obtain ⟨i, rfl, i1, i2⟩ := hy.1 hx0
          rcases hcase with hrt | ⟨hrt, j1, j2⟩
          · exact W.iret B.exec B.bytes (by rw [hret, hrt]) (hq (some (.int i)) (xv_sm.cons hy True.intro)) hfree hd
          · exact W.zret B.exec B.bytes (by rw [hret, hrt]) (xv_nar_z (by omega) (by omega)).2 (hq (some (.int i)) (xv_sm.cons hy True.intro)) hfree hd
        · obtain ⟨y0, vst, rfl, hy, hst⟩ := hR.2.1.un
          have e := hst.nil
          subst e
          obtain ⟨i, rfl, i1, i2⟩ := hy.2.1 hx1
          exact W.lret B.exec B.bytes (by rw [hret, hrt]) (hq (some (.long i)) (xv_sm.cons hy True.intro)) hfree hd
        · have e := hR.2.1.nil
          subst e
          exact W.vret B.exec B.bytes (by rw [hret, hrt]) (hq none True.intro) hfree hd
      have hT := xs_run (scr := []) (name := y.name) (ret := ret) (I := I) (full := q.1) (stop := 0) (dF := d) C ih ihr ⟨Nat.le_refl _, by show 60 * d + 60 ≤ 60 * (d + 1); omega⟩ hnm.symm hE (fun _ h => by cases h) hok F q.1 (fun _ h => h) 0 (xv_locs av mL) [] (h, n, 0, 0) r hr
      obtain ⟨t1, t2, t3⟩ := hT
      rw [lg_entry_eq]
      have hl := lv_entry vs (n := mL) l1
      refine t3 (Nat.le_refl _) (Nat.le_refl _) _ [] s.heap [] ws ⟨⟨l2, _, hl, fun i v hi hk => ?_⟩, True.intro, hP, hD0.self, va_S.rf, hH, [], by rw [List.append_nil]⟩
      obtain ⟨x, hx, hv⟩ := l3 i v hi hk
      rw [Nat.zero_add] at hx
      exact ⟨x, hx, hv⟩
    · obtain ⟨q, hq, -, -⟩ := key id av h n r hr
      obtain ⟨i, hi, -⟩ := hM id q hq
      exact ⟨i, hi⟩
