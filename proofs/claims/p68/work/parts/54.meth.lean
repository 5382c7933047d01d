/-! a method out of a run of it -/
theorem xw_cat_ok {X : xw_X} {as : List Nat} {ρ : Nat → Int} {n : Nat} {v : xw_V} {x : Value} (h : xw_hv X as ρ n v x) (hc : xw_cat v < 100) : v.1 ≤ 7 ∧ x.category = xw_cat v := by
  unfold xw_cat at hc ⊢
  cases hb : Nat.beq v.1 1 with
  | true =>
    obtain ⟨i, rfl, -⟩ := h.2.1 (xv_beq hb)
    exact ⟨by have := xv_beq hb; omega, rfl⟩
  | false =>
    rw [hb] at hc
    simp only [cond_false] at hc ⊢
    cases hb2 : Nat.ble v.1 7 with
    | false => rw [hb2] at hc; simp only [cond_false] at hc; omega
    | true =>
      simp only [cond_true]
      have hne : v.1 ≠ 1 := fun q => by rw [q] at hb; cases hb
      exact ⟨xv_ble hb2, xy_cat1 h (xv_ble hb2) hne⟩
theorem xw_locs_ok {X : xw_X} {as : List Nat} {ρ : Nat → Int} {m : Nat} : ∀ (av : List xw_V) (vs : List Value) (n i0 : Nat), xw_sk X as ρ m av vs → xw_cats av ≤ n → n < 100 → (lg_sl vs).length ≤ n ∧ (xw_locs av n).length = n ∧ ∀ (i : Nat) (v : xw_V), (xw_locs av n)[i]? = some v → v.1 ≤ 7 → ∃ x, (i0 + i, x) ∈ lv_args i0 vs ∧ xw_hv X as ρ m v x
  | [], [], n, i0, _, _, _ => by
    refine ⟨Nat.zero_le _, xv_rep_len n _, fun i v hi hk => ?_⟩
    have hm : v ∈ xv_rep n xw_un := List.mem_of_getElem? hi
    have hz : ∀ {n : Nat}, v ∈ xv_rep n xw_un → v = xw_un := by
      intro n
      induction n with
      | zero => intro h; cases h
      | succ n ih =>
        intro h
        have h : v ∈ xw_un :: xv_rep n xw_un := h
        rcases List.mem_cons.mp h with q | q
        · exact q
        · exact ih q
    rw [hz hm] at hk
    exact absurd hk (by decide)
  | [], _ :: _, _, _, h, _, _ => False.elim h
  | _ :: _, [], _, _, h, _, _ => False.elim h
  | v :: av, x :: vs, n, i0, h, hc, hn => by
    have ec : xw_cats (v :: av) = xw_cat v + xw_cats av := rfl
    rw [ec] at hc
    obtain ⟨hkn, hcat⟩ := xw_cat_ok h.1 (by omega)
    have esl : lg_sl (x :: vs) = (if x.category = 2 then [.val x, .second] else [.val x]) ++ lg_sl vs := rfl
    have eargs : lv_args i0 (x :: vs) = (i0, x) :: lv_args (if x.category = 2 then i0 + 2 else i0 + 1) vs := rfl
    have elo : xw_locs (v :: av) n = bif Nat.beq v.1 1 then v :: xw_un :: xw_locs av (n - 2) else v :: xw_locs av (n - 1) := rfl
    rw [esl, eargs, elo]
    cases hb : Nat.beq v.1 1 with
    | true =>
      have e2 : xw_cat v = 2 := by unfold xw_cat; rw [hb]; rfl
      rw [e2] at hcat hc
      simp only [cond_true, hcat, if_true]
      obtain ⟨h1, h2, h3⟩ := xw_locs_ok av vs (n - 2) (i0 + 2) h.2 (by omega) (by omega)
      refine ⟨by simp; omega, by simp; omega, fun i w hi hk => ?_⟩
      match i, hi with
      | 0, hi => cases hi; exact ⟨x, List.mem_cons_self, h.1⟩
      | 1, hi => cases hi; exact absurd hk (by decide)
      | i + 2, hi =>
        obtain ⟨y, hy, hv⟩ := h3 i w hi hk
        exact ⟨y, List.mem_cons_of_mem _ (by rw [show i0 + (i + 2) = i0 + 2 + i by omega]; exact hy), hv⟩
    | false =>
      have hne : v.1 ≠ 1 := fun q => by rw [q] at hb; cases hb
      have e1 : x.category = 1 := xy_cat1 h.1 hkn hne
      have e2 : xw_cat v = 1 := hcat.symm.trans e1
      rw [e2] at hc
      simp only [cond_false, e1]
      rw [if_neg (by decide), if_neg (by decide)]
      obtain ⟨h1, h2, h3⟩ := xw_locs_ok av vs (n - 1) (i0 + 1) h.2 (by omega) (by omega)
      refine ⟨by simp; omega, by simp; omega, fun i w hi hk => ?_⟩
      match i, hi with
      | 0, hi => cases hi; exact ⟨x, List.mem_cons_self, h.1⟩
      | i + 1, hi =>
        obtain ⟨y, hy, hv⟩ := h3 i w hi hk
        exact ⟨y, List.mem_cons_of_mem _ (by rw [show i0 + (i + 1) = i0 + 1 + i by omega]; exact hy), hv⟩
/-- what is asked of a method that is run -/
def xw_okI (i : xv_I) (I : Nat → Option xv_I) (q : List xv_E × Nat) : Prop := q.2 = i.2.2.1 ∧ i.2.2.1 ≤ 41 ∧ plainFor i.1 = true ∧ xw_okM i.2.1 i.1.cls i.1.name i.2.2.2 I q.1
theorem xy_meth {l : Launch} {I : Nat → Option xv_I} {hl : Nat × Int} {Γ : xv_A} {gh : List xw_L} {call : xw_Cl} {kr : xw_Kr} {d id F : Nat} {Qd : xw_Q} {hs : List Nat} {q : List xv_E × Nat} {i : xv_I} {av : List xw_V} {S : xw_S} (h9 : xv_get 14 Γ 9999 = none) (hN : xw_Nar Γ) (hCG : xw_CG l d I hl Γ gh call) (hok : xw_okI i I q) (hcats : xw_cats av ≤ q.2) (h : xw_run hl Γ gh Qd call id hs q.1 kr F q.1 0 [] 0 (xw_locs av q.2) [] S = true)
    (D : va_G) (t : Nat → ClassId) (X : xw_X) (xs : Nat → Int32) (ws0 ws : va_W) (vs : List Value) (sz : Nat) (ρ gz : Nat → Int) (hI : xw_Inv X) (hWd : xw_Wd hl Γ t X (xw_mu xs ws) ws) (hDt : xw_Dt S.2.2.2.2.2.2 (xw_mu xs ws0) (xw_mu xs ws)) (hDc : xw_Dc S.2.2.2.2.2.2 ws0 ws) (has : ws.map Prod.fst = ws0.map Prod.fst) (hS : xw_St ρ S) (hMe : xw_Me X (ws.map Prod.fst) (xw_mu xs ws) ρ S) (hG : xw_Gz ρ S.2.1 gh gz) (hsk : xw_sk X (ws.map Prod.fst) ρ S.2.1 av vs) (hD0 : va_D (fun _ => True) ws) :
    Met l i.1 (Cond.code i.1 i.2.1 i.2.2.1 i.2.2.2 :: xv_tb) { frames := d + 1, cells := 0, slots := 0, locals := 60 * (d + 1) } (xw_Pr D t X xs ws vs sz) (xw_Po D t hl Γ X xs ws0 ws sz ρ S.2.1 kr) 0 0 (va_A ws sz) := by
  obtain ⟨y, cc, mL, ret⟩ := i
  obtain ⟨e1, hmL, hpn, hcode⟩ := hok
  dsimp only at e1 hmL hpn hcode ⊢
  refine va_MetF (cc := cc) (maxL := mL) (ret := ret) hpn rfl ?_
  intro p e s m args below meth c s₁ B hml hv
  obtain ⟨hargs, hsz, hP, hK, hEx, hX, hti⟩ := hv
  subst hargs
  subst hsz
  have hts := atoms_spec (ws := Cond.code y cc mL ret :: xv_tb) B.pre
  have hown : s.vm.findClass y.cls = some m.cls := findClass_of_methodNamed B.named
  have hnm : meth.name = y.name := (name_of_methodNamed B.named B.method).1
  have hret := B.returns
  rw [e1] at h hcats
  have hA : ∀ w : Nat, s.heap.size ≤ w → va_A ws s.heap.size w := fun w hw => Or.inr hw
  have C : xw_Cx p s m vs.toArray c cc y.cls mL D t (va_A ws s.heap.size) X xs Γ := ⟨B.exec, B.bytes, hml, hown, fun w hw => hts w (List.mem_cons_of_mem _ hw), hK, hA, hEx, hX, hti, hI, h9⟩
  obtain ⟨l1, l2, l3⟩ := xw_locs_ok av vs mL 0 hsk hcats (by omega)
  have hE : xw_Ends (ρ, S.2.1) p l e (headSpec (Cond.code y cc mL ret :: xv_tb) { frames := d + 1, cells := 0, slots := 0, locals := 60 * (d + 1) }).room s m vs.toArray below meth c D t (va_A ws s.heap.size) hl Γ X xs ws0 mL gh gz (xw_find Qd.1 id) 0 0 (MQ below (xw_Po D t hl Γ X xs ws0 ws s.heap.size ρ S.2.1 kr) vs.toArray s 0 0 (va_A ws s.heap.size)) cc ret kr := by
    intro act pc L st S' r hkr hcase ρ' ls vst H locs ws' hR hG' hH'
    have hfree : ∀ w ∈ locs, va_A ws s.heap.size w.base := hR.2.2.1.2.2.1.2.2
    have hq : ∀ rv : Option Value, xw_sk X (ws'.map Prod.fst) ρ' S'.2.1 r.toList rv.toList → ∀ tt : State, tt.heap = H → s.WarmedH tt.vm → xw_Po D t hl Γ X xs ws0 ws s.heap.size ρ S.2.1 kr vs.toArray s (.returned rv) tt := fun rv hrv tt htt hW =>
      ⟨⟨rv, ws', ρ', r, S', rfl, hkr, ⟨by rw [htt]; exact hR.2.2.1.1, hR.2.2.1.2.1, hR.2.2.1.2.2.2⟩, hG'.2, hR.2.2.2.1, hR.2.2.2.2, hrv⟩, hR.2.2.1.2.2.1.F htt⟩
    rcases hcase with ⟨hd, x, rfl, rfl, hx0, hcase⟩ | ⟨hd, hrt, x, rfl, rfl, hx1⟩ | ⟨hd, hrt, rfl, rfl⟩
    · obtain ⟨y0, vst, rfl, hy, hst⟩ := hR.2.1.un
      have ev := hst.nil
      subst ev
      obtain ⟨i, rfl, hi⟩ := hy.1 hx0
      rcases hcase with hrt | ⟨hrt, j1, j2⟩
      · exact W.iret B.exec B.bytes (by rw [hret, hrt]) (hq (some (.int i)) (xw_sk.cons hy True.intro)) hfree hd
      · have j1 := xw_prove_ok hR.2.2.2.1 j1 hi
        have j2 := xw_prove_ok hR.2.2.2.1 j2 (hi.neg.k 1)
        exact W.zret B.exec B.bytes (by rw [hret, hrt]) (xv_nar_z (by omega) (by omega)).2 (hq (some (.int i)) (xw_sk.cons hy True.intro)) hfree hd
    · obtain ⟨y0, vst, rfl, hy, hst⟩ := hR.2.1.un
      have ev := hst.nil
      subst ev
      obtain ⟨i, rfl, hi⟩ := hy.2.1 hx1
      exact W.lret B.exec B.bytes (by rw [hret, hrt]) (hq (some (.long i)) (xw_sk.cons hy True.intro)) hfree hd
    · have ev := hR.2.1.nil
      subst ev
      exact W.vret B.exec B.bytes (by rw [hret, hrt]) (hq none True.intro) hfree hd
  have hT := xy_run (e0 := (ρ, S.2.1)) (name := y.name) (ret := ret) (I := I) (full := q.1) (dF := d) C hCG ⟨Nat.le_refl _, by show 60 * d + 60 ≤ 60 * (d + 1); omega⟩ ⟨Nat.le_refl _, Nat.le_refl _⟩ hnm.symm rfl hE hN hcode F q.1 0 [] (fun _ h => h) 0 (xw_locs av mL) [] S h
  rw [lg_entry_eq]
  have hl' := lv_entry vs (n := mL) l1
  refine hT ρ _ [] s.heap [] ws ⟨⟨l2, _, hl', fun i v hi hk => ?_⟩, True.intro, ⟨hP, hD0.self, va_S.rf, hWd, hDt, hDc, has⟩, hS, hMe⟩ ⟨hG, xw_Up.rf⟩ (fun _ h => by cases h)
  obtain ⟨x, hx, hv⟩ := l3 i v hi hk
  rw [Nat.zero_add] at hx
  exact ⟨x, hx, hv⟩
