/-! by hand: worlds, values, stretches, stores, calls, methods -/
/-- the world as it stands -/
def xh_Wo (D : va_G) (t : Nat → ClassId) (A : Nat → Prop) (H0 : Heap) (hl : Nat × Int) (Γ : xv_A) (X : xw_X) (xs : Nat → Int32) (H : Heap) (locs : List Loc) (ws : va_W) : Prop := va_P D vwCl ws H ∧ va_D A ws ∧ va_S A H0 H locs ∧ xw_Wd hl Γ t X (xw_mu xs ws) ws
/-- what was written between two worlds -/
def xh_B (xs : Nat → Int32) (dd : xw_D) (ws0 ws : va_W) : Prop := xw_Dt dd (xw_mu xs ws0) (xw_mu xs ws) ∧ xw_Dc dd ws0 ws ∧ ws.map Prod.fst = ws0.map Prod.fst
theorem xh_B.rf {xs : Nat → Int32} {dd : xw_D} {ws : va_W} : xh_B xs dd ws ws := ⟨fun _ _ _ => rfl, fun _ _ => rfl, rfl⟩
theorem xh_B.tr {xs : Nat → Int32} {dd d : xw_D} {ws0 ws ws' : va_W} (h1 : xh_B xs dd ws0 ws) (h2 : xh_B xs d ws ws') (hd : d.all (fun e => xw_isin dd e.1 e.2) = true) : xh_B xs dd ws0 ws' := by
  refine ⟨fun r j hf => ?_, fun r hr => ?_, h2.2.2.trans h1.2.2⟩
  · rw [h2.1 r j ?_, h1.1 r j hf]
    cases w : xw_isin d r (j + 1) with
    | false => rfl
    | true =>
      obtain ⟨c', hc', q'⟩ := xw_isin_mem w
      have := List.all_eq_true.mp hd _ hc'
      obtain ⟨c2, hc2, q2⟩ := xw_isin_mem this
      rw [xw_isin_of (by dsimp only at q2; omega) hc2] at hf
      cases hf
  · rw [h2.2.1 r (fun c hc => ?_), h1.2.1 r hr]
    have := List.all_eq_true.mp hd _ hc
    obtain ⟨c2, hc2, -⟩ := xw_isin_mem this
    exact hr c2 hc2
/-- values behind symbolic ones -/
def xh_ex (as : List Nat) (ρ : Nat → Int) : List xw_V → (List Value → Prop) → Prop
  | [], P => P []
  | v :: K, P => match v.1 with
    | 0 => ∃ i : Int32, i.toInt = xw_ev ρ v.2 ∧ xh_ex as ρ K (fun vs => P (.int i :: vs))
    | _ => ∃ ad : Nat, as[v.2.1.toNat]? = some ad ∧ xh_ex as ρ K (fun vs => P (.ref ad :: vs))
/-- .. the other way round -/
def xh_rel (ρ : Nat → Int) : List xw_V → List Value → Prop
  | v :: K, .int i :: vs => (v.1 = 0 → i.toInt = xw_ev ρ v.2) ∧ xh_rel ρ K vs
  | _ :: K, _ :: vs => xh_rel ρ K vs
  | _, _ => True
theorem xh_rel_of {X : xw_X} {as : List Nat} {ρ : Nat → Int} {n : Nat} : ∀ {K : List xw_V} {vs : List Value}, xw_sk X as ρ n K vs → xh_rel ρ K vs
  | [], [], _ => True.intro
  | [], _ :: _, h => False.elim h
  | _ :: _, [], h => False.elim h
  | v :: K, x :: vs, h => by
    have ih := xh_rel_of h.2
    cases x with
    | int i =>
      refine ⟨fun q => ?_, ih⟩
      obtain ⟨i', e, h1⟩ := h.1.1 q
      cases e
      exact h1.2.symm
    | _ => exact ih
theorem xh_ex_of {X : xw_X} {as : List Nat} {ρ : Nat → Int} {n : Nat} : ∀ {K : List xw_V} {vs : List Value} {P : List Value → Prop}, (∀ v ∈ K, v.1 = 0 ∨ v.1 = 2) → xw_sk X as ρ n K vs → P vs → xh_ex as ρ K P
  | [], [], _, _, _, hp => hp
  | [], _ :: _, _, _, h, _ => False.elim h
  | _ :: _, [], _, _, h, _ => False.elim h
  | v :: K, x :: vs, P, hk, h, hp => by
    have ih := fun Q hq => xh_ex_of (P := Q) (fun u hu => hk u (List.mem_cons_of_mem _ hu)) h.2 hq
    obtain ⟨k, l⟩ := v
    rcases hk _ List.mem_cons_self with q | q
    · dsimp only at q
      subst q
      obtain ⟨i, rfl, hi⟩ := h.1.1 rfl
      exact ⟨i, hi.2.symm, ih (fun vs => P (.int i :: vs)) hp⟩
    · dsimp only at q
      subst q
      obtain ⟨ad, ha, rfl⟩ := h.1.2.2.1 rfl
      exact ⟨ad, ha, ih (fun vs => P (.ref ad :: vs)) hp⟩
theorem xh_stk {X : xw_X} {as : List Nat} {ρ : Nat → Int} {n : Nat} {K : List xw_V} {vst : List Value} (h : xw_sk X as ρ n K vst) (hk : K.all (fun v => Nat.beq v.1 0 || Nat.beq v.1 2) = true) : xh_ex as ρ K (fun vs => vst = vs) :=
  xh_ex_of (fun v hv => by
    rcases (Bool.or_eq_true _ _).mp (List.all_eq_true.mp hk v hv) with q | q
    · exact Or.inl (xv_beq q)
    · exact Or.inr (xv_beq q)) h rfl
theorem xh_vals {X : xw_X} {as : List Nat} {ρ : Nat → Int} {n : Nat} {L : List xw_V} {ls : Array Slot} {nL : Nat} {lvs : List (Nat × Value)} (h : lv_has ls nL lvs) (hm : xw_lm X as ρ n L lvs) : ∀ (K : List xw_V) (i0 : Nat), (∀ i v, K[i]? = some v → L[i0 + i]? = some v) → (∀ v ∈ K, v.1 = 0 ∨ v.1 = 2) → ∃ vs, xw_sk X as ρ n K vs ∧ ∀ q ∈ lv_args i0 vs, ls[q.1]? = some (.val q.2)
  | [], _, _, _ => ⟨[], True.intro, fun _ h => by cases h⟩
  | v :: K, i0, hK, hk => by
    obtain ⟨x, hx, hv⟩ := hm i0 v (by have := hK 0 v rfl; simpa using this) (by rcases hk v List.mem_cons_self with q | q <;> omega)
    obtain ⟨vs, h1, h2⟩ := xh_vals h hm K (i0 + 1) (fun i w hi => by have := hK (i + 1) w hi; rw [show i0 + 1 + i = i0 + (i + 1) by omega]; exact this) (fun w hw => hk w (List.mem_cons_of_mem _ hw))
    refine ⟨x :: vs, ⟨hv, h1⟩, fun q hq => ?_⟩
    have hc : ¬ x.category = 2 := by
      rcases hk v List.mem_cons_self with w | w
      · obtain ⟨i, rfl, -⟩ := hv.1 w; show ¬ (1 : Nat) = 2; decide
      · obtain ⟨ad, -, rfl⟩ := hv.2.2.1 w; show ¬ (1 : Nat) = 2; decide
    have e : lv_args i0 (x :: vs) = (i0, x) :: lv_args (if x.category = 2 then i0 + 2 else i0 + 1) vs := rfl
    rw [e, if_neg hc] at hq
    rcases List.mem_cons.mp hq with q1 | q1
    · rw [q1]; exact h.2.2 _ hx
    · exact h2 q q1
theorem xh_locs {X : xw_X} {as : List Nat} {ρ : Nat → Int} {n : Nat} {L : List xw_V} {ls : Array Slot} {nL : Nat} (h : ∃ lvs, lv_has ls nL lvs ∧ xw_lm X as ρ n L lvs) (k : Nat) (hk : (L.take k).all (fun v => Nat.beq v.1 0 || Nat.beq v.1 2) = true) : xh_ex as ρ (L.take k) (fun vs => lv_has ls nL (lv_args 0 vs)) := by
  obtain ⟨lvs, h1, h2⟩ := h
  have hk' : ∀ v ∈ L.take k, v.1 = 0 ∨ v.1 = 2 := fun v hv => by
    rcases (Bool.or_eq_true _ _).mp (List.all_eq_true.mp hk v hv) with q | q
    · exact Or.inl (xv_beq q)
    · exact Or.inr (xv_beq q)
  obtain ⟨vs, g1, g2⟩ := xh_vals h1 h2 (L.take k) 0 (fun i v hi => by
    rw [Nat.zero_add]
    rw [List.getElem?_take] at hi
    by_cases q : i < k
    · rw [if_pos q] at hi; exact hi
    · rw [if_neg q] at hi; cases hi) hk'
  exact xh_ex_of hk' g1 ⟨h1.1, h1.2.1, g2⟩
/-- a stretch is run: from arguments sg (locals a0, stack k0) and facts pre, it comes to the arrivals arr alone -/
noncomputable def xh_chk (hl : Nat × Int) (A : xv_A) (call : xw_Cl) (id : Nat) (hs : List Nat) (arr : List xh_Ar) (full : List xv_E) (F nL pc : Nat) (sg : List (Nat × Int × Int)) (pre : List xw_T) (a0 k0 : List xw_V) : Bool := xw_mka sg xw_S0 [] (fun av S1 => decide (av = a0 ++ k0) && (Nat.ble (xw_cats a0) nL && xw_tas hl A [] (xw_locs av 0) pre S1 (fun S2 => xh_go hl A call id hs (xh_hk arr) full (fun _ _ => false) F pc (xw_locs a0 nL) k0 S2)))
section XHb
variable {p : Program} {l : Launch} {e : Env} {R : Room} {s : State} {m : MethodId} {args : Array Value} {below : List Frame} {meth : Method} {c : Code}
variable {e0 : (Nat → Int) × Nat} {cc : ByteArray} {own : String} {nL : Nat} {D : va_G} {t : Nat → ClassId} {A : Nat → Prop} {hl : Nat × Int} {Γ : xv_A} {X : xw_X} {xs : Nat → Int32} {ws0 : va_W} {gh : List xw_L} {gz : Nat → Int} {fh : Nat → Option xw_H} {cs sl : Nat} {Q : State → Prop} {act : List xw_A} {k : xw_K} {pc : Nat} {L st : List xw_V} {S : xw_S}
theorem xh_split {as : List Nat} {ρ : Nat → Int} {n : Nat} : ∀ {a b : List xw_V} {x y : List Value}, xw_sk X as ρ n (a ++ b) (x ++ y) → a.length = x.length → xw_sk X as ρ n a x ∧ xw_sk X as ρ n b y
  | [], _, [], _, h, _ => ⟨True.intro, h⟩
  | [], _, _ :: _, _, _, e => by cases e
  | _ :: _, _, [], _, _, e => by cases e
  | _ :: a, _, _ :: x, _, h, e => by
    obtain ⟨h1, h2⟩ := xh_split (a := a) (x := x) h.2 (by simpa using e)
    exact ⟨⟨h.1, h1⟩, h2⟩
/-- a stretch of a method, from values: locals vl, stack vk -/
theorem xh_seg2 {name : String} {ret : Option FieldType} {I : Nat → Option xv_I} {call : xw_Cl} {dF id F : Nat} {full : List xv_E} {hs : List Nat} {arr : List xh_Ar} {sg : List (Nat × Int × Int)} {pre : List xw_T} {a0 k0 : List xw_V} {vl vk : List Value} (h : xh_chk hl Γ call id hs arr full F nL pc sg pre a0 k0 = true) (C : xw_Cx p s m args c cc own nL D t A X xs Γ) (hCG : xw_CG l dF I hl Γ [] call) (hRm : dF + 1 ≤ R.frames ∧ 60 * dF + 60 ≤ R.locals) (hCS : cs ≤ R.cells ∧ sl ≤ R.slots) (hname : name = meth.name) (hN : xw_Nar Γ) (hfull : xw_okM cc own name ret I full) (hnL : nL < 100) (hlen : a0.length = vl.length)
    {ls : Array Slot} {H : Heap} {locs : List Loc} {ws : va_W} (hWo : xh_Wo D t A s.heap hl Γ X xs H locs ws) (hsv : xw_Sv X (ws.map Prod.fst) sg (vl ++ vk)) (hpre : ∀ T ∈ pre, 0 ≤ xw_ttz (xw_az (vl ++ vk)) (fun _ => 0) (xw_mu xs ws) T) (hls : lv_has ls nL (lv_args 0 vl))
    (hA : ∀ a ∈ arr, ∀ (ρ : Nat → Int) (n : Nat) (ls : Array Slot) (vst : List Value) (H : Heap) (locs : List Loc) (ws' : va_W), xh_Wo D t A s.heap hl Γ X xs H locs ws' → xh_B xs a.2.2.2.2.2.2.2 ws ws' → (∃ lvs, lv_has ls nL lvs ∧ xw_lm X (ws.map Prod.fst) ρ n a.2.1 lvs) → xw_sk X (ws.map Prod.fst) ρ n a.2.2.1 vst → xh_rel ρ (a0 ++ k0) (vl ++ vk) → xh_ok ρ (xw_mu xs ws') a → W p l e R s m args below meth c H locs cs sl Q (F0 m a.1 ls vst)) : W p l e R s m args below meth c H locs cs sl Q (F0 m pc ls vk) := by
  unfold xh_chk at h
  obtain ⟨ρ1, S1, av, k1, hS1, hM1, hsk1, h7⟩ := xw_mka_ok (X := X) (as := ws.map Prod.fst) (μ := xw_mu xs ws) (ρ := fun _ => 0) (va := []) h hsv xw_S0_ok ⟨fun _ h => (by cases h), fun _ h => (by cases h)⟩ True.intro (fun _ h => by cases h)
  rw [List.nil_append] at hsk1
  obtain ⟨k00, k1⟩ := xv_and_t k1
  obtain ⟨kc, k1⟩ := xv_and_t k1
  have k00 := of_decide_eq_true k00
  subst k00
  have hLz1 := xw_az_lz0 hsk1 h7
  obtain ⟨ρ2, S2, k2, u2, hS2, hM2, e2⟩ := xw_tas_ok (gz := fun _ => 0) hWo.2.2.2 k1 hS1 hM1 hLz1 (fun _ _ q => by cases q) hpre
  have hsk2 := hsk1.more u2
  obtain ⟨hskl, hskk⟩ := xh_split hsk2 hlen
  obtain ⟨l1, l2, l3⟩ := xw_locs_ok a0 vl nL 0 hskl (xv_ble kc) hnL
  refine xh_seg (ws0 := ws) (ρ := ρ2) C hCG hRm hCS hname hN hfull k2 (fun a ha ρ' S' ls' vst H' locs' ws' hR hu hd hok => ?_) (vst := vk) (ls := ls) (H := H) (locs := locs) (ws := ws) ⟨⟨l2, _, hls, fun i v hi hk => ?_⟩, hskk, ⟨hWo.1, hWo.2.1, hWo.2.2.1, hWo.2.2.2, fun _ _ _ => rfl, fun _ _ => rfl, rfl⟩, hS2, hM2⟩
  · obtain ⟨⟨-, lvs, g1, g2⟩, g3, ⟨w1, w2, w3, w4, w5, w6, w7⟩, -, -⟩ := hR
    rw [w7] at g2 g3
    rw [hd] at w5 w6
    exact hA a ha ρ' S'.2.1 ls' vst H' locs' ws' ⟨w1, w2, w3, w4⟩ ⟨w5, w6, w7⟩ ⟨lvs, g1, g2⟩ g3 (xh_rel_of (hsk2.more hu)) hok
  · obtain ⟨x, hx, hv⟩ := l3 i v hi hk
    rw [Nat.zero_add] at hx
    exact ⟨x, hx, hv⟩
/-- a place of a row of ints is written -/
theorem xh_ist {r ad : Nat} {cl : xv_C} {x y : Int32} {ls : Array Slot} {vst : List Value} {H : Heap} {locs : List Loc} {ws : va_W} (C : xw_Cx p s m args c cc own nL D t A X xs Γ) (hd : decode cc pc = .ok (.iastore, 1)) (hWo : xh_Wo D t A s.heap hl Γ X xs H locs ws) (hcl : xv_get 14 Γ r = some cl) (hk : cl.1 = 1) (hr : r ≠ hl.1) (had : (ws.map Prod.fst)[r]? = some ad) (hx0 : 0 ≤ x.toInt) (hx1 : x.toInt.toNat < cl.2.1) (hu : ∀ u, xv_get 8 cl.2.2.2 (x.toInt.toNat % cl.2.2.1) = some u → xv_hv X.1 (ws.map Prod.fst) u (.int y))
    (kk : ∀ (H1 : Heap) (locs1 : List Loc) (ws1 : va_W), xh_Wo D t A s.heap hl Γ X xs H1 locs1 ws1 → xw_one (xw_mu xs ws) r x.toInt.toNat (.int y) (xw_mu xs ws1) → xh_B xs [(r, 0)] ws ws1 → W p l e R s m args below meth c H1 locs1 cs sl Q (F0 m (pc + 1) ls vst)) : W p l e R s m args below meth c H locs cs sl Q (F0 m pc ls (.int y :: .int x :: .ref ad :: vst)) := by
  obtain ⟨hP, hD, hS, hWd⟩ := hWo
  obtain ⟨en, hen, hce⟩ := xy_at hWd.1 hcl (by omega) had
  obtain ⟨q1, q2, q3⟩ := xy_idx hx0 hx1
  obtain ⟨en', e1, e2, e3, e4⟩ := xy_s1 (Q := Q) (cs := cs) (sl := sl) C hd ws r ad cl.2.1 en X.1 _ cl x (.int y) ls vst H locs hP hD hS hen hce hk rfl q1 (Or.inl ⟨rfl, y, rfl, fun w => (by cases w), fun w => (by cases w)⟩)
  rw [q2] at e1 e2 e3
  have hr9 := xy_ne9 C hcl
  have hfst := xv_fst_set (y := en') hen
  have hone : xw_one (xw_mu xs ws) r x.toInt.toNat (.int y) (xw_mu xs (ws.set r (ad, en'))) := by
    refine ⟨?_, fun r' j' hn => ?_⟩
    · rw [xy_mu hr9, xw_ct_set hen, if_pos rfl]; exact e1
    · by_cases e9 : r' = 9999
      · unfold xw_mu; rw [if_pos e9, if_pos e9]
      · rw [xy_mu e9, xy_mu e9, xw_ct_set hen]
        by_cases e : r' = r
        · rw [if_pos e, e2 j' (fun q => hn ⟨e, q⟩)]
          unfold xw_ct
          rw [e, hen]
        · rw [if_neg e]
  refine e4 (fun H1 locs1 hP1 hD1 hS1 => kk H1 locs1 (ws.set r (ad, en')) ⟨hP1, hD1, hS1, ?_, fun cq hcq jj hjj => ?_, fun qq cq hcq jj => xy_mu (xy_ne9 C hcq)⟩ hone ⟨fun r' j' hf => ?_, fun r' hq => ?_, hfst⟩)
  · rw [List.length_set]
    refine xw_H_set hWd.1 hen (fun c0 hc0 _ => ?_)
    rw [hcl] at hc0
    cases hc0
    exact e3 _ hce hu
  · rw [xw_ct_set hen, if_neg (fun w => hr w.symm)]; exact hWd.2.1 cq hcq jj hjj
  · refine hone.2 r' j' (fun q => ?_)
    rw [q.1] at hf
    have : xw_isin [(r, 0)] r (j' + 1) = true := xw_isin_of (Or.inl rfl) List.mem_cons_self
    rw [this] at hf; cases hf
  · have hne2 : r ≠ r' := fun w => hq 0 (by rw [w]; exact List.mem_cons_self)
    rw [List.getElem?_set_ne hne2]
/-- what a call by hand comes back with -/
def xh_Q (D : va_G) (t : Nat → ClassId) (hl : Nat × Int) (Γ : xv_A) (X : xw_X) (xs : Nat → Int32) (ws : va_W) (sz : Nat) (dd : xw_D) (Po : va_W → Option Value → Prop) : Array Value → State → Outcome → State → Prop := fun _ st oc tt => (∃ (rv : Option Value) (ws' : va_W), oc = .returned rv ∧ xw_Wb D t hl Γ X xs ws ws sz dd tt.heap ws' ∧ Po ws' rv) ∧ va_F (va_A ws sz) st tt
theorem xh_in {H : Heap} {locs : List Loc} {ws : va_W} (C : xw_Cx p s m args c cc own nL D t A X xs Γ) (hWo : xh_Wo D t A s.heap hl Γ X xs H locs ws) : ∀ q : Nat, va_A ws H.size q → A q := fun q hq => by
  rcases hq with ⟨k9, e9, h9⟩ | hq
  · exact hWo.2.1.2 k9 _ h9
  · exact C.2.2.2.2.2.2.1 q (Nat.le_trans hWo.2.2.1.1 hq)
theorem xh_pre {H : Heap} {locs : List Loc} {ws : va_W} {vs : List Value} (C : xw_Cx p s m args c cc own nL D t A X xs Γ) (hWo : xh_Wo D t A s.heap hl Γ X xs H locs ws) (U : State) (hU : U.heap = H) (hW : s.WarmedH U.vm) : xw_Pr D t X xs ws vs H.size vs.toArray U := by
  have hin := xh_in C hWo
  have hS := hWo.2.2.1
  refine ⟨rfl, by rw [hU], by rw [hU]; exact hWo.1, va_K.moved hW.alike C.2.2.2.2.2.1, C.2.2.2.2.2.2.2.1.warm hW, fun w => ?_, ?_⟩
  · obtain ⟨c1, c2, c3, c4⟩ := C.2.2.2.2.2.2.2.2.1 w
    refine ⟨va_X.moved hW.alike (c1.kept ?_), ?_, fun q => c3 (hin _ q), c4⟩
    · rw [hU]; exact hS.2.1 X.1 c2 c3
    · rw [hU]; exact Nat.lt_of_lt_of_le c2 hS.1
  · refine C.2.2.2.2.2.2.2.2.2.2.1.1 A (va_A ws H.size) s U hin (fun a h1 h2 => ?_) hW C.2.2.2.2.2.2.2.2.2.1
    rw [hU]; exact hS.2.1 a h1 h2
/-- behind a call by hand -/
theorem xh_behind {vrest : List Value} {ls : Array Slot} {H : Heap} {locs : List Loc} {ws : va_W} {vst : List Value} {aa : Array Value} {dd : xw_D} {Po : va_W → Option Value → Prop} (C : xw_Cx p s m args c cc own nL D t A X xs Γ) (hWo : xh_Wo D t A s.heap hl Γ X xs H locs ws)
    (hrun : va_Run p l e R s m args below meth c H locs cs sl 0 0 (F0 m pc ls vst) vrest (xh_Q D t hl Γ X xs ws H.size dd Po aa) (va_A ws H.size))
    (kk : ∀ (rv : Option Value) (H' : Heap) (locs' : List Loc) (ws' : va_W), xh_Wo D t A s.heap hl Γ X xs H' locs' ws' → xh_B xs dd ws ws' → Po ws' rv → W p l e R s m args below meth c H' locs' cs sl Q (F0 m (pc + 3) ls (rv.toList ++ vrest))) : W p l e R s m args below meth c H locs cs sl Q (F0 m pc ls vst) := by
  intro T hT XX
  obtain ⟨v, st₀, t1, T', L', h0, X', hL, e1, e2, ⟨⟨rv, ws', hrv, ⟨hP', hD', hWd', hDt', hDc', has'⟩, hPo⟩, hF⟩, hgo⟩ := hrun T hT XX
  cases hrv
  have hin := xh_in C hWo
  obtain ⟨hP, hD, hS, hWd⟩ := id hWo
  have hF1 := hF.1
  rw [h0] at hF1
  have hS2 : va_S A s.heap T'.heap (locs ++ L') := ⟨by rw [e1]; exact Nat.le_trans hS.1 hF1, fun q h1 h2 => by
    rw [e1, hF.2 q (by rw [h0]; exact Nat.lt_of_lt_of_le h1 hS.1) (fun hq => h2 (hin q hq)), h0]
    exact hS.2.1 q h1 h2, fun q hq => (List.mem_append.mp hq).elim (hS.2.2 q) (fun hq => hin _ (hL q hq))⟩
  obtain ⟨tt, a1, b1⟩ := kk v T'.heap (locs ++ L') ws' ⟨by rw [e1]; exact hP', hD'.weaken (fun _ _ _ hq => hin _ hq), hS2, hWd'⟩ ⟨hDt', hDc', has'⟩ hPo T' rfl X'
  exact ⟨tt, hgo tt a1, b1⟩
/-- a virtual call by hand -/
theorem xh_callV {index n dF ci r ad : Nat} {i : xv_I} {P vr : List Value} {cl : xv_C} {ls : Array Slot} {H : Heap} {locs : List Loc} {ws : va_W} {dd : xw_D} {Po : va_W → Option Value → Prop} (C : xw_Cx p s m args c cc own nL D t A X xs Γ) (hd : decode cc pc = .ok (.invokevirtual index, 3)) (hRm : dF + 1 ≤ R.frames ∧ 60 * dF + 60 ≤ R.locals) (hCS : cs ≤ R.cells ∧ sl ≤ R.slots) (hok : xv_callee i n ∧ Cond.methodLink own index i.1 ∈ xv_tb ∧ Cond.instanceMethod i.1 ∈ xv_tb ∧ Cond.selects i.1.cls i.1 i.1 ∈ xv_tb ∧ ∃ q, vwCl[ci]? = some q ∧ q.1 = i.1.cls)
    (hWo : xh_Wo D t A s.heap hl Γ X xs H locs ws) (hcl : xv_get 14 Γ r = some cl) (hc0 : cl.1 = 0) (hci : cl.2.1 = ci) (had : (ws.map Prod.fst)[r]? = some ad) (hls : ls.size = nL) (hPl : P.length = n) (hcat : ((.ref ad :: vr).map (fun v => v.category)).sum ≤ 8 + 1)
    (hM : Met l i.1 (Cond.code i.1 i.2.1 i.2.2.1 i.2.2.2 :: xv_tb) { frames := dF, cells := 0, slots := 0, locals := 60 * dF } (xw_Pr D t X xs ws (.ref ad :: P.reverse) H.size) (xh_Q D t hl Γ X xs ws H.size dd Po) 0 0 (va_A ws H.size))
    (kk : ∀ (rv : Option Value) (H' : Heap) (locs' : List Loc) (ws' : va_W), xh_Wo D t A s.heap hl Γ X xs H' locs' ws' → xh_B xs dd ws ws' → Po ws' rv → W p l e R s m args below meth c H' locs' cs sl Q (F0 m (pc + 3) ls (rv.toList ++ vr))) : W p l e R s m args below meth c H locs cs sl Q (F0 m pc ls (P ++ .ref ad :: vr)) := by
  obtain ⟨hcal, hw, hw2, hw3, q, hq, hqc⟩ := hok
  obtain ⟨en, hen, hce⟩ := xy_at hWo.2.2.2.1 hcl (by omega) had
  obtain ⟨fs, rfl, -, -⟩ := hce.1 hc0
  rw [hci] at hen
  have hrecv := va_recv C.2.2.2.2.2.1 hWo.1 hq hen
  rw [hqc] at hrecv
  have hcat2 : (vr.map (fun v => v.category)).sum ≤ 8 := by
    have e : ((Value.ref ad :: vr).map (fun v => v.category)).sum = 1 + (vr.map (fun v => v.category)).sum := by simp [Value.category]
    omega
  refine xh_behind C hWo (va_runV (C := i.1.cls) (As := P.reverse) (n := n) (own := own) (Ts := xv_tb) (nL := nL) (index := index) ⟨C.1, C.2.1, C.2.2.1, C.2.2.2.1, C.2.2.2.2.1⟩ hM ⟨callB_of n C.2.2.2.2.1 (xv_goodIn hcal.1) rfl rfl rfl (C.2.2.2.2.1 _ hcal.2.1) (C.2.2.2.2.1 _ hw) hcal.2.2.1 ⟨hRm.1, by have := hcal.2.2.2; show 8 + (_ + 11) + 60 * dF ≤ _; omega⟩, C.2.2.2.2.1 _ hw2, C.2.2.2.2.1 _ hw3⟩ ⟨xw_blind C.2.2.2.2.2.2.2.2.2.2.1, hrecv, fun U hU hW => xh_pre C hWo U hU hW⟩ rfl (by rw [List.length_reverse]; exact hPl) hls (by rw [List.reverse_reverse]) (lv_room (by omega)) hd ⟨by omega, by omega⟩) kk
end XHb
