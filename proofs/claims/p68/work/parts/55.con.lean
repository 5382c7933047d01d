/-! contracts -/
theorem xy_mono {l : Launch} {y : MethodName} {ws : List Cond} {rm : Room} {Pc : Array Value → State → Prop} {Qc Qc' : Array Value → State → Outcome → State → Prop} {mc ms : Nat} {free : Addr → Prop} (h : Met l y ws rm Pc Qc mc ms free) (hq : ∀ a st o t, Qc a st o t → Qc' a st o t) : Met l y ws rm Pc Qc' mc ms free := fun p e h1 h2 h3 s m args below h4 h5 h6 h7 => by
  obtain ⟨n, o, a, b, c, d, f⟩ := h p e h1 h2 h3 s m args below h4 h5 h6 h7
  exact ⟨n, o, a, b, c, hq _ _ _ _ d, f⟩
/-- a local of a method that is called, as a number -/
def xw_az (vs : List Value) (i : Nat) : Int := match (lg_sl vs)[i]? with
  | some (.val x) => xw_n0 x
  | _ => 0
theorem xw_az_ok {X : xw_X} {as : List Nat} {ρ : Nat → Int} {n : Nat} {rl : List xw_V} {rx : List Value} (hr : ∀ (i : Nat) (v : xw_V), rl[i]? = some v → v.1 ≤ 1 → ∃ x, (lg_sl rx)[i]? = some (Slot.val x) ∧ xw_hv X as ρ n v x) : ∀ (av : List xw_V) (vs : List Value), xw_sk X as ρ n av vs → (∀ w ∈ av, w.1 ≤ 7) → ∀ (i : Nat) (v : xw_V), (xw_locs av 0 ++ rl)[i]? = some v → v.1 ≤ 1 → ∃ x, (lg_sl (vs ++ rx))[i]? = some (Slot.val x) ∧ xw_hv X as ρ n v x
  | [], [], _, _, i, v, h, hk => hr i v h hk
  | [], _ :: _, h, _, _, _, _, _ => False.elim h
  | _ :: _, [], h, _, _, _, _, _ => False.elim h
  | w :: av, y :: vs, h, h7, i, v, hi, hk => by
    have elo : xw_locs (w :: av) 0 = bif Nat.beq w.1 1 then w :: xw_un :: xw_locs av 0 else w :: xw_locs av 0 := rfl
    have esl : lg_sl (y :: vs ++ rx) = (if y.category = 2 then [.val y, .second] else [.val y]) ++ lg_sl (vs ++ rx) := rfl
    rw [elo] at hi
    rw [esl]
    have ih := xw_az_ok hr av vs h.2 (fun u hu => h7 u (List.mem_cons_of_mem _ hu))
    cases hb : Nat.beq w.1 1 with
    | true =>
      rw [hb] at hi
      obtain ⟨j, ej, -⟩ := h.1.2.1 (xv_beq hb)
      have ec : y.category = 2 := by rw [ej]; rfl
      rw [if_pos ec]
      match i, hi with
      | 0, hi => cases hi; exact ⟨y, rfl, h.1⟩
      | 1, hi => cases hi; exact absurd hk (by decide)
      | i + 2, hi => exact ih i v hi hk
    | false =>
      rw [hb] at hi
      have hne : w.1 ≠ 1 := fun q => by rw [q] at hb; cases hb
      have ec := xy_cat1 h.1 (h7 w List.mem_cons_self) hne
      rw [if_neg (by omega)]
      match i, hi with
      | 0, hi => cases hi; exact ⟨y, rfl, h.1⟩
      | i + 1, hi => exact ih i v hi hk
theorem xw_az_lz {X : xw_X} {as : List Nat} {ρ : Nat → Int} {n : Nat} {r : Option xw_V} {rv : Option Value} {av : List xw_V} {vs : List Value} (hr : xw_sk X as ρ n r.toList rv.toList) (h : xw_sk X as ρ n av vs) (h7 : ∀ w ∈ av, w.1 ≤ 7) : xw_Lz ρ n (xw_locs av 0 ++ r.toList) (xw_az (vs ++ rv.toList)) := fun i l hi => by
  unfold xw_lv at hi
  rw [xv_nth_eq] at hi
  cases hv : (xw_locs av 0 ++ r.toList)[i]? with
  | none => rw [hv] at hi; cases hi
  | some v =>
    rw [hv] at hi
    obtain ⟨b, e⟩ := xv_bt hi
    cases e
    have b := xv_ble b
    obtain ⟨x, h1, h2⟩ := xw_az_ok (X := X) (as := as) (ρ := ρ) (n := n) (rl := r.toList) (rx := rv.toList) (fun j w hj hw => by
      cases r with
      | none => simp at hj
      | some u =>
        cases rv with
        | none => exact False.elim hr
        | some y =>
          match j, hj with
          | 0, hj =>
            cases hj
            refine ⟨y, ?_, hr.1⟩
            show ((if y.category = 2 then [Slot.val y, .second] else [.val y]) ++ lg_sl [])[0]? = _
            by_cases e : y.category = 2
            · rw [if_pos e]; rfl
            · rw [if_neg e]; rfl
          | j + 1, hj => simp at hj) av vs h h7 i v hv b
    obtain ⟨z, h3, h4⟩ := h2.num b
    unfold xw_az
    rw [h1]
    dsimp only
    unfold xw_n0
    rw [h3]; exact h4
theorem xw_az_lz0 {X : xw_X} {as : List Nat} {ρ : Nat → Int} {n : Nat} {av : List xw_V} {vs : List Value} (h : xw_sk X as ρ n av vs) (h7 : ∀ w ∈ av, w.1 ≤ 7) : xw_Lz ρ n (xw_locs av 0) (xw_az vs) := by
  have := xw_az_lz (r := none) (rv := none) (X := X) (as := as) (ρ := ρ) (n := n) True.intro h h7
  simpa using this
/-- numbers are as a contract's arguments -/
def xw_Sv (X : xw_X) (as : List Nat) : List (Nat × Int × Int) → List Value → Prop
  | [], [] => True
  | a :: sg, x :: vs => (((a.1 = 0 ∧ ∃ i : Int32, x = .int i ∧ a.2.1 ≤ i.toInt ∧ i.toInt ≤ a.2.2) ∨ (a.1 = 1 ∧ ∃ i : Int64, x = .long i ∧ a.2.1 ≤ i.toInt ∧ i.toInt ≤ a.2.2) ∨ (a.1 = 2 ∧ ∃ ad, as[a.2.1.toNat]? = some ad ∧ x = .ref ad) ∨ (a.1 = 4 ∧ ∃ j ad, j < a.2.2.toNat ∧ as[a.2.1.toNat + j]? = some ad ∧ x = .ref ad) ∨ (a.1 = 6 ∧ ∃ ad, x = .ref ad ∧ X.2.2.1 ad))) ∧ xw_Sv X as sg vs
  | _, _ => False
theorem xw_sig_ok {X : xw_X} {as : List Nat} {ρ : Nat → Int} {S : xw_S} (hS : xw_St ρ S) : ∀ {sg : List (Nat × Int × Int)} {av : List xw_V} {vs : List Value}, xw_sig S sg av = true → xw_sk X as ρ S.2.1 av vs → xw_Sv X as sg vs ∧ ∀ w ∈ av, w.1 ≤ 7
  | [], [], [], _, _ => ⟨True.intro, fun _ h => by cases h⟩
  | [], [], _ :: _, _, h => False.elim h
  | [], _ :: _, _, h, _ => by cases h
  | _ :: _, [], _, h, _ => by cases h
  | _ :: _, _ :: _, [], _, h => False.elim h
  | a :: sg, v :: av, x :: vs, h, hk => by
    have h : (Nat.beq v.1 a.1 && ((bif Nat.ble a.1 1 then xw_prove S (xw_k v.2 (-a.2.1)) && xw_prove S (xw_k (xw_neg v.2) a.2.2) else bif Nat.beq a.1 2 then xw_eqL v.2 (a.2.1, []) else bif Nat.beq a.1 4 then xw_eqL v.2 (a.2.1, [(a.2.2.toNat, 0)]) else Nat.beq a.1 6) && xw_sig S sg av)) = true := h
    obtain ⟨h1, h⟩ := xv_and_t h
    obtain ⟨h2, h3⟩ := xv_and_t h
    have h1 := xv_beq h1
    obtain ⟨g1, g2⟩ := xw_sig_ok hS h3 hk.2
    have fin : ∀ {P : Prop}, P → v.1 ≤ 7 → (P ∧ xw_Sv X as sg vs) ∧ ∀ w ∈ v :: av, w.1 ≤ 7 := fun p7 q7 => ⟨⟨p7, g1⟩, fun w hw => (List.mem_cons.mp hw).elim (fun e => by rw [e]; exact q7) (g2 w)⟩
    cases b1 : Nat.ble a.1 1 with
    | true =>
      rw [b1] at h2
      obtain ⟨c1, c2⟩ := xv_and_t h2
      have b1 := xv_ble b1
      rcases Nat.le_one_iff_eq_zero_or_eq_one.mp b1 with q | q
      · obtain ⟨i, e, hi⟩ := hk.1.1 (by omega)
        have c1 := xw_prove_ok hS c1 (hi.k _)
        have c2 := xw_prove_ok hS c2 (hi.neg.k _)
        exact fin (Or.inl ⟨q, i, e, by omega, by omega⟩) (by omega)
      · obtain ⟨i, e, hi⟩ := hk.1.2.1 (by omega)
        have c1 := xw_prove_ok hS c1 (hi.k _)
        have c2 := xw_prove_ok hS c2 (hi.neg.k _)
        exact fin (Or.inr (Or.inl ⟨q, i, e, by omega, by omega⟩)) (by omega)
    | false =>
      rw [b1] at h2
      simp only [cond_false] at h2
      cases b2 : Nat.beq a.1 2 with
      | true =>
        rw [b2] at h2
        have b2 := xv_beq b2
        obtain ⟨ad, e1, e2⟩ := hk.1.2.2.1 (by omega)
        rw [xw_eqL_ok h2] at e1
        exact fin (Or.inr (Or.inr (Or.inl ⟨b2, ad, e1, e2⟩))) (by omega)
      | false =>
        rw [b2] at h2
        simp only [cond_false] at h2
        cases b4 : Nat.beq a.1 4 with
        | true =>
          rw [b4] at h2
          have b4 := xv_beq b4
          obtain ⟨j, ad, e0, e1, e2⟩ := hk.1.2.2.2.2.1 (by omega)
          have hv := xw_eqL_ok h2
          unfold xw_cnt at e0
          rw [hv] at e0 e1
          exact fin (Or.inr (Or.inr (Or.inr (Or.inl ⟨b4, j, ad, e0, e1, e2⟩)))) (by omega)
        | false =>
          rw [b4] at h2
          have h2 := xv_beq h2
          obtain ⟨ad, e1, e2⟩ := hk.1.2.2.2.2.2.2.1 (by omega)
          exact fin (Or.inr (Or.inr (Or.inr (Or.inr ⟨h2, ad, e1, e2⟩)))) (by omega)
/-- an end of a contract -/
def xw_Pv (vs : List Value) (gz : Nat → Int) (μ : Nat → Nat → Value) (p : xw_P) (rv : Option Value) : Prop := ((p.1 = 9 ∧ rv = none) ∨ (p.1 = 0 ∧ ∃ i : Int32, rv = some (.int i) ∧ p.2.1 ≤ i.toInt ∧ i.toInt ≤ p.2.2.1) ∨ (p.1 = 1 ∧ ∃ i : Int64, rv = some (.long i) ∧ p.2.1 ≤ i.toInt ∧ i.toInt ≤ p.2.2.1)) ∧ ∀ T ∈ p.2.2.2, 0 ≤ xw_ttz (xw_az (vs ++ rv.toList)) gz μ T
def xw_gv (c : xw_C) (vs : List Value) (μ : Nat → Nat → Value) : Nat → Int := fun i => (c.2.2.2.1.map (xw_ttz (xw_az vs) (fun _ => 0) μ)).getD i 0
def xw_Pk (D : va_G) (t : Nat → ClassId) (hl : Nat × Int) (Γ : xv_A) (X : xw_X) (xs : Nat → Int32) (ws : va_W) (vs : List Value) (sz : Nat) (c : xw_C) : Array Value → State → Outcome → State → Prop := fun _ st oc tt => (∃ (rv : Option Value) (ws' : va_W), oc = .returned rv ∧ xw_Wb D t hl Γ X xs ws ws sz c.2.2.2.2.2.1 tt.heap ws' ∧ ∃ p ∈ c.2.2.2.2.1, xw_Pv vs (xw_gv c vs (xw_mu xs ws)) (xw_mu xs ws') p rv) ∧ va_F (va_A ws sz) st tt
/-- a contract holds -/
def xw_CV (l : Launch) (I : Nat → Option xv_I) (hl : Nat × Int) (Γ : xv_A) (c : xw_C) : Prop := ∃ i : xv_I, I c.1 = some i ∧ ∀ d, c.2.2.2.2.2.2 ≤ d → ∀ (D : va_G) (t : Nat → ClassId) (X : xw_X) (xs : Nat → Int32) (ws : va_W) (vs : List Value) (sz : Nat), xw_Inv X → xw_Wd hl Γ t X (xw_mu xs ws) ws → xw_Sv X (ws.map Prod.fst) c.2.1 vs → (∀ T ∈ c.2.2.1, 0 ≤ xw_ttz (xw_az vs) (fun _ => 0) (xw_mu xs ws) T) → va_D (fun _ => True) ws →
  Met l i.1 (Cond.code i.1 i.2.1 i.2.2.1 i.2.2.2 :: xv_tb) { frames := d, cells := 0, slots := 0, locals := 60 * d } (xw_Pr D t X xs ws vs sz) (xw_Pk D t hl Γ X xs ws vs sz c) 0 0 (va_A ws sz)
