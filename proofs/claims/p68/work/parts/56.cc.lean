/-! a contract is used -/
theorem xw_Dt_kills {D1 : xw_D} {S : xw_S} {μ0 μ μ' : Nat → Nat → Value} (h1 : xw_Dt S.2.2.2.2.2.2 μ0 μ) (h2 : xw_Dt D1 μ μ') : xw_Dt (xw_kills D1 S).2.2.2.2.2.2 μ0 μ' := fun r j hf => by
  have f1 : xw_isin D1 r (j + 1) = false := by
    cases w : xw_isin D1 r (j + 1) with
    | false => rfl
    | true => rw [xw_kills_in D1 (Or.inr w)] at hf; cases hf
  have f2 : xw_isin S.2.2.2.2.2.2 r (j + 1) = false := by
    cases w : xw_isin S.2.2.2.2.2.2 r (j + 1) with
    | false => rfl
    | true => rw [xw_kills_in D1 (Or.inl w)] at hf; cases hf
  rw [h2 r j f1, h1 r j f2]
theorem xw_Dc_kills {D1 : xw_D} {S : xw_S} {ws0 ws ws' : va_W} (h1 : xw_Dc S.2.2.2.2.2.2 ws0 ws) (h2 : xw_Dc D1 ws ws') : xw_Dc (xw_kills D1 S).2.2.2.2.2.2 ws0 ws' := fun r hr => by
  rw [h2 r (fun c hc => ?_), h1 r (fun c hc => hr c (xw_kills_old D1 hc))]
  obtain ⟨c', hc'⟩ := xw_kills_cell D1 (S := S) hc
  exact hr c' hc'
theorem xw_Me.fr {X : xw_X} {as : List Nat} {μ : Nat → Nat → Value} {ρ ρ' : Nat → Int} {S S' : xw_S} (h : xw_Me X as μ ρ S) (hu : xw_Up ρ S.2.1 ρ' S'.2.1) (e : S'.2.2 = S.2.2) : xw_Me X as μ ρ' S' := by
  unfold xw_Me at h ⊢
  rw [e]
  exact ⟨h.1.more hu, h.2.more hu⟩
theorem xy_cc {l : Launch} {I : Nat → Option xv_I} {hl : Nat × Int} {Γ : xv_A} {c : xw_C} {av : List xw_V} {S : xw_S} {kr : xw_Kr} {d : Nat} (hV : xw_CV l I hl Γ c) (hd : c.2.2.2.2.2.2 ≤ d) (h : xw_cc hl Γ c av S kr = true) : ∃ i : xv_I, I c.1 = some i ∧ ∀ (D : va_G) (t : Nat → ClassId) (X : xw_X) (xs : Nat → Int32) (ws0 ws : va_W) (vs : List Value) (sz : Nat) (ρ : Nat → Int), xw_Inv X → xw_Wd hl Γ t X (xw_mu xs ws) ws → xw_Dt S.2.2.2.2.2.2 (xw_mu xs ws0) (xw_mu xs ws) → xw_Dc S.2.2.2.2.2.2 ws0 ws → ws.map Prod.fst = ws0.map Prod.fst → xw_St ρ S → xw_Me X (ws.map Prod.fst) (xw_mu xs ws) ρ S → xw_sk X (ws.map Prod.fst) ρ S.2.1 av vs → va_D (fun _ => True) ws →
    Met l i.1 (Cond.code i.1 i.2.1 i.2.2.1 i.2.2.2 :: xv_tb) { frames := d, cells := 0, slots := 0, locals := 60 * d } (xw_Pr D t X xs ws vs sz) (xw_Po D t hl Γ X xs ws0 ws sz ρ S.2.1 kr) 0 0 (va_A ws sz) := by
  obtain ⟨i, hi, hV⟩ := hV
  refine ⟨i, hi, fun D t X xs ws0 ws vs sz ρ hI hWd hDt hDc has hS hMe hsk hD0 => ?_⟩
  unfold xw_cc at h
  obtain ⟨h1, h2⟩ := xv_and_t h
  obtain ⟨hsv, h7⟩ := xw_sig_ok hS h1 hsk
  have hLz := xw_az_lz0 hsk h7
  have hg0 : xw_Gz ρ S.2.1 [] (fun _ => 0) := fun _ _ q => by cases q
  obtain ⟨hpre, ρ1, S1, k1, u1, hS1, hM1, e1⟩ := xw_tpr_ok hWd h2 hS hMe hLz hg0
  obtain ⟨ρ2, S2, ⟨gs, k2, hgz⟩, u2, hS2, hM2, e2⟩ := xw_tgs_ok (ps := []) hWd k1 hS1 hM1 (hLz.more u1) rfl (fun _ _ q => by cases q)
  refine xy_mono (hV d hd D t X xs ws vs sz hI hWd hsv hpre hD0) (fun a st o tt hQ => ?_)
  obtain ⟨⟨rv, ws', rfl, ⟨w1, w2, w3, w4, w5, w6⟩, pe, hpe, hpv⟩, hF⟩ := hQ
  refine ⟨?_, hF⟩
  have hu12 := u1.tr u2
  have ed : S2.2.2.2.2.2.2 = S.2.2.2.2.2.2 := e2.trans e1
  obtain ⟨hS3, hM3⟩ := xw_kills_ok (X := X) (as := ws.map Prod.fst) (μ' := xw_mu xs ws') c.2.2.2.2.2.1 hS2 hM2 w4
  have hn3 := xw_kills_n c.2.2.2.2.2.1 S2
  have hsk2 : xw_sk X (ws'.map Prod.fst) ρ2 (xw_kills c.2.2.2.2.2.1 S2).2.1 av vs := by rw [hn3, w6]; exact hsk.more hu12
  have hM3' : xw_Me X (ws'.map Prod.fst) (xw_mu xs ws') ρ2 (xw_kills c.2.2.2.2.2.1 S2) := by rw [w6]; exact hM3
  have hgz3 : xw_Gz ρ2 (xw_kills c.2.2.2.2.2.1 S2).2.1 gs (xw_gv c vs (xw_mu xs ws)) := by rw [hn3]; exact hgz
  have hu3 : xw_Up ρ S.2.1 ρ2 (xw_kills c.2.2.2.2.2.1 S2).2.1 := by rw [hn3]; exact hu12
  have hDt3 : xw_Dt (xw_kills c.2.2.2.2.2.1 S2).2.2.2.2.2.2 (xw_mu xs ws0) (xw_mu xs ws') := xw_Dt_kills (by rw [ed]; exact hDt) w4
  have hDc3 : xw_Dc (xw_kills c.2.2.2.2.2.1 S2).2.2.2.2.2.2 ws0 ws' := xw_Dc_kills (by rw [ed]; exact hDc) w5
  have k3 := xw_anl_ok k2 pe hpe
  obtain ⟨hcase, hfacts⟩ := hpv
  have num : ∀ (kd : Nat) (x : Value) (z : Int), kd ≤ 1 → pe.1 = kd → rv = some x → (∀ (ρ' : Nat → Int) (n' : Nat) (l : xw_L), xw_is ρ' n' l z → xw_hv X (ws'.map Prod.fst) ρ' n' (kd, l) x) → pe.2.1 ≤ z → z ≤ pe.2.2.1 → ∃ (rv' : Option Value) (ws'' : va_W) (ρ' : Nat → Int) (r : Option xw_V) (S' : xw_S), Outcome.returned rv = .returned rv' ∧ kr r S' = true ∧ xw_Wb D t hl Γ X xs ws0 ws sz S'.2.2.2.2.2.2 tt.heap ws'' ∧ xw_Up ρ S.2.1 ρ' S'.2.1 ∧ xw_St ρ' S' ∧ xw_Me X (ws''.map Prod.fst) (xw_mu xs ws'') ρ' S' ∧ xw_sk X (ws''.map Prod.fst) ρ' S'.2.1 r.toList rv'.toList := by
    intro kd x z hkd hpk hrv hx z1 z2
    have b9 : Nat.beq pe.1 9 = false := by
      cases q : Nat.beq pe.1 9 with
      | true => have := xv_beq q; omega
      | false => rfl
    have b1 : Nat.ble pe.1 1 = true := Nat.ble_eq.mpr (by omega)
    rw [b9, b1] at k3
    simp only [cond_false, cond_true] at k3
    obtain ⟨ρ4, lf, S4, k4, u4, hS4, hl4, e4, -⟩ := xw_fr_ok hS3 k3 z1 z2
    have hM4 := xw_Me.fr hM3' u4 e4
    have hx4 := hx ρ4 S4.2.1 lf hl4
    have hr4 : xw_sk X (ws'.map Prod.fst) ρ4 S4.2.1 (some (pe.1, lf)).toList rv.toList := by
      rw [hrv, hpk]; exact ⟨hx4, True.intro⟩
    have hLz4 := xw_az_lz (r := some (pe.1, lf)) hr4 (hsk2.more u4) h7
    obtain ⟨ρ5, S5, k5, u5, hS5, hM5, e5⟩ := xw_tas_ok w3 k4 hS4 hM4 hLz4 (hgz3.more u4) hfacts
    have ee : S5.2.2.2.2.2.2 = (xw_kills c.2.2.2.2.2.1 S2).2.2.2.2.2.2 := by rw [e5, e4]
    exact ⟨rv, ws', ρ5, some (pe.1, lf), S5, rfl, k5, ⟨w1, w2, w3, by rw [ee]; exact hDt3, by rw [ee]; exact hDc3, w6.trans has⟩, (hu3.tr u4).tr u5, hS5, hM5, hr4.more u5⟩
  rcases hcase with ⟨h9, hrv⟩ | ⟨h0, x, hrv, z1, z2⟩ | ⟨h1', x, hrv, z1, z2⟩
  · rw [h9] at k3
    simp only [show Nat.beq 9 9 = true from rfl, cond_true] at k3
    have hLz3 : xw_Lz ρ2 (xw_kills c.2.2.2.2.2.1 S2).2.1 (xw_locs av 0) (xw_az (vs ++ rv.toList)) := by
      rw [hrv]
      have := xw_az_lz0 hsk2 h7
      simpa using this
    obtain ⟨ρ5, S5, k5, u5, hS5, hM5, e5⟩ := xw_tas_ok w3 k3 hS3 hM3' hLz3 hgz3 hfacts
    exact ⟨rv, ws', ρ5, none, S5, rfl, k5, ⟨w1, w2, w3, by rw [e5]; exact hDt3, by rw [e5]; exact hDc3, w6.trans has⟩, hu3.tr u5, hS5, hM5, by rw [hrv]; exact True.intro⟩
  · exact num 0 _ x.toInt (by omega) h0 hrv (fun ρ' n' l hl' => xw_hv.i hl') z1 z2
  · exact num 1 _ x.toInt (by omega) h1' hrv (fun ρ' n' l hl' => xw_hv.l hl') z1 z2
