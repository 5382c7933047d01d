/-! a contract that was checked holds -/
section XYc
variable {l : Launch} {I : Nat → Option xv_I} {hl : Nat × Int} {Γ : xv_A} {M : xv_M} {HS : List (List (List Nat))} {CT : List (List xw_C)} {F : Nat} {Qd : xw_Q}
theorem xy_con {c : xw_C} (h9 : xv_get 14 Γ 9999 = none) (hN : xw_Nar Γ) (hM : xw_MOK M I) (hV : xw_VOK l I hl Γ CT Qd) (h1 : 1 ≤ c.2.2.2.2.2.2) (h : xw_con hl Γ M HS CT F Qd c = true) : xw_CV l I hl Γ c := by
  unfold xw_con at h
  cases hq : xv_get 20 M c.1 with
  | none => rw [hq] at h; cases h
  | some q =>
    cases hh : xv_get 20 HS c.1 with
    | none => rw [hq, hh] at h; cases h
    | some hs =>
      rw [hq, hh] at h
      dsimp only at h
      obtain ⟨i, hi, hok⟩ := hM c.1 q hq
      refine ⟨i, hi, fun d hd D t X xs ws vs sz hI hWd hsv hpre hD0 => ?_⟩
      obtain ⟨ρ1, S1, av, k1, hS1, hM1, hsk1, h7⟩ := xw_mka_ok (X := X) (as := ws.map Prod.fst) (μ := xw_mu xs ws) (ρ := fun _ => 0) (va := []) h hsv xw_S0_ok ⟨fun _ h => (by cases h), fun _ h => (by cases h)⟩ True.intro (fun _ h => by cases h)
      rw [List.nil_append] at hsk1
      have hLz1 := xw_az_lz0 hsk1 h7
      obtain ⟨ρ2, S2, k2, u2, hS2, hM2, e2⟩ := xw_tas_ok (gz := fun _ => 0) hWd k1 hS1 hM1 hLz1 (fun _ _ q => by cases q) hpre
      obtain ⟨ρ3, S3, ⟨gs, k3, hgz⟩, u3, hS3, hM3, e3⟩ := xw_tgs_ok (ps := []) hWd k2 hS2 hM2 (hLz1.more u2) rfl (fun _ _ q => by cases q)
      cases hb : Nat.ble (xw_cats av) q.2 with
      | false => rw [hb] at k3; cases k3
      | true =>
        rw [hb] at k3
        simp only [cond_true] at k3
        have hCG := xy_calls (gh := gs) (HS := HS) (F := F) h9 hN hM hV (c.2.2.2.2.2.2 - 1) (d - 1) (by omega)
        have hm := xy_meth h9 hN hCG hok (xv_ble hb) k3 D t X xs ws ws vs sz ρ3 (xw_gv c vs (xw_mu xs ws)) hI hWd (fun _ _ _ => rfl) (fun _ _ => rfl) rfl hS3 hM3 hgz (hsk1.more (u2.tr u3)) hD0
        rw [show d - 1 + 1 = d by omega] at hm
        refine xy_mono hm (fun a st o tt hQ => ?_)
        obtain ⟨⟨rv, ws', ρ', r, S', rfl, hkr, ⟨w1, w2, w3, w4, w5, w6⟩, hu, hS', hM', hskr⟩, hF⟩ := hQ
        refine ⟨⟨rv, ws', rfl, ⟨w1, w2, w3, fun r' j' hf => w4 r' j' ?_, fun r' hr => w5 r' (fun c' hc' => ?_), w6⟩, ?_⟩, hF⟩
        · cases w : xw_isin S'.2.2.2.2.2.2 r' (j' + 1) with
          | false => rfl
          | true =>
            obtain ⟨c', hc', q'⟩ := xw_isin_mem w
            have := xw_anl_ok (xv_and_t hkr).1 _ hc'
            obtain ⟨c2, hc2, q2⟩ := xw_isin_mem this
            rw [xw_isin_of (by dsimp only at q2; omega) hc2] at hf
            cases hf
        · have := xw_anl_ok (xv_and_t hkr).1 _ hc'
          obtain ⟨c2, hc2, -⟩ := xw_isin_mem this
          exact hr c2 hc2
        · obtain ⟨p, hp, hp2⟩ := xw_orl_ok (xv_and_t hkr).2
          refine ⟨p, hp, ?_⟩
          have hsk' : xw_sk X (ws'.map Prod.fst) ρ' S'.2.1 av vs := by rw [w6]; exact (hsk1.more (u2.tr u3)).more hu
          have hgz' : xw_Gz ρ' S'.2.1 gs (xw_gv c vs (xw_mu xs ws)) := hgz.more hu
          match r, hp2, hskr with
          | none, hp2, hskr =>
            obtain ⟨b1, hp2⟩ := xv_and_t hp2
            have erv : rv = none := by
              cases rv with
              | none => rfl
              | some y => exact False.elim hskr
            subst erv
            refine ⟨Or.inl ⟨xv_beq b1, rfl⟩, ?_⟩
            have hLz' := xw_az_lz0 hsk' h7
            have ht := (xw_tpr_ok w3 hp2 hS' hM' hLz' hgz').1
            intro T hT
            have := ht T hT
            simpa using this
          | some v, hp2, hskr =>
            obtain ⟨b1, hp2⟩ := xv_and_t hp2
            obtain ⟨b2, hp2⟩ := xv_and_t hp2
            obtain ⟨b3, hp2⟩ := xv_and_t hp2
            obtain ⟨b4, hp2⟩ := xv_and_t hp2
            have b1 := xv_beq b1
            have b2 := xv_ble b2
            cases rv with
            | none => exact False.elim hskr
            | some y =>
              have hy : xw_hv X (ws'.map Prod.fst) ρ' S'.2.1 v y := hskr.1
              refine ⟨Or.inr ?_, ?_⟩
              · rcases Nat.le_one_iff_eq_zero_or_eq_one.mp b2 with q0 | q0
                · obtain ⟨i, rfl, hi'⟩ := hy.1 q0
                  have z1 := xw_prove_ok hS' b3 (hi'.k _)
                  have z2 := xw_prove_ok hS' b4 (hi'.neg.k _)
                  exact Or.inl ⟨by omega, i, rfl, by omega, by omega⟩
                · obtain ⟨i, rfl, hi'⟩ := hy.2.1 q0
                  have z1 := xw_prove_ok hS' b3 (hi'.k _)
                  have z2 := xw_prove_ok hS' b4 (hi'.neg.k _)
                  exact Or.inr ⟨by omega, i, rfl, by omega, by omega⟩
              · have hLz' := xw_az_lz (r := some v) (rv := some y) hskr hsk' h7
                exact (xw_tpr_ok w3 hp2 hS' hM' hLz' hgz').1
end XYc
