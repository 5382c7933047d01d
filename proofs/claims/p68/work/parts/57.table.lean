/-! a table of calls; a contract is checked -/
section XYb
variable {l : Launch} {I : Nat → Option xv_I} {hl : Nat × Int} {Γ : xv_A} {M : xv_M} {HS : List (List (List Nat))} {CT : List (List xw_C)} {F : Nat} {Qd : xw_Q}
def xw_MOK (M : xv_M) (I : Nat → Option xv_I) : Prop := ∀ (id : Nat) (q : List xv_E × Nat), xv_get 20 M id = some q → ∃ i : xv_I, I id = some i ∧ xw_okI i I q
def xw_VOK (l : Launch) (I : Nat → Option xv_I) (hl : Nat × Int) (Γ : xv_A) (CT : List (List xw_C)) (Qd : xw_Q) : Prop := ∀ caller pc cs, xw_find Qd.2.2 caller pc = some cs → ∀ j ∈ cs, ∀ c, xv_get 20 CT j = some c → xw_CV l I hl Γ c
theorem xy_calls {gh : List xw_L} (h9 : xv_get 14 Γ 9999 = none) (hN : xw_Nar Γ) (hM : xw_MOK M I) (hV : xw_VOK l I hl Γ CT Qd) : ∀ d0 dF, d0 ≤ dF → xw_CG l dF I hl Γ gh (xw_calls hl Γ M HS CT F gh Qd d0)
  | 0, _, _ => fun _ _ _ _ _ _ h => by cases h
  | d0 + 1, 0, hle => by omega
  | d0 + 1, d + 1, hle => by
    have ih := xy_calls (gh := gh) h9 hN hM hV d0 d (by omega)
    intro caller pc id av S kr h
    have h : ((match xw_find Qd.2.2 caller pc with
      | some cs => xw_orl (fun j => match xv_get 20 CT j with
        | some c => Nat.beq c.1 id && (Nat.ble c.2.2.2.2.2.2 (d0 + 1) && xw_cc hl Γ c av S kr)
        | none => false) cs
      | none => false) || (match xv_get 20 M id with
        | some q => (match xv_get 20 HS id with
          | some hs => bif Nat.ble (xw_cats av) q.2 then xw_run hl Γ gh Qd (xw_calls hl Γ M HS CT F gh Qd d0) id hs q.1 kr F q.1 0 [] 0 (xw_locs av q.2) [] S else false
          | none => false)
        | none => false)) = true := h
    rcases (Bool.or_eq_true _ _).mp h with h | h
    · cases hf : xw_find Qd.2.2 caller pc with
     | none => rw [hf] at h; cases h
     | some cs =>
      rw [hf] at h
      obtain ⟨j, hj, h⟩ := xw_orl_ok h
      cases hc : xv_get 20 CT j with
      | none => rw [hc] at h; cases h
      | some c =>
        rw [hc] at h
        obtain ⟨b1, h⟩ := xv_and_t h
        obtain ⟨b2, h⟩ := xv_and_t h
        have b1 := xv_beq b1
        have b2 := xv_ble b2
        obtain ⟨i, hi, hm⟩ := xy_cc (d := d + 1) (hV caller pc cs hf j hj c hc) (by omega) h
        rw [b1] at hi
        exact ⟨i, hi, fun D t X xs ws0 ws vs sz ρ gz a1 a2 a3 a4 a5 a6 a7 a8 a9 a10 => hm D t X xs ws0 ws vs sz ρ a1 a2 a3 a4 a5 a6 a7 a9 a10⟩
    · cases hq : xv_get 20 M id with
      | none => rw [hq] at h; cases h
      | some q =>
        rw [hq] at h
        dsimp only at h
        cases hh : xv_get 20 HS id with
        | none => rw [hh] at h; cases h
        | some hs =>
          rw [hh] at h
          dsimp only at h
          cases hb : Nat.ble (xw_cats av) q.2 with
          | false => rw [hb] at h; cases h
          | true =>
            rw [hb] at h
            simp only [cond_true] at h
            obtain ⟨i, hi, hok⟩ := hM id q hq
            exact ⟨i, hi, fun D t X xs ws0 ws vs sz ρ gz a1 a2 a3 a4 a5 a6 a7 a8 a9 a10 => xy_meth h9 hN ih hok (xv_ble hb) h D t X xs ws0 ws vs sz ρ gz a1 a2 a3 a4 a5 a6 a7 a8 a9 a10⟩
theorem xv_rep_get {α : Type} {a : α} : ∀ {n i : Nat}, i < n → (xv_rep n a)[i]? = some a
  | 0, _, h => absurd h (Nat.not_lt_zero _)
  | n + 1, 0, _ => rfl
  | n + 1, i + 1, h => xv_rep_get (n := n) (i := i) (by omega)
theorem xw_S0_ok {ρ : Nat → Int} : xw_St ρ xw_S0 := by
  refine ⟨fun v hv => absurd hv (Nat.not_lt_zero _), fun _ h => (by cases h), fun _ h => (by cases h), fun v hv => ⟨(0, 0), ?_⟩⟩
  rw [xv_get_eq]
  have e : xw_S0.1 = xv_rep 16 (xv_rep 16 (0, 0)) := rfl
  rw [e, xv_rep_get (by omega), Option.bind_some, xv_rep_get (by omega)]
theorem xw_mka_ok {X : xw_X} {as : List Nat} {μ : Nat → Nat → Value} : ∀ {sg : List (Nat × Int × Int)} {S : xw_S} {ρ : Nat → Int} {acc : List xw_V} {va vs : List Value} {k : List xw_V → xw_S → Bool}, xw_mka sg S acc k = true → xw_Sv X as sg vs → xw_St ρ S → xw_Me X as μ ρ S → xw_sk X as ρ S.2.1 acc va → (∀ w ∈ acc, w.1 ≤ 7) → ∃ ρ' S' av, k av S' = true ∧ xw_St ρ' S' ∧ xw_Me X as μ ρ' S' ∧ xw_sk X as ρ' S'.2.1 av (va ++ vs) ∧ (∀ w ∈ av, w.1 ≤ 7)
  | [], S, ρ, acc, va, [], k, h, _, hS, hM, hk, h7 => ⟨ρ, S, acc, h, hS, hM, by rw [List.append_nil]; exact hk, h7⟩
  | [], _, _, _, _, _ :: _, _, _, hv, _, _, _, _ => False.elim hv
  | _ :: _, _, _, _, _, [], _, _, hv, _, _, _, _ => False.elim hv
  | a :: sg, S, ρ, acc, va, x :: vs, k, h, hv, hS, hM, hk, h7 => by
    have h : (bif Nat.ble a.1 1 then xw_fr S a.2.1 a.2.2 (fun l S' => xw_mka sg S' (acc ++ [(a.1, l)]) k) else bif Nat.beq a.1 2 then xw_mka sg S (acc ++ [(2, (a.2.1, []))]) k else bif Nat.beq a.1 4 then xw_mka sg S (acc ++ [(4, (a.2.1, [(a.2.2.toNat, 0)]))]) k else bif Nat.beq a.1 6 then xw_mka sg S (acc ++ [(6, (0, []))]) k else false) = true := h
    obtain ⟨hv1, hv2⟩ := hv
    have ea : va ++ x :: vs = (va ++ [x]) ++ vs := by simp
    have h77 : ∀ v : xw_V, v.1 ≤ 7 → ∀ w ∈ acc ++ [v], w.1 ≤ 7 := fun v q w hw => (List.mem_append.mp hw).elim (h7 w) (fun e => by rw [List.mem_singleton.mp e]; exact q)
    rw [ea]
    have num : ∀ z : Int, a.1 ≤ 1 → a.2.1 ≤ z → z ≤ a.2.2 → (∀ (ρ' : Nat → Int) (n' : Nat) (l : xw_L), xw_is ρ' n' l z → xw_hv X as ρ' n' (a.1, l) x) → ∃ ρ' S' av, k av S' = true ∧ xw_St ρ' S' ∧ xw_Me X as μ ρ' S' ∧ xw_sk X as ρ' S'.2.1 av (va ++ [x] ++ vs) ∧ (∀ w ∈ av, w.1 ≤ 7) := by
      intro z q1 z1 z2 hx
      rw [Nat.ble_eq.mpr q1] at h
      simp only [cond_true] at h
      obtain ⟨ρ4, lf, S4, k4, u4, hS4, hl4, e4, -⟩ := xw_fr_ok hS h z1 z2
      exact xw_mka_ok k4 hv2 hS4 (xw_Me.fr hM u4 e4) (xw_sk.app (hk.more u4) ⟨hx ρ4 S4.2.1 lf hl4, True.intro⟩) (h77 _ (by show a.1 ≤ 7; omega))
    have b1 : ¬ a.1 ≤ 1 → Nat.ble a.1 1 = false := fun q => by
      cases w : Nat.ble a.1 1 with
      | true => exact absurd (xv_ble w) q
      | false => rfl
    rcases hv1 with ⟨e, i, rfl, z1, z2⟩ | ⟨e, i, rfl, z1, z2⟩ | ⟨e, ad, e1, e2⟩ | ⟨e, j, ad, e0, e1, e2⟩ | ⟨e, ad, e1, e2⟩
    · exact num i.toInt (by omega) z1 z2 (fun ρ' n' l hl' => by rw [e]; exact xw_hv.i hl')
    · exact num i.toInt (by omega) z1 z2 (fun ρ' n' l hl' => by rw [e]; exact xw_hv.l hl')
    · rw [b1 (by omega), e] at h
      simp only [cond_false, show Nat.beq 2 2 = true from rfl, cond_true] at h
      exact xw_mka_ok h hv2 hS hM (xw_sk.app hk ⟨⟨fun q => (by cases q), fun q => (by cases q), fun _ => ⟨ad, e1, e2⟩, fun q => (by cases q), fun q => (by cases q), fun q => (by cases q), fun q => (by cases q), fun q => (by cases q)⟩, True.intro⟩) (h77 _ (by show 2 ≤ 7; omega))
    · rw [b1 (by omega), e] at h
      simp only [cond_false, show Nat.beq 4 2 = false from rfl, show Nat.beq 4 4 = true from rfl, cond_true] at h
      exact xw_mka_ok h hv2 hS hM (xw_sk.app hk ⟨⟨fun q => (by cases q), fun q => (by cases q), fun q => (by cases q), fun q => (by cases q), fun _ => ⟨j, ad, e0, e1, e2⟩, fun q => (by cases q), fun q => (by cases q), fun q => (by cases q)⟩, True.intro⟩) (h77 _ (by show 4 ≤ 7; omega))
    · rw [b1 (by omega), e] at h
      simp only [cond_false, show Nat.beq 6 2 = false from rfl, show Nat.beq 6 4 = false from rfl, show Nat.beq 6 6 = true from rfl, cond_true] at h
      exact xw_mka_ok h hv2 hS hM (xw_sk.app hk ⟨⟨fun q => (by cases q), fun q => (by cases q), fun q => (by cases q), fun q => (by cases q), fun q => (by cases q), fun q => (by cases q), fun _ => ⟨ad, e1, e2⟩, fun q => (by cases q)⟩, True.intro⟩) (h77 _ (by show 6 ≤ 7; omega))
end XYb
