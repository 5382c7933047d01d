/-! templates: what they say -/
def xw_n0 (x : Value) : Int := (xw_num x).getD 0
def xw_ixz (lz : Nat → Int) (c : Int) : List (Nat × Int) → Int
  | [] => c
  | t :: l => xw_ixz lz c l + t.2 * lz t.1
def xw_nmz (lz gz : Nat → Int) (μ : Nat → Nat → Value) (q : xw_Nm) : Int := match q.1 with
  | 0 => lz q.2.1
  | 1 => xw_n0 (μ q.2.1 (xw_ixz lz q.2.2.1 q.2.2.2).toNat)
  | _ => gz q.2.1
def xw_tz (lz gz : Nat → Int) (μ : Nat → Nat → Value) : List (Int × xw_Nm) → Int
  | [] => 0
  | q :: l => q.1 * xw_nmz lz gz μ q.2 + xw_tz lz gz μ l
def xw_ttz (lz gz : Nat → Int) (μ : Nat → Nat → Value) (t : xw_T) : Int := t.1 + xw_tz lz gz μ t.2
def xw_Lz (ρ : Nat → Int) (n : Nat) (L : List xw_V) (lz : Nat → Int) : Prop := ∀ i l, xw_lv L i = some l → xw_is ρ n l (lz i)
def xw_Gz (ρ : Nat → Int) (n : Nat) (gh : List xw_L) (gz : Nat → Int) : Prop := ∀ i l, xv_nth gh i = some l → xw_is ρ n l (gz i)
theorem xw_Lz.more {ρ ρ' : Nat → Int} {n n' : Nat} {L : List xw_V} {lz : Nat → Int} (hu : xw_Up ρ n ρ' n') (h : xw_Lz ρ n L lz) : xw_Lz ρ' n' L lz := fun i l hi => (h i l hi).more hu
theorem xw_Gz.more {ρ ρ' : Nat → Int} {n n' : Nat} {gh : List xw_L} {gz : Nat → Int} (hu : xw_Up ρ n ρ' n') (h : xw_Gz ρ n gh gz) : xw_Gz ρ' n' gh gz := fun i l hi => (h i l hi).more hu
theorem xw_ix_ok {ρ : Nat → Int} {n : Nat} {L : List xw_V} {lz : Nat → Int} (hL : xw_Lz ρ n L lz) (c : Int) : ∀ {ts : List (Nat × Int)} {a : xw_L}, xw_ix L c ts = some a → xw_is ρ n a (xw_ixz lz c ts)
  | [], a, h => by cases h; exact xw_is.c c
  | t :: ts, a, h => by
    have h : (match xw_ix L c ts with
      | none => none
      | some a => match xw_lv L t.1 with
        | none => none
        | some l => some (xw_add a (xw_scl t.2 l))) = some a := h
    cases h1 : xw_ix L c ts with
    | none => rw [h1] at h; cases h
    | some b =>
      rw [h1] at h
      dsimp only at h
      cases h2 : xw_lv L t.1 with
      | none => rw [h2] at h; cases h
      | some l =>
        rw [h2] at h
        cases h
        exact (xw_ix_ok hL c h1).add ((hL _ _ h2).scl t.2)
/-- k goes on; the cells are as they were -/
def xw_Rt (X : xw_X) (as : List Nat) (μ : Nat → Nat → Value) (ρ : Nat → Int) (S : xw_S) (k : (Nat → Int) → xw_S → Prop) : Prop := ∃ ρ' S', k ρ' S' ∧ xw_Up ρ S.2.1 ρ' S'.2.1 ∧ xw_St ρ' S' ∧ xw_Me X as μ ρ' S' ∧ S'.2.2.2.2.2.2 = S.2.2.2.2.2.2
theorem xw_Rt.tr {X : xw_X} {as : List Nat} {μ : Nat → Nat → Value} {ρ ρ' : Nat → Int} {S S' : xw_S} {k : (Nat → Int) → xw_S → Prop} (hu : xw_Up ρ S.2.1 ρ' S'.2.1) (e : S'.2.2.2.2.2.2 = S.2.2.2.2.2.2) (h : xw_Rt X as μ ρ' S' k) : xw_Rt X as μ ρ S k := by
  obtain ⟨ρ2, S2, h1, h2, h3, h4, h5⟩ := h
  exact ⟨ρ2, S2, h1, hu.tr h2, h3, h4, h5.trans e⟩
section XWT
variable {hl : Nat × Int} {Γ : xv_A} {t : Nat → ClassId} {X : xw_X} {μ : Nat → Nat → Value} {ws : va_W}
theorem xw_tev_ok {gh : List xw_L} {L : List xw_V} {lz gz : Nat → Int} (hW : xw_Wd hl Γ t X μ ws) : ∀ {ts : List (Int × xw_Nm)} {acc : xw_L} {S : xw_S} {ρ : Nat → Int} {z : Int} {k : xw_L → xw_S → Bool}, xw_tev hl Γ gh L ts acc S k = true → xw_St ρ S → xw_Me X (ws.map Prod.fst) μ ρ S → xw_Lz ρ S.2.1 L lz → xw_Gz ρ S.2.1 gh gz → xw_is ρ S.2.1 acc z → xw_Rt X (ws.map Prod.fst) μ ρ S (fun ρ' S' => ∃ l, k l S' = true ∧ xw_is ρ' S'.2.1 l (z + xw_tz lz gz μ ts))
  | [], acc, S, ρ, z, k, h, hS, hM, hL, hG, ha => ⟨ρ, S, ⟨acc, h, by show xw_is _ _ _ (z + 0); rw [Int.add_zero]; exact ha⟩, xw_Up.rf, hS, hM, rfl⟩
  | q :: ts, acc, S, ρ, z, k, h, hS, hM, hL, hG, ha => by
    have h : (match q.2.1 with
      | 0 => (match xw_lv L q.2.2.1 with
        | some l => xw_tev hl Γ gh L ts (xw_add acc (xw_scl q.1 l)) S k
        | none => false)
      | 1 => (match xw_ix L q.2.2.2.1 q.2.2.2.2 with
        | some i => xw_rd hl Γ S q.2.2.1 i (fun v S' => bif Nat.ble v.1 1 then xw_tev hl Γ gh L ts (xw_add acc (xw_scl q.1 v.2)) S' k else false)
        | none => false)
      | _ => (match xv_nth gh q.2.2.1 with
        | some l => xw_tev hl Γ gh L ts (xw_add acc (xw_scl q.1 l)) S k
        | none => false)) = true := h
    have fin : ∀ {ρ' : Nat → Int} {S' : xw_S} {l : xw_L} {y : Int}, y = xw_nmz lz gz μ q.2 → xw_Up ρ S.2.1 ρ' S'.2.1 → xw_St ρ' S' → xw_Me X (ws.map Prod.fst) μ ρ' S' → xw_is ρ' S'.2.1 l y → S'.2.2.2.2.2.2 = S.2.2.2.2.2.2 → xw_tev hl Γ gh L ts (xw_add acc (xw_scl q.1 l)) S' k = true → xw_Rt X (ws.map Prod.fst) μ ρ S (fun ρ' S' => ∃ l, k l S' = true ∧ xw_is ρ' S'.2.1 l (z + xw_tz lz gz μ (q :: ts))) := by
      intro ρ' S' l y ey hu hS' hM' hl' e hk
      have := xw_tev_ok hW hk hS' hM' (hL.more hu) (hG.more hu) ((ha.more hu).add (hl'.scl q.1))
      rw [ey, show z + q.1 * xw_nmz lz gz μ q.2 + xw_tz lz gz μ ts = z + xw_tz lz gz μ (q :: ts) by show _ = z + (q.1 * xw_nmz lz gz μ q.2 + xw_tz lz gz μ ts); omega] at this
      exact xw_Rt.tr hu e this
    match hq : q.2.1, h with
    | 0, h =>
      cases h1 : xw_lv L q.2.2.1 with
      | none => rw [h1] at h; cases h
      | some l =>
        rw [h1] at h
        refine fin (y := lz q.2.2.1) ?_ xw_Up.rf hS hM (hL _ _ h1) rfl h
        unfold xw_nmz; rw [hq]; rfl
    | 1, h =>
      cases h1 : xw_ix L q.2.2.2.1 q.2.2.2.2 with
      | none => rw [h1] at h; cases h
      | some i =>
        rw [h1] at h
        dsimp only at h
        obtain ⟨z0, -, ρ', v, S', hk, hu, hS', hM', hv, e, -⟩ := xw_rd_ok hW hS hM h (xw_ix_ok hL _ h1)
        cases hb : Nat.ble v.1 1 with
        | false => rw [hb] at hk; cases hk
        | true =>
          rw [hb] at hk
          obtain ⟨y, ey, hy⟩ := hv.num (xv_ble hb)
          refine fin (y := y) ?_ hu hS' hM' hy e hk
          unfold xw_nmz; rw [hq]
          show y = (xw_num (μ q.2.2.1 (xw_ixz lz q.2.2.2.1 q.2.2.2.2).toNat)).getD 0
          rw [ey]; rfl
    | j + 2, h =>
      cases h1 : xv_nth gh q.2.2.1 with
      | none => rw [h1] at h; cases h
      | some l =>
        rw [h1] at h
        refine fin (y := gz q.2.2.1) ?_ xw_Up.rf hS hM (hG _ _ h1) rfl h
        unfold xw_nmz; rw [hq]; rfl
theorem xw_tv_ok {gh : List xw_L} {L : List xw_V} {lz gz : Nat → Int} (hW : xw_Wd hl Γ t X μ ws) {T : xw_T} {S : xw_S} {ρ : Nat → Int} {k : xw_L → xw_S → Bool} (h : xw_tv hl Γ gh L T S k = true) (hS : xw_St ρ S) (hM : xw_Me X (ws.map Prod.fst) μ ρ S) (hL : xw_Lz ρ S.2.1 L lz) (hG : xw_Gz ρ S.2.1 gh gz) : xw_Rt X (ws.map Prod.fst) μ ρ S (fun ρ' S' => ∃ l, k l S' = true ∧ xw_is ρ' S'.2.1 l (xw_ttz lz gz μ T)) :=
  xw_tev_ok hW h hS hM hL hG (xw_is.c T.1)
theorem xw_tpr_ok {gh : List xw_L} {L : List xw_V} {lz gz : Nat → Int} (hW : xw_Wd hl Γ t X μ ws) : ∀ {ts : List xw_T} {S : xw_S} {ρ : Nat → Int} {k : xw_S → Bool}, xw_tpr hl Γ gh L ts S k = true → xw_St ρ S → xw_Me X (ws.map Prod.fst) μ ρ S → xw_Lz ρ S.2.1 L lz → xw_Gz ρ S.2.1 gh gz → (∀ T ∈ ts, 0 ≤ xw_ttz lz gz μ T) ∧ xw_Rt X (ws.map Prod.fst) μ ρ S (fun _ S' => k S' = true)
  | [], S, ρ, k, h, hS, hM, hL, hG => ⟨fun _ h => (by cases h), ρ, S, h, xw_Up.rf, hS, hM, rfl⟩
  | T :: ts, S, ρ, k, h, hS, hM, hL, hG => by
    have h : xw_tv hl Γ gh L T S (fun l S' => xw_prove S' l && xw_tpr hl Γ gh L ts S' k) = true := h
    obtain ⟨ρ', S', ⟨l, hk, hl'⟩, hu, hS', hM', e⟩ := xw_tv_ok hW h hS hM hL hG
    obtain ⟨h1, h2⟩ := xv_and_t hk
    have p := xw_prove_ok hS' h1 hl'
    obtain ⟨g1, g2⟩ := xw_tpr_ok hW h2 hS' hM' (hL.more hu) (hG.more hu)
    refine ⟨fun T' hT => ?_, xw_Rt.tr hu e g2⟩
    rcases List.mem_cons.mp hT with q | q
    · rw [q]; exact p
    · exact g1 T' q
theorem xw_tas_ok {gh : List xw_L} {L : List xw_V} {lz gz : Nat → Int} (hW : xw_Wd hl Γ t X μ ws) : ∀ {ts : List xw_T} {S : xw_S} {ρ : Nat → Int} {k : xw_S → Bool}, xw_tas hl Γ gh L ts S k = true → xw_St ρ S → xw_Me X (ws.map Prod.fst) μ ρ S → xw_Lz ρ S.2.1 L lz → xw_Gz ρ S.2.1 gh gz → (∀ T ∈ ts, 0 ≤ xw_ttz lz gz μ T) → xw_Rt X (ws.map Prod.fst) μ ρ S (fun _ S' => k S' = true)
  | [], S, ρ, k, h, hS, hM, hL, hG, _ => ⟨ρ, S, h, xw_Up.rf, hS, hM, rfl⟩
  | T :: ts, S, ρ, k, h, hS, hM, hL, hG, hT => by
    have h : xw_tv hl Γ gh L T S (fun l S' => xw_asm S' l (fun S'' => xw_tas hl Γ gh L ts S'' k)) = true := h
    obtain ⟨ρ', S', ⟨l, hk, hl'⟩, hu, hS', hM', e⟩ := xw_tv_ok hW h hS hM hL hG
    obtain ⟨S2, h1, h2, h3, h4⟩ := xw_asm_ok hS' hk hl' (hT T List.mem_cons_self)
    have hu2 : xw_Up ρ S.2.1 ρ' S2.2.1 := by rw [h3]; exact hu
    have hM2 : xw_Me X (ws.map Prod.fst) μ ρ' S2 := xw_OK.up hM' (by rw [h3]; exact xw_Up.rf) h4
    exact xw_Rt.tr hu2 (by rw [h4]; exact e) (xw_tas_ok hW h1 h2 hM2 (hL.more hu2) (hG.more hu2) (fun T' q => hT T' (List.mem_cons_of_mem _ q)))
/-- ghosts: the forms of what they are now -/
theorem xw_tgs_ok {L : List xw_V} {lz : Nat → Int} (hW : xw_Wd hl Γ t X μ ws) : ∀ {ts : List xw_T} {acc : List xw_L} {ps : List Int} {S : xw_S} {ρ : Nat → Int} {k : List xw_L → xw_S → Bool}, xw_tgs hl Γ L ts acc S k = true → xw_St ρ S → xw_Me X (ws.map Prod.fst) μ ρ S → xw_Lz ρ S.2.1 L lz → acc.length = ps.length → xw_Gz ρ S.2.1 acc (fun i => ps.getD i 0) → xw_Rt X (ws.map Prod.fst) μ ρ S (fun ρ' S' => ∃ gs, k gs S' = true ∧ xw_Gz ρ' S'.2.1 gs (fun i => (ps ++ ts.map (xw_ttz lz (fun _ => 0) μ)).getD i 0))
  | [], acc, ps, S, ρ, k, h, hS, hM, hL, hlen, hG => ⟨ρ, S, ⟨acc, h, by rw [List.map_nil, List.append_nil]; exact hG⟩, xw_Up.rf, hS, hM, rfl⟩
  | T :: ts, acc, ps, S, ρ, k, h, hS, hM, hL, hlen, hG => by
    have h : xw_tv hl Γ [] L T S (fun l S' => xw_tgs hl Γ L ts (acc ++ [l]) S' k) = true := h
    obtain ⟨ρ', S', ⟨l, hk, hl'⟩, hu, hS', hM', e⟩ := xw_tv_ok (gz := fun _ => 0) hW h hS hM hL (fun i l hi => by rw [xv_nth_eq] at hi; simp at hi)
    have := xw_tgs_ok (ps := ps ++ [xw_ttz lz (fun _ => 0) μ T]) hW hk hS' hM' (hL.more hu) (by rw [List.length_append, List.length_append, hlen]; rfl) (fun i a hi => by
      rw [xv_nth_eq] at hi
      rcases Nat.lt_or_ge i acc.length with q | q
      · rw [List.getElem?_append_left q] at hi
        have hh := (hG i a (by rw [xv_nth_eq]; exact hi)).more hu
        have e : (ps ++ [xw_ttz lz (fun _ => 0) μ T]).getD i 0 = ps.getD i 0 := by
          rw [List.getD_eq_getElem?_getD, List.getD_eq_getElem?_getD, List.getElem?_append_left (by omega)]
        dsimp only
        rw [e]; exact hh
      · rw [List.getElem?_append_right q] at hi
        match hj : i - acc.length, hi with
        | 0, hi =>
          cases hi
          have e : (ps ++ [xw_ttz lz (fun _ => 0) μ T]).getD i 0 = xw_ttz lz (fun _ => 0) μ T := by
            rw [List.getD_eq_getElem?_getD, List.getElem?_append_right (by omega), show i - ps.length = 0 by omega]; rfl
          dsimp only
          rw [e]; exact hl'
        | j + 1, hi => simp at hi)
    refine xw_Rt.tr hu e ?_
    rw [List.append_assoc] at this
    exact this
end XWT
