/-! cells are written -/
def xw_Dt (D : xw_D) (μ0 μ : Nat → Nat → Value) : Prop := ∀ r j, xw_isin D r (j + 1) = false → μ r j = μ0 r j
def xw_Dc (D : xw_D) (ws0 ws : va_W) : Prop := ∀ r, (∀ c, (r, c) ∉ D) → ws[r]? = ws0[r]?
theorem xw_isin_cons {D : xw_D} {e : Nat × Nat} {r c : Nat} : xw_isin (e :: D) r c = ((Nat.beq e.1 r && (Nat.beq e.2 0 || Nat.beq e.2 c)) || xw_isin D r c) := rfl
theorem xw_isin_mem {D : xw_D} {r c : Nat} (h : xw_isin D r c = true) : ∃ c', (r, c') ∈ D ∧ (c' = 0 ∨ c' = c) := by
  obtain ⟨e, he, h⟩ := xw_orl_ok h
  obtain ⟨h1, h2⟩ := xv_and_t h
  have h1 := xv_beq h1
  refine ⟨e.2, ?_, ?_⟩
  · rw [← h1]; exact he
  · rcases (Bool.or_eq_true _ _).mp h2 with q | q
    · exact Or.inl (xv_beq q)
    · exact Or.inr (xv_beq q)
theorem xw_isin_of {c c' r : Nat} (hc : c' = 0 ∨ c' = c) : ∀ {D : xw_D}, (r, c') ∈ D → xw_isin D r c = true
  | [], h => by cases h
  | e :: D, h => by
    rw [xw_isin_cons]
    rcases List.mem_cons.mp h with q | q
    · subst q
      have : (Nat.beq c' 0 || Nat.beq c' c) = true := by
        rcases hc with rfl | rfl
        · rfl
        · rw [Nat.beq_refl, Bool.or_true]
      rw [Nat.beq_refl, this]; rfl
    · rw [xw_isin_of hc q, Bool.or_true]
theorem xw_dadd_old {D : xw_D} {r c r' c' : Nat} (h : xw_isin D r' c' = true) : xw_isin (xw_dadd D r c) r' c' = true := by
  unfold xw_dadd
  cases xw_isin D r c with
  | true => exact h
  | false => simp only [cond_false]; rw [xw_isin_cons, h, Bool.or_true]
theorem xw_dadd_new {D : xw_D} {r c : Nat} : xw_isin (xw_dadd D r c) r c = true := by
  unfold xw_dadd
  cases h : xw_isin D r c with
  | true => exact h
  | false => simp only [cond_false]; rw [xw_isin_cons, Nat.beq_refl, Nat.beq_refl]; simp
theorem xw_dadd_zero {D : xw_D} {r c : Nat} : xw_isin (xw_dadd D r 0) r c = true := by
  obtain ⟨c', h, q⟩ := xw_isin_mem (xw_dadd_new (D := D) (r := r) (c := 0))
  exact xw_isin_of (Or.inl (q.elim id id)) h
theorem xw_dadd_sub {D : xw_D} {r c : Nat} {e : Nat × Nat} (h : e ∈ D) : e ∈ xw_dadd D r c := by
  unfold xw_dadd
  cases xw_isin D r c with
  | true => exact h
  | false => exact List.mem_cons_of_mem _ h
theorem xw_dadd_cell {D : xw_D} {r c : Nat} : ∃ c', (r, c') ∈ xw_dadd D r c := by
  obtain ⟨c', h, -⟩ := xw_isin_mem (xw_dadd_new (D := D) (r := r) (c := c))
  exact ⟨c', h⟩
/-- one place is another -/
def xw_one (μ : Nat → Nat → Value) (r j : Nat) (x : Value) (μ' : Nat → Nat → Value) : Prop := μ' r j = x ∧ ∀ r' j', ¬ (r' = r ∧ j' = j) → μ' r' j' = μ r' j'
theorem xw_apart_ok {ρ : Nat → Int} {n : Nat} {E : xw_N} {i j : xw_L} {x y : Int} (hE : xw_En ρ n E) (h : xw_apart E i j = true) (hi : xw_is ρ n i x) (hj : xw_is ρ n j y) : x ≠ y := by
  rcases (Bool.or_eq_true _ _).mp h with h | h
  · have := xv_le_iff.mp h
    have := xw_lo_ok hE (hi.sub hj)
    omega
  · have := xv_le_iff.mp h
    have := xw_hi_ok hE (hi.sub hj)
    omega
theorem xw_killM_ok {X : xw_X} {as : List Nat} {μ μ' : Nat → Nat → Value} {ρ : Nat → Int} {n : Nat} {E : xw_N} {M : List xw_M} {r : Nat} {i : xw_L} {z : Int} (hE : xw_En ρ n E) (hi : xw_is ρ n i z) (hz : 0 ≤ z) (hM : xw_Mk X as μ ρ n M) (ho : ∀ r' j', ¬ (r' = r ∧ j' = z.toNat) → μ' r' j' = μ r' j') : xw_Mk X as μ' ρ n (xw_killM E M r i) := fun m hm => by
  obtain ⟨h1, h2⟩ := xw_fil_mem hm
  obtain ⟨z', g1, g2, g3, g4⟩ := hM m h1
  refine ⟨z', g1, g2, ?_, g4⟩
  rw [ho]
  · exact g3
  · rintro ⟨e1, e2⟩
    rcases (Bool.or_eq_true _ _).mp h2 with q | q
    · rw [e1, Nat.beq_refl] at q; cases q
    · exact xw_apart_ok hE q g1 hi (by omega)
theorem xw_killG_ok {μ μ' : Nat → Nat → Value} {ρ : Nat → Int} {n : Nat} {G : List xw_G} {r : Nat} (hG : xw_Gk μ ρ n G) (ho : ∀ r' j', r' ≠ r → μ' r' j' = μ r' j') : xw_Gk μ' ρ n (xw_killG G r) := fun g hg => by
  obtain ⟨h1, h2⟩ := xw_fil_mem hg
  obtain ⟨b, sp, g1, g2, g3⟩ := hG g h1
  refine ⟨b, sp, g1, g2, fun d d0 d1 d2 y hy => g3 d d0 d1 d2 y ?_⟩
  rw [← hy, ho]
  intro e
  rw [e, Nat.beq_refl] at h2; cases h2
theorem xw_Dt.one {D : xw_D} {μ0 μ μ' : Nat → Nat → Value} {r c j : Nat} {x : Value} (h : xw_Dt D μ0 μ) (ho : xw_one μ r j x μ') (hc : c = 0 ∨ c = j + 1) : xw_Dt (xw_dadd D r c) μ0 μ' := fun r' j' hin => by
  have h1 : xw_isin D r' (j' + 1) = false := by
    cases hq : xw_isin D r' (j' + 1) with
    | false => rfl
    | true => rw [xw_dadd_old hq] at hin; cases hin
  rw [ho.2, h r' j' h1]
  rintro ⟨e1, e2⟩
  rw [e1, e2] at hin
  rcases hc with rfl | rfl
  · rw [xw_dadd_zero] at hin; cases hin
  · rw [xw_dadd_new] at hin; cases hin
theorem xw_dcode_ok {ρ : Nat → Int} {n : Nat} {i : xw_L} {z : Int} (h : xw_is ρ n i z) : xw_dcode i = 0 ∨ xw_dcode i = z.toNat + 1 := by
  unfold xw_dcode
  match hi : i.2 with
  | [] =>
    right
    have e : i.1 + xw_evl ρ i.2 = z := h.2
    rw [hi] at e
    have e : i.1 + 0 = z := e
    show i.1.toNat + 1 = z.toNat + 1
    rw [← e, Int.add_zero]
  | _ :: _ => exact Or.inl rfl
theorem xw_wok_ok {sb : Nat} {as : List Nat} {X : xw_X} {ρ : Nat → Int} {S : xw_S} {els : List (List xv_V)} {s : Nat} {v : xw_V} {x : Value} (hS : xw_St ρ S) (hv : xw_hv X as ρ S.2.1 v x) : ∀ {n : Nat}, xw_wok S els s v n = true → ∀ j, j < n → ∃ u, xv_get 8 els (s + j) = some u ∧ xv_hv sb as u x ∧ u.1 = v.1 ∧ u.1 ≤ 1
  | 0, _, j, hj => absurd hj (Nat.not_lt_zero _)
  | n + 1, h, j, hj => by
    have h : (xw_wok S els s v n && match xv_get 8 els (s + n) with
      | some u => Nat.beq u.1 v.1 && (Nat.ble u.1 1 && (xw_prove S (xw_k v.2 (-u.2.1)) && xw_prove S (xw_k (xw_neg v.2) u.2.2)))
      | none => false) = true := h
    obtain ⟨h1, h2⟩ := xv_and_t h
    rcases Nat.lt_or_ge j n with hj2 | hj2
    · exact xw_wok_ok hS hv h1 j hj2
    · have e : j = n := by omega
      subst e
      cases hu : xv_get 8 els (s + j) with
      | none => rw [hu] at h2; cases h2
      | some u =>
        rw [hu] at h2
        obtain ⟨b1, h2⟩ := xv_and_t h2
        obtain ⟨b2, h2⟩ := xv_and_t h2
        obtain ⟨b3, b4⟩ := xv_and_t h2
        have b1 := xv_beq b1
        have b2 := xv_ble b2
        refine ⟨u, rfl, ?_, b1, b2⟩
        rcases Nat.le_one_iff_eq_zero_or_eq_one.mp b2 with q | q
        · obtain ⟨y, rfl, hy⟩ := hv.1 (by omega)
          have p1 := xw_prove_ok hS b3 (hy.k _)
          have p2 := xw_prove_ok hS b4 (hy.neg.k _)
          exact xv_hv.i ⟨q, by omega, by omega⟩
        · obtain ⟨y, rfl, hy⟩ := hv.2.1 (by omega)
          have p1 := xw_prove_ok hS b3 (hy.k _)
          have p2 := xw_prove_ok hS b4 (hy.neg.k _)
          exact xv_hv.l ⟨q, by omega, by omega⟩
/-- what a write asks, and what it gives -/
theorem xw_wr_ok {hl : Nat × Int} {A : xv_A} {t : Nat → ClassId} {X : xw_X} {μ : Nat → Nat → Value} {ws : va_W} {ρ : Nat → Int} {S : xw_S} {r : Nat} {i : xw_L} {z : Int} {v : xw_V} {x : Value} {k : xw_S → Bool} (hW : xw_Wd hl A t X μ ws) (hS : xw_St ρ S) (hM : xw_Me X (ws.map Prod.fst) μ ρ S) (h : xw_wr hl A S r i v k = true) (hi : xw_is ρ S.2.1 i z) (hv : xw_hv X (ws.map Prod.fst) ρ S.2.1 v x) : 0 ≤ z ∧ (∃ c, xv_get 14 A r = some c ∧ z.toNat < xw_len c ∧ c.1 ≤ 4 ∧ 1 ≤ c.2.2.1 ∧ ∀ u, xv_get 8 c.2.2.2 (z.toNat % c.2.2.1) = some u → xv_hv X.1 (ws.map Prod.fst) u x) ∧ v.1 ≤ 1 ∧ (r = hl.1 → xw_num x ≠ some hl.2) ∧
    ∀ μ', xw_one μ r z.toNat x μ' → ∃ S', k S' = true ∧ xw_St ρ S' ∧ xw_Me X (ws.map Prod.fst) μ' ρ S' ∧ S'.2.1 = S.2.1 ∧ (∀ μ0, xw_Dt S.2.2.2.2.2.2 μ0 μ → xw_Dt S'.2.2.2.2.2.2 μ0 μ') ∧ (∀ e ∈ S.2.2.2.2.2.2, e ∈ S'.2.2.2.2.2.2) ∧ ∃ c', (r, c') ∈ S'.2.2.2.2.2.2 := by
  unfold xw_wr at h
  cases hc : xv_get 14 A r with
  | none => rw [hc] at h; cases h
  | some c =>
    rw [hc] at h
    dsimp only at h
    cases hb : (Nat.ble 1 c.2.2.1 && (Nat.ble c.1 4 && (xw_inb S (xw_len c) i && ((xw_wok S c.2.2.2 (xw_rr S.1 c.2.2.1 (xw_nm S.1 i)).1 v (xw_rr S.1 c.2.2.1 (xw_nm S.1 i)).2 || xw_cpy S r c.2.2.1 (xw_len c) (xw_nm S.1 i) v) && (!(Nat.beq r hl.1) || (xw_prove S (xw_k v.2 (-hl.2 - 1)) || xw_prove S (xw_k (xw_neg v.2) (hl.2 - 1)))))))) with
    | false => rw [hb] at h; cases h
    | true =>
      rw [hb] at h
      simp only [cond_true] at h
      obtain ⟨b1, hb⟩ := xv_and_t hb
      obtain ⟨b2, hb⟩ := xv_and_t hb
      obtain ⟨b3, hb⟩ := xv_and_t hb
      obtain ⟨b4, b5⟩ := xv_and_t hb
      have b1 := xv_ble b1
      have b2 := xv_ble b2
      obtain ⟨z0, zl⟩ := xw_inb_ok hS b3 hi
      have hn := xw_nm_ok hS.1 hi
      have key : (∀ u, xv_get 8 c.2.2.2 (z.toNat % c.2.2.1) = some u → xv_hv X.1 (ws.map Prod.fst) u x) ∧ v.1 ≤ 1 := by
        rcases (Bool.or_eq_true _ _).mp b4 with q | q
        · obtain ⟨j, j1, j2⟩ := xw_rr_ok hS.1 b1 hn z0
          obtain ⟨u, g1, g2, g3, g4⟩ := xw_wok_ok (sb := X.1) hS hv q j j1
          refine ⟨fun u' hu' => ?_, by omega⟩
          rw [j2, g1] at hu'
          cases hu'
          exact g2
        · obtain ⟨m, hm, q⟩ := xw_orl_ok q
          obtain ⟨q1, q⟩ := xv_and_t q
          obtain ⟨q2, q⟩ := xv_and_t q
          obtain ⟨q3, q⟩ := xv_and_t q
          obtain ⟨q4, q5⟩ := xv_and_t q
          have q1 := xv_beq q1
          have q2 := xw_eqV_ok q2
          have q3 := xv_ble q3
          obtain ⟨z', g1, g2, g3, g4⟩ := hM.1 m hm
          obtain ⟨-, zl'⟩ := xw_inb_ok hS q5 g1
          refine ⟨fun u hu => ?_, q3⟩
          have ed := xw_dvs_ok q4 (hn.sub g1)
          have em : z.toNat % c.2.2.1 = z'.toNat % c.2.2.1 := by
            have e1 : (z - z') % (c.2.2.1 : Int) = 0 := ed
            have e2 : z % (c.2.2.1 : Int) = z' % (c.2.2.1 : Int) := Int.emod_eq_emod_iff_emod_sub_eq_zero.mpr e1
            have e3 : ((z.toNat % c.2.2.1 : Nat) : Int) = ((z'.toNat % c.2.2.1 : Nat) : Int) := by
              rw [Int.natCast_emod, Int.natCast_emod, Int.toNat_of_nonneg z0, Int.toNat_of_nonneg g2, e2]
            exact Int.ofNat_inj.mp e3
          rw [em] at hu
          have hx : x = μ r z'.toNat := by
            rw [q1, q2] at g3
            rcases Nat.le_one_iff_eq_zero_or_eq_one.mp q3 with q | q
            · obtain ⟨y, rfl, hy⟩ := hv.1 q
              obtain ⟨y', e', hy'⟩ := g3.1 q
              rw [e', Int32.toInt_inj.mp (hy.one hy')]
            · obtain ⟨y, rfl, hy⟩ := hv.2.1 q
              obtain ⟨y', e', hy'⟩ := g3.2.1 q
              rw [e', Int64.toInt_inj.mp (hy.one hy')]
          rw [hx, hW.2.2 r c hc]
          exact xw_ty_ok hW.1 hc (by omega) zl' hu
      refine ⟨z0, ⟨c, rfl, zl, b2, b1, key.1⟩, key.2, fun er e => ?_, fun μ' ho => ?_⟩
      · rcases (Bool.or_eq_true _ _).mp b5 with q | q
        · rw [er, Nat.beq_refl] at q; cases q
        · obtain ⟨y, ey, hy⟩ := hv.num key.2
          rw [ey] at e
          cases e
          rcases (Bool.or_eq_true _ _).mp q with q | q
          · have := xw_prove_ok hS q (hy.k _); omega
          · have := xw_prove_ok hS q (hy.neg.k _); omega
      · have hvn : xw_hv X (ws.map Prod.fst) ρ S.2.1 (v.1, xw_nm S.1 v.2) x := by
          rcases Nat.le_one_iff_eq_zero_or_eq_one.mp key.2 with q | q
          · obtain ⟨y, rfl, hy⟩ := hv.1 q
            rw [q]; exact xw_hv.i (xw_nm_ok hS.1 hy)
          · obtain ⟨y, rfl, hy⟩ := hv.2.1 q
            rw [q]; exact xw_hv.l (xw_nm_ok hS.1 hy)
        refine ⟨_, h, hS, ⟨?_, ?_⟩, rfl, fun μ0 hD => ?_, fun e he => xw_dadd_sub he, xw_dadd_cell⟩
        · intro m hm
          rcases List.mem_cons.mp hm with e | hm
          · rw [e]
            exact ⟨z, hn, z0, by show xw_hv _ _ _ _ _ (μ' r z.toNat); rw [ho.1]; exact hvn, key.2⟩
          · exact xw_killM_ok hS.1 hn z0 hM.1 ho.2 m hm
        · exact xw_killG_ok hM.2 (fun r' j' hne => ho.2 r' j' (fun q => hne q.1))
        · exact hD.one ho (xw_dcode_ok hn)
/-- places are forgotten -/
theorem xw_kill1_ok {X : xw_X} {as : List Nat} {μ μ' : Nat → Nat → Value} {ρ : Nat → Int} {S : xw_S} {e : Nat × Nat} (hS : xw_St ρ S) (hM : xw_Me X as μ ρ S) (ho : ∀ r j, ¬ (r = e.1 ∧ (e.2 = 0 ∨ e.2 = j + 1)) → μ' r j = μ r j) : xw_St ρ (xw_kill1 S e) ∧ xw_Me X as μ' ρ (xw_kill1 S e) := by
  refine ⟨hS, ?_, ?_⟩
  · unfold xw_kill1
    dsimp only
    cases hb : Nat.beq e.2 0 with
    | true =>
      simp only [cond_true]
      intro m hm
      obtain ⟨h1, h2⟩ := xw_fil_mem hm
      obtain ⟨z, g1, g2, g3, g4⟩ := hM.1 m h1
      refine ⟨z, g1, g2, ?_, g4⟩
      rw [ho]
      · exact g3
      · rintro ⟨q, -⟩
        rw [q, Nat.beq_refl] at h2; cases h2
    | false =>
      simp only [cond_false]
      have hne : e.2 ≠ 0 := fun q => by rw [q] at hb; cases hb
      refine xw_killM_ok (z := Int.ofNat e.2 - 1) hS.1 (xw_is.c _) (by show (0 : Int) ≤ (e.2 : Int) - 1; omega) hM.1 (fun r' j' hq => ho r' j' (fun q => hq ⟨q.1, ?_⟩))
      rcases q.2 with w | w
      · exact absurd w hne
      · show j' = ((e.2 : Int) - 1).toNat
        omega
  · unfold xw_kill1
    exact xw_killG_ok hM.2 (fun r' j' hne => ho r' j' (fun q => hne q.1))
theorem xw_kills_ok {X : xw_X} {as : List Nat} {μ' : Nat → Nat → Value} {ρ : Nat → Int} : ∀ (D : xw_D) {S : xw_S} {μ : Nat → Nat → Value}, xw_St ρ S → xw_Me X as μ ρ S → (∀ r j, xw_isin D r (j + 1) = false → μ' r j = μ r j) → xw_St ρ (xw_kills D S) ∧ xw_Me X as μ' ρ (xw_kills D S)
  | [], S, μ, hS, hM, ho => by
    have e : μ' = μ := funext fun r => funext fun j => ho r j rfl
    rw [e]; exact ⟨hS, hM⟩
  | e :: D, S, μ, hS, hM, ho => by
    -- one place first
    let μ1 : Nat → Nat → Value := fun r j => if r = e.1 ∧ (e.2 = 0 ∨ e.2 = j + 1) then μ' r j else μ r j
    have h1 := xw_kill1_ok (μ' := μ1) (e := e) hS hM (fun r j hq => if_neg hq)
    refine xw_kills_ok D (S := xw_kill1 S e) (μ := μ1) h1.1 h1.2 (fun r j hin => ?_)
    show μ' r j = if r = e.1 ∧ (e.2 = 0 ∨ e.2 = j + 1) then μ' r j else μ r j
    by_cases hq : r = e.1 ∧ (e.2 = 0 ∨ e.2 = j + 1)
    · rw [if_pos hq]
    · rw [if_neg hq]
      refine ho r j ?_
      rw [xw_isin_cons, hin, Bool.or_false]
      cases hb : (Nat.beq e.1 r && (Nat.beq e.2 0 || Nat.beq e.2 (j + 1))) with
      | false => rfl
      | true =>
        obtain ⟨b1, b2⟩ := xv_and_t hb
        refine absurd ⟨(xv_beq b1).symm, ?_⟩ hq
        rcases (Bool.or_eq_true _ _).mp b2 with w | w
        · exact Or.inl (xv_beq w)
        · exact Or.inr (xv_beq w)
theorem xw_kills_n (D : xw_D) : ∀ S : xw_S, (xw_kills D S).2.1 = S.2.1 := by
  induction D with
  | nil => intro S; rfl
  | cons e D ih => intro S; exact ih (xw_kill1 S e)
theorem xw_kills_old (D : xw_D) : ∀ {S : xw_S} {e : Nat × Nat}, e ∈ S.2.2.2.2.2.2 → e ∈ (xw_kills D S).2.2.2.2.2.2 := by
  induction D with
  | nil => intro S e h; exact h
  | cons d D ih => intro S e h; exact ih (S := xw_kill1 S d) (xw_dadd_sub h)
theorem xw_kills_in (D : xw_D) : ∀ {S : xw_S} {r c : Nat}, (xw_isin S.2.2.2.2.2.2 r c = true ∨ xw_isin D r c = true) → xw_isin (xw_kills D S).2.2.2.2.2.2 r c = true := by
  induction D with
  | nil =>
    intro S r c h
    rcases h with h | h
    · exact h
    · cases h
  | cons d D ih =>
    intro S r c h
    refine ih (S := xw_kill1 S d) ?_
    rcases h with h | h
    · exact Or.inl (xw_dadd_old h)
    · rw [xw_isin_cons] at h
      rcases (Bool.or_eq_true _ _).mp h with h | h
      · left
        obtain ⟨b1, b2⟩ := xv_and_t h
        have b1 := xv_beq b1
        obtain ⟨c', g1, g2⟩ := xw_isin_mem (xw_dadd_new (D := S.2.2.2.2.2.2) (r := d.1) (c := d.2))
        rw [← b1]
        refine xw_isin_of ?_ g1
        rcases (Bool.or_eq_true _ _).mp b2 with w | w
        · have := xv_beq w; omega
        · have := xv_beq w; omega
      · exact Or.inr h
theorem xw_kills_cell (D : xw_D) : ∀ {S : xw_S} {r c : Nat}, (r, c) ∈ D → ∃ c', (r, c') ∈ (xw_kills D S).2.2.2.2.2.2 := by
  induction D with
  | nil => intro S r c h; cases h
  | cons d D ih =>
    intro S r c h
    rcases List.mem_cons.mp h with e | h
    · obtain ⟨c', h'⟩ := xw_dadd_cell (D := S.2.2.2.2.2.2) (r := d.1) (c := d.2)
      refine ⟨c', ?_⟩
      have : (r, c') ∈ (xw_kill1 S d).2.2.2.2.2.2 := by
        show (r, c') ∈ xw_dadd S.2.2.2.2.2.2 d.1 d.2
        have e1 : d.1 = r := by rw [← e]
        rw [← e1]
        exact h'
      exact xw_kills_old D (S := xw_kill1 S d) this
    · exact ih (S := xw_kill1 S d) h
