/-! cells are read -/
def xw_cx (x : va_E) (i : Nat) : Value := match x with
  | .inr (_, fs) => fs.getD i .null
  | .inl (_, _, .inl f) => .int (f i)
  | .inl (_, _, .inr (.inl f)) => .long (f i)
  | .inl (_, _, .inr (.inr (.inr (.inr f)))) => va_rf (f i)
  | _ => .null
def xw_ct (ws : va_W) (r i : Nat) : Value := match ws[r]? with
  | some q => xw_cx q.2 i
  | none => .null
/-- the cells are of their types, and the one number never stands in the one cell -/
def xw_Wd (hl : Nat × Int) (A : xv_A) (t : Nat → ClassId) (X : xw_X) (μ : Nat → Nat → Value) (ws : va_W) : Prop := xv_H t X.1 A ws.length ws ∧ (∀ c, xv_get 14 A hl.1 = some c → ∀ j, j < xw_len c → xw_num (xw_ct ws hl.1 j) ≠ some hl.2) ∧ ∀ r c, xv_get 14 A r = some c → ∀ i, μ r i = xw_ct ws r i
theorem xw_nm_ok {ρ : Nat → Int} {n : Nat} {E : xw_N} {a : xw_L} {z : Int} (hE : xw_En ρ n E) (h : xw_is ρ n a z) : xw_is ρ n (xw_nm E a) z := by
  unfold xw_nm
  match ha : a.2 with
  | [] => exact h
  | t :: l =>
    dsimp only
    cases hb : xv_le (xw_hi E a) (xw_lo E a) with
    | false => exact h
    | true =>
      have := xv_le_iff.mp hb
      have := xw_lo_ok hE h
      have := xw_hi_ok hE h
      simp only [cond_true]
      rw [show z = xw_lo E a by omega]
      exact xw_is.c _
theorem xw_inb_ok {ρ : Nat → Int} {S : xw_S} {n : Nat} {i : xw_L} {z : Int} (hS : xw_St ρ S) (h : xw_inb S n i = true) (hi : xw_is ρ S.2.1 i z) : 0 ≤ z ∧ z.toNat < n := by
  obtain ⟨h1, h2⟩ := xv_and_t h
  have h1 := xw_prove_ok hS h1 hi
  have h2 := xw_prove_ok hS h2 (hi.neg.k _)
  have : (Int.ofNat n) = (n : Int) := rfl
  omega
theorem xw_fil_split (ρ : Nat → Int) (n : Nat) (w : Int) : ∀ l : List (Nat × Int), xw_wfl n l → xw_wfl n (xw_fil (fun t => !(xw_ieq (t.2 % w) 0)) l) ∧ ∃ q, xw_evl ρ l = xw_evl ρ (xw_fil (fun t => !(xw_ieq (t.2 % w) 0)) l) + w * q
  | [], h => ⟨h, 0, by show (0 : Int) = 0 + w * 0; omega⟩
  | t :: l, h => by
    obtain ⟨h1, q, h2⟩ := xw_fil_split ρ n w l h.2
    have e : xw_fil (fun t => !(xw_ieq (t.2 % w) 0)) (t :: l) = bif !(xw_ieq (t.2 % w) 0) then t :: xw_fil (fun t => !(xw_ieq (t.2 % w) 0)) l else xw_fil (fun t => !(xw_ieq (t.2 % w) 0)) l := rfl
    rw [e]
    cases hb : xw_ieq (t.2 % w) 0 with
    | true =>
      simp only [Bool.not_true, cond_false]
      refine ⟨h1, q + t.2 / w * ρ t.1, ?_⟩
      show t.2 * ρ t.1 + xw_evl ρ l = _
      have hz := xw_ieq_iff.mp hb
      have hd : t.2 = w * (t.2 / w) := by have := Int.mul_ediv_add_emod t.2 w; omega
      have : t.2 * ρ t.1 = w * (t.2 / w * ρ t.1) := by rw [← Int.mul_assoc, ← hd]
      rw [h2, this, Int.mul_add]
      omega
    | false =>
      simp only [Bool.not_false, cond_true]
      refine ⟨⟨h.1, h1⟩, q, ?_⟩
      show t.2 * ρ t.1 + xw_evl ρ l = t.2 * ρ t.1 + xw_evl ρ _ + w * q
      omega
theorem xw_rst_ok {ρ : Nat → Int} {n : Nat} {w : Int} {a : xw_L} {z : Int} (h : xw_is ρ n a z) : ∃ y, xw_is ρ n (xw_rst w a) y ∧ z % w = y % w := by
  obtain ⟨h1, q, h2⟩ := xw_fil_split ρ n w a.2 h.1
  refine ⟨xw_ev ρ (xw_rst w a), ⟨h1, rfl⟩, ?_⟩
  have : z = xw_ev ρ (xw_rst w a) + w * q := by
    rw [← h.2]
    unfold xw_ev xw_rst
    dsimp only
    omega
  rw [this, Int.add_mul_emod_self_left]
theorem xw_rr_ok {ρ : Nat → Int} {n : Nat} {E : xw_N} {w : Nat} {i : xw_L} {z : Int} (hE : xw_En ρ n E) (hw : 1 ≤ w) (h : xw_is ρ n i z) (hz : 0 ≤ z) : ∃ j, j < (xw_rr E w i).2 ∧ z.toNat % w = (xw_rr E w i).1 + j := by
  unfold xw_rr
  cases hb : Nat.beq w 1 with
  | true =>
    have hb := xv_beq hb
    subst hb
    exact ⟨0, Nat.lt_succ_self 0, by show z.toNat % 1 = 0 + 0; omega⟩
  | false =>
    simp only [cond_false]
    obtain ⟨y, hy, e⟩ := xw_rst_ok (w := Int.ofNat w) h
    have hw0 : (0 : Int) < Int.ofNat w := by show (0 : Int) < (w : Int); omega
    have hzm : ((z.toNat % w : Nat) : Int) = y % Int.ofNat w := by
      rw [← e]
      show ((z.toNat % w : Nat) : Int) = z % (w : Int)
      rw [Int.natCast_emod, Int.toNat_of_nonneg hz]
    match hr : (xw_rst (Int.ofNat w) i).2 with
    | [] =>
      dsimp only
      have ey : y = i.1 := by
        rw [← hy.2]
        unfold xw_ev
        rw [hr]
        show (xw_rst (Int.ofNat w) i).1 + 0 = i.1
        rw [Int.add_zero]; rfl
      refine ⟨0, Nat.lt_succ_self 0, ?_⟩
      rw [ey] at hzm
      have := Int.emod_nonneg i.1 (show Int.ofNat w ≠ 0 by omega)
      omega
    | t :: l =>
      dsimp only
      have h1 := xw_lo_ok hE hy
      have h2 := xw_hi_ok hE hy
      generalize hlo : xw_lo E (xw_rst (Int.ofNat w) i) = a at *
      generalize hhi : xw_hi E (xw_rst (Int.ofNat w) i) = b at *
      cases hc : (xv_le (b - a + 1) (Int.ofNat w) && xv_le (a % Int.ofNat w) (b % Int.ofNat w)) with
      | false =>
        simp only [cond_false]
        exact ⟨z.toNat % w, Nat.mod_lt _ (by omega), by omega⟩
      | true =>
        simp only [cond_true]
        obtain ⟨c1, c2⟩ := xv_and_t hc
        have c1 := xv_le_iff.mp c1
        have c2 := xv_le_iff.mp c2
        have a0 := Int.emod_nonneg a (show Int.ofNat w ≠ 0 by omega)
        have aw := Int.emod_lt_of_pos a hw0
        have b0 := Int.emod_nonneg b (show Int.ofNat w ≠ 0 by omega)
        have bw := Int.emod_lt_of_pos b hw0
        have da := Int.mul_ediv_add_emod a (Int.ofNat w)
        have db := Int.mul_ediv_add_emod b (Int.ofNat w)
        have hlt : a % Int.ofNat w + (b - a) < Int.ofNat w := by
          have hq : b / Int.ofNat w ≤ a / Int.ofNat w := by
            rcases Int.lt_or_le (a / Int.ofNat w) (b / Int.ofNat w) with q | q
            · have := Int.mul_le_mul_of_nonneg_left (show a / Int.ofNat w + 1 ≤ b / Int.ofNat w by omega) (show (0 : Int) ≤ Int.ofNat w by omega)
              rw [Int.mul_add, Int.mul_one] at this
              omega
            · exact q
          have := Int.mul_le_mul_of_nonneg_left hq (show (0 : Int) ≤ Int.ofNat w by omega)
          omega
        have hym : y % Int.ofNat w = a % Int.ofNat w + (y - a) := by
          have e1 : y = (a % Int.ofNat w + (y - a)) + Int.ofNat w * (a / Int.ofNat w) := by omega
          have e2 : y % Int.ofNat w = (a % Int.ofNat w + (y - a)) % Int.ofNat w := by
            conv => lhs; rw [e1]
            rw [Int.add_mul_emod_self_left]
          rw [e2, Int.emod_eq_of_lt (by omega) (by omega)]
        refine ⟨(y - a).toNat, by omega, ?_⟩
        omega
theorem xw_jn_ok {sb : Nat} {as : List Nat} {els : List (List xv_V)} {s : Nat} {v : xv_V} : ∀ {cnt : Nat}, xw_jn els s cnt = some v → ∀ j, j < cnt → ∃ u, xv_get 8 els (s + j) = some u ∧ ∀ x, xv_hv sb as u x → xv_hv sb as v x := by
  intro cnt
  cases cnt with
  | zero => intro h; cases h
  | succ m =>
    show Nat.rec (motive := fun _ => Option xv_V) (xv_get 8 els s) (fun j acc => match acc with
      | none => none
      | some v => match xv_get 8 els (s + j + 1) with
        | none => none
        | some u => bif Nat.beq v.1 u.1 && Nat.ble u.1 1 then some (xv_join v u) else none) m = some v → _
    induction m generalizing v with
    | zero =>
      intro h j hj
      have e : j = 0 := by omega
      subst e
      exact ⟨v, h, fun _ h => h⟩
    | succ m ih =>
      intro h j hj
      dsimp only at h
      generalize hacc : Nat.rec (motive := fun _ => Option xv_V) (xv_get 8 els s) (fun j acc => match acc with
        | none => none
        | some v => match xv_get 8 els (s + j + 1) with
          | none => none
          | some u => bif Nat.beq v.1 u.1 && Nat.ble u.1 1 then some (xv_join v u) else none) m = acc at h
      cases acc with
      | none => cases h
      | some v0 =>
        dsimp only at h
        cases hu : xv_get 8 els (s + m + 1) with
        | none => rw [hu] at h; cases h
        | some u =>
          rw [hu] at h
          obtain ⟨b, e⟩ := xv_bt h
          obtain ⟨b1, b2⟩ := xv_and_t b
          cases e
          rcases Nat.lt_or_ge j (m + 1) with hj2 | hj2
          · obtain ⟨u1, h1, h2⟩ := ih hacc j hj2
            exact ⟨u1, h1, fun x hx => xv_hv.join (xv_beq b1) (xv_ble b2) (Or.inl (h2 x hx))⟩
          · have e : j = m + 1 := by omega
            subst e
            exact ⟨u, hu, fun x hx => xv_hv.join (xv_beq b1) (xv_ble b2) (Or.inr hx)⟩
theorem xw_ty_ok {t : Nat → ClassId} {sb : Nat} {A : xv_A} {n : Nat} {ws : va_W} {r : Nat} {c : xv_C} {i : Nat} {u : xv_V} (hH : xv_H t sb A n ws) (hc : xv_get 14 A r = some c) (h6 : c.1 ≤ 6) (hi : i < xw_len c) (hu : xv_get 8 c.2.2.2 (i % c.2.2.1) = some u) : xv_hv sb (ws.map Prod.fst) u (xw_ct ws r i) := by
  obtain ⟨a, x, e, hx⟩ := hH.2 r c hc (by omega)
  unfold xw_ct
  rw [e]
  dsimp only
  unfold xw_len at hi
  by_cases h0 : c.1 = 0
  · rw [h0] at hi
    simp only [Nat.beq_refl, cond_true] at hi
    obtain ⟨fs, rfl, hl, hf⟩ := hx.1 h0
    rw [Nat.mod_eq_of_lt hi] at hu
    obtain ⟨y, hy, hv⟩ := hf i u hu
    show xv_hv sb _ u (fs.getD i .null)
    rw [List.getD_eq_getElem?_getD, hy]
    exact hv
  · have hb : Nat.beq c.1 0 = false := by
      cases hq : Nat.beq c.1 0 with
      | true => exact absurd (xv_beq hq) h0
      | false => rfl
    rw [hb] at hi
    simp only [cond_false] at hi
    rcases (show (c.1 = 1 ∨ c.1 = 2 ∨ c.1 = 3) ∨ c.1 = 4 ∨ (c.1 = 5 ∨ c.1 = 6 ∨ c.1 = 7) by omega) with q | q | q
    · obtain ⟨f, rfl, hf⟩ := hx.2.1 q; exact hf i hi u hu
    · obtain ⟨f, rfl, hf⟩ := hx.2.2.1 q; exact hf i hi u hu
    · obtain ⟨f, rfl, hf⟩ := hx.2.2.2.1 q; exact hf i hi u hu
theorem xw_mem_ok {M : List xw_M} {r : Nat} {i : xw_L} {v : xw_V} : xw_mem M r i = some v → (r, i, v) ∈ M := by
  induction M with
  | nil => intro h; cases h
  | cons m M ih =>
    intro h
    have h : (bif Nat.beq m.1 r && xw_eqL m.2.1 i then some m.2.2 else xw_mem M r i) = some v := h
    cases hb : (Nat.beq m.1 r && xw_eqL m.2.1 i) with
    | false => rw [hb] at h; exact List.mem_cons_of_mem _ (ih h)
    | true =>
      rw [hb] at h
      obtain ⟨b1, b2⟩ := xv_and_t hb
      cases h
      have e : (r, i, m.2.2) = m := Prod.ext (xv_beq b1).symm (Prod.ext (xw_eqL_ok b2).symm rfl)
      rw [e]
      exact List.mem_cons_self
theorem xw_dvs_ok {ρ : Nat → Int} {n : Nat} {s : Int} {a : xw_L} {z : Int} (h : xw_dvs s a = true) (ha : xw_is ρ n a z) : z % s = 0 := by
  obtain ⟨h1, h2⟩ := xv_and_t h
  have h1 := xw_ieq_iff.mp h1
  have h2 := xw_anl_ok h2
  have key : ∀ l : List (Nat × Int), (∀ t ∈ l, xw_ieq (t.2 % s) 0 = true) → ∃ q, xw_evl ρ l = s * q := by
    intro l
    induction l with
    | nil => intro _; exact ⟨0, by show (0 : Int) = s * 0; omega⟩
    | cons t l ih =>
      intro h
      obtain ⟨q, hq⟩ := ih (fun u hu => h u (List.mem_cons_of_mem _ hu))
      have hz := xw_ieq_iff.mp (h t List.mem_cons_self)
      have hd : t.2 = s * (t.2 / s) := by have := Int.mul_ediv_add_emod t.2 s; omega
      refine ⟨t.2 / s * ρ t.1 + q, ?_⟩
      show t.2 * ρ t.1 + xw_evl ρ l = _
      have : t.2 * ρ t.1 = s * (t.2 / s * ρ t.1) := by rw [← Int.mul_assoc, ← hd]
      rw [hq, Int.mul_add, this]
  obtain ⟨q, hq⟩ := key a.2 h2
  have hd : a.1 = s * (a.1 / s) := by have := Int.mul_ediv_add_emod a.1 s; omega
  have : z = s * (a.1 / s + q) := by
    rw [← ha.2]
    unfold xw_ev
    rw [hq, Int.mul_add]
    omega
  rw [this]
  exact Int.mul_emod_right s _
theorem xw_sgr_ok {X : xw_X} {as : List Nat} {μ : Nat → Nat → Value} {ρ : Nat → Int} {S : xw_S} {r : Nat} {i : xw_L} {d : Int × Int} {z y : Int} (hS : xw_St ρ S) (hG : xw_Gk μ ρ S.2.1 S.2.2.2.2.1) (hi : xw_is ρ S.2.1 i z) (hd : d.1 ≤ y ∧ y ≤ d.2) (hy : xw_num (μ r z.toNat) = some y) : (xw_sgr S r i d).1 ≤ y ∧ y ≤ (xw_sgr S r i d).2 := by
  unfold xw_sgr
  generalize hl : S.2.2.2.2.1 = l at *
  clear hl
  induction l with
  | nil => exact hd
  | cons g l ih =>
    have ih := ih (fun q hq => hG q (List.mem_cons_of_mem _ hq))
    dsimp only
    cases hb : (Nat.beq g.1 r && (xv_le 1 g.2.2.2.1 && (xw_dvs g.2.2.2.1 (xw_sub i g.2.1) && (xw_prove S (xw_sub i g.2.1) && xw_prove S (xw_k (xw_sub g.2.2.1 (xw_sub i g.2.1)) (-1)))))) with
    | false => exact ih
    | true =>
      simp only [cond_true]
      obtain ⟨b1, hb⟩ := xv_and_t hb
      obtain ⟨-, hb⟩ := xv_and_t hb
      obtain ⟨b3, hb⟩ := xv_and_t hb
      obtain ⟨b4, b5⟩ := xv_and_t hb
      obtain ⟨b, sp, h1, h2, h3⟩ := hG g List.mem_cons_self
      have c3 := xw_dvs_ok b3 (hi.sub h1)
      have c4 := xw_prove_ok hS b4 (hi.sub h1)
      have c5 := xw_prove_ok hS b5 ((h2.sub (hi.sub h1)).k (-1))
      refine h3 (z - b) c4 (by omega) c3 y ?_
      rw [show b + (z - b) = z by omega, xv_beq b1]
      exact hy
theorem xw_rd_ok {hl : Nat × Int} {A : xv_A} {t : Nat → ClassId} {X : xw_X} {μ : Nat → Nat → Value} {ws : va_W} {ρ : Nat → Int} {S : xw_S} {r : Nat} {i : xw_L} {z : Int} {k : xw_V → xw_S → Bool} (hW : xw_Wd hl A t X μ ws) (hS : xw_St ρ S) (hM : xw_Me X (ws.map Prod.fst) μ ρ S) (h : xw_rd hl A S r i k = true) (hi : xw_is ρ S.2.1 i z) : 0 ≤ z ∧ (∃ c, xv_get 14 A r = some c ∧ z.toNat < xw_len c ∧ c.1 ≤ 6) ∧ ∃ ρ' v S', k v S' = true ∧ xw_Up ρ S.2.1 ρ' S'.2.1 ∧ xw_St ρ' S' ∧ xw_Me X (ws.map Prod.fst) μ ρ' S' ∧ xw_hv X (ws.map Prod.fst) ρ' S'.2.1 v (μ r z.toNat) ∧ S'.2.2.2.2.2.2 = S.2.2.2.2.2.2 ∧ v.1 ≤ 3 := by
  unfold xw_rd at h
  cases hc : xv_get 14 A r with
  | none => rw [hc] at h; cases h
  | some c =>
    rw [hc] at h
    dsimp only at h
    cases hb : (Nat.ble 1 c.2.2.1 && (Nat.ble c.1 6 && xw_inb S (xw_len c) i)) with
    | false => rw [hb] at h; cases h
    | true =>
      rw [hb] at h
      simp only [cond_true] at h
      obtain ⟨b1, hb⟩ := xv_and_t hb
      obtain ⟨b2, b3⟩ := xv_and_t hb
      have b1 := xv_ble b1
      have b2 := xv_ble b2
      obtain ⟨z0, zl⟩ := xw_inb_ok hS b3 hi
      have hn := xw_nm_ok hS.1 hi
      have hμ := hW.2.2 r c hc z.toNat
      refine ⟨z0, ⟨c, rfl, zl, b2⟩, ?_⟩
      have hty : ∀ u, xw_jn c.2.2.2 (xw_rr S.1 c.2.2.1 (xw_nm S.1 i)).1 (xw_rr S.1 c.2.2.1 (xw_nm S.1 i)).2 = some u → xv_hv X.1 (ws.map Prod.fst) u (μ r z.toNat) := fun u hu => by
        obtain ⟨j, j1, j2⟩ := xw_rr_ok hS.1 b1 hn z0
        obtain ⟨u0, g1, g2⟩ := xw_jn_ok (sb := X.1) (as := ws.map Prod.fst) hu j j1
        rw [hμ]
        exact g2 _ (xw_ty_ok hW.1 hc b2 zl (by rw [j2]; exact g1))
      cases hm : xw_mem S.2.2.2.1 r (xw_nm S.1 i) with
      | some v =>
        rw [hm] at h
        obtain ⟨z', h1, h2, h3, h4⟩ := hM.1 _ (xw_mem_ok hm)
        have e := h1.one hn
        subst e
        exact ⟨ρ, v, S, h, xw_Up.rf, hS, hM, h3, rfl, Nat.le_trans h4 (by decide)⟩
      | none =>
        rw [hm] at h
        dsimp only at h
        cases hj : xw_jn c.2.2.2 (xw_rr S.1 c.2.2.1 (xw_nm S.1 i)).1 (xw_rr S.1 c.2.2.1 (xw_nm S.1 i)).2 with
        | none => rw [hj] at h; cases h
        | some u =>
          rw [hj] at h
          dsimp only at h
          have hu := hty u hj
          cases h1 : Nat.ble u.1 1 with
          | false =>
            rw [h1] at h
            simp only [cond_false] at h
            cases h2 : (Nat.beq u.1 2 || Nat.beq u.1 3) with
            | false => rw [h2] at h; cases h
            | true =>
              rw [h2] at h
              simp only [cond_true] at h
              refine ⟨ρ, _, S, h, xw_Up.rf, hS, hM, ?_, rfl, ?_⟩
              · rcases (Bool.or_eq_true _ _).mp h2 with q | q
                · have q := xv_beq q
                  refine ⟨fun e => ?_, fun e => ?_, fun _ => hu.2.2.1 q, fun e => ?_, fun e => ?_, fun e => ?_, fun e => ?_, fun e => ?_⟩ <;> (dsimp only at e; omega)
                · have q := xv_beq q
                  refine ⟨fun e => ?_, fun e => ?_, fun e => ?_, fun _ => hu.2.2.2.1 q, fun e => ?_, fun e => ?_, fun e => ?_, fun e => ?_⟩ <;> (dsimp only at e; omega)
              · dsimp only
                rcases (Bool.or_eq_true _ _).mp h2 with q | q
                · have := xv_beq q; omega
                · have := xv_beq q; omega
          | true =>
            rw [h1] at h
            simp only [cond_true] at h
            have h1 := xv_ble h1
            have hnum : ∃ y, xw_num (μ r z.toNat) = some y ∧ u.2.1 ≤ y ∧ y ≤ u.2.2 ∧ (∀ (ρ' : Nat → Int) (n' : Nat) (l : xw_L), xw_is ρ' n' l y → xw_hv X (ws.map Prod.fst) ρ' n' (u.1, l) (μ r z.toNat)) := by
              rcases Nat.le_one_iff_eq_zero_or_eq_one.mp h1 with q | q
              · obtain ⟨x, e, x1, x2⟩ := hu.1 q
                rw [e, q]
                exact ⟨_, rfl, x1, x2, fun ρ' n' l hl => xw_hv.i hl⟩
              · obtain ⟨x, e, x1, x2⟩ := hu.2.1 q
                rw [e, q]
                exact ⟨_, rfl, x1, x2, fun ρ' n' l hl => xw_hv.l hl⟩
            obtain ⟨y, ey, y1, y2, hvy⟩ := hnum
            obtain ⟨q1, q2⟩ := xw_sgr_ok (X := X) (as := ws.map Prod.fst) hS hM.2 hn ⟨y1, y2⟩ ey
            obtain ⟨ρ', l, S', hk, hu', hS', hl', e22, -⟩ := xw_fr_ok hS h q1 q2
            have hM' : xw_Me X (ws.map Prod.fst) μ ρ' S' := xw_OK.up hM hu' (by rw [e22])
            have hfin : ∀ S'' : xw_S, xw_St ρ' S'' → S''.2.1 = S'.2.1 → S''.2.2.2 = S'.2.2.2 → k (u.1, l) (S''.1, S''.2.1, S''.2.2.1, (r, xw_nm S.1 i, (u.1, l)) :: S''.2.2.2.1, S''.2.2.2.2) = true → ∃ ρ' v S', k v S' = true ∧ xw_Up ρ S.2.1 ρ' S'.2.1 ∧ xw_St ρ' S' ∧ xw_Me X (ws.map Prod.fst) μ ρ' S' ∧ xw_hv X (ws.map Prod.fst) ρ' S'.2.1 v (μ r z.toNat) ∧ S'.2.2.2.2.2.2 = S.2.2.2.2.2.2 ∧ v.1 ≤ 3 := by
              intro S'' hS'' en e2 hk2
              have hu2 : xw_Up ρ S.2.1 ρ' S''.2.1 := by rw [en]; exact hu'
              have hhv : xw_hv X (ws.map Prod.fst) ρ' S''.2.1 (u.1, l) (μ r z.toNat) := hvy ρ' _ l (by rw [en]; exact hl')
              refine ⟨ρ', _, _, hk2, hu2, hS'', ⟨?_, ?_⟩, hhv, ?_, ?_⟩
              · intro m hm'
                rcases List.mem_cons.mp hm' with e | hm'
                · rw [e]; exact ⟨z, hn.more hu2, z0, hhv, h1⟩
                · have := hM'.1
                  rw [← e2, ← en] at this
                  exact this m hm'
              · have := hM'.2
                rw [← e2, ← en] at this
                exact this
              · show S''.2.2.2.2.2.2 = _
                rw [e2, e22]
              · dsimp only; omega
            cases hh : Nat.beq r hl.1 with
            | false =>
              rw [hh] at hk
              exact hfin S' hS' rfl rfl hk
            | true =>
              rw [hh] at hk
              simp only [cond_true] at hk
              obtain ⟨k1, k2⟩ := xv_and_t hk
              have hr := xv_beq hh
              have hne : y ≠ hl.2 := fun e => hW.2.1 c (by rw [← hr]; exact hc) z.toNat zl (by rw [← hr, ← hμ, ey, e])
              rcases Int.lt_or_gt_of_ne hne with q | q
              · obtain ⟨S'', g1, g2, g3, g4⟩ := xw_asm_ok hS' k2 (hl'.neg.k _) (by omega)
                exact hfin S'' g2 g3 g4 g1
              · obtain ⟨S'', g1, g2, g3, g4⟩ := xw_asm_ok hS' k1 (hl'.k _) (by omega)
                exact hfin S'' g2 g3 g4 g1
