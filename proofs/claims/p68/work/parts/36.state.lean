/-! what a state tells -/
/-- besides the cells: the script's cell, its length, what is a text, whether there is a script, what holds of the texts -/
abbrev xw_X : Type := Nat × Nat × (Nat → Prop) × Prop × ((Nat → Prop) → State → Prop)
def xw_hv (X : xw_X) (as : List Nat) (ρ : Nat → Int) (n : Nat) (v : xw_V) (x : Value) : Prop :=
  (v.1 = 0 → ∃ i : Int32, x = .int i ∧ xw_is ρ n v.2 i.toInt) ∧ (v.1 = 1 → ∃ i : Int64, x = .long i ∧ xw_is ρ n v.2 i.toInt) ∧ (v.1 = 2 → ∃ a, as[v.2.1.toNat]? = some a ∧ x = .ref a) ∧ (v.1 = 3 → x = .null) ∧ (v.1 = 4 → ∃ j a, j < xw_cnt v ∧ as[v.2.1.toNat + j]? = some a ∧ x = .ref a) ∧ (v.1 = 5 → x = .ref X.1 ∧ xw_is ρ n v.2 (X.2.1 : Int) ∧ X.2.2.2.1) ∧ (v.1 = 6 → ∃ a, x = .ref a ∧ X.2.2.1 a) ∧ (v.1 = 7 → ∃ (i : Int32) (d : Int), x = .int i ∧ xw_is ρ n v.2 d ∧ i.toInt = d.sign)
theorem xw_hv.i {X : xw_X} {as : List Nat} {ρ : Nat → Int} {n : Nat} {l : xw_L} {x : Int32} (h : xw_is ρ n l x.toInt) : xw_hv X as ρ n (0, l) (.int x) :=
  ⟨fun _ => ⟨x, rfl, h⟩, fun q => (by cases q), fun q => (by cases q), fun q => (by cases q), fun q => (by cases q), fun q => (by cases q), fun q => (by cases q), fun q => (by cases q)⟩
theorem xw_hv.l {X : xw_X} {as : List Nat} {ρ : Nat → Int} {n : Nat} {l : xw_L} {x : Int64} (h : xw_is ρ n l x.toInt) : xw_hv X as ρ n (1, l) (.long x) :=
  ⟨fun q => (by cases q), fun _ => ⟨x, rfl, h⟩, fun q => (by cases q), fun q => (by cases q), fun q => (by cases q), fun q => (by cases q), fun q => (by cases q), fun q => (by cases q)⟩
theorem xw_hv.more {X : xw_X} {as : List Nat} {ρ ρ' : Nat → Int} {n n' : Nat} {v : xw_V} {x : Value} (hu : xw_Up ρ n ρ' n') (h : xw_hv X as ρ n v x) : xw_hv X as ρ' n' v x := by
  obtain ⟨h0, h1, h2, h3, h4, h5, h6, h7⟩ := h
  refine ⟨fun q => ?_, fun q => ?_, h2, h3, h4, fun q => ?_, h6, fun q => ?_⟩
  · obtain ⟨i, e, h⟩ := h0 q; exact ⟨i, e, h.more hu⟩
  · obtain ⟨i, e, h⟩ := h1 q; exact ⟨i, e, h.more hu⟩
  · obtain ⟨e, h, g⟩ := h5 q; exact ⟨e, h.more hu, g⟩
  · obtain ⟨i, d, e, h, g⟩ := h7 q; exact ⟨i, d, e, h.more hu, g⟩
def xw_num : Value → Option Int
  | .int i => some i.toInt
  | .long i => some i.toInt
  | _ => none
theorem xw_hv.num {X : xw_X} {as : List Nat} {ρ : Nat → Int} {n : Nat} {v : xw_V} {x : Value} (h : xw_hv X as ρ n v x) (hk : v.1 ≤ 1) : ∃ z, xw_num x = some z ∧ xw_is ρ n v.2 z := by
  rcases Nat.le_one_iff_eq_zero_or_eq_one.mp hk with q | q
  · obtain ⟨i, rfl, h'⟩ := h.1 q; exact ⟨_, rfl, h'⟩
  · obtain ⟨i, rfl, h'⟩ := h.2.1 q; exact ⟨_, rfl, h'⟩
/-- what a record says -/
def xw_Rk (ρ : Nat → Int) (n : Nat) (q : xw_R) : Prop := q.2.1 < n ∧ ∃ x y, xw_is ρ n q.2.2.1 x ∧ xw_is ρ n q.2.2.2 y ∧ (q.1 = 0 → 0 ≤ x ∧ ρ q.2.1 = 2 ^ x.toNat) ∧ (q.1 = 1 → 0 ≤ x ∧ 0 ≤ y ∧ ρ q.2.1 = x / 2 ^ y.toNat) ∧ (q.1 = 2 → 0 ≤ x ∧ 0 ≤ y ∧ ρ q.2.1 = x / 2 ^ y.toNat % 2) ∧ (q.1 = 3 → ρ q.2.1 = x * y) ∧ (q.1 = 4 → ∃ a b : Int32, a.toInt = x ∧ b.toInt = y ∧ ρ q.2.1 = (a &&& b).toInt) ∧ (q.1 = 5 → ∃ a b : Int32, a.toInt = x ∧ b.toInt = y ∧ ρ q.2.1 = (a ||| b).toInt) ∧ (q.1 = 6 → ρ q.2.1 = x.bmod (2 ^ 32)) ∧ (q.1 = 7 → x ≠ 0)
theorem xw_Rk.more {ρ ρ' : Nat → Int} {n n' : Nat} {q : xw_R} (hu : xw_Up ρ n ρ' n') (h : xw_Rk ρ n q) : xw_Rk ρ' n' q := by
  obtain ⟨h0, x, y, hx, hy, h1, h2, h3, h4⟩ := h
  refine ⟨Nat.lt_of_lt_of_le h0 hu.1, x, y, hx.more hu, hy.more hu, ?_⟩
  rw [hu.2 _ h0]
  exact ⟨h1, h2, h3, h4⟩
def xw_Sh (E : xw_N) : Prop := ∀ v, v < 256 → ∃ p, xv_get 16 E v = some p
def xw_St (ρ : Nat → Int) (S : xw_S) : Prop := xw_En ρ S.2.1 S.1 ∧ xw_Fk ρ S.2.1 S.2.2.1 ∧ (∀ q ∈ S.2.2.2.2.2.1, xw_Rk ρ S.2.1 q) ∧ xw_Sh S.1
/-- the cells are as memo and stretches say -/
def xw_Mk (X : xw_X) (as : List Nat) (μ : Nat → Nat → Value) (ρ : Nat → Int) (n : Nat) (M : List xw_M) : Prop := ∀ m ∈ M, ∃ z : Int, xw_is ρ n m.2.1 z ∧ 0 ≤ z ∧ xw_hv X as ρ n m.2.2 (μ m.1 z.toNat) ∧ m.2.2.1 ≤ 1
def xw_Gk (μ : Nat → Nat → Value) (ρ : Nat → Int) (n : Nat) (G : List xw_G) : Prop := ∀ g ∈ G, ∃ b sp : Int, xw_is ρ n g.2.1 b ∧ xw_is ρ n g.2.2.1 sp ∧ ∀ d : Int, 0 ≤ d → d < sp → d % g.2.2.2.1 = 0 → ∀ z, xw_num (μ g.1 (b + d).toNat) = some z → g.2.2.2.2.1 ≤ z ∧ z ≤ g.2.2.2.2.2
def xw_Me (X : xw_X) (as : List Nat) (μ : Nat → Nat → Value) (ρ : Nat → Int) (S : xw_S) : Prop := xw_Mk X as μ ρ S.2.1 S.2.2.2.1 ∧ xw_Gk μ ρ S.2.1 S.2.2.2.2.1
def xw_OK (X : xw_X) (as : List Nat) (μ : Nat → Nat → Value) (ρ : Nat → Int) (S : xw_S) : Prop := xw_St ρ S ∧ xw_Me X as μ ρ S
theorem xw_Mk.more {X : xw_X} {as : List Nat} {μ : Nat → Nat → Value} {ρ ρ' : Nat → Int} {n n' : Nat} {M : List xw_M} (hu : xw_Up ρ n ρ' n') (h : xw_Mk X as μ ρ n M) : xw_Mk X as μ ρ' n' M := fun m hm => by
  obtain ⟨z, h1, h2, h3, h4⟩ := h m hm
  exact ⟨z, h1.more hu, h2, h3.more hu, h4⟩
theorem xw_Gk.more {μ : Nat → Nat → Value} {ρ ρ' : Nat → Int} {n n' : Nat} {G : List xw_G} (hu : xw_Up ρ n ρ' n') (h : xw_Gk μ ρ n G) : xw_Gk μ ρ' n' G := fun g hg => by
  obtain ⟨b, sp, h1, h2, h3⟩ := h g hg
  exact ⟨b, sp, h1.more hu, h2.more hu, h3⟩
theorem xw_Fk.more {ρ ρ' : Nat → Int} {n n' : Nat} {F : List xw_L} (hu : xw_Up ρ n ρ' n') (h : xw_Fk ρ n F) : xw_Fk ρ' n' F := fun f hf => by
  obtain ⟨z, h1, h2⟩ := h f hf
  exact ⟨z, h1.more hu, h2⟩
theorem xw_prove_ok {ρ : Nat → Int} {S : xw_S} {g : xw_L} {z : Int} (hS : xw_St ρ S) (h : xw_prove S g = true) (hg : xw_is ρ S.2.1 g z) : 0 ≤ z := xw_chain_ok hS.1 hS.2.1 9 h hg
theorem xw_max_ok (a b : Int) : a ≤ xw_max a b ∧ b ≤ xw_max a b ∧ (xw_max a b = a ∨ xw_max a b = b) := by
  unfold xw_max
  cases hb : xv_le a b with
  | true => exact ⟨xv_le_iff.mp hb, Int.le_refl _, Or.inr rfl⟩
  | false => exact ⟨Int.le_refl _, Int.le_of_lt (xv_le_f hb), Or.inl rfl⟩
theorem xw_min_ok (a b : Int) : xw_min a b ≤ a ∧ xw_min a b ≤ b ∧ (xw_min a b = a ∨ xw_min a b = b) := by
  unfold xw_min
  cases hb : xv_le a b with
  | true => exact ⟨Int.le_refl _, xv_le_iff.mp hb, Or.inl rfl⟩
  | false => exact ⟨Int.le_of_lt (xv_le_f hb), Int.le_refl _, Or.inr rfl⟩
theorem xv_get_upd2 {α : Type} {R : Nat} {ll : List (List α)} {i j : Nat} {v : α} : xv_get R (xv_upd R ll i v) j = (if j = i then (xv_get R ll i).map (fun _ => v) else xv_get R ll j) := by
  by_cases hji : j = i
  · subst hji
    rw [if_pos rfl]
    rw [xv_get_eq, xv_get_eq]
    unfold xv_upd
    rw [xv_nth_eq]
    cases hl : ll[j / R]? with
    | none => rw [hl]; rfl
    | some l =>
      dsimp only
      rw [xv_put_eq, xv_put_eq]
      have hlt : j / R < ll.length := (List.getElem?_eq_some_iff.mp hl).1
      rw [List.getElem?_set_self hlt]
      simp only [Option.bind_some]
      cases hm : l[j % R]? with
      | none =>
        have : ¬ j % R < l.length := fun h => by rw [List.getElem?_eq_getElem h] at hm; cases hm
        rw [List.set_eq_of_length_le (by omega), hm]; rfl
      | some u =>
        have : j % R < l.length := (List.getElem?_eq_some_iff.mp hm).1
        rw [List.getElem?_set_self this]; rfl
  · rw [if_neg hji]
    cases h : xv_get R (xv_upd R ll i v) j with
    | some c =>
      rcases xv_get_upd h with ⟨e, -⟩ | ⟨-, h2⟩
      · exact absurd e hji
      · exact h2.symm
    | none =>
      cases h3 : xv_get R ll j with
      | none => rfl
      | some c =>
        rw [xv_get_eq] at h h3
        unfold xv_upd at h
        rw [xv_nth_eq] at h
        cases hl : ll[i / R]? with
        | none => rw [hl] at h; dsimp only at h; rw [h3] at h; cases h
        | some l =>
          rw [hl] at h
          dsimp only at h
          rw [xv_put_eq, xv_put_eq] at h
          by_cases hd : i / R = j / R
          · have hm : i % R ≠ j % R := fun hm => hji (by rw [← Nat.div_add_mod i R, ← Nat.div_add_mod j R, hd, hm])
            have hlt : i / R < ll.length := (List.getElem?_eq_some_iff.mp hl).1
            rw [← hd, List.getElem?_set_self hlt] at h
            simp only [Option.bind_some] at h
            rw [List.getElem?_set_ne hm] at h
            rw [← hd, hl] at h3
            simp only [Option.bind_some] at h3
            rw [h3] at h; cases h
          · rw [List.getElem?_set_ne hd, h3] at h; cases h
theorem xw_e_upd {E : xw_N} {v j : Nat} {p : Int × Int} : xw_e (xv_upd 16 E v p) j = xw_e E j ∨ (j = v ∧ xw_e (xv_upd 16 E v p) j = p) := by
  unfold xw_e
  rw [xv_get_upd2]
  by_cases h : j = v
  · subst h
    rw [if_pos rfl]
    cases xv_get 16 E j with
    | none => exact Or.inl rfl
    | some q => exact Or.inr ⟨rfl, rfl⟩
  · rw [if_neg h]; exact Or.inl rfl
theorem xw_Sh.upd {E : xw_N} {v : Nat} {p : Int × Int} (h : xw_Sh E) : xw_Sh (xv_upd 16 E v p) := fun j hj => by
  rw [xv_get_upd2]
  by_cases e : j = v
  · subst e
    obtain ⟨q, hq⟩ := h j hj
    rw [if_pos rfl, hq]; exact ⟨p, rfl⟩
  · rw [if_neg e]; exact h j hj
theorem xw_e_set {E : xw_N} {v : Nat} {p : Int × Int} (h : xw_Sh E) (hv : v < 256) : xw_e (xv_upd 16 E v p) v = p := by
  unfold xw_e
  obtain ⟨q, hq⟩ := h v hv
  rw [xv_get_upd2, if_pos rfl, hq]; rfl
theorem xw_En.upd {ρ : Nat → Int} {n v : Nat} {E : xw_N} {p : Int × Int} (hE : xw_En ρ n E) (hp : v < n → p.1 ≤ ρ v ∧ ρ v ≤ p.2) : xw_En ρ n (xv_upd 16 E v p) := fun j hj => by
  rcases xw_e_upd (E := E) (v := v) (j := j) (p := p) with e | ⟨rfl, e⟩
  · rw [e]; exact hE j hj
  · rw [e]; exact hp hj
/-- what is left of a form's upper bound -/
theorem xw_hil_mem {ρ : Nat → Int} {n : Nat} {E : xw_N} (hE : xw_En ρ n E) (c : Int) {t : Nat × Int} : ∀ {l : List (Nat × Int)}, xw_wfl n l → t ∈ l → (bif xv_le 0 t.2 then t.2 * (xw_e E t.1).2 else t.2 * (xw_e E t.1).1) - t.2 * ρ t.1 ≤ List.rec (motive := fun _ => Int) c (fun t _ ih => ih + (bif xv_le 0 t.2 then t.2 * (xw_e E t.1).2 else t.2 * (xw_e E t.1).1)) l - (c + xw_evl ρ l)
  | [], _, h => by cases h
  | u :: l, hw, h => by
    show _ ≤ (_ + (bif xv_le 0 u.2 then u.2 * (xw_e E u.1).2 else u.2 * (xw_e E u.1).1)) - (c + (u.2 * ρ u.1 + xw_evl ρ l))
    rcases List.mem_cons.mp h with e | h
    · subst e
      have := xw_hil_ok hE c hw.2
      omega
    · have ih := xw_hil_mem hE c hw.2 h
      obtain ⟨h1, h2⟩ := hE u.1 hw.1
      have : u.2 * ρ u.1 ≤ (bif xv_le 0 u.2 then u.2 * (xw_e E u.1).2 else u.2 * (xw_e E u.1).1) := by
        cases hb : xv_le 0 u.2 with
        | true => exact Int.mul_le_mul_of_nonneg_left h2 (xv_le_iff.mp hb)
        | false => exact Int.mul_le_mul_of_nonpos_left (Int.le_of_lt (xv_le_f hb)) h1
      omega
theorem xw_wfl_mem {n : Nat} {t : Nat × Int} : ∀ {l : List (Nat × Int)}, xw_wfl n l → t ∈ l → t.1 < n
  | [], _, h => by cases h
  | u :: l, hw, h => by
    rcases List.mem_cons.mp h with e | h
    · rw [e]; exact hw.1
    · exact xw_wfl_mem hw.2 h
theorem xw_rf1_ok {ρ : Nat → Int} {n : Nat} {E E0 : xw_N} {h : Int} {t : Nat × Int} (hE : xw_En ρ n E) (ht : t.1 < n) (hle : (xw_e E t.1).2 ≤ (xw_e E0 t.1).2) (hge : (xw_e E0 t.1).1 ≤ (xw_e E t.1).1) (hb : (bif xv_le 0 t.2 then t.2 * (xw_e E0 t.1).2 else t.2 * (xw_e E0 t.1).1) - t.2 * ρ t.1 ≤ h) : xw_En ρ n (xw_rf1 h E t) := by
  unfold xw_rf1
  obtain ⟨h1, h2⟩ := hE t.1 ht
  cases hc : xv_le 1 t.2 with
  | true =>
    have hc := xv_le_iff.mp hc
    simp only [cond_true]
    refine hE.upd fun _ => ⟨?_, h2⟩
    rw [xv_le_iff.mpr (show (0 : Int) ≤ t.2 by omega)] at hb
    simp only [cond_true] at hb
    have h3 : t.2 * ((xw_e E t.1).2 - ρ t.1) ≤ h := by
      have := Int.mul_le_mul_of_nonneg_left hle (show (0 : Int) ≤ t.2 by omega)
      rw [Int.mul_sub]
      omega
    have h4 : (xw_e E t.1).2 - ρ t.1 ≤ h / t.2 := by
      rw [Int.le_ediv_iff_mul_le (by omega), Int.mul_comm]
      exact h3
    obtain ⟨-, -, m⟩ := xw_max_ok (xw_e E t.1).1 ((xw_e E t.1).2 - h / t.2)
    dsimp only
    omega
  | false =>
    simp only [cond_false]
    cases hd : xv_le t.2 (-1) with
    | true =>
      have hd := xv_le_iff.mp hd
      simp only [cond_true]
      refine hE.upd fun _ => ⟨h1, ?_⟩
      have hf : xv_le 0 t.2 = false := by
        cases hq : xv_le 0 t.2 with
        | false => rfl
        | true => have := xv_le_iff.mp hq; omega
      rw [hf] at hb
      simp only [cond_false] at hb
      have h3 : (-t.2) * (ρ t.1 - (xw_e E t.1).1) ≤ h := by
        have := Int.mul_le_mul_of_nonneg_left hge (show (0 : Int) ≤ -t.2 by omega)
        rw [Int.mul_sub, Int.neg_mul, Int.neg_mul]
        rw [Int.neg_mul, Int.neg_mul] at this
        omega
      have h4 : ρ t.1 - (xw_e E t.1).1 ≤ h / (-t.2) := by
        rw [Int.le_ediv_iff_mul_le (by omega), Int.mul_comm]
        exact h3
      obtain ⟨-, -, m⟩ := xw_min_ok (xw_e E t.1).2 ((xw_e E t.1).1 + h / (-t.2))
      dsimp only
      omega
    | false => exact hE
theorem xw_rf1_in {E : xw_N} {h : Int} {t : Nat × Int} (v : Nat) : (xw_e (xw_rf1 h E t) v).2 ≤ (xw_e E v).2 ∧ (xw_e E v).1 ≤ (xw_e (xw_rf1 h E t) v).1 := by
  unfold xw_rf1
  cases hc : xv_le 1 t.2 with
  | true =>
    simp only [cond_true]
    rcases xw_e_upd (E := E) (v := t.1) (j := v) (p := (xw_max (xw_e E t.1).1 ((xw_e E t.1).2 - h / t.2), (xw_e E t.1).2)) with e | ⟨e0, e⟩
    · rw [e]; omega
    · rw [e, e0]
      have := (xw_max_ok (xw_e E t.1).1 ((xw_e E t.1).2 - h / t.2)).1
      dsimp only
      omega
  | false =>
    simp only [cond_false]
    cases hd : xv_le t.2 (-1) with
    | true =>
      simp only [cond_true]
      rcases xw_e_upd (E := E) (v := t.1) (j := v) (p := ((xw_e E t.1).1, xw_min (xw_e E t.1).2 ((xw_e E t.1).1 + h / (-t.2)))) with e | ⟨e0, e⟩
      · rw [e]; omega
      · rw [e, e0]
        have := (xw_min_ok (xw_e E t.1).2 ((xw_e E t.1).1 + h / (-t.2))).1
        dsimp only
        omega
    | false => simp only [cond_false]; omega
theorem xw_rfs_ok {ρ : Nat → Int} {n : Nat} {E0 : xw_N} {h : Int} : ∀ (l : List (Nat × Int)) {E : xw_N}, xw_En ρ n E → xw_wfl n l → (∀ v, (xw_e E v).2 ≤ (xw_e E0 v).2 ∧ (xw_e E0 v).1 ≤ (xw_e E v).1) → (∀ t ∈ l, (bif xv_le 0 t.2 then t.2 * (xw_e E0 t.1).2 else t.2 * (xw_e E0 t.1).1) - t.2 * ρ t.1 ≤ h) → xw_En ρ n (xw_rfs h l E)
  | [], _, hE, _, _, _ => hE
  | t :: l, E, hE, hw, hin, hb => by
    refine xw_rfs_ok l (E := xw_rf1 h E t) (xw_rf1_ok hE hw.1 (hin t.1).1 (hin t.1).2 (hb t List.mem_cons_self)) hw.2 (fun v => ?_) (fun u hu => hb u (List.mem_cons_of_mem _ hu))
    have h1 := xw_rf1_in (E := E) (h := h) (t := t) v
    have h2 := hin v
    omega
theorem xw_rf1_sh {E : xw_N} {h : Int} {t : Nat × Int} (hE : xw_Sh E) : xw_Sh (xw_rf1 h E t) := by
  unfold xw_rf1
  cases xv_le 1 t.2 with
  | true => exact hE.upd
  | false =>
    cases xv_le t.2 (-1) with
    | true => exact hE.upd
    | false => exact hE
theorem xw_rfs_sh {h : Int} : ∀ (l : List (Nat × Int)) {E : xw_N}, xw_Sh E → xw_Sh (xw_rfs h l E)
  | [], _, hE => hE
  | t :: l, E, hE => xw_rfs_sh l (E := xw_rf1 h E t) (xw_rf1_sh hE)
/-- a fact is taken -/
theorem xw_asm_ok {ρ : Nat → Int} {S : xw_S} {g : xw_L} {z : Int} {k : xw_S → Bool} (hS : xw_St ρ S) (h : xw_asm S g k = true) (hg : xw_is ρ S.2.1 g z) (hz : 0 ≤ z) : ∃ S', k S' = true ∧ xw_St ρ S' ∧ S'.2.1 = S.2.1 ∧ S'.2.2.2 = S.2.2.2 := by
  unfold xw_asm at h
  cases h1 : xv_le 0 (xw_lo S.1 g) with
  | true => rw [h1] at h; exact ⟨S, h, hS, rfl, rfl⟩
  | false =>
    rw [h1] at h
    simp only [cond_false] at h
    have hh := xw_hi_ok hS.1 hg
    cases h2 : xv_le (xw_hi S.1 g) (-1) with
    | true => have := xv_le_iff.mp h2; omega
    | false =>
      rw [h2] at h
      simp only [cond_false] at h
      cases h3 : (xw_two g.2 && xw_prove S (xw_k (xw_neg g) (-1))) with
      | true =>
        have := xw_prove_ok hS (xv_and_t h3).2 (hg.neg.k (-1))
        omega
      | false =>
        rw [h3] at h
        simp only [cond_false] at h
        refine ⟨_, h, ⟨?_, ?_, hS.2.2.1, xw_rfs_sh g.2 hS.2.2.2⟩, rfl, rfl⟩
        · refine xw_rfs_ok (E0 := S.1) g.2 hS.1 hg.1 (fun v => by omega) (fun t ht => ?_)
          have := xw_hil_mem hS.1 g.1 hg.1 ht
          have e : g.1 + xw_evl ρ g.2 = z := hg.2
          have e2 : xw_hi S.1 g = List.rec (motive := fun _ => Int) g.1 (fun t _ ih => ih + (bif xv_le 0 t.2 then t.2 * (xw_e S.1 t.1).2 else t.2 * (xw_e S.1 t.1).1)) g.2 := rfl
          rw [← e2] at this
          omega
        · dsimp only
          cases (xw_two g.2 && !(xw_orl (fun f => xw_eqL f g) S.2.2.1)) with
          | false => exact hS.2.1
          | true =>
            intro f hf
            rcases List.mem_cons.mp hf with e | hf
            · rw [e]; exact ⟨z, hg, hz⟩
            · exact hS.2.1 f hf
def xw_set (ρ : Nat → Int) (n : Nat) (z : Int) : Nat → Int := fun v => if v = n then z else ρ v
theorem xw_set_up (ρ : Nat → Int) (n : Nat) (z : Int) : xw_Up ρ n (xw_set ρ n z) (n + 1) := ⟨Nat.le_succ n, fun v hv => by unfold xw_set; rw [if_neg (by omega)]⟩
theorem xw_OK.up {X : xw_X} {as : List Nat} {μ : Nat → Nat → Value} {ρ ρ' : Nat → Int} {S S' : xw_S} (h : xw_Me X as μ ρ S) (hu : xw_Up ρ S.2.1 ρ' S'.2.1) (e : S'.2.2.2 = S.2.2.2) : xw_Me X as μ ρ' S' := by
  obtain ⟨h1, h2⟩ := h
  unfold xw_Me
  rw [e]
  exact ⟨h1.more hu, h2.more hu⟩
/-- a new variable -/
theorem xw_fr_ok {ρ : Nat → Int} {S : xw_S} {lo hi z : Int} {k : xw_L → xw_S → Bool} (hS : xw_St ρ S) (h : xw_fr S lo hi k = true) (h1 : lo ≤ z) (h2 : z ≤ hi) : ∃ ρ' l S', k l S' = true ∧ xw_Up ρ S.2.1 ρ' S'.2.1 ∧ xw_St ρ' S' ∧ xw_is ρ' S'.2.1 l z ∧ S'.2.2 = S.2.2 ∧ (l.2 = [] ∨ ∃ v, l = (0, [(v, 1)]) ∧ v < S'.2.1 ∧ ρ' v = z) := by
  unfold xw_fr at h
  cases hb : xv_le hi lo with
  | true =>
    rw [hb] at h
    have hb := xv_le_iff.mp hb
    exact ⟨ρ, _, S, h, xw_Up.rf, hS, by rw [show z = lo by omega]; exact xw_is.c lo, rfl, Or.inl rfl⟩
  | false =>
    rw [hb] at h
    simp only [cond_false] at h
    cases hc : Nat.ble (S.2.1 + 1) 256 with
    | false => rw [hc] at h; cases h
    | true =>
      rw [hc] at h
      simp only [cond_true] at h
      have hc := xv_ble hc
      have hu := xw_set_up ρ S.2.1 z
      have hv : xw_set ρ S.2.1 z S.2.1 = z := by unfold xw_set; rw [if_pos rfl]
      refine ⟨xw_set ρ S.2.1 z, _, _, h, hu, ⟨?_, hS.2.1.more hu, fun q hq => (hS.2.2.1 q hq).more hu, hS.2.2.2.upd⟩, ?_, rfl, Or.inr ⟨S.2.1, rfl, Nat.lt_succ_self _, hv⟩⟩
      · intro v hv'
        dsimp only at hv' ⊢
        by_cases e : v = S.2.1
        · subst e
          rw [hv]
          rw [xw_e_set hS.2.2.2 (by omega)]
          exact ⟨h1, h2⟩
        · rcases xw_e_upd (E := S.1) (v := S.2.1) (j := v) (p := (lo, hi)) with e2 | ⟨e2, -⟩
          · rw [e2, hu.2 v (by omega)]; exact hS.1 v (by omega)
          · exact absurd e2 e
      · have := xw_is.v (ρ := xw_set ρ S.2.1 z) (n := S.2.1 + 1) (v := S.2.1) (Nat.lt_succ_self _)
        rw [hv] at this
        exact this
