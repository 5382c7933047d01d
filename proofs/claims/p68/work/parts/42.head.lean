/-! where a run stands; heads -/
def xw_lm (X : xw_X) (as : List Nat) (ρ : Nat → Int) (n : Nat) (L : List xw_V) (lvs : List (Nat × Value)) : Prop := ∀ i v, L[i]? = some v → v.1 ≤ 7 → ∃ x, (i, x) ∈ lvs ∧ xw_hv X as ρ n v x
theorem xw_lm.more {X : xw_X} {as : List Nat} {ρ ρ' : Nat → Int} {n n' : Nat} {L : List xw_V} {lvs : List (Nat × Value)} (hu : xw_Up ρ n ρ' n') (h : xw_lm X as ρ n L lvs) : xw_lm X as ρ' n' L lvs := fun i v hi hk => by
  obtain ⟨x, h1, h2⟩ := h i v hi hk
  exact ⟨x, h1, h2.more hu⟩
def xw_sk (X : xw_X) (as : List Nat) (ρ : Nat → Int) (n : Nat) : List xw_V → List Value → Prop
  | [], [] => True
  | v :: st, x :: vst => xw_hv X as ρ n v x ∧ xw_sk X as ρ n st vst
  | _, _ => False
theorem xw_sk.more {X : xw_X} {as : List Nat} {ρ ρ' : Nat → Int} {n n' : Nat} (hu : xw_Up ρ n ρ' n') : ∀ {st : List xw_V} {vst : List Value}, xw_sk X as ρ n st vst → xw_sk X as ρ' n' st vst
  | [], [], _ => True.intro
  | [], _ :: _, h => False.elim h
  | _ :: _, [], h => False.elim h
  | _ :: _, _ :: _, h => ⟨h.1.more hu, xw_sk.more hu h.2⟩
theorem xw_sk.un {X : xw_X} {as : List Nat} {ρ : Nat → Int} {n : Nat} {v : xw_V} {st : List xw_V} {vst : List Value} (h : xw_sk X as ρ n (v :: st) vst) : ∃ x xs, vst = x :: xs ∧ xw_hv X as ρ n v x ∧ xw_sk X as ρ n st xs := by
  match vst, h with
  | [], h => exact False.elim h
  | x :: xs, h => exact ⟨x, xs, rfl, h.1, h.2⟩
theorem xw_sk.nil {X : xw_X} {as : List Nat} {ρ : Nat → Int} {n : Nat} {vst : List Value} (h : xw_sk X as ρ n [] vst) : vst = [] := by
  match vst, h with
  | [], _ => rfl
  | _ :: _, h => exact False.elim h
def xw_mu (xs : Nat → Int32) (ws : va_W) : Nat → Nat → Value := fun r i => if r = 9999 then .int (xs i) else xw_ct ws r i
/-- the world, with what was written since ws0 -/
def xw_Wl (D : va_G) (t : Nat → ClassId) (A : Nat → Prop) (H0 : Heap) (hl : Nat × Int) (Γ : xv_A) (X : xw_X) (xs : Nat → Int32) (ws0 : va_W) (dt : xw_D) (H : Heap) (locs : List Loc) (ws : va_W) : Prop :=
  va_P D vwCl ws H ∧ va_D A ws ∧ va_S A H0 H locs ∧ xw_Wd hl Γ t X (xw_mu xs ws) ws ∧ xw_Dt dt (xw_mu xs ws0) (xw_mu xs ws) ∧ xw_Dc dt ws0 ws ∧ ws.map Prod.fst = ws0.map Prod.fst
def xw_Rl (D : va_G) (t : Nat → ClassId) (A : Nat → Prop) (H0 : Heap) (hl : Nat × Int) (Γ : xv_A) (X : xw_X) (xs : Nat → Int32) (ws0 : va_W) (nL : Nat) (ρ : Nat → Int) (L st : List xw_V) (S : xw_S) (ls : Array Slot) (vst : List Value) (H : Heap) (locs : List Loc) (ws : va_W) : Prop :=
  (L.length = nL ∧ ∃ lvs, lv_has ls nL lvs ∧ xw_lm X (ws.map Prod.fst) ρ S.2.1 L lvs) ∧ xw_sk X (ws.map Prod.fst) ρ S.2.1 st vst ∧ xw_Wl D t A H0 hl Γ X xs ws0 S.2.2.2.2.2.2 H locs ws ∧ xw_St ρ S ∧ xw_Me X (ws.map Prod.fst) (xw_mu xs ws) ρ S
/-- a local as a number -/
def xw_lz (lvs : List (Nat × Value)) (i : Nat) : Int := match lvs.find? (fun q => q.1 == i) with
  | some q => xw_n0 q.2
  | none => 0
def xw_uq (lvs : List (Nat × Value)) : Prop := ∀ i x y, (i, x) ∈ lvs → (i, y) ∈ lvs → x = y
theorem xw_uq_of {ls : Array Slot} {n : Nat} {lvs : List (Nat × Value)} (h : lv_has ls n lvs) : xw_uq lvs := fun i x y hx hy => by
  have h1 := h.2.2 (i, x) hx
  have h2 := h.2.2 (i, y) hy
  rw [h1] at h2
  cases h2; rfl
theorem xw_lz_eq {lvs : List (Nat × Value)} (hU : xw_uq lvs) {i : Nat} {x : Value} (h : (i, x) ∈ lvs) : xw_lz lvs i = xw_n0 x := by
  unfold xw_lz
  cases hf : lvs.find? (fun q => q.1 == i) with
  | none =>
    have := List.find?_eq_none.mp hf (i, x) h
    simp at this
  | some q =>
    have h1 := List.find?_some hf
    have h2 := List.mem_of_find?_eq_some hf
    have e : q.1 = i := by simpa using h1
    have : q.2 = x := hU i q.2 x (by rw [← e]; exact h2) h
    dsimp only
    rw [this]
theorem xw_lm.lz {X : xw_X} {as : List Nat} {ρ : Nat → Int} {n : Nat} {L : List xw_V} {lvs : List (Nat × Value)} (hU : xw_uq lvs) (h : xw_lm X as ρ n L lvs) : xw_Lz ρ n L (xw_lz lvs) := fun i l hi => by
  unfold xw_lv at hi
  rw [xv_nth_eq] at hi
  cases hv : L[i]? with
  | none => rw [hv] at hi; cases hi
  | some v =>
    rw [hv] at hi
    obtain ⟨b, e⟩ := xv_bt hi
    cases e
    have b := xv_ble b
    obtain ⟨x, h1, h2⟩ := h i v hv (by omega)
    obtain ⟨z, h3, h4⟩ := h2.num b
    rw [xw_lz_eq hU h1]
    unfold xw_n0
    rw [h3]; exact h4
/-! back to fewer variables -/
theorem xw_is.less {ρ ρ' : Nat → Int} {n n' : Nat} {a : xw_L} {z : Int} (hu : xw_Up ρ n ρ' n') (hw : xw_wfl n a.2) (h : xw_is ρ' n' a z) : xw_is ρ n a z := by
  refine ⟨hw, ?_⟩
  rw [← h.2]
  unfold xw_ev
  rw [xw_evl_more hu.2 hw]
theorem xw_hv.less {X : xw_X} {as : List Nat} {ρ ρ' : Nat → Int} {n n' : Nat} {v : xw_V} {x x0 : Value} (hu : xw_Up ρ n ρ' n') (h0 : xw_hv X as ρ n v x0) (h : xw_hv X as ρ' n' v x) : xw_hv X as ρ n v x := by
  refine ⟨fun q => ?_, fun q => ?_, h.2.2.1, h.2.2.2.1, h.2.2.2.2.1, fun q => ?_, h.2.2.2.2.2.2.1, fun q => ?_⟩
  · obtain ⟨i, e, hi⟩ := h.1 q
    obtain ⟨j, -, hj⟩ := h0.1 q
    exact ⟨i, e, hi.less hu hj.1⟩
  · obtain ⟨i, e, hi⟩ := h.2.1 q
    obtain ⟨j, -, hj⟩ := h0.2.1 q
    exact ⟨i, e, hi.less hu hj.1⟩
  · obtain ⟨e, hi, g⟩ := h.2.2.2.2.2.1 q
    obtain ⟨-, hj, -⟩ := h0.2.2.2.2.2.1 q
    exact ⟨e, hi.less hu hj.1, g⟩
  · obtain ⟨i, d, e, hi, g⟩ := h.2.2.2.2.2.2.2 q
    obtain ⟨j, d', -, hj, -⟩ := h0.2.2.2.2.2.2.2 q
    exact ⟨i, d, e, hi.less hu hj.1, g⟩
theorem xw_Mk.less {X : xw_X} {as : List Nat} {μ μ0 : Nat → Nat → Value} {ρ ρ' : Nat → Int} {n n' : Nat} {M : List xw_M} (hu : xw_Up ρ n ρ' n') (h0 : xw_Mk X as μ0 ρ n M) (h : xw_Mk X as μ ρ' n' M) : xw_Mk X as μ ρ n M := fun m hm => by
  obtain ⟨z, h1, h2, h3, h4⟩ := h m hm
  obtain ⟨z0, g1, g2, g3, g4⟩ := h0 m hm
  exact ⟨z, h1.less hu g1.1, h2, xw_hv.less hu g3 h3, h4⟩
theorem xw_Gk.less {μ μ0 : Nat → Nat → Value} {ρ ρ' : Nat → Int} {n n' : Nat} {G : List xw_G} (hu : xw_Up ρ n ρ' n') (h0 : xw_Gk μ0 ρ n G) (h : xw_Gk μ ρ' n' G) : xw_Gk μ ρ n G := fun g hg => by
  obtain ⟨b, sp, h1, h2, h3⟩ := h g hg
  obtain ⟨b0, sp0, g1, g2, -⟩ := h0 g hg
  exact ⟨b, sp, h1.less hu g1.1, h2.less hu g2.1, h3⟩
theorem xw_sub1_ok {α : Type} {eq : α → α → Bool} (heq : ∀ a b, eq a b = true → a = b) : ∀ {cur kept : List α}, xw_sub1 eq cur kept = true → ∀ a ∈ kept, a ∈ cur
  | [], [], _, a, ha => by cases ha
  | [], _ :: _, h, _, _ => by cases h
  | _ :: _, [], _, a, ha => by cases ha
  | c :: cur, b :: kept, h, a, ha => by
    have h : (bif eq c b then xw_sub1 eq cur kept else xw_sub1 eq cur (b :: kept)) = true := h
    cases he : eq c b with
    | true =>
      rw [he] at h
      rcases List.mem_cons.mp ha with q | q
      · rw [q, ← heq c b he]; exact List.mem_cons_self
      · exact List.mem_cons_of_mem _ (xw_sub1_ok heq h a q)
    | false =>
      rw [he] at h
      exact List.mem_cons_of_mem _ (xw_sub1_ok heq (kept := b :: kept) h a ha)
theorem xw_eqM_ok (a b : xw_M) (h : xw_eqM a b = true) : a = b := by
  obtain ⟨h1, h⟩ := xv_and_t h
  obtain ⟨h2, h3⟩ := xv_and_t h
  exact Prod.ext (xv_beq h1) (Prod.ext (xw_eqL_ok h2) (xw_eqV_ok h3))
theorem xw_eqG_ok (a b : xw_G) (h : xw_eqG a b = true) : a = b := by
  obtain ⟨h1, h⟩ := xv_and_t h
  obtain ⟨h2, h⟩ := xv_and_t h
  obtain ⟨h3, h⟩ := xv_and_t h
  obtain ⟨h4, h⟩ := xv_and_t h
  obtain ⟨h5, h6⟩ := xv_and_t h
  exact Prod.ext (xv_beq h1) (Prod.ext (xw_eqL_ok h2) (Prod.ext (xw_eqL_ok h3) (Prod.ext (xw_ieq_iff.mp h4) (Prod.ext (xw_ieq_iff.mp h5) (xw_ieq_iff.mp h6)))))
theorem xw_leq_ok {hv : List (Nat × Nat × Nat)} : ∀ {L K : List xw_V} {i : Nat}, xw_leq hv L K i = true → L.length = K.length ∧ ∀ j v, K[j]? = some v → (∃ q ∈ hv, q.1 = i + j) ∨ L[j]? = some v
  | [], [], i, _ => ⟨rfl, fun j v h => by simp at h⟩
  | [], _ :: _, _, h => by cases h
  | _ :: _, [], _, h => by cases h
  | a :: L, b :: K, i, h => by
    have h : ((xw_orl (fun h => Nat.beq h.1 i) hv || xw_eqV a b) && xw_leq hv L K (i + 1)) = true := h
    obtain ⟨h1, h2⟩ := xv_and_t h
    obtain ⟨g1, g2⟩ := xw_leq_ok h2
    refine ⟨by simp [g1], fun j v hj => ?_⟩
    match j, hj with
    | 0, hj =>
      cases hj
      rcases (Bool.or_eq_true _ _).mp h1 with q | q
      · obtain ⟨x, hx, e⟩ := xw_orl_ok q
        exact Or.inl ⟨x, hx, xv_beq e⟩
      · exact Or.inr (by rw [xw_eqV_ok q]; rfl)
    | j + 1, hj =>
      rcases g2 j v hj with ⟨q, hq, e⟩ | q
      · exact Or.inl ⟨q, hq, by omega⟩
      · exact Or.inr q
/-! what an alternative asks of the machine -/
/-- a changed local is of its kind and within its range -/
def xw_Rg (lvs : List (Nat × Value)) : List (Nat × Nat × Nat) → List (Int × Int) → Prop
  | [], _ => True
  | h :: hv, r :: rs => (h.2.1 ≠ 9 → ∃ x, (h.1, x) ∈ lvs ∧ ((h.2.1 = 0 ∧ ∃ i : Int32, x = .int i) ∨ (h.2.1 = 1 ∧ ∃ i : Int64, x = .long i)) ∧ ∃ q : Int, xw_n0 x = (h.2.2 : Int) * q ∧ r.1 ≤ q ∧ q ≤ r.2) ∧ xw_Rg lvs hv rs
  | _ :: _, [] => False
/-- the locals that are not changed -/
def xw_DL (X : xw_X) (as : List Nat) (ρ : Nat → Int) (n : Nat) (hv : List (Nat × Nat × Nat)) (L : List xw_V) (lvs : List (Nat × Value)) : Prop := ∀ i v, L[i]? = some v → v.1 ≤ 7 → (∃ q ∈ hv, q.1 = i) ∨ ∃ x, (i, x) ∈ lvs ∧ xw_hv X as ρ n v x
/-- a stretch is as it says -/
def xw_Sc (lz gz : Nat → Int) (μ : Nat → Nat → Value) (g : xw_Sg) : Prop := ∀ d : Int, 0 ≤ d → d < xw_ttz lz gz μ g.2.2.1 → d % g.2.2.2.1 = 0 → ∀ z, xw_num (μ g.1 (xw_ttz lz gz μ g.2.1 + d).toNat) = some z → g.2.2.2.2.1 ≤ z ∧ z ≤ g.2.2.2.2.2
theorem xw_rok_ok {X : xw_X} {as : List Nat} {ρ : Nat → Int} {S : xw_S} {L : List xw_V} {lvs : List (Nat × Value)} (hS : xw_St ρ S) (hL : xw_lm X as ρ S.2.1 L lvs) : ∀ {hv : List (Nat × Nat × Nat)} {rs : List (Int × Int)}, xw_rok S L hv rs = true → xw_Rg lvs hv rs
  | [], _, _ => True.intro
  | _ :: _, [], h => by cases h
  | h :: hv, r :: rs, hk => by
    have hk : ((bif Nat.beq h.2.1 9 then true else match xv_nth L h.1 with
      | some v => Nat.beq v.1 h.2.1 && (Nat.ble h.2.1 1 && (Nat.ble 1 h.2.2 && ((bif Nat.beq h.2.2 1 then true else xw_dvs (Int.ofNat h.2.2) v.2) && (xw_prove S (xw_k v.2 (-(Int.ofNat h.2.2 * r.1))) && xw_prove S (xw_k (xw_neg v.2) (Int.ofNat h.2.2 * r.2))))))
      | none => false) && xw_rok S L hv rs) = true := hk
    obtain ⟨h1, h2⟩ := xv_and_t hk
    refine ⟨fun h9 => ?_, xw_rok_ok hS hL h2⟩
    have hb : Nat.beq h.2.1 9 = false := by
      cases q : Nat.beq h.2.1 9 with
      | true => exact absurd (xv_beq q) h9
      | false => rfl
    rw [hb] at h1
    simp only [cond_false] at h1
    rw [xv_nth_eq] at h1
    cases hv : L[h.1]? with
    | none => rw [hv] at h1; cases h1
    | some v =>
      rw [hv] at h1
      obtain ⟨b1, h1⟩ := xv_and_t h1
      obtain ⟨b2, h1⟩ := xv_and_t h1
      obtain ⟨b3, h1⟩ := xv_and_t h1
      obtain ⟨b4, h1⟩ := xv_and_t h1
      obtain ⟨b5, b6⟩ := xv_and_t h1
      have b1 := xv_beq b1
      have b2 := xv_ble b2
      have b3 := xv_ble b3
      obtain ⟨x, m, hx⟩ := hL h.1 v hv (by omega)
      obtain ⟨z, e, hz⟩ := hx.num (by omega)
      have p1 := xw_prove_ok hS b5 (hz.k _)
      have p2 := xw_prove_ok hS b6 (hz.neg.k _)
      have hd : z % (h.2.2 : Int) = 0 := by
        cases q : Nat.beq h.2.2 1 with
        | true => rw [xv_beq q]; exact Int.emod_one z
        | false => rw [q] at b4; exact xw_dvs_ok b4 hz
      refine ⟨x, m, ?_, z / (h.2.2 : Int), ?_, ?_, ?_⟩
      · rcases Nat.le_one_iff_eq_zero_or_eq_one.mp b2 with q | q
        · obtain ⟨i, e', -⟩ := hx.1 (by omega); exact Or.inl ⟨q, i, e'⟩
        · obtain ⟨i, e', -⟩ := hx.2.1 (by omega); exact Or.inr ⟨q, i, e'⟩
      · unfold xw_n0
        rw [e]
        show z = _
        have := Int.mul_ediv_add_emod z (h.2.2 : Int)
        omega
      · rw [Int.le_ediv_iff_mul_le (by omega), Int.mul_comm]
        have : Int.ofNat h.2.2 = (h.2.2 : Int) := rfl
        rw [this] at p1
        omega
      · have hdd := Int.mul_ediv_add_emod z (h.2.2 : Int)
        have : Int.ofNat h.2.2 = (h.2.2 : Int) := rfl
        rw [this] at p2
        have h3 : (h.2.2 : Int) * (z / (h.2.2 : Int)) ≤ (h.2.2 : Int) * r.2 := by omega
        exact Int.le_of_mul_le_mul_left h3 (by omega)
theorem xw_sok_ok {X : xw_X} {as : List Nat} {μ : Nat → Nat → Value} {ρ : Nat → Int} {S : xw_S} {r : Nat} {b sp : xw_L} {s lo hi zb zs : Int} (hS : xw_St ρ S) (hM : xw_Me X as μ ρ S) (h : xw_sok S r b sp s lo hi = true) (hb : xw_is ρ S.2.1 b zb) (hs : xw_is ρ S.2.1 sp zs) : ∀ d : Int, 0 ≤ d → d < zs → d % s = 0 → ∀ z, xw_num (μ r (zb + d).toNat) = some z → lo ≤ z ∧ z ≤ hi := by
  intro d d0 d1 d2 z hz
  rcases (Bool.or_eq_true _ _).mp h with h | h
  · have := xw_prove_ok hS h hs.neg; omega
  · obtain ⟨g, hg, h⟩ := xw_orl_ok h
    obtain ⟨c1, h⟩ := xv_and_t h
    obtain ⟨c2, h⟩ := xv_and_t h
    obtain ⟨c3, h⟩ := xv_and_t h
    obtain ⟨c4, h⟩ := xv_and_t h
    obtain ⟨c5, h⟩ := xv_and_t h
    obtain ⟨c6, h⟩ := xv_and_t h
    have c1 := xv_beq c1
    have c3 := xw_ieq_iff.mp c3
    have c4 := xv_le_iff.mp c4
    have c5 := xv_le_iff.mp c5
    have c6 := xv_le_iff.mp c6
    obtain ⟨b', sp', g1, g2, g3⟩ := hM.2 g hg
    rw [xw_eqL_ok c2] at g1
    have eb := hb.one g1
    rw [c3] at g3
    rw [c1] at g3
    rw [← eb] at g3
    rcases (Bool.or_eq_true _ _).mp h with h | h
    · have p := xw_prove_ok hS h (g2.sub hs)
      have := g3 d d0 (by omega) d2 z hz
      omega
    · obtain ⟨k1, h⟩ := xv_and_t h
      obtain ⟨k2, k3⟩ := xv_and_t h
      have k1 := xw_dvs_ok k1 g2
      have k2 := xw_prove_ok hS k2 ((g2.sub hs).k s)
      rcases Int.lt_or_le d sp' with q | q
      · have := g3 d d0 q d2 z hz
        omega
      · -- the place at the end
        have e : d = sp' := by
          have h1 := Int.mul_ediv_add_emod d s
          have h2 := Int.mul_ediv_add_emod sp' s
          have h3 : s * (d / s) < s * (sp' / s + 1) := by rw [Int.mul_add, Int.mul_one]; omega
          have h4 := Int.lt_of_mul_lt_mul_left h3 (by omega)
          have h5 : s * (sp' / s) ≤ s * (d / s) := by omega
          have h6 := Int.le_of_mul_le_mul_left h5 (by omega)
          have h7 : d / s = sp' / s := by omega
          rw [h7] at h1
          omega
        subst e
        cases hm : xw_mem S.2.2.2.1 r (xw_nm S.1 (xw_add b g.2.2.1)) with
        | none => rw [hm] at k3; cases k3
        | some v =>
          rw [hm] at k3
          obtain ⟨m1, k3⟩ := xv_and_t k3
          obtain ⟨m2, m3⟩ := xv_and_t k3
          obtain ⟨z', n1, n2, n3, n4⟩ := hM.1 _ (xw_mem_ok hm)
          have en := n1.one (xw_nm_ok hS.1 (hb.add g2))
          rw [en] at n3
          obtain ⟨y, ey, hy⟩ := n3.num (xv_ble m1)
          have ez : y = z := by
            have : some y = some z := by rw [← ey, ← hz]
            cases this; rfl
          rw [ez] at hy
          have p1 := xw_prove_ok hS m2 (hy.k _)
          have p2 := xw_prove_ok hS m3 (hy.neg.k _)
          omega
section XWH
variable {hl : Nat × Int} {Γ : xv_A} {t : Nat → ClassId} {X : xw_X} {μ : Nat → Nat → Value} {ws : va_W}
theorem xw_soks_ok {gh : List xw_L} {L : List xw_V} {lz gz : Nat → Int} (hW : xw_Wd hl Γ t X μ ws) : ∀ {sg : List xw_Sg} {S : xw_S} {ρ : Nat → Int} {k : xw_S → Bool}, xw_soks hl Γ gh L sg S k = true → xw_St ρ S → xw_Me X (ws.map Prod.fst) μ ρ S → xw_Lz ρ S.2.1 L lz → xw_Gz ρ S.2.1 gh gz → (∀ g ∈ sg, xw_Sc lz gz μ g) ∧ xw_Rt X (ws.map Prod.fst) μ ρ S (fun _ S' => k S' = true)
  | [], S, ρ, k, h, hS, hM, hL, hG => ⟨fun _ h => (by cases h), ρ, S, h, xw_Up.rf, hS, hM, rfl⟩
  | g :: sg, S, ρ, k, h, hS, hM, hL, hG => by
    have h : xw_tv hl Γ gh L g.2.1 S (fun b S1 => xw_tv hl Γ gh L g.2.2.1 S1 (fun sp S2 => xw_sok S2 g.1 b sp g.2.2.2.1 g.2.2.2.2.1 g.2.2.2.2.2 && xw_soks hl Γ gh L sg S2 k)) = true := h
    obtain ⟨ρ1, S1, ⟨b, h1, hb⟩, u1, hS1, hM1, e1⟩ := xw_tv_ok hW h hS hM hL hG
    obtain ⟨ρ2, S2, ⟨sp, h2, hs⟩, u2, hS2, hM2, e2⟩ := xw_tv_ok hW h1 hS1 hM1 (hL.more u1) (hG.more u1)
    obtain ⟨h3, h4⟩ := xv_and_t h2
    have key := xw_sok_ok hS2 hM2 h3 (hb.more u2) hs
    obtain ⟨g1, g2⟩ := xw_soks_ok hW h4 hS2 hM2 (hL.more (u1.tr u2)) (hG.more (u1.tr u2))
    refine ⟨fun g' hg' => ?_, xw_Rt.tr (u1.tr u2) (e2.trans e1) g2⟩
    rcases List.mem_cons.mp hg' with q | q
    · rw [q]; exact key
    · exact g1 g' q
theorem xw_sadd_ok {gh : List xw_L} {L : List xw_V} {lz gz : Nat → Int} (hW : xw_Wd hl Γ t X μ ws) : ∀ {sg : List xw_Sg} {S : xw_S} {ρ : Nat → Int} {k : xw_S → Bool}, xw_sadd hl Γ gh L sg S k = true → xw_St ρ S → xw_Me X (ws.map Prod.fst) μ ρ S → xw_Lz ρ S.2.1 L lz → xw_Gz ρ S.2.1 gh gz → (∀ g ∈ sg, xw_Sc lz gz μ g) → xw_Rt X (ws.map Prod.fst) μ ρ S (fun _ S' => k S' = true)
  | [], S, ρ, k, h, hS, hM, hL, hG, _ => ⟨ρ, S, h, xw_Up.rf, hS, hM, rfl⟩
  | g :: sg, S, ρ, k, h, hS, hM, hL, hG, hg => by
    have h : xw_tv hl Γ gh L g.2.1 S (fun b S1 => xw_tv hl Γ gh L g.2.2.1 S1 (fun sp S2 => xw_sadd hl Γ gh L sg (S2.1, S2.2.1, S2.2.2.1, S2.2.2.2.1, (g.1, b, sp, g.2.2.2) :: S2.2.2.2.2.1, S2.2.2.2.2.2) k)) = true := h
    obtain ⟨ρ1, S1, ⟨b, h1, hb⟩, u1, hS1, hM1, e1⟩ := xw_tv_ok hW h hS hM hL hG
    obtain ⟨ρ2, S2, ⟨sp, h2, hs⟩, u2, hS2, hM2, e2⟩ := xw_tv_ok hW h1 hS1 hM1 (hL.more u1) (hG.more u1)
    have u := u1.tr u2
    have := xw_sadd_ok hW h2 (ρ := ρ2) hS2 ⟨hM2.1, fun q hq => ?_⟩ (hL.more u) (hG.more u) (fun g' q => hg g' (List.mem_cons_of_mem _ q))
    · exact xw_Rt.tr u (e2.trans e1) this
    · rcases List.mem_cons.mp hq with q | q
      · rw [q]
        exact ⟨_, _, hb.more u2, hs, hg g List.mem_cons_self⟩
      · exact hM2.2 _ q
/-- new variables for what a loop changes -/
theorem xw_hav_ok {as : List Nat} {lvs : List (Nat × Value)} : ∀ {hv : List (Nat × Nat × Nat)} {rs : List (Int × Int)} {L : List xw_V} {S : xw_S} {ρ : Nat → Int} {k : List xw_V → xw_S → Bool}, xw_hav hv rs L S k = true → xw_St ρ S → xw_Me X as μ ρ S → xw_Rg lvs hv rs → xw_uq lvs → xw_DL X as ρ S.2.1 hv L lvs → ∃ ρ' L' S', k L' S' = true ∧ xw_Up ρ S.2.1 ρ' S'.2.1 ∧ xw_St ρ' S' ∧ xw_Me X as μ ρ' S' ∧ xw_lm X as ρ' S'.2.1 L' lvs ∧ S'.2.2.2.2.2.2 = S.2.2.2.2.2.2 ∧ L'.length = L.length
  | [], rs, L, S, ρ, k, h, hS, hM, hR, hU, hD => ⟨ρ, L, S, h, xw_Up.rf, hS, hM, fun i v hi hk => (hD i v hi hk).elim (fun ⟨_, q, _⟩ => (by cases q)) id, rfl, rfl⟩
  | _ :: _, [], _, _, _, _, h, _, _, _, _, _ => by cases h
  | h :: hv, r :: rs, L, S, ρ, k, hk, hS, hM, hR, hU, hD => by
    have hk : (bif Nat.beq h.2.1 9 then xw_hav hv rs (xv_put (9, (0, [])) L h.1) S k else bif Nat.ble h.2.1 1 then xw_fr S r.1 r.2 (fun l S' => xw_hav hv rs (xv_put (h.2.1, xw_scl (Int.ofNat h.2.2) l) L h.1) S' k) else false) = true := hk
    cases h9 : Nat.beq h.2.1 9 with
    | true =>
      rw [h9] at hk
      obtain ⟨ρ', L', S', g1, g2, g3, g4, g5, g6, g7⟩ := xw_hav_ok hk hS hM hR.2 hU (fun i v hi hne => by
        rw [xv_put_eq] at hi
        by_cases e : h.1 = i
        · subst e
          rcases Nat.lt_or_ge h.1 L.length with q | q
          · rw [List.getElem?_set_self q] at hi
            cases hi
            exact absurd hne (by decide)
          · rw [List.getElem?_eq_none (by rw [List.length_set]; exact q)] at hi; cases hi
        · rw [List.getElem?_set_ne e] at hi
          rcases hD i v hi hne with ⟨q, hq, e2⟩ | q
          · rcases List.mem_cons.mp hq with w | w
            · rw [w] at e2; exact absurd e2 e
            · exact Or.inl ⟨q, w, e2⟩
          · exact Or.inr q)
      exact ⟨ρ', L', S', g1, g2, g3, g4, g5, g6, by rw [g7, xv_put_eq, List.length_set]⟩
    | false =>
      rw [h9] at hk
      simp only [cond_false] at hk
      have h9' : h.2.1 ≠ 9 := fun q => by rw [q] at h9; cases h9
      cases h1 : Nat.ble h.2.1 1 with
      | false => rw [h1] at hk; cases hk
      | true =>
        rw [h1] at hk
        simp only [cond_true] at hk
        obtain ⟨x, m, hkind, q, eq, q1, q2⟩ := hR.1 h9'
        obtain ⟨ρ1, l, S1, hk1, u1, hS1, hl1, e1, -⟩ := xw_fr_ok hS hk q1 q2
        have hM1 : xw_Me X as μ ρ1 S1 := xw_OK.up hM u1 (by rw [e1])
        have hx : xw_hv X as ρ1 S1.2.1 (h.2.1, xw_scl (Int.ofNat h.2.2) l) x := by
          have hs := hl1.scl (Int.ofNat h.2.2)
          have e0 : Int.ofNat h.2.2 * q = xw_n0 x := eq.symm
          rw [e0] at hs
          rcases hkind with ⟨w, i, ei⟩ | ⟨w, i, ei⟩
          · rw [ei] at hs ⊢
            rw [w]; exact xw_hv.i hs
          · rw [ei] at hs ⊢
            rw [w]; exact xw_hv.l hs
        obtain ⟨ρ', L', S', g1, g2, g3, g4, g5, g6, g7⟩ := xw_hav_ok hk1 hS1 hM1 hR.2 hU (fun i v hi hne => by
          rw [xv_put_eq] at hi
          by_cases e : h.1 = i
          · subst e
            rcases Nat.lt_or_ge h.1 L.length with q | q
            · rw [List.getElem?_set_self q] at hi
              cases hi
              exact Or.inr ⟨x, m, hx⟩
            · rw [List.getElem?_eq_none (by rw [List.length_set]; exact q)] at hi; cases hi
          · rw [List.getElem?_set_ne e] at hi
            rcases hD i v hi hne with ⟨q, hq, e2⟩ | ⟨y, m2, hy⟩
            · rcases List.mem_cons.mp hq with w | w
              · rw [w] at e2; exact absurd e2 e
              · exact Or.inl ⟨q, w, e2⟩
            · exact Or.inr ⟨y, m2, hy.more u1⟩)
        exact ⟨ρ', L', S', g1, u1.tr g2, g3, g4, g5, by rw [g6, e1], by rw [g7, xv_put_eq, List.length_set]⟩
/-- the state at a head fits what the machine is -/
theorem xw_gen_ok {gh : List xw_L} {gz : Nat → Int} {h : xw_H} {al : xw_Al} {L : List xw_V} {S : xw_S} {ρ : Nat → Int} {lvs : List (Nat × Value)} {k : xw_L → List xw_V → xw_S → Bool} (hW : xw_Wd hl Γ t X μ ws) (hk : xw_gen hl Γ gh h al L S k = true) (hS : xw_St ρ S) (hM : xw_Me X (ws.map Prod.fst) μ ρ S) (hR : xw_Rg lvs h.1 al.1) (hU : xw_uq lvs) (hD : xw_DL X (ws.map Prod.fst) ρ S.2.1 h.1 L lvs) (hG : xw_Gz ρ S.2.1 gh gz) (hg : ∀ g ∈ h.2.2.1, xw_Sc (xw_lz lvs) gz μ g) (hf : ∀ T ∈ al.2.1, 0 ≤ xw_ttz (xw_lz lvs) gz μ T) : ∃ ρ' l L' S', k l L' S' = true ∧ xw_Up ρ S.2.1 ρ' S'.2.1 ∧ xw_St ρ' S' ∧ xw_Me X (ws.map Prod.fst) μ ρ' S' ∧ xw_lm X (ws.map Prod.fst) ρ' S'.2.1 L' lvs ∧ xw_is ρ' S'.2.1 l (xw_ttz (xw_lz lvs) gz μ al.2.2) ∧ S'.2.2.2.2.2.2 = S.2.2.2.2.2.2 ∧ L'.length = L.length := by
  unfold xw_gen at hk
  obtain ⟨ρ1, L1, S1, k1, u1, hS1, hM1, hL1, e1, len1⟩ := xw_hav_ok hk hS hM hR hU hD
  have hz := hL1.lz hU
  obtain ⟨ρ2, S2, k2, u2, hS2, hM2, e2⟩ := xw_sadd_ok hW k1 hS1 hM1 hz (hG.more u1) hg
  obtain ⟨ρ3, S3, k3, u3, hS3, hM3, e3⟩ := xw_tas_ok hW k2 hS2 hM2 (hz.more u2) (hG.more (u1.tr u2)) hf
  obtain ⟨ρ4, S4, ⟨l, k4, hl4⟩, u4, hS4, hM4, e4⟩ := xw_tv_ok hW k3 hS3 hM3 (hz.more (u2.tr u3)) (hG.more ((u1.tr u2).tr u3))
  exact ⟨ρ4, l, L1, S4, k4, ((u1.tr u2).tr u3).tr u4, hS4, hM4, hL1.more ((u2.tr u3).tr u4), hl4, by rw [e4, e3, e2, e1], len1⟩
theorem xw_chk_ok {gh : List xw_L} {gz : Nat → Int} {h : xw_H} {al : xw_Al} {L : List xw_V} {S : xw_S} {ρ : Nat → Int} {lvs : List (Nat × Value)} {fin : xw_S → Bool} (hW : xw_Wd hl Γ t X μ ws) (hk : xw_chk hl Γ gh h al L S fin = true) (hS : xw_St ρ S) (hM : xw_Me X (ws.map Prod.fst) μ ρ S) (hL : xw_lm X (ws.map Prod.fst) ρ S.2.1 L lvs) (hU : xw_uq lvs) (hG : xw_Gz ρ S.2.1 gh gz) : xw_Rg lvs h.1 al.1 ∧ (∀ g ∈ h.2.2.1, xw_Sc (xw_lz lvs) gz μ g) ∧ (∀ T ∈ al.2.1, 0 ≤ xw_ttz (xw_lz lvs) gz μ T) ∧ xw_Rt X (ws.map Prod.fst) μ ρ S (fun _ S' => fin S' = true) := by
  unfold xw_chk at hk
  obtain ⟨h1, h2⟩ := xv_and_t hk
  have hz := hL.lz hU
  obtain ⟨g1, ρ1, S1, k1, u1, hS1, hM1, e1⟩ := xw_soks_ok hW h2 hS hM hz hG
  obtain ⟨g2, ρ2, S2, k2, u2, hS2, hM2, e2⟩ := xw_tpr_ok hW k1 hS1 hM1 (hz.more u1) (hG.more u1)
  exact ⟨xw_rok_ok hS hL h1, g1, g2, ρ2, S2, k2, u1.tr u2, hS2, hM2, e2.trans e1⟩
end XWH
