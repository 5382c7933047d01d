/-! what forms are -/
def xw_evl (ρ : Nat → Int) : List (Nat × Int) → Int
  | [] => 0
  | t :: l => t.2 * ρ t.1 + xw_evl ρ l
def xw_ev (ρ : Nat → Int) (a : xw_L) : Int := a.1 + xw_evl ρ a.2
def xw_wfl (n : Nat) : List (Nat × Int) → Prop
  | [] => True
  | t :: l => t.1 < n ∧ xw_wfl n l
def xw_is (ρ : Nat → Int) (n : Nat) (a : xw_L) (z : Int) : Prop := xw_wfl n a.2 ∧ xw_ev ρ a = z
theorem xw_ieq_iff {a b : Int} : xw_ieq a b = true ↔ a = b := by
  unfold xw_ieq
  constructor
  · intro h
    cases hs : a - b with
    | ofNat n =>
      rw [hs] at h
      have := xv_beq h
      subst this
      have e : a - b = 0 := hs
      omega
    | negSucc n => rw [hs] at h; cases h
  · intro h
    subst h
    rw [Int.sub_self]
    rfl
theorem xw_ieq_f {a b : Int} (h : xw_ieq a b = false) : a ≠ b := fun e => by
  rw [xw_ieq_iff.mpr e] at h; cases h
theorem xw_orl_ok {α : Type} {p : α → Bool} : ∀ {l : List α}, xw_orl p l = true → ∃ a ∈ l, p a = true
  | [], h => by cases h
  | a :: l, h => by
    have h : (p a || xw_orl p l) = true := h
    rcases (Bool.or_eq_true _ _).mp h with h | h
    · exact ⟨a, List.mem_cons_self, h⟩
    · obtain ⟨b, hb, hp⟩ := xw_orl_ok h
      exact ⟨b, List.mem_cons_of_mem _ hb, hp⟩
theorem xw_anl_ok {α : Type} {p : α → Bool} : ∀ {l : List α}, xw_anl p l = true → ∀ a ∈ l, p a = true
  | [], _, a, ha => by cases ha
  | b :: l, h, a, ha => by
    have h : (p b && xw_anl p l) = true := h
    obtain ⟨h1, h2⟩ := xv_and_t h
    rcases List.mem_cons.mp ha with e | ha
    · rw [e]; exact h1
    · exact xw_anl_ok h2 a ha
theorem xw_fil_mem {α : Type} {p : α → Bool} : ∀ {l : List α} {a : α}, a ∈ xw_fil p l → a ∈ l ∧ p a = true
  | [], a, h => by cases h
  | b :: l, a, h => by
    have h : a ∈ (bif p b then b :: xw_fil p l else xw_fil p l) := h
    cases hb : p b with
    | true =>
      rw [hb] at h
      rcases List.mem_cons.mp h with e | h
      · rw [e]; exact ⟨List.mem_cons_self, hb⟩
      · exact ⟨List.mem_cons_of_mem _ (xw_fil_mem h).1, (xw_fil_mem h).2⟩
    | false =>
      rw [hb] at h
      exact ⟨List.mem_cons_of_mem _ (xw_fil_mem h).1, (xw_fil_mem h).2⟩
theorem xw_ins_ok (ρ : Nat → Int) (n : Nat) (t : Nat × Int) : ∀ l : List (Nat × Int), xw_evl ρ (xw_ins t l) = t.2 * ρ t.1 + xw_evl ρ l ∧ (t.1 < n → xw_wfl n l → xw_wfl n (xw_ins t l))
  | [] => ⟨rfl, fun h _ => ⟨h, True.intro⟩⟩
  | h :: l => by
    obtain ⟨ih1, ih2⟩ := xw_ins_ok ρ n t l
    have e : xw_ins t (h :: l) = bif Nat.beq h.1 t.1 then (bif xw_ieq (h.2 + t.2) 0 then l else (h.1, h.2 + t.2) :: l) else bif Nat.ble t.1 h.1 then t :: h :: l else h :: xw_ins t l := rfl
    rw [e]
    cases hb : Nat.beq h.1 t.1 with
    | true =>
      have hb := xv_beq hb
      simp only [cond_true]
      cases hz : xw_ieq (h.2 + t.2) 0 with
      | true =>
        have hz := xw_ieq_iff.mp hz
        simp only [cond_true]
        refine ⟨?_, fun _ h2 => h2.2⟩
        show _ = t.2 * ρ t.1 + (h.2 * ρ h.1 + xw_evl ρ l)
        have : h.2 * ρ t.1 + t.2 * ρ t.1 = 0 := by rw [← Int.add_mul, hz, Int.zero_mul]
        rw [hb]
        omega
      | false =>
        simp only [cond_false]
        refine ⟨?_, fun h1 h2 => ⟨by show h.1 < n; omega, h2.2⟩⟩
        show (h.2 + t.2) * ρ h.1 + xw_evl ρ l = t.2 * ρ t.1 + (h.2 * ρ h.1 + xw_evl ρ l)
        rw [hb, Int.add_mul]
        omega
    | false =>
      simp only [cond_false]
      cases hc : Nat.ble t.1 h.1 with
      | true => exact ⟨rfl, fun h1 h2 => ⟨h1, h2⟩⟩
      | false =>
        simp only [cond_false]
        refine ⟨?_, fun h1 h2 => ⟨h2.1, ih2 h1 h2.2⟩⟩
        show h.2 * ρ h.1 + xw_evl ρ (xw_ins t l) = t.2 * ρ t.1 + (h.2 * ρ h.1 + xw_evl ρ l)
        rw [ih1]
        omega
theorem xw_addl_ok (ρ : Nat → Int) (n : Nat) (l : List (Nat × Int)) : ∀ m : List (Nat × Int), xw_evl ρ (List.rec (motive := fun _ => List (Nat × Int)) l (fun t _ ih => xw_ins t ih) m) = xw_evl ρ l + xw_evl ρ m ∧ (xw_wfl n l → xw_wfl n m → xw_wfl n (List.rec (motive := fun _ => List (Nat × Int)) l (fun t _ ih => xw_ins t ih) m))
  | [] => ⟨(Int.add_zero _).symm, fun h _ => h⟩
  | t :: m => by
    obtain ⟨h1, h2⟩ := xw_addl_ok ρ n l m
    refine ⟨?_, fun h3 h4 => (xw_ins_ok ρ n t _).2 h4.1 (h2 h3 h4.2)⟩
    show xw_evl ρ (xw_ins t _) = xw_evl ρ l + (t.2 * ρ t.1 + xw_evl ρ m)
    rw [(xw_ins_ok ρ n t _).1, h1]
    omega
theorem xw_is.add {ρ : Nat → Int} {n : Nat} {a b : xw_L} {x y : Int} (h1 : xw_is ρ n a x) (h2 : xw_is ρ n b y) : xw_is ρ n (xw_add a b) (x + y) := by
  obtain ⟨e, w⟩ := xw_addl_ok ρ n a.2 b.2
  refine ⟨w h1.1 h2.1, ?_⟩
  have e : xw_evl ρ (xw_add a b).2 = xw_evl ρ a.2 + xw_evl ρ b.2 := e
  have e1 : a.1 + xw_evl ρ a.2 = x := h1.2
  have e2 : b.1 + xw_evl ρ b.2 = y := h2.2
  show a.1 + b.1 + xw_evl ρ (xw_add a b).2 = _
  omega
theorem xw_scll_ok (ρ : Nat → Int) (n : Nat) (k : Int) : ∀ l : List (Nat × Int), xw_evl ρ (List.rec (motive := fun _ => List (Nat × Int)) [] (fun t _ ih => (t.1, k * t.2) :: ih) l) = k * xw_evl ρ l ∧ (xw_wfl n l → xw_wfl n (List.rec (motive := fun _ => List (Nat × Int)) [] (fun t _ ih => (t.1, k * t.2) :: ih) l))
  | [] => ⟨(Int.mul_zero k).symm, fun h => h⟩
  | t :: l => by
    obtain ⟨h1, h2⟩ := xw_scll_ok ρ n k l
    refine ⟨?_, fun h => ⟨h.1, h2 h.2⟩⟩
    show k * t.2 * ρ t.1 + xw_evl ρ _ = k * (t.2 * ρ t.1 + xw_evl ρ l)
    rw [h1, Int.mul_add, Int.mul_assoc]
theorem xw_is.scl {ρ : Nat → Int} {n : Nat} {a : xw_L} {x : Int} (k : Int) (h : xw_is ρ n a x) : xw_is ρ n (xw_scl k a) (k * x) := by
  unfold xw_scl
  cases hz : xw_ieq k 0 with
  | true =>
    have hz := xw_ieq_iff.mp hz
    subst hz
    simp only [cond_true, Int.zero_mul]
    exact ⟨True.intro, rfl⟩
  | false =>
    simp only [cond_false]
    obtain ⟨e, w⟩ := xw_scll_ok ρ n k a.2
    refine ⟨w h.1, ?_⟩
    unfold xw_ev
    dsimp only
    rw [e, ← h.2]
    unfold xw_ev
    rw [Int.mul_add]
theorem xw_is.neg {ρ : Nat → Int} {n : Nat} {a : xw_L} {x : Int} (h : xw_is ρ n a x) : xw_is ρ n (xw_neg a) (-x) := by
  have := h.scl (-1)
  rw [show (-1 : Int) * x = -x by omega] at this
  exact this
theorem xw_is.sub {ρ : Nat → Int} {n : Nat} {a b : xw_L} {x y : Int} (h1 : xw_is ρ n a x) (h2 : xw_is ρ n b y) : xw_is ρ n (xw_sub a b) (x - y) := by
  have := h1.add h2.neg
  rw [show x + -y = x - y by omega] at this
  exact this
theorem xw_is.k {ρ : Nat → Int} {n : Nat} {a : xw_L} {x : Int} (c : Int) (h : xw_is ρ n a x) : xw_is ρ n (xw_k a c) (x + c) := by
  refine ⟨h.1, ?_⟩
  show a.1 + c + xw_evl ρ a.2 = _
  rw [← h.2]
  unfold xw_ev
  omega
theorem xw_is.c {ρ : Nat → Int} {n : Nat} (c : Int) : xw_is ρ n (c, []) c := ⟨True.intro, Int.add_zero c⟩
theorem xw_is.v {ρ : Nat → Int} {n v : Nat} (h : v < n) : xw_is ρ n (0, [(v, 1)]) (ρ v) := ⟨⟨h, True.intro⟩, by show (0 : Int) + (1 * ρ v + 0) = ρ v; omega⟩
theorem xw_is.one {ρ : Nat → Int} {n : Nat} {a : xw_L} {x y : Int} (h1 : xw_is ρ n a x) (h2 : xw_is ρ n a y) : x = y := h1.2.symm.trans h2.2
theorem xw_evl_more {ρ ρ' : Nat → Int} {n : Nat} (hu : ∀ v, v < n → ρ' v = ρ v) : ∀ {l : List (Nat × Int)}, xw_wfl n l → xw_evl ρ' l = xw_evl ρ l
  | [], _ => rfl
  | t :: l, h => by
    show t.2 * ρ' t.1 + xw_evl ρ' l = _
    rw [hu t.1 h.1, xw_evl_more hu h.2]
    rfl
theorem xw_wfl_more {n n' : Nat} (hn : n ≤ n') : ∀ {l : List (Nat × Int)}, xw_wfl n l → xw_wfl n' l
  | [], _ => True.intro
  | _ :: _, h => ⟨Nat.lt_of_lt_of_le h.1 hn, xw_wfl_more hn h.2⟩
def xw_Up (ρ : Nat → Int) (n : Nat) (ρ' : Nat → Int) (n' : Nat) : Prop := n ≤ n' ∧ ∀ v, v < n → ρ' v = ρ v
theorem xw_Up.rf {ρ : Nat → Int} {n : Nat} : xw_Up ρ n ρ n := ⟨Nat.le_refl _, fun _ _ => rfl⟩
theorem xw_Up.tr {ρ ρ' ρ'' : Nat → Int} {n n' n'' : Nat} (h1 : xw_Up ρ n ρ' n') (h2 : xw_Up ρ' n' ρ'' n'') : xw_Up ρ n ρ'' n'' := ⟨Nat.le_trans h1.1 h2.1, fun v hv => (h2.2 v (Nat.lt_of_lt_of_le hv h1.1)).trans (h1.2 v hv)⟩
theorem xw_is.more {ρ ρ' : Nat → Int} {n n' : Nat} {a : xw_L} {z : Int} (hu : xw_Up ρ n ρ' n') (h : xw_is ρ n a z) : xw_is ρ' n' a z := by
  refine ⟨xw_wfl_more hu.1 h.1, ?_⟩
  rw [← h.2]
  unfold xw_ev
  rw [xw_evl_more hu.2 h.1]
theorem xw_eqt_ok : ∀ {l m : List (Nat × Int)}, xw_eqt l m = true → l = m
  | [], [], _ => rfl
  | [], _ :: _, h => by cases h
  | _ :: _, [], h => by cases h
  | t :: l, u :: m, h => by
    have h : (Nat.beq t.1 u.1 && (xw_ieq t.2 u.2 && xw_eqt l m)) = true := h
    obtain ⟨h1, h⟩ := xv_and_t h
    obtain ⟨h2, h3⟩ := xv_and_t h
    rw [xw_eqt_ok h3, show t = u from Prod.ext (xv_beq h1) (xw_ieq_iff.mp h2)]
theorem xw_eqL_ok {a b : xw_L} (h : xw_eqL a b = true) : a = b := by
  obtain ⟨h1, h2⟩ := xv_and_t h
  exact Prod.ext (xw_ieq_iff.mp h1) (xw_eqt_ok h2)
theorem xw_eqV_ok {a b : xw_V} (h : xw_eqV a b = true) : a = b := by
  obtain ⟨h1, h2⟩ := xv_and_t h
  exact Prod.ext (xv_beq h1) (xw_eqL_ok h2)
/-! intervals -/
def xw_En (ρ : Nat → Int) (n : Nat) (E : xw_N) : Prop := ∀ v, v < n → (xw_e E v).1 ≤ ρ v ∧ ρ v ≤ (xw_e E v).2
theorem xw_lol_ok {ρ : Nat → Int} {n : Nat} {E : xw_N} (hE : xw_En ρ n E) (c : Int) : ∀ {l : List (Nat × Int)}, xw_wfl n l → List.rec (motive := fun _ => Int) c (fun t _ ih => ih + (bif xv_le 0 t.2 then t.2 * (xw_e E t.1).1 else t.2 * (xw_e E t.1).2)) l ≤ c + xw_evl ρ l
  | [], _ => Int.le_of_eq (Int.add_zero c).symm
  | t :: l, h => by
    have ih := xw_lol_ok hE c h.2
    obtain ⟨h1, h2⟩ := hE t.1 h.1
    show _ + (bif xv_le 0 t.2 then t.2 * (xw_e E t.1).1 else t.2 * (xw_e E t.1).2) ≤ c + (t.2 * ρ t.1 + xw_evl ρ l)
    cases hb : xv_le 0 t.2 with
    | true =>
      have := Int.mul_le_mul_of_nonneg_left h1 (xv_le_iff.mp hb)
      simp only [cond_true]
      omega
    | false =>
      have := Int.mul_le_mul_of_nonpos_left (Int.le_of_lt (xv_le_f hb)) h2
      simp only [cond_false]
      omega
theorem xw_hil_ok {ρ : Nat → Int} {n : Nat} {E : xw_N} (hE : xw_En ρ n E) (c : Int) : ∀ {l : List (Nat × Int)}, xw_wfl n l → c + xw_evl ρ l ≤ List.rec (motive := fun _ => Int) c (fun t _ ih => ih + (bif xv_le 0 t.2 then t.2 * (xw_e E t.1).2 else t.2 * (xw_e E t.1).1)) l
  | [], _ => Int.le_of_eq (Int.add_zero c)
  | t :: l, h => by
    have ih := xw_hil_ok hE c h.2
    obtain ⟨h1, h2⟩ := hE t.1 h.1
    show c + (t.2 * ρ t.1 + xw_evl ρ l) ≤ _ + (bif xv_le 0 t.2 then t.2 * (xw_e E t.1).2 else t.2 * (xw_e E t.1).1)
    cases hb : xv_le 0 t.2 with
    | true =>
      have := Int.mul_le_mul_of_nonneg_left h2 (xv_le_iff.mp hb)
      simp only [cond_true]
      omega
    | false =>
      have := Int.mul_le_mul_of_nonpos_left (Int.le_of_lt (xv_le_f hb)) h1
      simp only [cond_false]
      omega
theorem xw_lo_ok {ρ : Nat → Int} {n : Nat} {E : xw_N} {a : xw_L} {z : Int} (hE : xw_En ρ n E) (h : xw_is ρ n a z) : xw_lo E a ≤ z := by
  rw [← h.2]; exact xw_lol_ok hE a.1 h.1
theorem xw_hi_ok {ρ : Nat → Int} {n : Nat} {E : xw_N} {a : xw_L} {z : Int} (hE : xw_En ρ n E) (h : xw_is ρ n a z) : z ≤ xw_hi E a := by
  rw [← h.2]; exact xw_hil_ok hE a.1 h.1
def xw_Fk (ρ : Nat → Int) (n : Nat) (F : List xw_L) : Prop := ∀ f ∈ F, ∃ z, xw_is ρ n f z ∧ 0 ≤ z
theorem xw_chain_ok {ρ : Nat → Int} {n : Nat} {E : xw_N} {F : List xw_L} (hE : xw_En ρ n E) (hF : xw_Fk ρ n F) : ∀ (d : Nat) {g : xw_L} {z : Int}, xw_chain E F d g = true → xw_is ρ n g z → 0 ≤ z
  | 0, g, z, h, hg => by
    have h : xv_le 0 (xw_lo E g) = true := h
    have := xv_le_iff.mp h
    have := xw_lo_ok hE hg
    omega
  | d + 1, g, z, h, hg => by
    have h : (xv_le 0 (xw_lo E g) || List.rec (motive := fun _ => Bool) false (fun t _ more => bif xw_orl (fun f => xv_le 1 (xw_q t.2 (xw_cf f.2 t.1))) F then
      xw_orl (fun f => xv_le 1 (xw_q t.2 (xw_cf f.2 t.1)) && xw_chain E F d (xw_sub g (xw_scl (xw_q t.2 (xw_cf f.2 t.1)) f))) F else more) (xw_rev g.2)) = true := h
    rcases (Bool.or_eq_true _ _).mp h with h | h
    · have := xv_le_iff.mp h
      have := xw_lo_ok hE hg
      omega
    · generalize xw_rev g.2 = l at h
      induction l with
      | nil => cases h
      | cons t l ih =>
        dsimp only at h
        cases hc : xw_orl (fun f => xv_le 1 (xw_q t.2 (xw_cf f.2 t.1))) F with
        | false => rw [hc] at h; exact ih h
        | true =>
          rw [hc] at h
          obtain ⟨f, hf, hp⟩ := xw_orl_ok h
          obtain ⟨hq, hp⟩ := xv_and_t hp
          have hq := xv_le_iff.mp hq
          obtain ⟨y, hy, h0⟩ := hF f hf
          have := xw_chain_ok hE hF d hp (hg.sub (hy.scl _))
          have hm := Int.mul_nonneg (show (0 : Int) ≤ xw_q t.2 (xw_cf f.2 t.1) by omega) h0
          omega
