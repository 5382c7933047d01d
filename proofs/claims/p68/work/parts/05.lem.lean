/-! lists, intervals -/
theorem xv_nth_eq {α : Type} (l : List α) : ∀ n : Nat, xv_nth l n = l[n]? := by
  induction l with
  | nil => intro n; simp [xv_nth]
  | cons a l ih =>
    intro n
    cases n with
    | zero => rfl
    | succ k => exact (ih k).trans (by simp)
theorem xv_put_eq {α : Type} (v : α) (l : List α) : ∀ n : Nat, xv_put v l n = l.set n v := by
  induction l with
  | nil => intro n; rfl
  | cons a l ih =>
    intro n
    cases n with
    | zero => rfl
    | succ k => exact congrArg (List.cons a) (ih k)
theorem xv_get_eq {α : Type} (R : Nat) (ll : List (List α)) (i : Nat) : xv_get R ll i = (ll[i / R]?).bind (fun l => l[i % R]?) := by
  unfold xv_get
  rw [xv_nth_eq]
  cases ll[i / R]? with
  | none => rfl
  | some l => exact xv_nth_eq l _
theorem xv_get_upd {α : Type} {R : Nat} {ll : List (List α)} {i j : Nat} {v c : α} (h : xv_get R (xv_upd R ll i v) j = some c) : (j = i ∧ c = v) ∨ (j ≠ i ∧ xv_get R ll j = some c) := by
  rw [xv_get_eq] at h ⊢
  unfold xv_upd at h
  rw [xv_nth_eq] at h
  cases hl : ll[i / R]? with
  | none =>
    rw [hl] at h
    refine Or.inr ⟨fun e => ?_, h⟩
    subst e
    dsimp only at h
    rw [hl] at h
    cases h
  | some l =>
    rw [hl] at h
    dsimp only at h
    rw [xv_put_eq, xv_put_eq] at h
    by_cases hd : i / R = j / R
    · by_cases hm : i % R = j % R
      · have e : j = i := by rw [← Nat.div_add_mod i R, ← Nat.div_add_mod j R, hd, hm]
        subst e
        refine Or.inl ⟨rfl, ?_⟩
        have hlt : j / R < ll.length := (List.getElem?_eq_some_iff.mp hl).1
        rw [List.getElem?_set_self hlt] at h
        simp only [Option.bind_some] at h
        obtain ⟨h1, h2⟩ := List.getElem?_eq_some_iff.mp h
        simpa using h2.symm
      · refine Or.inr ⟨fun e => hm (by rw [e]), ?_⟩
        have hlt : i / R < ll.length := (List.getElem?_eq_some_iff.mp hl).1
        rw [← hd, List.getElem?_set_self hlt] at h
        simp only [Option.bind_some] at h
        rw [List.getElem?_set_ne hm] at h
        rw [← hd, hl]
        exact h
    · refine Or.inr ⟨fun e => hd (by rw [e]), ?_⟩
      rw [List.getElem?_set_ne hd] at h
      exact h
theorem xv_le_iff {a b : Int} : xv_le a b = true ↔ a ≤ b := by
  unfold xv_le
  constructor
  · intro h
    cases hs : b - a with
    | ofNat n => have : (0 : Int) ≤ Int.ofNat n := Int.natCast_nonneg n; omega
    | negSucc n => rw [hs] at h; cases h
  · intro h
    cases hs : b - a with
    | ofNat n => rfl
    | negSucc n => have : Int.negSucc n < 0 := Int.negSucc_lt_zero n; omega
theorem xv_le_f {a b : Int} (h : xv_le a b = false) : b < a := by
  rcases Int.lt_or_le b a with q | q
  · exact q
  · rw [xv_le_iff.mpr q] at h; cases h
theorem xv_bt {b : Bool} {α : Type} {x : Option α} {r : α} (h : (bif b then x else none) = some r) : b = true ∧ x = some r := by
  cases b with
  | true => exact ⟨rfl, h⟩
  | false => cases h
theorem xv_and_t {a b : Bool} (h : (a && b) = true) : a = true ∧ b = true := by simpa using h
theorem xv_beq {a b : Nat} (h : Nat.beq a b = true) : a = b := Nat.eq_of_beq_eq_true h
theorem xv_ble {a b : Nat} (h : Nat.ble a b = true) : a ≤ b := Nat.le_of_ble_eq_true h
theorem xv_i32 (x : Int32) : -2147483648 ≤ x.toInt ∧ x.toInt ≤ 2147483647 := by
  have h1 := Int32.le_toInt x
  have h2 := Int32.toInt_lt x
  omega
theorem xv_i64 (x : Int64) : -9223372036854775808 ≤ x.toInt ∧ x.toInt ≤ 9223372036854775807 := by
  have h1 := Int64.le_toInt x
  have h2 := Int64.toInt_lt x
  omega
theorem xv_int_ok {x : Int32} {lo hi z : Int} (h1 : lo ≤ z) (h2 : z ≤ hi) (hz : x.toInt = z.bmod (2 ^ 32)) : (xv_int lo hi).1 = 0 ∧ (xv_int lo hi).2.1 ≤ x.toInt ∧ x.toInt ≤ (xv_int lo hi).2.2 := by
  unfold xv_int
  cases hb : (xv_le (-2147483648) lo && xv_le hi 2147483647) with
  | true =>
    obtain ⟨q1, q2⟩ := xv_and_t hb
    have q1 := xv_le_iff.mp q1
    have q2 := xv_le_iff.mp q2
    have e : z.bmod (2 ^ 32) = z := Int.bmod_eq_of_le (by omega) (by omega)
    rw [e] at hz
    exact ⟨rfl, by show lo ≤ _; omega, by show _ ≤ hi; omega⟩
  | false => exact ⟨rfl, (xv_i32 x).1, (xv_i32 x).2⟩
theorem xv_lng_ok {x : Int64} {lo hi z : Int} (h1 : lo ≤ z) (h2 : z ≤ hi) (hz : x.toInt = z.bmod (2 ^ 64)) : (xv_lng lo hi).1 = 1 ∧ (xv_lng lo hi).2.1 ≤ x.toInt ∧ x.toInt ≤ (xv_lng lo hi).2.2 := by
  unfold xv_lng
  cases hb : (xv_le (-9223372036854775808) lo && xv_le hi 9223372036854775807) with
  | true =>
    obtain ⟨q1, q2⟩ := xv_and_t hb
    have q1 := xv_le_iff.mp q1
    have q2 := xv_le_iff.mp q2
    have e : z.bmod (2 ^ 64) = z := Int.bmod_eq_of_le (by omega) (by omega)
    rw [e] at hz
    exact ⟨rfl, by show lo ≤ _; omega, by show _ ≤ hi; omega⟩
  | false => exact ⟨rfl, (xv_i64 x).1, (xv_i64 x).2⟩
/-! what a value is -/
def xv_hv (sb : Nat) (as : List Nat) (v : xv_V) (x : Value) : Prop :=
  (v.1 = 0 → ∃ i : Int32, x = .int i ∧ v.2.1 ≤ i.toInt ∧ i.toInt ≤ v.2.2) ∧ (v.1 = 1 → ∃ i : Int64, x = .long i ∧ v.2.1 ≤ i.toInt ∧ i.toInt ≤ v.2.2) ∧ (v.1 = 2 → ∃ a, as[v.2.1.toNat]? = some a ∧ x = .ref a) ∧ (v.1 = 3 → x = .null) ∧ (v.1 = 5 → x = .ref sb)
theorem xv_hv.i {sb : Nat} {as : List Nat} {v : xv_V} {x : Int32} (h : v.1 = 0 ∧ v.2.1 ≤ x.toInt ∧ x.toInt ≤ v.2.2) : xv_hv sb as v (.int x) :=
  ⟨fun _ => ⟨x, rfl, h.2⟩, fun q => (by omega), fun q => (by omega), fun q => (by omega), fun q => (by omega)⟩
theorem xv_hv.l {sb : Nat} {as : List Nat} {v : xv_V} {x : Int64} (h : v.1 = 1 ∧ v.2.1 ≤ x.toInt ∧ x.toInt ≤ v.2.2) : xv_hv sb as v (.long x) :=
  ⟨fun q => (by omega), fun _ => ⟨x, rfl, h.2⟩, fun q => (by omega), fun q => (by omega), fun q => (by omega)⟩
theorem xv_hv.r {sb : Nat} {as : List Nat} {n a : Nat} (h : as[n]? = some a) : xv_hv sb as (2, Int.ofNat n, 0) (.ref a) :=
  ⟨fun q => (by cases q), fun q => (by cases q), fun _ => ⟨a, h, rfl⟩, fun q => (by cases q), fun q => (by cases q)⟩
theorem xv_hv.more {sb : Nat} {as as' : List Nat} {v : xv_V} {x : Value} (hp : ∀ (n a : Nat), as[n]? = some a → as'[n]? = some a) (h : xv_hv sb as v x) : xv_hv sb as' v x :=
  ⟨h.1, h.2.1, fun q => (h.2.2.1 q).elim fun a ha => ⟨a, hp _ _ ha.1, ha.2⟩, h.2.2.2⟩
def xv_known (v : xv_V) : Prop := v.1 = 0 ∨ v.1 = 1 ∨ v.1 = 2 ∨ v.1 = 3 ∨ v.1 = 5
theorem xv_cat1 {sb : Nat} {as : List Nat} {v : xv_V} {x : Value} (h : xv_hv sb as v x) (hk : xv_known v) (h1 : v.1 ≠ 1) : x.category = 1 := by
  rcases hk with q | q | q | q | q
  · obtain ⟨i, rfl, -⟩ := h.1 q; rfl
  · exact absurd q h1
  · obtain ⟨a, -, rfl⟩ := h.2.2.1 q; rfl
  · rw [h.2.2.2.1 q]; rfl
  · rw [h.2.2.2.2 q]; rfl
theorem xv_hv.join {sb : Nat} {as : List Nat} {u v : xv_V} {x : Value} (huv : u.1 = v.1) (hv1 : v.1 ≤ 1) (h : xv_hv sb as u x ∨ xv_hv sb as v x) : xv_hv sb as (xv_join u v) x := by
  have e1 : (xv_join u v).2.1 ≤ u.2.1 ∧ (xv_join u v).2.1 ≤ v.2.1 := by
    unfold xv_join
    cases hb : xv_le u.2.1 v.2.1 with
    | true => have := xv_le_iff.mp hb; exact ⟨Int.le_refl _, this⟩
    | false => have := xv_le_f hb; exact ⟨Int.le_of_lt this, Int.le_refl _⟩
  have e2 : u.2.2 ≤ (xv_join u v).2.2 ∧ v.2.2 ≤ (xv_join u v).2.2 := by
    unfold xv_join
    cases hb : xv_le u.2.2 v.2.2 with
    | true => have := xv_le_iff.mp hb; exact ⟨this, Int.le_refl _⟩
    | false => have := xv_le_f hb; exact ⟨Int.le_refl _, Int.le_of_lt this⟩
  have e0 : (xv_join u v).1 = u.1 := rfl
  have e0' : (xv_join u v).1 = v.1 := huv
  rcases h with h | h
  · rcases Nat.le_one_iff_eq_zero_or_eq_one.mp hv1 with q | q
    · obtain ⟨i, rfl, h1, h2⟩ := h.1 (huv.trans q)
      exact xv_hv.i ⟨e0'.trans q, by omega, by omega⟩
    · obtain ⟨i, rfl, h1, h2⟩ := h.2.1 (huv.trans q)
      exact xv_hv.l ⟨e0'.trans q, by omega, by omega⟩
  · rcases Nat.le_one_iff_eq_zero_or_eq_one.mp hv1 with q | q
    · obtain ⟨i, rfl, h1, h2⟩ := h.1 q
      exact xv_hv.i ⟨e0'.trans q, by omega, by omega⟩
    · obtain ⟨i, rfl, h1, h2⟩ := h.2.1 q
      exact xv_hv.l ⟨e0'.trans q, by omega, by omega⟩
/-! what the locals are -/
def xv_lm (sb : Nat) (as : List Nat) (L : List xv_V) (ls : Array Slot) (nL : Nat) : Prop := L.length = nL ∧ ∃ lv : List (Nat × Value), lv_has ls nL lv ∧ ∀ (i : Nat) (v : xv_V), L[i]? = some v → xv_known v → ∃ x, (i, x) ∈ lv ∧ xv_hv sb as v x
theorem xv_lm.more {sb : Nat} {as as' : List Nat} {L : List xv_V} {ls : Array Slot} {nL : Nat} (hp : ∀ (n a : Nat), as[n]? = some a → as'[n]? = some a) (h : xv_lm sb as L ls nL) : xv_lm sb as' L ls nL := by
  obtain ⟨h1, lv, h2, h3⟩ := h
  exact ⟨h1, lv, h2, fun i v hi hk => (h3 i v hi hk).elim fun x hx => ⟨x, hx.1, hx.2.more hp⟩⟩
theorem xv_lm.at {sb : Nat} {as : List Nat} {L : List xv_V} {ls : Array Slot} {nL : Nat} (h : xv_lm sb as L ls nL) {i : Nat} {v : xv_V} (hi : L[i]? = some v) (hk : xv_known v) : ∃ x, ls[i]? = some (.val x) ∧ xv_hv sb as v x := by
  obtain ⟨h1, lv, h2, h3⟩ := h
  obtain ⟨x, hm, hv⟩ := h3 i v hi hk
  exact ⟨x, h2.2.2 (i, x) hm, hv⟩
theorem xv_cl1_get {L : List xv_V} {i j : Nat} {w : xv_V} (hj : j ≠ i) (h : (xv_cl1 L i)[j]? = some w) (hk : xv_known w) : L[j]? = some w ∧ (j + 1 = i → w.1 ≠ 1) := by
  unfold xv_cl1 at h
  cases i with
  | zero => exact ⟨h, fun q => by omega⟩
  | succ i =>
    dsimp only at h
    rw [xv_nth_eq] at h
    cases hl : L[i]? with
    | none =>
      rw [hl] at h
      refine ⟨h, fun q => ?_⟩
      have e : j = i := by omega
      subst e
      rw [hl] at h; cases h
    | some v =>
      rw [hl] at h
      dsimp only at h
      cases hb : Nat.beq v.1 1 with
      | true =>
        rw [hb] at h
        simp only [cond_true] at h
        rw [xv_put_eq] at h
        by_cases e : i = j
        · subst e
          have hlt : i < L.length := (List.getElem?_eq_some_iff.mp hl).1
          rw [List.getElem?_set_self hlt] at h
          cases h
          rcases hk with q | q | q | q | q <;> cases q
        · rw [List.getElem?_set_ne e] at h
          exact ⟨h, fun q => by omega⟩
      | false =>
        rw [hb] at h
        simp only [cond_false] at h
        refine ⟨h, fun q q1 => ?_⟩
        have e : j = i := by omega
        subst e
        rw [hl] at h; cases h
        rw [q1] at hb; cases hb
theorem xv_cl1_len (L : List xv_V) (i : Nat) : (xv_cl1 L i).length = L.length := by
  unfold xv_cl1
  cases i with
  | zero => rfl
  | succ i =>
    dsimp only
    cases xv_nth L i with
    | none => rfl
    | some v =>
      dsimp only
      cases Nat.beq v.1 1 with
      | true => simp [xv_put_eq]
      | false => rfl
theorem xv_lm.st1 {sb : Nat} {as : List Nat} {L : List xv_V} {nL : Nat} {i : Nat} {v : xv_V} {x : Value} (hi : i < nL) (hx : xv_hv sb as v x) {lv : List (Nat × Value)} (h0 : L.length = nL) (h3 : ∀ (i : Nat) (v : xv_V), L[i]? = some v → xv_known v → ∃ x, (i, x) ∈ lv ∧ xv_hv sb as v x)
    {ls' : Array Slot} (h : lv_has ls' nL ((i, x) :: lv.filter (fun q => !(q.1 == i) && !(q.1 + 1 == i && q.2.category == 2)))) : xv_lm sb as (xv_st1 L i v) ls' nL := by
  refine ⟨by unfold xv_st1; rw [xv_put_eq, List.length_set, xv_cl1_len]; exact h0, _, h, fun j w hj hk => ?_⟩
  unfold xv_st1 at hj
  rw [xv_put_eq] at hj
  by_cases e : i = j
  · subst e
    rw [List.getElem?_set_self (by rw [xv_cl1_len, h0]; exact hi)] at hj
    cases hj
    exact ⟨x, List.mem_cons_self, hx⟩
  · rw [List.getElem?_set_ne e] at hj
    obtain ⟨h4, h5⟩ := xv_cl1_get (fun q => e q.symm) hj hk
    obtain ⟨y, hy, hv⟩ := h3 j w h4 hk
    refine ⟨y, List.mem_cons_of_mem _ (List.mem_filter.mpr ⟨hy, ?_⟩), hv⟩
    have e1 : (j == i) = false := by simp; omega
    simp only [e1, Bool.not_false, Bool.true_and, Bool.not_eq_true', Bool.and_eq_false_iff, beq_eq_false_iff_ne]
    by_cases q : j + 1 = i
    · right
      rw [xv_cat1 hv hk (h5 q)]; decide
    · left; exact q
