/-! numbers: what the steps' numbers are -/
/-- k goes on with a form of z, and memo, stretches and what was written are as before -/
def xw_Re (ρ : Nat → Int) (S : xw_S) (k : xw_L → xw_S → Bool) (z : Int) : Prop := ∃ ρ' l S', k l S' = true ∧ xw_Up ρ S.2.1 ρ' S'.2.1 ∧ xw_St ρ' S' ∧ xw_is ρ' S'.2.1 l z ∧ S'.2.2.2.1 = S.2.2.2.1 ∧ S'.2.2.2.2.1 = S.2.2.2.2.1 ∧ S'.2.2.2.2.2.2 = S.2.2.2.2.2.2
theorem xw_Re.me {X : xw_X} {as : List Nat} {μ : Nat → Nat → Value} {ρ ρ' : Nat → Int} {S S' : xw_S} (hM : xw_Me X as μ ρ S) (hu : xw_Up ρ S.2.1 ρ' S'.2.1) (e1 : S'.2.2.2.1 = S.2.2.2.1) (e2 : S'.2.2.2.2.1 = S.2.2.2.2.1) : xw_Me X as μ ρ' S' := by
  unfold xw_Me
  rw [e1, e2]
  exact ⟨hM.1.more hu, hM.2.more hu⟩
theorem xw_Re.here {ρ : Nat → Int} {S : xw_S} {k : xw_L → xw_S → Bool} {l : xw_L} {z : Int} (hS : xw_St ρ S) (h : k l S = true) (hl : xw_is ρ S.2.1 l z) : xw_Re ρ S k z := ⟨ρ, l, S, h, xw_Up.rf, hS, hl, rfl, rfl, rfl⟩
theorem xw_Re.fr {ρ : Nat → Int} {S : xw_S} {lo hi z : Int} {k : xw_L → xw_S → Bool} (hS : xw_St ρ S) (h : xw_fr S lo hi k = true) (h1 : lo ≤ z) (h2 : z ≤ hi) : xw_Re ρ S k z := by
  obtain ⟨ρ', l, S', hk, hu, hS', hl, e, -⟩ := xw_fr_ok hS h h1 h2
  exact ⟨ρ', l, S', hk, hu, hS', hl, by rw [e], by rw [e], by rw [e]⟩
theorem xw_Re.asm {ρ : Nat → Int} {S : xw_S} {k : xw_L → xw_S → Bool} {g l : xw_L} {y z : Int} (hS : xw_St ρ S) (h : xw_asm S g (fun S' => k l S') = true) (hg : xw_is ρ S.2.1 g y) (hy : 0 ≤ y) (hl : xw_is ρ S.2.1 l z) : xw_Re ρ S k z := by
  obtain ⟨S', hk, hS', e1, e2⟩ := xw_asm_ok hS h hg hy
  exact ⟨ρ, l, S', hk, by rw [e1]; exact xw_Up.rf, hS', by rw [e1]; exact hl, by rw [e2], by rw [e2], by rw [e2]⟩
theorem xw_Re.frr {ρ : Nat → Int} {S : xw_S} {lo hi z : Int} {f : Nat → xw_R} {k : xw_L → xw_S → Bool} (hS : xw_St ρ S) (h : xw_frr S lo hi f k = true) (h1 : lo ≤ z) (h2 : z ≤ hi) (hf : ∀ (ρ' : Nat → Int) (n' v : Nat), xw_Up ρ S.2.1 ρ' n' → v < n' → ρ' v = z → xw_Rk ρ' n' (f v)) : xw_Re ρ S k z := by
  unfold xw_frr at h
  obtain ⟨ρ', l, S', hk, hu, hS', hl, e, hc⟩ := xw_fr_ok hS h h1 h2
  rcases hc with hc | ⟨v, rfl, hv, hz⟩
  · rw [hc] at hk
    exact ⟨ρ', l, S', hk, hu, hS', hl, by rw [e], by rw [e], by rw [e]⟩
  · dsimp only at hk
    refine ⟨ρ', _, _, hk, hu, ⟨hS'.1, hS'.2.1, ?_, hS'.2.2.2⟩, hl, by show S'.2.2.2.1 = _; rw [e], by show S'.2.2.2.2.1 = _; rw [e], by show S'.2.2.2.2.2.2 = _; rw [e]⟩
    intro q hq
    rcases List.mem_cons.mp hq with e | hq
    · rw [e]; exact hf ρ' _ v hu hv hz
    · exact hS'.2.2.1 q hq
theorem xw_LH (kd : Nat) : (kd = 0 → xw_L0 kd = -2147483648 ∧ xw_H0 kd = 2147483647) ∧ (kd = 1 → xw_L0 kd = -9223372036854775808 ∧ xw_H0 kd = 9223372036854775807) := ⟨fun e => by subst e; exact ⟨rfl, rfl⟩, fun e => by subst e; exact ⟨rfl, rfl⟩⟩
theorem xw_Re.top {kd : Nat} {ρ : Nat → Int} {S : xw_S} {z : Int} {k : xw_L → xw_S → Bool} (hS : xw_St ρ S) (h : xw_top kd S k = true) (h1 : xw_L0 kd ≤ z) (h2 : z ≤ xw_H0 kd) : xw_Re ρ S k z := xw_Re.fr hS h h1 h2
theorem xw_Re.inr {kd : Nat} {ρ : Nat → Int} {S : xw_S} {a : xw_L} {y z : Int} {k : xw_L → xw_S → Bool} (hS : xw_St ρ S) (h : xw_inr kd S a k = true) (ha : xw_is ρ S.2.1 a y) (he : xw_L0 kd ≤ y → y ≤ xw_H0 kd → z = y) (h1 : xw_L0 kd ≤ z) (h2 : z ≤ xw_H0 kd) : xw_Re ρ S k z := by
  unfold xw_inr at h
  cases hb : (xv_le (xw_L0 kd) (xw_lo S.1 a) && xv_le (xw_hi S.1 a) (xw_H0 kd)) with
  | true =>
    rw [hb] at h
    obtain ⟨b1, b2⟩ := xv_and_t hb
    have b1 := xv_le_iff.mp b1
    have b2 := xv_le_iff.mp b2
    have c1 := xw_lo_ok hS.1 ha
    have c2 := xw_hi_ok hS.1 ha
    rw [he (by omega) (by omega)]
    exact xw_Re.here hS h ha
  | false => rw [hb] at h; exact xw_Re.top hS h h1 h2
theorem xw_r0 (x : Int32) : xw_L0 0 ≤ x.toInt ∧ x.toInt ≤ xw_H0 0 := xv_i32 x
theorem xw_r1 (x : Int64) : xw_L0 1 ≤ x.toInt ∧ x.toInt ≤ xw_H0 1 := xv_i64 x
theorem xw_Re.inw {ρ : Nat → Int} {S : xw_S} {a : xw_L} {y z : Int} {k : xw_L → xw_S → Bool} (hS : xw_St ρ S) (h : xw_inw S a k = true) (ha : xw_is ρ S.2.1 a y) (he : z = y.bmod (2 ^ 32)) (h1 : -2147483648 ≤ z) (h2 : z ≤ 2147483647) : xw_Re ρ S k z := by
  unfold xw_inw at h
  cases hb : (xv_le (-2147483648) (xw_lo S.1 a) && xv_le (xw_hi S.1 a) 2147483647) with
  | true =>
    rw [hb] at h
    obtain ⟨b1, b2⟩ := xv_and_t hb
    have b1 := xv_le_iff.mp b1
    have b2 := xv_le_iff.mp b2
    have c1 := xw_lo_ok hS.1 ha
    have c2 := xw_hi_ok hS.1 ha
    rw [he, Int.bmod_eq_of_le (by omega) (by omega)]
    exact xw_Re.here hS h ha
  | false =>
    rw [hb] at h
    simp only [cond_false] at h
    exact xw_Re.frr hS h h1 h2 (fun ρ' n' v hu hv hz => ⟨hv, y, y, ha.more hu, ha.more hu, fun w => (by cases w), fun w => (by cases w), fun w => (by cases w), fun w => (by cases w), fun w => (by cases w), fun w => (by cases w), fun _ => hz.trans he, fun w => (by cases w)⟩)
theorem xw_bm0 {y : Int} (h1 : xw_L0 0 ≤ y) (h2 : y ≤ xw_H0 0) : y.bmod (2 ^ 32) = y := by
  have h1 : -2147483648 ≤ y := h1
  have h2 : y ≤ 2147483647 := h2
  exact Int.bmod_eq_of_le (by omega) (by omega)
theorem xw_bm1 {y : Int} (h1 : xw_L0 1 ≤ y) (h2 : y ≤ xw_H0 1) : y.bmod (2 ^ 64) = y := by
  have h1 : -9223372036854775808 ≤ y := h1
  have h2 : y ≤ 9223372036854775807 := h2
  exact Int.bmod_eq_of_le (by omega) (by omega)
theorem xw_rec_ok {p : xw_R → Bool} {q : xw_R} : ∀ {R : List xw_R}, xw_rec R p = some q → q ∈ R ∧ p q = true
  | [], h => by cases h
  | a :: R, h => by
    have h : (bif p a then some a else xw_rec R p) = some q := h
    cases hb : p a with
    | true => rw [hb] at h; cases h; exact ⟨List.mem_cons_self, hb⟩
    | false =>
      rw [hb] at h
      obtain ⟨h1, h2⟩ := xw_rec_ok (R := R) h
      exact ⟨List.mem_cons_of_mem _ h1, h2⟩
theorem xw_lin {a b x y : Int} (h1 : a ≤ x) (h2 : x ≤ b) : (x * y ≤ a * y ∨ x * y ≤ b * y) ∧ (a * y ≤ x * y ∨ b * y ≤ x * y) := by
  rcases Int.le_total 0 y with q | q
  · exact ⟨Or.inr (Int.mul_le_mul_of_nonneg_right h2 q), Or.inl (Int.mul_le_mul_of_nonneg_right h1 q)⟩
  · exact ⟨Or.inl (Int.mul_le_mul_of_nonpos_right h1 q), Or.inr (Int.mul_le_mul_of_nonpos_right h2 q)⟩
theorem xw_box {a b c d x y : Int} (h1 : a ≤ x) (h2 : x ≤ b) (h3 : c ≤ y) (h4 : y ≤ d) : xw_min (xw_min (a * c) (a * d)) (xw_min (b * c) (b * d)) ≤ x * y ∧ x * y ≤ xw_max (xw_max (a * c) (a * d)) (xw_max (b * c) (b * d)) := by
  obtain ⟨l1, l2⟩ := xw_lin (y := y) h1 h2
  obtain ⟨m1, m2⟩ := xw_lin (y := a) h3 h4
  obtain ⟨n1, n2⟩ := xw_lin (y := b) h3 h4
  rw [Int.mul_comm y a, Int.mul_comm c a, Int.mul_comm d a] at m1 m2
  rw [Int.mul_comm y b, Int.mul_comm c b, Int.mul_comm d b] at n1 n2
  obtain ⟨p1, p2, -⟩ := xw_min_ok (a * c) (a * d)
  obtain ⟨p3, p4, -⟩ := xw_min_ok (b * c) (b * d)
  obtain ⟨p5, p6, -⟩ := xw_min_ok (xw_min (a * c) (a * d)) (xw_min (b * c) (b * d))
  obtain ⟨r1, r2, -⟩ := xw_max_ok (a * c) (a * d)
  obtain ⟨r3, r4, -⟩ := xw_max_ok (b * c) (b * d)
  obtain ⟨r5, r6, -⟩ := xw_max_ok (xw_max (a * c) (a * d)) (xw_max (b * c) (b * d))
  generalize a * c = ac at *
  generalize a * d = ad at *
  generalize b * c = bc at *
  generalize b * d = bd at *
  generalize a * y = ay at *
  generalize b * y = b_y at *
  generalize x * y = xy at *
  omega
theorem xw_lo1_ok {ρ : Nat → Int} {S : xw_S} {a : xw_L} {x : Int} (hS : xw_St ρ S) (ha : xw_is ρ S.2.1 a x) : xw_lo1 S a ≤ x := by
  unfold xw_lo1
  have := xw_lo_ok hS.1 ha
  cases xv_le 1 (xw_lo S.1 a) with
  | true => exact this
  | false =>
    simp only [cond_false]
    cases hb : xw_prove S (xw_k a (-1)) with
    | false => exact this
    | true => have := xw_prove_ok hS hb (ha.k (-1)); simp only [cond_true]; omega
theorem xw_Re.mul {kd : Nat} {ρ : Nat → Int} {S : xw_S} {a b : xw_L} {x y z : Int} {k : xw_L → xw_S → Bool} (hS : xw_St ρ S) (h : xw_mul kd S a b k = true) (ha : xw_is ρ S.2.1 a x) (hb : xw_is ρ S.2.1 b y) (he : xw_L0 kd ≤ x * y → x * y ≤ xw_H0 kd → z = x * y) (h1 : xw_L0 kd ≤ z) (h2 : z ≤ xw_H0 kd) : xw_Re ρ S k z := by
  unfold xw_mul at h
  match e1 : a.2, h with
  | [], h =>
    dsimp only at h
    have ea : x = a.1 := by
      have : a.1 + xw_evl ρ a.2 = x := ha.2
      rw [e1] at this
      have : a.1 + 0 = x := this
      omega
    exact xw_Re.inr hS h (hb.scl a.1) (fun q1 q2 => by rw [← ea] at q1 q2 ⊢; exact he q1 q2) h1 h2
  | t1 :: l1, h =>
    dsimp only at h
    match e2 : b.2, h with
    | [], h =>
      dsimp only at h
      have eb : y = b.1 := by
        have : b.1 + xw_evl ρ b.2 = y := hb.2
        rw [e2] at this
        have : b.1 + 0 = y := this
        omega
      refine xw_Re.inr hS h (ha.scl b.1) (fun q1 q2 => ?_) h1 h2
      rw [← eb, Int.mul_comm] at q1 q2 ⊢
      exact he q1 q2
    | t2 :: l2, h =>
      dsimp only at h
      cases hr : xw_rec S.2.2.2.2.2.1 (fun q => Nat.beq q.1 3 && (xw_eqL q.2.2.1 a && xw_eqL q.2.2.2 b)) with
      | some q =>
        rw [hr] at h
        obtain ⟨m1, m2⟩ := xw_rec_ok hr
        obtain ⟨m2, m3⟩ := xv_and_t m2
        obtain ⟨m3, m4⟩ := xv_and_t m3
        obtain ⟨hv, x', y', hx', hy', -, -, -, h3⟩ := hS.2.2.1 q m1
        rw [xw_eqL_ok m3] at hx'
        rw [xw_eqL_ok m4] at hy'
        have ex := ha.one hx'
        have ey := hb.one hy'
        have := xw_is.v (ρ := ρ) hv
        rw [h3.1 (xv_beq m2), ← ex, ← ey] at this
        exact xw_Re.inr hS h this he h1 h2
      | none =>
        rw [hr] at h
        dsimp only at h
        unfold xw_mul2 at h
        obtain ⟨b1, b2⟩ := xw_box (xw_lo1_ok hS ha) (xw_hi_ok hS.1 ha) (xw_lo1_ok hS hb) (xw_hi_ok hS.1 hb)
        generalize hmin : xw_min (xw_min (xw_lo1 S a * xw_lo1 S b) (xw_lo1 S a * xw_hi S.1 b)) (xw_min (xw_hi S.1 a * xw_lo1 S b) (xw_hi S.1 a * xw_hi S.1 b)) = mn at *
        generalize hmax : xw_max (xw_max (xw_lo1 S a * xw_lo1 S b) (xw_lo1 S a * xw_hi S.1 b)) (xw_max (xw_hi S.1 a * xw_lo1 S b) (xw_hi S.1 a * xw_hi S.1 b)) = mx at *
        cases hc : (xv_le (xw_L0 kd) mn && xv_le mx (xw_H0 kd)) with
        | false => rw [hc] at h; exact xw_Re.top hS h h1 h2
        | true =>
          rw [hc] at h
          obtain ⟨c1, c2⟩ := xv_and_t hc
          have c1 := xv_le_iff.mp c1
          have c2 := xv_le_iff.mp c2
          have ez := he (by omega) (by omega)
          rw [ez]
          simp only [cond_true] at h
          refine xw_Re.frr hS h b1 b2 (fun ρ' n' v hu hv hz => ⟨hv, x, y, ha.more hu, hb.more hu, fun q => ?_, fun q => ?_, fun q => ?_, fun _ => hz, fun q => ?_, fun q => ?_, fun q => ?_, fun q => ?_⟩) <;> cases q
/-! bits -/
theorem xw_nn {x : Int32} (h : 0 ≤ x.toInt) : x.toInt = (x.toBitVec.toNat : Int) ∧ x.toBitVec.toNat < 2 ^ 31 := by
  have hy : x.toInt = (x.toBitVec.toNat : Int) := by
    show x.toBitVec.toInt = _
    have h' : 0 ≤ x.toBitVec.toInt := h
    rw [BitVec.toInt_eq_toNat_cond] at h' ⊢
    split
    · rfl
    · rename_i q
      rw [if_neg q] at h'
      have := x.toBitVec.isLt
      omega
  refine ⟨hy, ?_⟩
  have := Int32.toInt_lt x
  rw [hy] at this
  omega
theorem xw_bn {x : Int32} {n : Nat} (h : x.toBitVec.toNat = n) (hn : n < 2 ^ 31) : x.toInt = (n : Int) := by
  show x.toBitVec.toInt = _
  rw [BitVec.toInt_eq_toNat_cond, if_pos (by omega), h]
theorem xw_bits_ok {m : Int} {n : Nat} (h : (n : Int) ≤ m) : ∃ p : Nat, n < 2 ^ p ∧ xw_bits m = ((2 ^ p - 1 : Nat) : Int) ∧ ∀ n' : Nat, (n' : Int) ≤ m → n' < 2 ^ p := by
  unfold xw_bits
  cases m with
  | negSucc q => have : Int.negSucc q < 0 := Int.negSucc_lt_zero q; omega
  | ofNat q =>
    dsimp only
    have hq : ∀ n' : Nat, (n' : Int) ≤ Int.ofNat q → n' ≤ q := fun n' h => Int.ofNat_le.mp h
    cases hb : Nat.beq q 0 with
    | true =>
      have hb := xv_beq hb
      subst hb
      refine ⟨0, ?_, rfl, fun n' h' => ?_⟩
      · have := hq n h; simp; omega
      · have := hq n' h'; simp; omega
    | false =>
      refine ⟨Nat.log2 q + 1, ?_, rfl, fun n' h' => ?_⟩
      · exact Nat.lt_of_le_of_lt (hq n h) Nat.lt_log2_self
      · exact Nat.lt_of_le_of_lt (hq n' h') Nat.lt_log2_self
theorem xw_or_val {x y : Int32} (hx : 0 ≤ x.toInt) (hy : 0 ≤ y.toInt) {m : Int} (h1 : x.toInt ≤ m) (h2 : y.toInt ≤ m) : x.toInt ≤ (x ||| y).toInt ∧ y.toInt ≤ (x ||| y).toInt ∧ (x ||| y).toInt ≤ xw_bits m := by
  obtain ⟨e1, l1⟩ := xw_nn hx
  obtain ⟨e2, l2⟩ := xw_nn hy
  have eo : (x ||| y).toBitVec.toNat = x.toBitVec.toNat ||| y.toBitVec.toNat := by rw [Int32.toBitVec_or, BitVec.toNat_or]
  have e3 := xw_bn eo (Nat.or_lt_two_pow l1 l2)
  rw [e3, e1, e2]
  rw [e1] at h1
  rw [e2] at h2
  obtain ⟨p, p1, p2, p3⟩ := xw_bits_ok h1
  have p4 := p3 _ h2
  have p5 := Nat.or_lt_two_pow p1 p4
  rw [p2]
  have q1 : x.toBitVec.toNat ≤ x.toBitVec.toNat ||| y.toBitVec.toNat := Nat.left_le_or
  have q2 : y.toBitVec.toNat ≤ x.toBitVec.toNat ||| y.toBitVec.toNat := Nat.right_le_or
  omega
theorem xw_xor_val {x y : Int32} (hx : 0 ≤ x.toInt) (hy : 0 ≤ y.toInt) {m : Int} (h1 : x.toInt ≤ m) (h2 : y.toInt ≤ m) : 0 ≤ (x ^^^ y).toInt ∧ (x ^^^ y).toInt ≤ xw_bits m := by
  obtain ⟨e1, l1⟩ := xw_nn hx
  obtain ⟨e2, l2⟩ := xw_nn hy
  have eo : (x ^^^ y).toBitVec.toNat = x.toBitVec.toNat ^^^ y.toBitVec.toNat := by rw [Int32.toBitVec_xor, BitVec.toNat_xor]
  have e3 := xw_bn eo (Nat.xor_lt_two_pow l1 l2)
  rw [e3]
  rw [e1] at h1
  rw [e2] at h2
  obtain ⟨p, p1, p2, p3⟩ := xw_bits_ok h1
  have p4 := p3 _ h2
  have p5 := Nat.xor_lt_two_pow p1 p4
  rw [p2]
  omega
theorem xw_sm : ∀ k, k < 32 → ((nI k &&& 31).toBitVec.smod 32).toNat = k := by decide +kernel
theorem xw_um : ∀ k, k < 32 → (((nI k).toUInt32 &&& Int32.toUInt32 31).toBitVec % 32).toNat = k := by decide +kernel
theorem xw_ofI {y : Int32} {k : Nat} (h : y.toInt = (k : Int)) (hk : k < 2 ^ 31) : y = nI k := by
  apply Int32.toInt_inj.mp
  rw [h, nI_toInt (by omega)]
theorem xw_shl_val {x y : Int32} (hx : 0 ≤ x.toInt) (hy : 0 ≤ y.toInt) (h31 : y.toInt ≤ 31) (h : x.toInt * 2 ^ y.toInt.toNat ≤ 2147483647) : (x <<< (y &&& 31)).toInt = x.toInt * 2 ^ y.toInt.toNat := by
  obtain ⟨e1, l1⟩ := xw_nn hx
  have hk : y.toInt = ((y.toInt.toNat : Nat) : Int) := (Int.toNat_of_nonneg hy).symm
  have ey := xw_ofI hk (by omega)
  have es := xw_sm y.toInt.toNat (by omega)
  rw [← ey] at es
  have e2 := pk_shl x (y &&& 31) _ es
  have e3 : ((x.toBitVec.toNat * 2 ^ y.toInt.toNat : Nat) : Int) = x.toInt * 2 ^ y.toInt.toNat := by rw [e1]; simp
  have e4 : x.toBitVec.toNat * 2 ^ y.toInt.toNat < 2 ^ 31 := by omega
  rw [Nat.mod_eq_of_lt (by omega)] at e2
  rw [xw_bn e2 e4, e3]
theorem xw_shr_val {x y : Int32} (hx : 0 ≤ x.toInt) (hy : 0 ≤ y.toInt) (h31 : y.toInt ≤ 31) : (x >>> (y &&& 31)).toInt = x.toInt / 2 ^ y.toInt.toNat := by
  have hk : y.toInt = ((y.toInt.toNat : Nat) : Int) := (Int.toNat_of_nonneg hy).symm
  have ey := xw_ofI hk (by omega)
  have es := xw_sm y.toInt.toNat (by omega)
  rw [← ey] at es
  rw [pk_shr x (y &&& 31) _ es, Int.shiftRight_eq_div_pow]
  simp
