/-! bits, quotients, conditions -/
theorem xw_bit_ok {ρ : Nat → Int} {S : xw_S} {a : xw_L} {x b : Int} {t : Nat} (hS : xw_St ρ S) (h : xw_bit S a t b = true) (ha : xw_is ρ S.2.1 a x) : t < S.2.1 ∧ ∃ y : Nat, ρ t = 2 ^ y ∧ x / 2 ^ y % 2 = b := by
  unfold xw_bit at h
  cases hr : xw_rec S.2.2.2.2.2.1 (fun q => Nat.beq q.1 0 && Nat.beq q.2.1 t) with
  | none => rw [hr] at h; cases h
  | some p =>
    rw [hr] at h
    dsimp only at h
    obtain ⟨m1, m2⟩ := xw_rec_ok hr
    obtain ⟨m2, m3⟩ := xv_and_t m2
    obtain ⟨hv, y, y2, hy, -, h0, -⟩ := hS.2.2.1 p m1
    obtain ⟨y0, h0⟩ := h0 (xv_beq m2)
    rw [xv_beq m3] at hv h0
    cases hr2 : xw_rec S.2.2.2.2.2.1 (fun q => Nat.beq q.1 2 && (xw_eqL q.2.2.1 a && (xw_eqL q.2.2.2 p.2.2.1 && (xv_le b (xw_e S.1 q.2.1).1 && xv_le (xw_e S.1 q.2.1).2 b)))) with
    | none => rw [hr2] at h; cases h
    | some q =>
      obtain ⟨g1, g2⟩ := xw_rec_ok hr2
      obtain ⟨g2, g3⟩ := xv_and_t g2
      obtain ⟨g3, g4⟩ := xv_and_t g3
      obtain ⟨g4, g5⟩ := xv_and_t g4
      obtain ⟨g5, g6⟩ := xv_and_t g5
      obtain ⟨hw, x', y', hx', hy', -, -, h2, -⟩ := hS.2.2.1 q g1
      obtain ⟨x0, y0', h2⟩ := h2 (xv_beq g2)
      rw [xw_eqL_ok g3] at hx'
      rw [xw_eqL_ok g4] at hy'
      have ex := ha.one hx'
      have ey := hy.one hy'
      obtain ⟨e1, e2⟩ := hS.1 q.2.1 hw
      have g5 := xv_le_iff.mp g5
      have g6 := xv_le_iff.mp g6
      refine ⟨hv, y.toNat, h0, ?_⟩
      rw [ex, ey, ← h2]
      omega
theorem xw_tb {x : Int32} {y : Nat} {b : Int} (hx : 0 ≤ x.toInt) (h : x.toInt / 2 ^ y % 2 = b) : x.toBitVec.getLsbD y = decide (b = 1) := by
  obtain ⟨e1, l1⟩ := xw_nn hx
  rw [← BitVec.testBit_toNat, Nat.testBit_eq_decide_div_mod_eq]
  rw [e1] at h
  have e : ((x.toBitVec.toNat / 2 ^ y % 2 : Nat) : Int) = b := by
    rw [← h]; simp
  have : (x.toBitVec.toNat / 2 ^ y % 2 = 1) ↔ b = 1 := by
    rw [← e]; omega
  exact decide_eq_decide.mpr this
theorem xw_pw {t : Int32} {y : Nat} (h : t.toInt = 2 ^ y) : y < 31 ∧ t.toBitVec = BitVec.twoPow 32 y := by
  have h0 : 0 ≤ t.toInt := by rw [h]; exact Int.le_of_lt (Int.pow_pos (by decide))
  obtain ⟨e1, l1⟩ := xw_nn h0
  have e2 : t.toBitVec.toNat = 2 ^ y := by
    have : ((t.toBitVec.toNat : Nat) : Int) = ((2 ^ y : Nat) : Int) := by rw [← e1, h]; simp
    exact Int.ofNat_inj.mp this
  have hy : y < 31 := by
    rw [e2] at l1
    exact (Nat.pow_lt_pow_iff_right (by decide)).mp l1
  refine ⟨hy, BitVec.eq_of_toNat_eq ?_⟩
  rw [e2, BitVec.toNat_twoPow_of_lt (by omega)]
theorem xw_orbit {x t : Int32} {y : Nat} (hx : 0 ≤ x.toInt) (ht : t.toInt = 2 ^ y) (h : x.toInt / 2 ^ y % 2 = 0) : (x ||| t).toInt = x.toInt + t.toInt := by
  obtain ⟨hy, et⟩ := xw_pw ht
  have hb := xw_tb hx h
  have h0 : 0 ≤ t.toInt := by rw [ht]; exact Int.le_of_lt (Int.pow_pos (by decide))
  have hz : x.toBitVec &&& t.toBitVec = 0#32 := by
    rw [et, BitVec.and_twoPow, hb]; rfl
  have e1 : (x ||| t).toBitVec = x.toBitVec + t.toBitVec := by
    rw [Int32.toBitVec_or, BitVec.add_eq_or_of_and_eq_zero _ _ hz]
  obtain ⟨a1, a2⟩ := xw_nn hx
  obtain ⟨b1, b2⟩ := xw_nn h0
  have eo : (x ||| t).toBitVec.toNat = x.toBitVec.toNat ||| t.toBitVec.toNat := by rw [Int32.toBitVec_or, BitVec.toNat_or]
  have lo : (x ||| t).toBitVec.toNat < 2 ^ 31 := by rw [eo]; exact Nat.or_lt_two_pow a2 b2
  have e2 : (x ||| t).toBitVec.toNat = x.toBitVec.toNat + t.toBitVec.toNat := by
    rw [e1, BitVec.toNat_add]
    exact Nat.mod_eq_of_lt (by omega)
  rw [xw_bn e2 (by omega), a1, b1]
  simp
theorem xw_anbit {x z : Int32} {y : Nat} (hx : 0 ≤ x.toInt) (hz : z.toInt = -1 - 2 ^ y) (h : x.toInt / 2 ^ y % 2 = 1) : (x &&& z).toInt = x.toInt - 2 ^ y ∧ 0 ≤ x.toInt - (2 : Int) ^ y := by
  have hn : (~~~z).toInt = 2 ^ y := by
    have hz0 := xv_i32 z
    rw [Int32.toInt_not]
    have : -z.toInt - 1 = 2 ^ y := by omega
    rw [this]
    have : (0 : Int) < 2 ^ y := Int.pow_pos (by decide)
    exact Int.bmod_eq_of_le (by omega) (by omega)
  obtain ⟨hy, et⟩ := xw_pw hn
  have hb := xw_tb hx h
  have ez : z.toBitVec = ~~~(BitVec.twoPow 32 y) := by
    rw [← et, Int32.toBitVec_not, BitVec.not_not]
  obtain ⟨a1, a2⟩ := xw_nn hx
  have e0 : (x &&& z).toBitVec &&& BitVec.twoPow 32 y = 0#32 := by
    rw [Int32.toBitVec_and, ez]
    apply BitVec.eq_of_getLsbD_eq
    intro i hi
    simp only [BitVec.getLsbD_and, BitVec.getLsbD_not, BitVec.getLsbD_zero]
    cases (BitVec.twoPow 32 y).getLsbD i <;> simp
  have e1 : (x &&& z).toBitVec + BitVec.twoPow 32 y = x.toBitVec := by
    rw [BitVec.add_eq_or_of_and_eq_zero _ _ e0, Int32.toBitVec_and, ez]
    apply BitVec.eq_of_getLsbD_eq
    intro i hi
    simp only [BitVec.getLsbD_or, BitVec.getLsbD_and, BitVec.getLsbD_not, BitVec.getLsbD_twoPow]
    by_cases q : y = i
    · subst q
      rw [hb]; simp; omega
    · simp [q, hi]
  have hle : (x &&& z).toBitVec.toNat ≤ x.toBitVec.toNat := by
    rw [Int32.toBitVec_and, BitVec.toNat_and]; exact Nat.and_le_left
  have e2 : (x &&& z).toBitVec.toNat + 2 ^ y = x.toBitVec.toNat := by
    have := congrArg BitVec.toNat e1
    rw [BitVec.toNat_add, BitVec.toNat_twoPow_of_lt (by omega)] at this
    have hp : 2 ^ y < 2 ^ 31 := (Nat.pow_lt_pow_iff_right (by decide)).mpr hy
    rw [Nat.mod_eq_of_lt (by omega)] at this
    exact this
  have e3 : ((2 ^ y : Nat) : Int) = (2 : Int) ^ y := by simp
  rw [xw_bn (n := (x &&& z).toBitVec.toNat) rfl (by omega), a1, ← e3]
  omega
theorem xw_sv_ok {ρ : Nat → Int} {n : Nat} {a : xw_L} {x : Int} {v : Nat} (h : xw_sv a = some v) (ha : xw_is ρ n a x) : x = ρ v ∧ v < n := by
  unfold xw_sv at h
  match e : a.2, h with
  | [], h => cases h
  | _ :: _ :: _, h => cases h
  | [t], h =>
    dsimp only at h
    obtain ⟨b, h⟩ := xv_bt h
    obtain ⟨b1, b2⟩ := xv_and_t b
    cases h
    have b1 := xw_ieq_iff.mp b1
    have b2 := xw_ieq_iff.mp b2
    have hw := ha.1
    have hv : a.1 + xw_evl ρ a.2 = x := ha.2
    rw [e] at hw hv
    have hv : a.1 + (t.2 * ρ t.1 + 0) = x := hv
    rw [b2] at hv
    exact ⟨by omega, hw.1⟩
theorem xw_cv_ok {ρ : Nat → Int} {n : Nat} {a : xw_L} {x : Int} {v : Nat} (h : xw_cv a = some v) (ha : xw_is ρ n a x) : x = -1 - ρ v ∧ v < n := by
  unfold xw_cv at h
  match e : a.2, h with
  | [], h => cases h
  | _ :: _ :: _, h => cases h
  | [t], h =>
    dsimp only at h
    obtain ⟨b, h⟩ := xv_bt h
    obtain ⟨b1, b2⟩ := xv_and_t b
    cases h
    have b1 := xw_ieq_iff.mp b1
    have b2 := xw_ieq_iff.mp b2
    have hw := ha.1
    have hv : a.1 + xw_evl ρ a.2 = x := ha.2
    rw [e] at hw hv
    have hv : a.1 + (t.2 * ρ t.1 + 0) = x := hv
    rw [b2] at hv
    exact ⟨by omega, hw.1⟩
theorem xw_Re.and2 {ρ : Nat → Int} {S : xw_S} {a b : xw_L} {x y : Int32} {k : xw_L → xw_S → Bool} (hS : xw_St ρ S) (h : xw_and2 S a b k = true) (ha : xw_is ρ S.2.1 a x.toInt) (hb : xw_is ρ S.2.1 b y.toInt) : xw_Re ρ S k (x &&& y).toInt := by
  unfold xw_and2 at h
  have a1 := xw_lo_ok hS.1 ha
  have a2 := xw_hi_ok hS.1 ha
  have b1 := xw_lo_ok hS.1 hb
  have b2 := xw_hi_ok hS.1 hb
  have hx : 0 ≤ x.toInt → 0 ≤ (x &&& y).toInt ∧ (x &&& y).toInt ≤ x.toInt := fun q => by rw [Int32.and_comm]; exact xv_and_ok y x q
  have hrk : ∀ (ρ' : Nat → Int) (n' v : Nat), xw_Up ρ S.2.1 ρ' n' → v < n' → ρ' v = (x &&& y).toInt → xw_Rk ρ' n' (4, v, a, b) := fun ρ' n' v hu hv hz => ⟨hv, x.toInt, y.toInt, ha.more hu, hb.more hu, fun w => (by cases w), fun w => (by cases w), fun w => (by cases w), fun w => (by cases w), fun _ => ⟨x, y, rfl, rfl, hz⟩, fun w => (by cases w), fun w => (by cases w), fun w => (by cases w)⟩
  cases h1 : xv_le 0 (xw_lo S.1 b) with
  | true =>
    have h1' := xv_le_iff.mp h1
    rw [h1] at h
    simp only [cond_true] at h
    have hy := xv_and_ok x y (by omega)
    cases h2 : xv_le 0 (xw_lo S.1 a) with
    | true =>
      have h2' := xv_le_iff.mp h2
      rw [h2] at h
      simp only [cond_true] at h
      have hx := hx (by omega)
      obtain ⟨-, -, m⟩ := xw_min_ok (xw_hi S.1 a) (xw_hi S.1 b)
      exact xw_Re.frr hS h hy.1 (by omega) hrk
    | false =>
      rw [h2] at h
      simp only [cond_false] at h
      exact xw_Re.frr hS h hy.1 (by omega) hrk
  | false =>
    rw [h1] at h
    simp only [cond_false] at h
    cases h2 : xv_le 0 (xw_lo S.1 a) with
    | true =>
      have h2' := xv_le_iff.mp h2
      rw [h2] at h
      simp only [cond_true] at h
      have hx := hx (by omega)
      exact xw_Re.frr hS h hx.1 (by omega) hrk
    | false => rw [h2] at h; exact xw_Re.top hS h (xw_r0 _).1 (xw_r0 _).2
theorem xw_Re.and {ρ : Nat → Int} {S : xw_S} {a b : xw_L} {x y : Int32} {k : xw_L → xw_S → Bool} (hS : xw_St ρ S) (h : xw_and S a b k = true) (ha : xw_is ρ S.2.1 a x.toInt) (hb : xw_is ρ S.2.1 b y.toInt) : xw_Re ρ S k (x &&& y).toInt := by
  unfold xw_and at h
  have a1 := xw_lo_ok hS.1 ha
  cases hc : xw_cv b with
  | some t =>
    rw [hc] at h
    dsimp only at h
    cases hq : (xv_le 0 (xw_lo S.1 a) && xw_bit S a t 1) with
    | false => rw [hq] at h; exact xw_Re.and2 hS h ha hb
    | true =>
      rw [hq] at h
      simp only [cond_true] at h
      obtain ⟨q1, q2⟩ := xv_and_t hq
      have q1 := xv_le_iff.mp q1
      obtain ⟨ht, p, p1, p2⟩ := xw_bit_ok hS q2 ha
      obtain ⟨ey, -⟩ := xw_cv_ok hc hb
      obtain ⟨r1, r2⟩ := xw_anbit (x := x) (z := y) (y := p) (by omega) (by rw [ey, p1]) p2
      have hl := ha.sub (xw_is.v (ρ := ρ) ht)
      rw [r1]
      rw [p1] at hl
      exact xw_Re.asm hS h hl r2 hl
  | none =>
    rw [hc] at h
    dsimp only at h
    cases hq : xw_eqL b (1, []) with
    | false => rw [hq] at h; exact xw_Re.and2 hS h ha hb
    | true =>
      rw [hq] at h
      simp only [cond_true] at h
      cases hs : xw_sv a with
      | none => rw [hs] at h; exact xw_Re.and2 hS h ha hb
      | some u =>
        rw [hs] at h
        dsimp only at h
        cases hr : xw_rec S.2.2.2.2.2.1 (fun q => Nat.beq q.1 1 && Nat.beq q.2.1 u) with
        | none => rw [hr] at h; exact xw_Re.and2 hS h ha hb
        | some q =>
          rw [hr] at h
          dsimp only at h
          obtain ⟨m1, m2⟩ := xw_rec_ok hr
          obtain ⟨m2, m3⟩ := xv_and_t m2
          obtain ⟨-, x', y', hx', hy', -, h1, -, -⟩ := hS.2.2.1 q m1
          obtain ⟨x0, y0, h1⟩ := h1 (xv_beq m2)
          rw [xv_beq m3] at h1
          obtain ⟨eu, -⟩ := xw_sv_ok hs ha
          have eb := xw_eqL_ok hq
          rw [eb] at hb
          have ey : y.toInt = 1 := (xw_is.c 1).one hb |>.symm
          have ey : y = 1 := by apply Int32.toInt_inj.mp; rw [ey]; decide
          subst ey
          have hxn : 0 ≤ x.toInt := by
            rw [eu, h1]
            exact Int.ediv_nonneg x0 (Int.le_of_lt (Int.pow_pos (by decide)))
          have ev : (x &&& 1).toInt = x.toInt % 2 := by
            obtain ⟨e1, l1⟩ := xw_nn hxn
            have e2 : (x &&& 1).toBitVec.toNat = x.toBitVec.toNat % 2 := by
              rw [Int32.toBitVec_and, BitVec.toNat_and, show (1 : Int32).toBitVec.toNat = 1 by decide, Nat.and_one_is_mod]
            rw [xw_bn e2 (by omega), e1]; simp
          rw [ev]
          refine xw_Re.frr hS h (by omega) (by omega) (fun ρ' n' v hu hv hz => ⟨hv, x', y', hx'.more hu, hy'.more hu, fun w => ?_, fun w => ?_, fun _ => ⟨x0, y0, ?_⟩, fun w => ?_, fun w => ?_, fun w => ?_, fun w => ?_, fun w => ?_⟩)
          · cases w
          · cases w
          · show ρ' v = _
            rw [hz, eu, h1]
          · cases w
          · cases w
          · cases w
          · cases w
          · cases w
theorem xw_Re.or2 {ρ : Nat → Int} {S : xw_S} {a b : xw_L} {x y : Int32} {k : xw_L → xw_S → Bool} (hS : xw_St ρ S) (h : xw_or2 S a b k = true) (ha : xw_is ρ S.2.1 a x.toInt) (hb : xw_is ρ S.2.1 b y.toInt) : xw_Re ρ S k (x ||| y).toInt := by
  unfold xw_or2 at h
  have a1 := xw_lo_ok hS.1 ha
  have a2 := xw_hi_ok hS.1 ha
  have b1 := xw_lo_ok hS.1 hb
  have b2 := xw_hi_ok hS.1 hb
  cases hq : (xv_le 0 (xw_lo S.1 a) && xv_le 0 (xw_lo S.1 b)) with
  | false => rw [hq] at h; exact xw_Re.top hS h (xw_r0 _).1 (xw_r0 _).2
  | true =>
    rw [hq] at h
    simp only [cond_true] at h
    obtain ⟨q1, q2⟩ := xv_and_t hq
    have q1 := xv_le_iff.mp q1
    have q2 := xv_le_iff.mp q2
    obtain ⟨m1, m2, -⟩ := xw_max_ok (xw_hi S.1 a) (xw_hi S.1 b)
    obtain ⟨v1, v2, v3⟩ := xw_or_val (x := x) (y := y) (by omega) (by omega) (m := xw_max (xw_hi S.1 a) (xw_hi S.1 b)) (by omega) (by omega)
    obtain ⟨-, -, m3⟩ := xw_max_ok (xw_lo S.1 a) (xw_lo S.1 b)
    exact xw_Re.frr hS h (by omega) v3 (fun ρ' n' v hu hv hz => ⟨hv, x.toInt, y.toInt, ha.more hu, hb.more hu, fun w => (by cases w), fun w => (by cases w), fun w => (by cases w), fun w => (by cases w), fun w => (by cases w), fun _ => ⟨x, y, rfl, rfl, hz⟩, fun w => (by cases w), fun w => (by cases w)⟩)
theorem xw_Re.or {ρ : Nat → Int} {S : xw_S} {a b : xw_L} {x y : Int32} {k : xw_L → xw_S → Bool} (hS : xw_St ρ S) (h : xw_or S a b k = true) (ha : xw_is ρ S.2.1 a x.toInt) (hb : xw_is ρ S.2.1 b y.toInt) : xw_Re ρ S k (x ||| y).toInt := by
  unfold xw_or at h
  have a1 := xw_lo_ok hS.1 ha
  have a2 := xw_hi_ok hS.1 ha
  have b1 := xw_lo_ok hS.1 hb
  have b2 := xw_hi_ok hS.1 hb
  cases hs : xw_sv b with
  | none => rw [hs] at h; exact xw_Re.or2 hS h ha hb
  | some t =>
    rw [hs] at h
    dsimp only at h
    cases hq : (xv_le 0 (xw_lo S.1 a) && (xv_le 0 (xw_lo S.1 b) && xw_bit S a t 0)) with
    | false => rw [hq] at h; exact xw_Re.or2 hS h ha hb
    | true =>
      rw [hq] at h
      simp only [cond_true] at h
      obtain ⟨q1, q2⟩ := xv_and_t hq
      obtain ⟨q2, q3⟩ := xv_and_t q2
      have q1 := xv_le_iff.mp q1
      have q2 := xv_le_iff.mp q2
      obtain ⟨ht, p, p1, p2⟩ := xw_bit_ok hS q3 ha
      obtain ⟨ey, -⟩ := xw_sv_ok hs hb
      have r1 := xw_orbit (x := x) (t := y) (y := p) (by omega) (by rw [ey, p1]) p2
      obtain ⟨m1, m2, -⟩ := xw_max_ok (xw_hi S.1 a) (xw_hi S.1 b)
      obtain ⟨v1, v2, v3⟩ := xw_or_val (x := x) (y := y) (by omega) (by omega) (m := xw_max (xw_hi S.1 a) (xw_hi S.1 b)) (by omega) (by omega)
      have hl := ha.add hb
      rw [r1] at v3 ⊢
      exact xw_Re.asm hS h (hl.neg.k _) (by omega) hl
theorem xw_Re.xor {ρ : Nat → Int} {S : xw_S} {a b : xw_L} {x y : Int32} {k : xw_L → xw_S → Bool} (hS : xw_St ρ S) (h : xw_xor S a b k = true) (ha : xw_is ρ S.2.1 a x.toInt) (hb : xw_is ρ S.2.1 b y.toInt) : xw_Re ρ S k (x ^^^ y).toInt := by
  unfold xw_xor at h
  cases hq : xw_eqL b (-1, []) with
  | true =>
    rw [hq] at h
    simp only [cond_true] at h
    rw [xw_eqL_ok hq] at hb
    have ey : y.toInt = -1 := (xw_is.c (-1)).one hb |>.symm
    have ey : y = -1 := by apply Int32.toInt_inj.mp; rw [ey]; decide
    subst ey
    have en : x ^^^ (-1) = ~~~x := by
      apply Int32.toBitVec_inj.mp
      rw [Int32.toBitVec_xor, Int32.toBitVec_not, show (-1 : Int32).toBitVec = BitVec.allOnes 32 by decide, BitVec.xor_allOnes]
    have hx := xv_i32 x
    have ev : (x ^^^ (-1)).toInt = -x.toInt + -1 := by
      rw [en, Int32.toInt_not]
      have : -x.toInt - 1 = -x.toInt + -1 := by omega
      rw [this]
      exact Int.bmod_eq_of_le (by omega) (by omega)
    rw [ev]
    exact xw_Re.here hS h (ha.neg.k (-1))
  | false =>
    rw [hq] at h
    simp only [cond_false] at h
    have a1 := xw_lo_ok hS.1 ha
    have a2 := xw_hi_ok hS.1 ha
    have b1 := xw_lo_ok hS.1 hb
    have b2 := xw_hi_ok hS.1 hb
    cases hc : (xv_le 0 (xw_lo S.1 a) && xv_le 0 (xw_lo S.1 b)) with
    | false => rw [hc] at h; exact xw_Re.top hS h (xw_r0 _).1 (xw_r0 _).2
    | true =>
      rw [hc] at h
      obtain ⟨q1, q2⟩ := xv_and_t hc
      have q1 := xv_le_iff.mp q1
      have q2 := xv_le_iff.mp q2
      obtain ⟨m1, m2, -⟩ := xw_max_ok (xw_hi S.1 a) (xw_hi S.1 b)
      obtain ⟨v1, v2⟩ := xw_xor_val (x := x) (y := y) (by omega) (by omega) (m := xw_max (xw_hi S.1 a) (xw_hi S.1 b)) (by omega) (by omega)
      exact xw_Re.fr hS h v1 v2
theorem xw_pmono {a b : Int} {m n : Nat} (ha : 0 ≤ a) (h1 : a ≤ b) (h2 : m ≤ n) : a * 2 ^ m ≤ b * 2 ^ n := by
  have e : (2 : Int) ^ m ≤ 2 ^ n := by
    have := Nat.pow_le_pow_right (n := 2) (by decide) h2
    have h3 : ((2 ^ m : Nat) : Int) ≤ ((2 ^ n : Nat) : Int) := Int.ofNat_le.mpr this
    simpa using h3
  have p : (0 : Int) ≤ 2 ^ m := Int.le_of_lt (Int.pow_pos (by decide))
  exact Int.mul_le_mul h1 e p (by omega)
theorem xw_Re.shl {ρ : Nat → Int} {S : xw_S} {a b : xw_L} {x y : Int32} {k : xw_L → xw_S → Bool} (hS : xw_St ρ S) (h : xw_shl S a b k = true) (ha : xw_is ρ S.2.1 a x.toInt) (hb : xw_is ρ S.2.1 b y.toInt) : xw_Re ρ S k (x <<< (y &&& 31)).toInt := by
  unfold xw_shl at h
  have a1 := xw_lo_ok hS.1 ha
  have a2 := xw_hi_ok hS.1 ha
  have b1 := xw_lo_ok hS.1 hb
  have b2 := xw_hi_ok hS.1 hb
  cases hq : (xv_le 0 (xw_lo S.1 a) && (xv_le 0 (xw_lo S.1 b) && (xv_le (xw_hi S.1 b) 31 && xv_le (xw_hi S.1 a * 2 ^ (xw_hi S.1 b).toNat) 2147483647))) with
  | false => rw [hq] at h; exact xw_Re.top hS h (xw_r0 _).1 (xw_r0 _).2
  | true =>
    rw [hq] at h
    simp only [cond_true] at h
    obtain ⟨q1, q2⟩ := xv_and_t hq
    obtain ⟨q2, q3⟩ := xv_and_t q2
    obtain ⟨q3, q4⟩ := xv_and_t q3
    have q1 := xv_le_iff.mp q1
    have q2 := xv_le_iff.mp q2
    have q3 := xv_le_iff.mp q3
    have q4 := xv_le_iff.mp q4
    have u1 : xw_lo S.1 a * 2 ^ (xw_lo S.1 b).toNat ≤ x.toInt * 2 ^ y.toInt.toNat := xw_pmono q1 a1 (by omega)
    have u2 : x.toInt * 2 ^ y.toInt.toNat ≤ xw_hi S.1 a * 2 ^ (xw_hi S.1 b).toNat := xw_pmono (by omega) a2 (by omega)
    have ev := xw_shl_val (x := x) (y := y) (by omega) (by omega) (by omega) (by omega)
    rw [ev]
    cases hc : xw_eqL a (1, []) with
    | false => rw [hc] at h; exact xw_Re.fr hS h u1 u2
    | true =>
      rw [hc] at h
      simp only [cond_true] at h
      have ex : x.toInt = 1 := by
        have ha2 := ha
        rw [xw_eqL_ok hc] at ha2
        exact ((xw_is.c 1).one ha2).symm
      refine xw_Re.frr hS h u1 u2 (fun ρ' n' v hu hv hz => ⟨hv, y.toInt, y.toInt, hb.more hu, hb.more hu, fun _ => ⟨by omega, ?_⟩, fun w => (by cases w), fun w => (by cases w), fun w => (by cases w), fun w => (by cases w), fun w => (by cases w), fun w => (by cases w), fun w => (by cases w)⟩)
      · show ρ' v = _
        rw [hz, ex, Int.one_mul]
theorem xw_divle {x : Int} {n : Nat} (h : 0 ≤ x) : 0 ≤ x / 2 ^ n ∧ x / 2 ^ n ≤ x := by
  have p : (0 : Int) < 2 ^ n := Int.pow_pos (by decide)
  refine ⟨Int.ediv_nonneg h (Int.le_of_lt p), ?_⟩
  exact Int.ediv_le_self _ h
theorem xw_Re.shr {ρ : Nat → Int} {S : xw_S} {a b : xw_L} {x y : Int32} {k : xw_L → xw_S → Bool} (hS : xw_St ρ S) (h : xw_shr S a b k = true) (ha : xw_is ρ S.2.1 a x.toInt) (hb : xw_is ρ S.2.1 b y.toInt) : xw_Re ρ S k (x >>> (y &&& 31)).toInt := by
  unfold xw_shr at h
  have a1 := xw_lo_ok hS.1 ha
  have a2 := xw_hi_ok hS.1 ha
  have b1 := xw_lo_ok hS.1 hb
  have b2 := xw_hi_ok hS.1 hb
  cases hq : (xv_le 0 (xw_lo S.1 a) && (xv_le 0 (xw_lo S.1 b) && xv_le (xw_hi S.1 b) 31)) with
  | false => rw [hq] at h; exact xw_Re.top hS h (xw_r0 _).1 (xw_r0 _).2
  | true =>
    rw [hq] at h
    simp only [cond_true] at h
    obtain ⟨q1, q2⟩ := xv_and_t hq
    obtain ⟨q2, q3⟩ := xv_and_t q2
    have q1 := xv_le_iff.mp q1
    have q2 := xv_le_iff.mp q2
    have q3 := xv_le_iff.mp q3
    rw [xw_shr_val (by omega) (by omega) (by omega)]
    have hd := xw_divle (x := x.toInt) (n := y.toInt.toNat) (by omega)
    exact xw_Re.frr hS h hd.1 (by omega) (fun ρ' n' v hu hv hz => ⟨hv, x.toInt, y.toInt, ha.more hu, hb.more hu, fun w => (by cases w), fun _ => ⟨by omega, by omega, hz⟩, fun w => (by cases w), fun w => (by cases w), fun w => (by cases w), fun w => (by cases w), fun w => (by cases w), fun w => (by cases w)⟩)
theorem xw_Re.ushr {ρ : Nat → Int} {S : xw_S} {a : xw_L} {x y : Int32} {k : xw_L → xw_S → Bool} (hS : xw_St ρ S) (h : xw_ushr S a k = true) (ha : xw_is ρ S.2.1 a x.toInt) : xw_Re ρ S k ((x.toUInt32 >>> (y.toUInt32 &&& Int32.toUInt32 31)).toInt32).toInt := by
  unfold xw_ushr at h
  have a1 := xw_lo_ok hS.1 ha
  have a2 := xw_hi_ok hS.1 ha
  cases hq : xv_le 0 (xw_lo S.1 a) with
  | false => rw [hq] at h; exact xw_Re.top hS h (xw_r0 _).1 (xw_r0 _).2
  | true =>
    rw [hq] at h
    have q := xv_le_iff.mp hq
    obtain ⟨e1, l1⟩ := xw_nn (x := x) (by omega)
    have e2 := pk_ushr x y _ rfl
    have hle : x.toBitVec.toNat / 2 ^ ((y.toUInt32 &&& Int32.toUInt32 31).toBitVec % 32).toNat ≤ x.toBitVec.toNat := Nat.div_le_self _ _
    have e3 := xw_bn e2 (by omega)
    refine xw_Re.fr hS h ?_ ?_
    · rw [e3]; omega
    · rw [e3]; omega
theorem xw_nz_ok {ρ : Nat → Int} {S : xw_S} {b : xw_L} {y : Int} (hS : xw_St ρ S) (h : xw_nz S b = true) (hb : xw_is ρ S.2.1 b y) : y ≠ 0 := by
  rcases (Bool.or_eq_true _ _).mp h with q | q
  · have := xw_prove_ok hS q (hb.k _); omega
  · have := xw_prove_ok hS q (hb.neg.k _); omega
theorem xw_Re.div {kd : Nat} {ρ : Nat → Int} {S : xw_S} {a b : xw_L} {x y z : Int} {k : xw_L → xw_S → Bool} (hS : xw_St ρ S) (h : xw_div kd S a b k = true) (ha : xw_is ρ S.2.1 a x) (hb : xw_is ρ S.2.1 b y) (he : 0 ≤ x → 1 ≤ y → 0 ≤ z ∧ z ≤ x) (h1 : xw_L0 kd ≤ z) (h2 : z ≤ xw_H0 kd) : y ≠ 0 ∧ xw_Re ρ S k z := by
  obtain ⟨g1, h⟩ := xv_and_t h
  refine ⟨xw_nz_ok hS g1 hb, ?_⟩
  cases hq : (xw_prove S a && xw_prove S (xw_k b (-1))) with
  | false => rw [hq] at h; exact xw_Re.top hS h h1 h2
  | true =>
    rw [hq] at h
    obtain ⟨q1, q2⟩ := xv_and_t hq
    have q1 := xw_prove_ok hS q1 ha
    have q2 := xw_prove_ok hS q2 (hb.k _)
    obtain ⟨e1, e2⟩ := he q1 (by omega)
    have a2 := xw_hi_ok hS.1 ha
    obtain ⟨-, m, -⟩ := xw_max_ok 0 (xw_hi S.1 a)
    exact xw_Re.fr hS h e1 (by omega)
theorem xw_Re.rem {kd : Nat} {ρ : Nat → Int} {S : xw_S} {a b : xw_L} {x y z : Int} {k : xw_L → xw_S → Bool} (hS : xw_St ρ S) (h : xw_rem kd S a b k = true) (ha : xw_is ρ S.2.1 a x) (hb : xw_is ρ S.2.1 b y) (he : 0 ≤ x → 1 ≤ y → 0 ≤ z ∧ z ≤ x ∧ z ≤ y - 1 ∧ (y ≤ x → z ≤ (x - 1) / 2)) (h1 : xw_L0 kd ≤ z) (h2 : z ≤ xw_H0 kd) : y ≠ 0 ∧ xw_Re ρ S k z := by
  obtain ⟨g1, h⟩ := xv_and_t h
  refine ⟨xw_nz_ok hS g1 hb, ?_⟩
  cases hq : (xw_prove S a && xw_prove S (xw_k b (-1))) with
  | false => rw [hq] at h; exact xw_Re.top hS h h1 h2
  | true =>
    rw [hq] at h
    simp only [cond_true] at h
    obtain ⟨q1, q2⟩ := xv_and_t hq
    have q1 := xw_prove_ok hS q1 ha
    have q2 := xw_prove_ok hS q2 (hb.k _)
    obtain ⟨e1, e2, e3, e4⟩ := he q1 (by omega)
    have a2 := xw_hi_ok hS.1 ha
    have b2 := xw_hi_ok hS.1 hb
    have hub : z ≤ (bif xw_prove S (xw_sub a b) then xw_min (xw_min (xw_hi S.1 a) (xw_hi S.1 b - 1)) ((xw_hi S.1 a - 1) / 2) else xw_min (xw_hi S.1 a) (xw_hi S.1 b - 1)) := by
      obtain ⟨-, -, m⟩ := xw_min_ok (xw_hi S.1 a) (xw_hi S.1 b - 1)
      cases hp : xw_prove S (xw_sub a b) with
      | false => simp only [cond_false]; omega
      | true =>
        have := xw_prove_ok hS hp (ha.sub hb)
        have e4 := e4 (by omega)
        obtain ⟨-, -, m2⟩ := xw_min_ok (xw_min (xw_hi S.1 a) (xw_hi S.1 b - 1)) ((xw_hi S.1 a - 1) / 2)
        simp only [cond_true]
        omega
    obtain ⟨ρ', l, S', hk, hu, hS', hl, e, -⟩ := xw_fr_ok hS h e1 hub
    match hb2 : b.2, hk with
    | [], hk => exact ⟨ρ', l, S', hk, hu, hS', hl, by rw [e], by rw [e], by rw [e]⟩
    | _ :: _, hk =>
      obtain ⟨S'', g1, g2, g3, g4⟩ := xw_asm_ok hS' hk (((hb.more hu).sub hl).k (-1)) (by omega)
      exact ⟨ρ', l, S'', g1, by rw [g3]; exact hu, g2, by rw [g3]; exact hl, by rw [g4, e], by rw [g4, e], by rw [g4, e]⟩
/-! conditions -/
def xw_rl (c : ClassFile.Cond) (d : Int) : Prop := match c with
  | .eq => d = 0
  | .ne => d ≠ 0
  | .lt => d < 0
  | .ge => 0 ≤ d
  | .gt => 0 < d
  | .le => d ≤ 0
/-- k goes on, and only facts are more -/
def xw_Ra (ρ : Nat → Int) (S : xw_S) (k : xw_S → Bool) : Prop := ∃ S', k S' = true ∧ xw_St ρ S' ∧ S'.2.1 = S.2.1 ∧ S'.2.2.2.1 = S.2.2.2.1 ∧ S'.2.2.2.2.1 = S.2.2.2.2.1 ∧ S'.2.2.2.2.2.2 = S.2.2.2.2.2.2
theorem xw_Ra.asm {ρ : Nat → Int} {S : xw_S} {g : xw_L} {z : Int} {k : xw_S → Bool} (hS : xw_St ρ S) (h : xw_asm S g k = true) (hg : xw_is ρ S.2.1 g z) (hz : 0 ≤ z) : xw_Ra ρ S k := by
  obtain ⟨S1, h1, h2, h3, h4⟩ := xw_asm_ok hS h hg hz
  exact ⟨S1, h1, h2, h3, by rw [h4], by rw [h4], by rw [h4]⟩
theorem xw_Ra.asm2 {ρ : Nat → Int} {S : xw_S} {g g2 : xw_L} {z z2 : Int} {k : xw_S → Bool} (hS : xw_St ρ S) (h : xw_asm S g (fun S' => xw_asm S' g2 k) = true) (hg : xw_is ρ S.2.1 g z) (hz : 0 ≤ z) (hg2 : xw_is ρ S.2.1 g2 z2) (hz2 : 0 ≤ z2) : xw_Ra ρ S k := by
  obtain ⟨S1, h1, h2, h3, h4⟩ := xw_asm_ok hS h hg hz
  obtain ⟨S2, g1, g2', g3, g4⟩ := xw_asm_ok h2 h1 (by rw [h3]; exact hg2) hz2
  exact ⟨S2, g1, g2', by rw [g3, h3], by rw [g4, h4], by rw [g4, h4], by rw [g4, h4]⟩
theorem xw_Ra.eqs {ρ : Nat → Int} {S : xw_S} {d : xw_L} {z : Int} {k : xw_S → Bool} (hS : xw_St ρ S) (h : xw_eqs S d k = true) (hd : xw_is ρ S.2.1 d z) (hz : z = 0) : xw_Ra ρ S k := xw_Ra.asm2 hS h hd (by omega) hd.neg (by omega)
theorem xw_Ra.nes {sp : Bool} {ρ : Nat → Int} {S : xw_S} {d : xw_L} {z : Int} {k : xw_S → Bool} (hS : xw_St ρ S) (h : xw_nes sp S d k = true) (hd : xw_is ρ S.2.1 d z) (hz : z ≠ 0) : xw_Ra ρ S k := by
  unfold xw_nes at h
  cases h1 : xw_prove S d with
  | true =>
    rw [h1] at h
    have := xw_prove_ok hS h1 hd
    exact xw_Ra.asm hS h (hd.k _) (by omega)
  | false =>
    rw [h1] at h
    simp only [cond_false] at h
    cases h2 : xw_prove S (xw_neg d) with
    | true =>
      rw [h2] at h
      have := xw_prove_ok hS h2 hd.neg
      exact xw_Ra.asm hS h (hd.neg.k _) (by omega)
    | false =>
      rw [h2] at h
      simp only [cond_false] at h
      cases sp with
      | false =>
        refine ⟨_, h, ?_, ?_⟩
        · unfold xw_nrc
          cases hb : Nat.ble 1 S.2.1 with
          | false => exact hS
          | true =>
            refine ⟨hS.1, hS.2.1, fun q hq => ?_, hS.2.2.2⟩
            rcases List.mem_cons.mp hq with e | hq
            · rw [e]
              exact ⟨xv_ble hb, z, z, hd, hd, fun w => (by cases w), fun w => (by cases w), fun w => (by cases w), fun w => (by cases w), fun w => (by cases w), fun w => (by cases w), fun w => (by cases w), fun _ => hz⟩
            · exact hS.2.2.1 q hq
        · unfold xw_nrc
          cases hb : Nat.ble 1 S.2.1 with
          | false => exact ⟨rfl, rfl, rfl, rfl⟩
          | true => exact ⟨rfl, rfl, rfl, rfl⟩
      | true =>
        obtain ⟨k1, k2⟩ := xv_and_t h
        rcases Int.lt_or_gt_of_ne hz with q | q
        · exact xw_Ra.asm hS k2 (hd.neg.k _) (by omega)
        · exact xw_Ra.asm hS k1 (hd.k _) (by omega)
theorem xw_br_ok {c : ClassFile.Cond} {sp : Bool} {ρ : Nat → Int} {S : xw_S} {d : xw_L} {z : Int} {kt kf : xw_S → Bool} (hS : xw_St ρ S) (h : xw_br c sp S d kt kf = true) (hd : xw_is ρ S.2.1 d z) : (xw_rl c z → xw_Ra ρ S kt) ∧ (¬ xw_rl c z → xw_Ra ρ S kf) := by
  unfold xw_br at h
  cases c with
  | eq =>
    obtain ⟨h1, h2⟩ := xv_and_t h
    exact ⟨fun q => xw_Ra.eqs hS h1 hd q, fun q => xw_Ra.nes hS h2 hd q⟩
  | ne =>
    obtain ⟨h1, h2⟩ := xv_and_t h
    exact ⟨fun q => xw_Ra.nes hS h1 hd q, fun q => xw_Ra.eqs hS h2 hd (Classical.not_not.mp q)⟩
  | lt =>
    obtain ⟨h1, h2⟩ := xv_and_t h
    exact ⟨fun q => xw_Ra.asm hS h1 (hd.neg.k _) (by have q : z < 0 := q; omega), fun q => xw_Ra.asm hS h2 hd (by have q : ¬ z < 0 := q; omega)⟩
  | ge =>
    obtain ⟨h1, h2⟩ := xv_and_t h
    exact ⟨fun q => xw_Ra.asm hS h1 hd q, fun q => xw_Ra.asm hS h2 (hd.neg.k _) (by have q : ¬ 0 ≤ z := q; omega)⟩
  | gt =>
    obtain ⟨h1, h2⟩ := xv_and_t h
    exact ⟨fun q => xw_Ra.asm hS h1 (hd.k _) (by have q : 0 < z := q; omega), fun q => xw_Ra.asm hS h2 hd.neg (by have q : ¬ 0 < z := q; omega)⟩
  | le =>
    obtain ⟨h1, h2⟩ := xv_and_t h
    exact ⟨fun q => xw_Ra.asm hS h1 hd.neg (by have q : z ≤ 0 := q; omega), fun q => xw_Ra.asm hS h2 (hd.k _) (by have q : ¬ z ≤ 0 := q; omega)⟩
