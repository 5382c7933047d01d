/-! orders: pure rows -/
theorem xo_and {a b : Int32} {x s : Int} {q : Nat} (ha : a.toInt = x) (hb : b.toInt = -1 - s) (hx : 0 ≤ x) (hs : 0 ≤ s) (hq : q < 31) : (a &&& b).toInt / 2 ^ q % 2 = 1 ↔ x / 2 ^ q % 2 = 1 ∧ s / 2 ^ q % 2 = 0 := by
  have hbr := xv_i32 b
  have hs' : (~~~b).toInt = s := by
    rw [Int32.toInt_not, hb]
    have : -(-1 - s) - 1 = s := by omega
    rw [this]
    exact Int.bmod_eq_of_le (by omega) (by omega)
  have hc : 0 ≤ (a &&& b).toInt := by rw [Int32.and_comm]; exact (xv_and_ok b a (by omega)).1
  have e1 := xw_tb (y := q) hc rfl
  have e2 := xw_tb (x := a) (y := q) (by omega) rfl
  have e3 := xw_tb (x := ~~~b) (y := q) (by omega) rfl
  rw [Int32.toBitVec_not, BitVec.getLsbD_not, hs'] at e3
  rw [Int32.toBitVec_and, BitVec.getLsbD_and, e2] at e1
  rw [ha] at e1
  have h32 : decide (q < 32) = true := decide_eq_true (by omega)
  rw [h32, Bool.true_and] at e3
  have e4 : b.toBitVec.getLsbD q = !decide (s / 2 ^ q % 2 = 1) := by rw [← e3, Bool.not_not]
  rw [e4] at e1
  generalize hA : x / 2 ^ q % 2 = A at *
  generalize hS : s / 2 ^ q % 2 = S at *
  generalize hC : (a &&& b).toInt / 2 ^ q % 2 = Cc at *
  have s2 : S = 0 ∨ S = 1 := by omega
  constructor
  · intro h
    rw [h] at e1
    simp only [decide_true, Bool.and_eq_true, decide_eq_true_eq, Bool.not_eq_true', decide_eq_false_iff_not] at e1
    exact ⟨e1.1, by omega⟩
  · intro ⟨h1, h2⟩
    rw [h1, h2] at e1
    simp only [decide_true, Bool.true_and] at e1
    have : decide (Cc = 1) = true := by rw [← e1]; decide
    exact of_decide_eq_true this
theorem xo_or0 {a b : Int32} (hb : b.toInt = 0) : a ||| b = a := by
  have : b = 0 := Int32.toInt_inj.mp (by rw [hb]; rfl)
  rw [this]
  apply Int32.toBitVec_inj.mp
  rw [Int32.toBitVec_or]
  simp
def xo_sub (s all : Int) : Prop := ∀ q : Nat, q ≤ 6 → s / 2 ^ q % 2 = 1 → all / 2 ^ q % 2 = 1
theorem xo_seven {P : Nat → Prop} (h : ∀ q : Nat, q ≤ 6 → P q) : P 0 ∧ P 1 ∧ P 2 ∧ P 3 ∧ P 4 ∧ P 5 ∧ P 6 := ⟨h 0 (by omega), h 1 (by omega), h 2 (by omega), h 3 (by omega), h 4 (by omega), h 5 (by omega), h 6 (by omega)⟩
theorem xo_dec {s : Int} (h0 : 0 ≤ s) (h1 : s ≤ 127) : s = s / 1 % 2 + 2 * (s / 2 % 2) + 4 * (s / 4 % 2) + 8 * (s / 8 % 2) + 16 * (s / 16 % 2) + 32 * (s / 32 % 2) + 64 * (s / 64 % 2) := by omega
/-- two sets with the same bits -/
theorem xo_same {s all : Int} (h0 : 0 ≤ s) (h1 : s ≤ 127) (h2 : 0 ≤ all) (h3 : all ≤ 127) (hs : xo_sub s all) (ha : ∀ q : Nat, q ≤ 6 → ¬ (all / 2 ^ q % 2 = 1 ∧ s / 2 ^ q % 2 = 0)) : s = all := by
  have he : ∀ q : Nat, q ≤ 6 → s / 2 ^ q % 2 = all / 2 ^ q % 2 := fun q hq => by
    have a := hs q hq
    have b := ha q hq
    generalize s / 2 ^ q = x at *
    generalize all / 2 ^ q = y at *
    omega
  have e0 : s / 1 % 2 = all / 1 % 2 := he 0 (by omega)
  have e1 : s / 2 % 2 = all / 2 % 2 := he 1 (by omega)
  have e2 : s / 4 % 2 = all / 4 % 2 := he 2 (by omega)
  have e3 : s / 8 % 2 = all / 8 % 2 := he 3 (by omega)
  have e4 : s / 16 % 2 = all / 16 % 2 := he 4 (by omega)
  have e5 : s / 32 % 2 = all / 32 % 2 := he 5 (by omega)
  have e6 : s / 64 % 2 = all / 64 % 2 := he 6 (by omega)
  rw [xo_dec h0 h1, xo_dec h2 h3, e0, e1, e2, e3, e4, e5, e6]
theorem xo_some {r : Int} (h0 : 1 ≤ r) (h1 : r ≤ 127) : ∃ q : Nat, q ≤ 6 ∧ r / 2 ^ q % 2 = 1 := by
  apply Classical.byContradiction
  intro hn
  have he : ∀ q : Nat, q ≤ 6 → r / 2 ^ q % 2 = 0 := fun q hq => by
    have a : ¬ r / 2 ^ q % 2 = 1 := fun h => hn ⟨q, hq, h⟩
    generalize r / 2 ^ q = x at *
    omega
  have e0 : r / 1 % 2 = 0 := he 0 (by omega)
  have e1 : r / 2 % 2 = 0 := he 1 (by omega)
  have e2 : r / 4 % 2 = 0 := he 2 (by omega)
  have e3 : r / 8 % 2 = 0 := he 3 (by omega)
  have e4 : r / 16 % 2 = 0 := he 4 (by omega)
  have e5 : r / 32 % 2 = 0 := he 5 (by omega)
  have e6 : r / 64 % 2 = 0 := he 6 (by omega)
  have := xo_dec (by omega) h1
  rw [e0, e1, e2, e3, e4, e5, e6] at this
  omega
/-- a place's number -/
def xo_N (μ : Nat → Nat → Value) (r : Nat) (j : Int) : Int := xw_n0 (μ r j.toNat)
def xo_pen (μ : Nat → Nat → Value) (box last : Int) : Int := if last = -1 then xo_N μ 112 box else xo_N μ 111 (12 * last)
def xo_cst (μ : Nat → Nat → Value) (q pen : Int) : Int := if pen = -1 then 0 else xo_N μ 110 pen * xo_N μ 111 (12 * q + 3) + xo_N μ 111 (12 * q + 4 + pen)
/-- q is one by which what stands at s, l is reached -/
def xo_at (μ : Nat → Nat → Value) (box all s l q : Int) : Prop := 0 ≤ q ∧ q ≤ 6 ∧ all / 2 ^ q.toNat % 2 = 1 ∧ s / 2 ^ q.toNat % 2 = 0 ∧ (xo_cst μ q (xo_pen μ box l) + xo_N μ 116 (8 * (s + 2 ^ q.toNat) + q + 1)).bmod (2 ^ 32) = xo_N μ 116 (8 * s + l + 1)
def xo_k (μ μ' : Nat → Nat → Value) : Prop := ∀ r j, r = 109 ∨ r = 110 ∨ r = 111 ∨ r = 112 → μ' r j = μ r j
theorem xo_pen_k {μ μ' : Nat → Nat → Value} (h : xo_k μ μ') (box last : Int) : xo_pen μ' box last = xo_pen μ box last := by
  unfold xo_pen xo_N
  rw [h 112 _ (by omega), h 111 _ (by omega)]
theorem xo_cst_k {μ μ' : Nat → Nat → Value} (h : xo_k μ μ') (q pen : Int) : xo_cst μ' q pen = xo_cst μ q pen := by
  unfold xo_cst xo_N
  rw [h 110 _ (by omega), h 111 _ (by omega), h 111 _ (by omega)]
theorem xo_pos (q : Nat) : (1 : Int) ≤ 2 ^ q := by
  have : (0 : Int) < 2 ^ q := Int.pow_pos (by decide)
  omega
theorem xo_at.keep {μ μ' : Nat → Nat → Value} {box all s l q : Int} (h : xo_at μ box all s l q) (hk : xo_k μ μ') (h1 : xo_N μ' 116 (8 * s + l + 1) = xo_N μ 116 (8 * s + l + 1)) (h2 : xo_N μ' 116 (8 * (s + 2 ^ q.toNat) + q + 1) = xo_N μ 116 (8 * (s + 2 ^ q.toNat) + q + 1)) : xo_at μ' box all s l q := by
  obtain ⟨a, b, c, d, e⟩ := h
  refine ⟨a, b, c, d, ?_⟩
  rw [xo_pen_k hk, xo_cst_k hk, h1, h2]
  exact e
def xo_I (μ : Nat → Nat → Value) (box all n set : Int) : Prop := ∀ s l : Int, set < s → s ≤ all → xo_sub s all → s ≠ all → -1 ≤ l → l < n → ∃ q, xo_at μ box all s l q
def xo_J (μ : Nat → Nat → Value) (box all set last : Int) : Prop := ∀ l : Int, -1 ≤ l → l < last → set ≠ all → ∃ q, xo_at μ box all set l q
def xo_T (μ : Nat → Nat → Value) (box all set last is0 q : Int) : Prop := (is0 = 1 → set = all ∨ ∃ q', xo_at μ box all set last q') ∧ (is0 = 0 → ∀ q' : Nat, (q' : Int) < q → q' ≤ 6 → ¬ (all / 2 ^ q' % 2 = 1 ∧ set / 2 ^ q' % 2 = 0))
/-- all but the one place stay -/
def xo_one (μ μ' : Nat → Nat → Value) (k : Int) : Prop := xo_k μ μ' ∧ ∀ j : Int, 0 ≤ j → j ≠ k → xo_N μ' 116 j = xo_N μ 116 j
theorem xo_one.rf {μ μ' : Nat → Nat → Value} {k : Int} (h : xo_k μ μ') (h2 : ∀ j, μ' 116 j = μ 116 j) : xo_one μ μ' k := ⟨h, fun j _ _ => by unfold xo_N; rw [h2]⟩
theorem xo_I.keep {μ μ' : Nat → Nat → Value} {box all n set last : Int} (h : xo_I μ box all n set) (hs : 0 ≤ set) (hl0 : -1 ≤ last) (hl : last ≤ 6) (ho : xo_one μ μ' (8 * set + last + 1)) : xo_I μ' box all n set := fun s l h1 h2 h3 h4 h5 h6 => by
  obtain ⟨q, hq⟩ := h s l h1 h2 h3 h4 h5 h6
  have p := xo_pos q.toNat
  have q0 := hq.1
  exact ⟨q, hq.keep ho.1 (ho.2 _ (by omega) (by omega)) (ho.2 _ (by omega) (by omega))⟩
theorem xo_J.keep {μ μ' : Nat → Nat → Value} {box all set last : Int} (h : xo_J μ box all set last) (hs : 0 ≤ set) (hl0 : -1 ≤ last) (hl : last ≤ 6) (ho : xo_one μ μ' (8 * set + last + 1)) : xo_J μ' box all set last := fun l h1 h2 h3 => by
  obtain ⟨q, hq⟩ := h l h1 h2 h3
  have p := xo_pos q.toNat
  have q0 := hq.1
  exact ⟨q, hq.keep ho.1 (ho.2 _ (by omega) (by omega)) (ho.2 _ (by omega) (by omega))⟩
/-- the place itself stays too -/
theorem xo_T.keep {μ μ' : Nat → Nat → Value} {box all set last is0 q : Int} (h : xo_T μ box all set last is0 q) (hk : xo_k μ μ') (h2 : ∀ j, μ' 116 j = μ 116 j) : xo_T μ' box all set last is0 q := by
  refine ⟨fun e => ?_, h.2⟩
  rcases h.1 e with w | ⟨q', hq⟩
  · exact Or.inl w
  · refine Or.inr ⟨q', hq.keep hk ?_ ?_⟩ <;> (unfold xo_N; rw [h2])
/-- what the persons' bits are -/
def xo_of (μ : Nat → Nat → Value) (box : Int) : Nat → Int
  | 0 => 0
  | p + 1 => xo_of μ box p + if xw_n0 (μ 111 (12 * p + 2)) = box then 2 ^ p else 0
theorem xo_of_b (μ : Nat → Nat → Value) (box : Int) : ∀ p : Nat, 0 ≤ xo_of μ box p ∧ xo_of μ box p < 2 ^ p
  | 0 => ⟨Int.le_refl 0, by show (0 : Int) < 1; decide⟩
  | p + 1 => by
    obtain ⟨h1, h2⟩ := xo_of_b μ box p
    have hp := xo_pos p
    have e : (2 : Int) ^ (p + 1) = 2 ^ p + 2 ^ p := by rw [Int.pow_succ]; omega
    show 0 ≤ xo_of μ box p + _ ∧ xo_of μ box p + _ < _
    rw [e]
    split <;> omega
theorem xo_of_k {μ μ' : Nat → Nat → Value} (h : xo_k μ μ') (box : Int) : ∀ p : Nat, xo_of μ' box p = xo_of μ box p
  | 0 => rfl
  | p + 1 => by
    show xo_of μ' box p + _ = xo_of μ box p + _
    rw [xo_of_k h box p, h 111 _ (by omega)]
/-- a bit that is set is of a person -/
theorem xo_lt {all : Int} {n q : Nat} (h0 : 0 ≤ all) (h : all < 2 ^ n) (hb : all / 2 ^ q % 2 = 1) : q < n := by
  apply Classical.byContradiction
  intro hn
  have hle : (2 : Int) ^ n ≤ 2 ^ q := by
    have : (2 : Nat) ^ n ≤ 2 ^ q := Nat.pow_le_pow_right (by decide) (by omega)
    have h2 : ((2 ^ n : Nat) : Int) ≤ ((2 ^ q : Nat) : Int) := Int.ofNat_le.mpr this
    simpa using h2
  have : all / 2 ^ q = 0 := Int.ediv_eq_zero_of_lt h0 (by omega)
  rw [this] at hb
  omega
theorem xo_bit0 {b : Int} {p : Nat} (h0 : 0 ≤ b) (h : b < 2 ^ p) : b / 2 ^ p % 2 = 0 := by
  rw [Int.ediv_eq_zero_of_lt h0 h]; rfl
