/-! types of cells, compared, with the numbers of cells changed -/
def xl_all : Nat → (Nat → Bool) → Bool
  | 0, _ => true
  | n + 1, f => f n && xl_all n f
theorem xl_all_ok {f : Nat → Bool} : ∀ {n : Nat}, xl_all n f = true → ∀ i, i < n → f i = true
  | 0, _, _, hi => absurd hi (Nat.not_lt_zero _)
  | n + 1, h, i, hi => by
    obtain ⟨h1, h2⟩ := xv_and_t h
    rcases Nat.lt_succ_iff_lt_or_eq.mp hi with q | q
    · exact xl_all_ok h2 i q
    · rw [q]; exact h1
/-- how cells are numbered anew: a number's new one, which are allowed, the cell that becomes 'the script', the cell that 'the script' becomes -/
abbrev xl_F : Type := (Nat → Nat) × (Nat → Bool) × Nat × Nat
def xl_Fok (F : xl_F) (sb sb' : Nat) (as as' : List Nat) : Prop := (∀ n a : Nat, F.2.1 n = true → as[n]? = some a → as'[F.1 n]? = some a) ∧ (F.2.2.1 ≤ 1000 → ∀ a, as[F.2.2.1]? = some a → a = sb') ∧ (F.2.2.2 ≤ 1000 → as'[F.2.2.2]? = some sb)
def xl_vle (F : xl_F) (v v' : xv_V) : Bool := (Nat.beq v'.1 v.1 && (bif Nat.ble v.1 1 then xv_le v'.2.1 v.2.1 && xv_le v.2.2 v'.2.2 else bif Nat.beq v.1 2 then F.2.1 v.2.1.toNat && Nat.beq v'.2.1.toNat (F.1 v.2.1.toNat) else !Nat.beq v.1 5)) || ((Nat.ble F.2.2.1 1000 && (Nat.beq v.1 2 && (Nat.beq v.2.1.toNat F.2.2.1 && Nat.beq v'.1 5))) || (Nat.ble F.2.2.2 1000 && (Nat.beq v.1 5 && (Nat.beq v'.1 2 && Nat.beq v'.2.1.toNat F.2.2.2))))
def xl_ole (F : xl_F) (v v' : Option xv_V) : Bool := match v' with
  | none => true
  | some w' => (match v with
    | some w => xl_vle F w w'
    | none => false)
noncomputable def xl_cle (F : xl_F) (k k' : xv_C) : Bool := Nat.beq k.1 k'.1 && (Nat.beq k.2.1 k'.2.1 && (bif Nat.beq k.1 0 then Nat.beq k.2.2.1 k'.2.2.1 && xl_all (8 * k'.2.2.2.length) (fun b => xl_ole F (xv_get 8 k.2.2.2 b) (xv_get 8 k'.2.2.2 b)) else xl_all k.2.1 (fun i => xl_ole F (xv_get 8 k.2.2.2 (i % k.2.2.1)) (xv_get 8 k'.2.2.2 (i % k'.2.2.1)))))
theorem xl_vle_ok {F : xl_F} {sb sb' : Nat} {as as' : List Nat} {v v' : xv_V} {x : Value} (h : xl_vle F v v' = true) (hp : xl_Fok F sb sb' as as') (hx : xv_hv sb as v x) : xv_hv sb' as' v' x := by
  unfold xl_vle at h
  rcases (Bool.or_eq_true _ _).mp h with h | h
  · obtain ⟨h1, h⟩ := xv_and_t h
    have h1 := xv_beq h1
    cases b1 : Nat.ble v.1 1 with
    | true =>
      rw [b1] at h
      obtain ⟨g1, g2⟩ := xv_and_t h
      have g1 := xv_le_iff.mp g1
      have g2 := xv_le_iff.mp g2
      have b1 := xv_ble b1
      refine ⟨fun q => ?_, fun q => ?_, fun q => (by omega), fun q => (by omega), fun q => (by omega)⟩
      · obtain ⟨i, e, i1, i2⟩ := hx.1 (by omega); exact ⟨i, e, by omega, by omega⟩
      · obtain ⟨i, e, i1, i2⟩ := hx.2.1 (by omega); exact ⟨i, e, by omega, by omega⟩
    | false =>
      rw [b1] at h
      simp only [cond_false] at h
      have b1 : ¬ v.1 ≤ 1 := fun w => by rw [Nat.ble_eq.mpr w] at b1; cases b1
      cases b2 : Nat.beq v.1 2 with
      | true =>
        rw [b2] at h
        obtain ⟨g1, g3⟩ := xv_and_t h
        have g3 := xv_beq g3
        have b2 := xv_beq b2
        refine ⟨fun q => (by omega), fun q => (by omega), fun _ => ?_, fun q => (by omega), fun q => (by omega)⟩
        obtain ⟨a, e1, e2⟩ := hx.2.2.1 b2
        exact ⟨a, by rw [g3]; exact hp.1 _ a g1 e1, e2⟩
      | false =>
        rw [b2] at h
        simp only [cond_false] at h
        have b2 : v.1 ≠ 2 := fun w => by rw [w] at b2; cases b2
        have b5 : v.1 ≠ 5 := fun w => by rw [w] at h; cases h
        exact ⟨fun q => (by omega), fun q => (by omega), fun q => (by omega), fun q => hx.2.2.2.1 (by omega), fun q => (by omega)⟩
  · rcases (Bool.or_eq_true _ _).mp h with h | h
    · obtain ⟨h0, h⟩ := xv_and_t h
      obtain ⟨h1, h⟩ := xv_and_t h
      obtain ⟨h2, h3⟩ := xv_and_t h
      have h3 := xv_beq h3
      obtain ⟨a, e1, e2⟩ := hx.2.2.1 (xv_beq h1)
      rw [xv_beq h2] at e1
      have ea := hp.2.1 (xv_ble h0) a e1
      exact ⟨fun q => (by omega), fun q => (by omega), fun q => (by omega), fun q => (by omega), fun _ => by rw [e2, ea]⟩
    · obtain ⟨h0, h⟩ := xv_and_t h
      obtain ⟨h1, h⟩ := xv_and_t h
      obtain ⟨h2, h3⟩ := xv_and_t h
      have h2 := xv_beq h2
      have e1 := hx.2.2.2.2 (xv_beq h1)
      exact ⟨fun q => (by omega), fun q => (by omega), fun _ => ⟨sb, by rw [xv_beq h3]; exact hp.2.2 (xv_ble h0), e1⟩, fun q => (by omega), fun q => (by omega)⟩
theorem xl_ole_ok {F : xl_F} {v : Option xv_V} {v' : xv_V} (h : xl_ole F v (some v') = true) : ∃ w, v = some w ∧ xl_vle F w v' = true := by
  cases v with
  | none => cases h
  | some w => exact ⟨w, rfl, h⟩
theorem xl_get_lt {α : Type} {R : Nat} {ll : List (List α)} {i : Nat} {v : α} (hR : 0 < R) (h : xv_get R ll i = some v) : i < R * ll.length := by
  rw [xv_get_eq] at h
  cases hl : ll[i / R]? with
  | none => rw [hl] at h; cases h
  | some l =>
    have := (List.getElem?_eq_some_iff.mp hl).1
    rw [Nat.mul_comm]
    exact (Nat.div_lt_iff_lt_mul hR).mp this
theorem xl_hc {F : xl_F} {t : Nat → ClassId} {sb sb' : Nat} {as as' : List Nat} {k k' : xv_C} {x : va_E} (h : xl_cle F k k' = true) (hp : xl_Fok F sb sb' as as') (hx : xv_hc t sb as k x) : xv_hc t sb' as' k' x := by
  unfold xl_cle at h
  obtain ⟨h1, h⟩ := xv_and_t h
  obtain ⟨h2, h⟩ := xv_and_t h
  have h1 := xv_beq h1
  have h2 := xv_beq h2
  obtain ⟨x0, x1, x4, x5, x6⟩ := hx
  cases b0 : Nat.beq k.1 0 with
  | true =>
    rw [b0] at h
    obtain ⟨h3, h⟩ := xv_and_t h
    have h3 := xv_beq h3
    have b0 := xv_beq b0
    refine ⟨fun _ => ?_, fun q => (by omega), fun q => (by omega), fun q => (by omega), fun q => (by omega)⟩
    obtain ⟨fs, e, hl, hf⟩ := x0 b0
    refine ⟨fs, by rw [← h2]; exact e, by rw [← h3]; exact hl, fun b v hb => ?_⟩
    have g := xl_all_ok h b (xl_get_lt (by decide) hb)
    rw [hb] at g
    obtain ⟨w, hw, g⟩ := xl_ole_ok g
    obtain ⟨y, hy, hv⟩ := hf b w hw
    exact ⟨y, hy, xl_vle_ok g hp hv⟩
  | false =>
    rw [b0] at h
    simp only [cond_false] at h
    have b0 : k.1 ≠ 0 := fun w => by rw [w] at b0; cases b0
    have row : ∀ (y : Nat → Value), (∀ i : Nat, i < k.2.1 → ∀ v : xv_V, xv_get 8 k.2.2.2 (i % k.2.2.1) = some v → xv_hv sb as v (y i)) → ∀ i : Nat, i < k'.2.1 → ∀ v : xv_V, xv_get 8 k'.2.2.2 (i % k'.2.2.1) = some v → xv_hv sb' as' v (y i) := fun y hf i hi v hb => by
      have g := xl_all_ok h i (by omega)
      rw [hb] at g
      obtain ⟨w, hw, g⟩ := xl_ole_ok g
      exact xl_vle_ok g hp (hf i (by omega) w hw)
    refine ⟨fun q => (by omega), fun q => ?_, fun q => ?_, fun q => ?_, fun q => by rw [← h2]; exact x6 b0⟩
    · obtain ⟨f, e, hf⟩ := x1 (by omega)
      exact ⟨f, by rw [← h1, ← h2]; exact e, row (fun i => .int (f i)) hf⟩
    · obtain ⟨f, e, hf⟩ := x4 (by omega)
      exact ⟨f, by rw [← h1, ← h2]; exact e, row (fun i => .long (f i)) hf⟩
    · obtain ⟨f, e, hf⟩ := x5 (by omega)
      exact ⟨f, by rw [← h1, ← h2]; exact e, row (fun i => va_rf (f i)) hf⟩
noncomputable def xl_tle (F : xl_F) (src : Nat → Nat) (skip : Nat → Bool) (n : Nat) (h h' : xv_A) : Bool := xl_all n (fun j => skip j || (match xv_get 14 h' j with
  | some k' => Nat.beq k'.1 99 || (match xv_get 14 h (src j) with
    | some k => !Nat.beq k.1 99 && xl_cle F k k'
    | none => false)
  | none => true))
theorem xl_tle_ok {F : xl_F} {src : Nat → Nat} {skip : Nat → Bool} {n : Nat} {h h' : xv_A} (hh : xl_tle F src skip n h h' = true) {j : Nat} (hj : j < n) (hs : skip j = false) {k' : xv_C} (hk : xv_get 14 h' j = some k') (h9 : k'.1 ≠ 99) : ∃ k, xv_get 14 h (src j) = some k ∧ k.1 ≠ 99 ∧ xl_cle F k k' = true := by
  have g := xl_all_ok hh j hj
  rw [hs, Bool.false_or, hk] at g
  dsimp only at g
  rcases (Bool.or_eq_true _ _).mp g with g | g
  · exact absurd (xv_beq g) h9
  · cases hq : xv_get 14 h (src j) with
    | none => rw [hq] at g; cases g
    | some k =>
      rw [hq] at g
      dsimp only at g
      obtain ⟨g1, g2⟩ := xv_and_t g
      refine ⟨k, rfl, fun w => ?_, g2⟩
      rw [w] at g1
      exact absurd g1 (by decide)
theorem xl_ne9 {Γ : xv_A} (h9 : xv_get 14 Γ 9999 = none) {r : Nat} {c : xv_C} (h : xv_get 14 Γ r = some c) : r ≠ 9999 := fun w => by rw [w, h9] at h; cases h
/-- without the cells 53 .. 60 (the rows) -/
def xl_fw (n : Nat) : Nat := bif Nat.ble n 52 then n else n - 8
def xl_bw (n : Nat) : Nat := bif Nat.ble n 52 then n else n + 8
def xl_sk8 (n : Nat) : Bool := Nat.ble 53 n && Nat.ble n 60
def xl_sk0 (_ : Nat) : Bool := false
def xl_F0 : xl_F := (fun n => n, fun _ => true, 9999, 9999)
def xl_F1 : xl_F := (xl_fw, fun n => Nat.ble n 52 || (Nat.ble 61 n && Nat.ble n 101), 53, 9999)
def xl_F2 : xl_F := (xl_bw, fun n => Nat.ble n 93, 9999, 53)
theorem xl_fw1 {n : Nat} (h : n < 53) : xl_fw n = n := by
  unfold xl_fw; rw [Nat.ble_eq.mpr (by omega)]; rfl
theorem xl_fw2 {n : Nat} (h : 53 ≤ n) : xl_fw n = n - 8 := by
  unfold xl_fw
  cases hb : Nat.ble n 52 with
  | true => have := xv_ble hb; omega
  | false => rfl
theorem xl_bw1 {n : Nat} (h : n < 53) : xl_bw n = n := by
  unfold xl_bw; rw [Nat.ble_eq.mpr (by omega)]; rfl
theorem xl_bw2 {n : Nat} (h : 53 ≤ n) : xl_bw n = n + 8 := by
  unfold xl_bw
  cases hb : Nat.ble n 52 with
  | true => have := xv_ble hb; omega
  | false => rfl
theorem xl_sk8f {n : Nat} (h : n < 53 ∨ 61 ≤ n) : xl_sk8 n = false := by
  unfold xl_sk8
  cases h1 : Nat.ble 53 n with
  | false => rfl
  | true =>
    cases h2 : Nat.ble n 60 with
    | false => rfl
    | true =>
      have := xv_ble h1
      have := xv_ble h2
      omega
def xl_cut {α : Type} (ws : List α) : List α := ws.take 53 ++ (ws.drop 61).take 41
def xl_mix {α : Type} (w1 ws : List α) : List α := w1.take 53 ++ ((ws.drop 53).take 8 ++ ((w1.drop 53).take 41 ++ ws.drop 102))
theorem xl_cutl {α : Type} {ws : List α} (hl : ws.length = 127) : (xl_cut ws).length = 94 := by
  unfold xl_cut
  rw [List.length_append, List.length_take, List.length_take, List.length_drop]; omega
theorem xl_cutg {α : Type} {ws : List α} (hl : ws.length = 127) {r : Nat} (h : r < 94) : (xl_cut ws)[r]? = ws[xl_bw r]? := by
  unfold xl_cut
  rcases Nat.lt_or_ge r 53 with q | q
  · rw [xl_bw1 q, List.getElem?_append_left (by rw [List.length_take]; omega), List.getElem?_take, if_pos q]
  · rw [xl_bw2 q, List.getElem?_append_right (by rw [List.length_take]; omega), List.length_take, List.getElem?_take, if_pos (by omega), List.getElem?_drop]
    congr 1
    omega
theorem xl_cutm {α β : Type} (f : α → β) (ws : List α) : (xl_cut ws).map f = xl_cut (ws.map f) := by
  unfold xl_cut
  rw [List.map_append, List.map_take, List.map_take, List.map_drop]
theorem xl_mixm {α β : Type} (f : α → β) (w1 ws : List α) : (xl_mix w1 ws).map f = xl_mix (w1.map f) (ws.map f) := by
  unfold xl_mix
  rw [List.map_append, List.map_append, List.map_append, List.map_take, List.map_take, List.map_take, List.map_drop, List.map_drop, List.map_drop]
theorem xl_mixl {α : Type} {w1 ws : List α} (h1 : 94 ≤ w1.length) (hl : ws.length = 127) : (xl_mix w1 ws).length = 127 := by
  unfold xl_mix
  rw [List.length_append, List.length_append, List.length_append, List.length_take, List.length_take, List.length_take, List.length_drop, List.length_drop, List.length_drop]; omega
/-- a place of the new world: of the rows and of the reference the old one, else the run's -/
theorem xl_mixo {α : Type} {w1 ws : List α} (h1 : 94 ≤ w1.length) (hl : ws.length = 127) {r : Nat} (h : (53 ≤ r ∧ r < 61) ∨ 102 ≤ r) : (xl_mix w1 ws)[r]? = ws[r]? := by
  unfold xl_mix
  rw [List.getElem?_append_right (by rw [List.length_take]; omega), List.length_take]
  rcases Nat.lt_or_ge r 61 with q | q
  · rw [List.getElem?_append_left (by rw [List.length_take, List.length_drop]; omega), List.getElem?_take, if_pos (by omega), List.getElem?_drop]
    congr 1
    omega
  · rw [List.getElem?_append_right (by rw [List.length_take, List.length_drop]; omega), List.length_take, List.length_drop, List.getElem?_append_right (by rw [List.length_take, List.length_drop]; omega), List.length_take, List.length_drop, List.getElem?_drop]
    congr 1
    omega
theorem xl_mixn {α : Type} {w1 ws : List α} (h1 : 94 ≤ w1.length) (hl : ws.length = 127) {r : Nat} (h : r < 94) : (xl_mix w1 ws)[xl_bw r]? = w1[r]? := by
  unfold xl_mix
  rcases Nat.lt_or_ge r 53 with q | q
  · rw [xl_bw1 q, List.getElem?_append_left (by rw [List.length_take]; omega), List.getElem?_take, if_pos q]
  · rw [xl_bw2 q, List.getElem?_append_right (by rw [List.length_take]; omega), List.length_take, List.getElem?_append_right (by rw [List.length_take, List.length_drop]; omega), List.length_take, List.length_drop, List.getElem?_append_left (by rw [List.length_take, List.length_drop]; omega), List.getElem?_take, if_pos (by omega), List.getElem?_drop]
    congr 1
    omega
theorem xl_cutmix {α : Type} {w1 ws : List α} (h1 : 94 ≤ w1.length) (hl : ws.length = 127) : xl_cut (xl_mix w1 ws) = w1.take 94 := by
  apply List.ext_getElem?
  intro r
  rcases Nat.lt_or_ge r 94 with q | q
  · rw [xl_cutg (xl_mixl h1 hl) q, xl_mixn h1 hl q, List.getElem?_take, if_pos q]
  · rw [List.getElem?_eq_none (by rw [xl_cutl (xl_mixl h1 hl)]; exact q), List.getElem?_eq_none (by rw [List.length_take]; omega)]
/-- of a list that begins as another's cut does -/
theorem xl_mixe {α : Type} {w1 ws : List α} (h1 : 94 ≤ w1.length) (hl : ws.length = 127) (h : w1.take 94 = xl_cut ws) : xl_mix w1 ws = ws := by
  apply List.ext_getElem?
  intro r
  by_cases q : (53 ≤ r ∧ r < 61) ∨ 102 ≤ r
  · exact xl_mixo h1 hl q
  · obtain ⟨r', hr, e⟩ : ∃ r', r' < 94 ∧ r = xl_bw r' := by
      rcases Nat.lt_or_ge r 53 with z | z
      · exact ⟨r, by omega, (xl_bw1 z).symm⟩
      · exact ⟨r - 8, by omega, by rw [xl_bw2 (by omega)]; omega⟩
    rw [e, xl_mixn h1 hl hr, ← xl_cutg hl hr, ← h, List.getElem?_take, if_pos hr]
theorem xl_Fok1 {as : List Nat} {sb sb' : Nat} {as' : List Nat} (hl : as.length = 127) (h53 : as[53]? = some sb') (h : ∀ n : Nat, n < 94 → ∀ a, as[xl_bw n]? = some a → as'[n]? = some a) : xl_Fok xl_F1 sb sb' as as' := by
  refine ⟨fun n a hn ha => ?_, fun _ a ha => ?_, fun q => absurd q (by decide)⟩
  · show as'[xl_fw n]? = some a
    have hn : (Nat.ble n 52 || (Nat.ble 61 n && Nat.ble n 101)) = true := hn
    rcases (Bool.or_eq_true _ _).mp hn with q | q
    · have q := xv_ble q
      rw [xl_fw1 (by omega)]
      exact h n (by omega) a (by rw [xl_bw1 (by omega)]; exact ha)
    · obtain ⟨q1, q2⟩ := xv_and_t q
      have q1 := xv_ble q1
      have q2 := xv_ble q2
      rw [xl_fw2 (by omega)]
      exact h (n - 8) (by omega) a (by rw [xl_bw2 (by omega), show n - 8 + 8 = n by omega]; exact ha)
  · have ha : as[53]? = some a := ha
    rw [h53] at ha
    cases ha; rfl
theorem xl_Fok2 {as as' : List Nat} {sb sb' : Nat} (h53 : as'[53]? = some sb) (h : ∀ n : Nat, n < 94 → ∀ a, as[n]? = some a → as'[xl_bw n]? = some a) : xl_Fok xl_F2 sb sb' as as' := by
  refine ⟨fun n a hn ha => ?_, fun q => absurd q (by decide), fun _ => h53⟩
  have hn : Nat.ble n 93 = true := hn
  have hn := xv_ble hn
  exact h n (by omega) a ha
theorem xl_Fok0 {as : List Nat} {sb : Nat} : xl_Fok xl_F0 sb sb as as := ⟨fun _ _ _ h => h, fun q => absurd q (by decide), fun q => absurd q (by decide)⟩
