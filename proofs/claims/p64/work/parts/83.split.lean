/-! types of cells, compared; a world and an image's -/
def xl_all : Nat → (Nat → Bool) → Bool
  | 0, _ => true
  | n + 1, f => f n && xl_all n f
theorem xl_all_ok {f : Nat → Bool} : ∀ {n : Nat}, xl_all n f = true → ∀ i, i < n → f i = true
  | 0, _, _, hi => absurd hi (Nat.not_lt_zero _)
  | n + 1, h, i, hi => by
    obtain ⟨h1, h2⟩ := xv_and_t h
    rcases Nat.lt_succ_iff_lt_or_eq.mp hi with q | q
    · exact xl_all_ok h2 i q
    · rw [q]; exact h1
def xl_vle (up dn lo hi : Nat) (v v' : xv_V) : Bool := Nat.beq v'.1 v.1 && (bif Nat.ble v.1 1 then xv_le v'.2.1 v.2.1 && xv_le v.2.2 v'.2.2 else bif Nat.beq v.1 2 then (Nat.ble lo v.2.1.toNat && Nat.ble (v.2.1.toNat + 1) hi) && Nat.beq v'.2.1.toNat (v.2.1.toNat + up - dn) else true)
def xl_ole (up dn lo hi : Nat) (v v' : Option xv_V) : Bool := match v' with
  | none => true
  | some w' => (match v with
    | some w => xl_vle up dn lo hi w w'
    | none => false)
noncomputable def xl_cle (up dn lo hi : Nat) (k k' : xv_C) : Bool := Nat.beq k.1 k'.1 && (Nat.beq k.2.1 k'.2.1 && (bif Nat.beq k.1 0 then Nat.beq k.2.2.1 k'.2.2.1 && xl_all (8 * k'.2.2.2.length) (fun b => xl_ole up dn lo hi (xv_get 8 k.2.2.2 b) (xv_get 8 k'.2.2.2 b)) else xl_all k.2.1 (fun i => xl_ole up dn lo hi (xv_get 8 k.2.2.2 (i % k.2.2.1)) (xv_get 8 k'.2.2.2 (i % k'.2.2.1)))))
theorem xl_vle_ok {up dn lo hi : Nat} {sb : Nat} {as as' : List Nat} {v v' : xv_V} {x : Value} (h : xl_vle up dn lo hi v v' = true) (hp : ∀ n a : Nat, lo ≤ n → n < hi → as[n]? = some a → as'[n + up - dn]? = some a) (hx : xv_hv sb as v x) : xv_hv sb as' v' x := by
  unfold xl_vle at h
  obtain ⟨h1, h⟩ := xv_and_t h
  have h1 := xv_beq h1
  cases b1 : Nat.ble v.1 1 with
  | true =>
    rw [b1] at h
    obtain ⟨g1, g2⟩ := xv_and_t h
    have g1 := xv_le_iff.mp g1
    have g2 := xv_le_iff.mp g2
    have b1 := xv_ble b1
    refine ⟨fun q => ?_, fun q => ?_, fun q => (by omega), fun q => (by omega), fun q => (by omega)⟩
    · obtain ⟨i, e, i1, i2⟩ := hx.1 (by omega); exact ⟨i, e, by omega, by omega⟩
    · obtain ⟨i, e, i1, i2⟩ := hx.2.1 (by omega); exact ⟨i, e, by omega, by omega⟩
  | false =>
    rw [b1] at h
    simp only [cond_false] at h
    have b1 : ¬ v.1 ≤ 1 := fun w => by rw [Nat.ble_eq.mpr w] at b1; cases b1
    cases b2 : Nat.beq v.1 2 with
    | true =>
      rw [b2] at h
      obtain ⟨g, g3⟩ := xv_and_t h
      obtain ⟨g1, g2⟩ := xv_and_t g
      have g1 := xv_ble g1
      have g2 := xv_ble g2
      have g3 := xv_beq g3
      have b2 := xv_beq b2
      refine ⟨fun q => (by omega), fun q => (by omega), fun _ => ?_, fun q => (by omega), fun q => (by omega)⟩
      obtain ⟨a, e1, e2⟩ := hx.2.2.1 b2
      exact ⟨a, by rw [g3]; exact hp _ a g1 (by omega) e1, e2⟩
    | false =>
      have b2 : v.1 ≠ 2 := fun w => by rw [w] at b2; cases b2
      exact ⟨fun q => (by omega), fun q => (by omega), fun q => (by omega), fun q => hx.2.2.2.1 (by omega), fun q => hx.2.2.2.2 (by omega)⟩
theorem xl_ole_ok {up dn lo hi : Nat} {v : Option xv_V} {v' : xv_V} (h : xl_ole up dn lo hi v (some v') = true) : ∃ w, v = some w ∧ xl_vle up dn lo hi w v' = true := by
  cases v with
  | none => cases h
  | some w => exact ⟨w, rfl, h⟩
theorem xl_get_lt {α : Type} {R : Nat} {ll : List (List α)} {i : Nat} {v : α} (hR : 0 < R) (h : xv_get R ll i = some v) : i < R * ll.length := by
  rw [xv_get_eq] at h
  cases hl : ll[i / R]? with
  | none => rw [hl] at h; cases h
  | some l =>
    have := (List.getElem?_eq_some_iff.mp hl).1
    rw [Nat.mul_comm]
    exact (Nat.div_lt_iff_lt_mul hR).mp this
theorem xl_hc {up dn lo hi : Nat} {t : Nat → ClassId} {sb : Nat} {as as' : List Nat} {k k' : xv_C} {x : va_E} (h : xl_cle up dn lo hi k k' = true) (hp : ∀ n a : Nat, lo ≤ n → n < hi → as[n]? = some a → as'[n + up - dn]? = some a) (hx : xv_hc t sb as k x) : xv_hc t sb as' k' x := by
  unfold xl_cle at h
  obtain ⟨h1, h⟩ := xv_and_t h
  obtain ⟨h2, h⟩ := xv_and_t h
  have h1 := xv_beq h1
  have h2 := xv_beq h2
  obtain ⟨x0, x1, x4, x5, x6⟩ := hx
  cases b0 : Nat.beq k.1 0 with
  | true =>
    rw [b0] at h
    obtain ⟨h3, h⟩ := xv_and_t h
    have h3 := xv_beq h3
    have b0 := xv_beq b0
    refine ⟨fun _ => ?_, fun q => (by omega), fun q => (by omega), fun q => (by omega), fun q => (by omega)⟩
    obtain ⟨fs, e, hl, hf⟩ := x0 b0
    refine ⟨fs, by rw [← h2]; exact e, by rw [← h3]; exact hl, fun b v hb => ?_⟩
    have g := xl_all_ok h b (xl_get_lt (by decide) hb)
    rw [hb] at g
    obtain ⟨w, hw, g⟩ := xl_ole_ok g
    obtain ⟨y, hy, hv⟩ := hf b w hw
    exact ⟨y, hy, xl_vle_ok g hp hv⟩
  | false =>
    rw [b0] at h
    simp only [cond_false] at h
    have b0 : k.1 ≠ 0 := fun w => by rw [w] at b0; cases b0
    have row : ∀ (y : Nat → Value), (∀ i : Nat, i < k.2.1 → ∀ v : xv_V, xv_get 8 k.2.2.2 (i % k.2.2.1) = some v → xv_hv sb as v (y i)) → ∀ i : Nat, i < k'.2.1 → ∀ v : xv_V, xv_get 8 k'.2.2.2 (i % k'.2.2.1) = some v → xv_hv sb as' v (y i) := fun y hf i hi v hb => by
      have g := xl_all_ok h i (by omega)
      rw [hb] at g
      obtain ⟨w, hw, g⟩ := xl_ole_ok g
      exact xl_vle_ok g hp (hf i (by omega) w hw)
    refine ⟨fun q => (by omega), fun q => ?_, fun q => ?_, fun q => ?_, fun q => by rw [← h2]; exact x6 b0⟩
    · obtain ⟨f, e, hf⟩ := x1 (by omega)
      exact ⟨f, by rw [← h1, ← h2]; exact e, row (fun i => .int (f i)) hf⟩
    · obtain ⟨f, e, hf⟩ := x4 (by omega)
      exact ⟨f, by rw [← h1, ← h2]; exact e, row (fun i => .long (f i)) hf⟩
    · obtain ⟨f, e, hf⟩ := x5 (by omega)
      exact ⟨f, by rw [← h1, ← h2]; exact e, row (fun i => va_rf (f i)) hf⟩
noncomputable def xl_tle (up dn lo hi off off' n : Nat) (h h' : xv_A) : Bool := xl_all n (fun j => match xv_get 14 h' (off' + j) with
  | some k' => Nat.beq k'.1 99 || (match xv_get 14 h (off + j) with
    | some k => !Nat.beq k.1 99 && xl_cle up dn lo hi k k'
    | none => false)
  | none => true)
theorem xl_tle_ok {up dn lo hi off off' n : Nat} {h h' : xv_A} (hh : xl_tle up dn lo hi off off' n h h' = true) {j : Nat} (hj : j < n) {k' : xv_C} (hk : xv_get 14 h' (off' + j) = some k') (h9 : k'.1 ≠ 99) : ∃ k, xv_get 14 h (off + j) = some k ∧ k.1 ≠ 99 ∧ xl_cle up dn lo hi k k' = true := by
  have g := xl_all_ok hh j hj
  rw [hk] at g
  dsimp only at g
  rcases (Bool.or_eq_true _ _).mp g with g | g
  · exact absurd (xv_beq g) h9
  · cases hq : xv_get 14 h (off + j) with
    | none => rw [hq] at g; cases g
    | some k =>
      rw [hq] at g
      dsimp only at g
      obtain ⟨g1, g2⟩ := xv_and_t g
      refine ⟨k, rfl, fun w => ?_, g2⟩
      rw [w] at g1
      exact absurd g1 (by decide)
set_option maxRecDepth 100000 in
theorem xl_s1 : xl_tle 0 0 0 127 0 0 127 xz_G xl_G2 = true := by decide +kernel
set_option maxRecDepth 100000 in
theorem xl_s2 : xl_tle 127 0 0 21 0 127 27 xl_GI xl_G2 = true := by decide +kernel
set_option maxRecDepth 100000 in
theorem xl_s3 : xl_tle 0 0 0 127 0 0 140 xl_G2 xz_G = true := by decide +kernel
set_option maxRecDepth 100000 in
theorem xl_s4 : xl_tle 0 127 127 148 127 0 28 xl_G2 xl_GI = true := by decide +kernel
theorem xl_sl : xl_G2.length = 11 ∧ xz_G.length = 10 ∧ xl_GI.length = 2 := ⟨rfl, rfl, rfl⟩
theorem xl_comp {t : Nat → ClassId} {sb : Nat} {ws wi : va_W} (hH : xv_H t sb xz_G 127 ws) (hI : xv_H t sb xl_GI 21 wi) : xv_H t sb xl_G2 148 (ws ++ wi) := by
  have l1 := hH.1
  have l2 := hI.1
  refine ⟨by rw [List.length_append, l1, l2], fun r k' hr h9 => ?_⟩
  have hlt := xl_get_lt (by decide) hr
  rw [xl_sl.1] at hlt
  rcases Nat.lt_or_ge r 127 with q | q
  · obtain ⟨k, hk, hk9, hle⟩ := xl_tle_ok xl_s1 q (by rw [Nat.zero_add]; exact hr) h9
    rw [Nat.zero_add] at hk
    obtain ⟨a, x, e1, e2⟩ := hH.2 r k hk hk9
    refine ⟨a, x, by rw [List.getElem?_append_left (by omega)]; exact e1, xl_hc hle (fun n b _ hn hb => ?_) e2⟩
    rw [List.map_append]
    exact xv_pre_app n b hb
  · obtain ⟨j, rfl⟩ : ∃ j, r = 127 + j := ⟨r - 127, by omega⟩
    obtain ⟨k, hk, hk9, hle⟩ := xl_tle_ok xl_s2 (j := j) (by omega) hr h9
    rw [Nat.zero_add] at hk
    obtain ⟨a, x, e1, e2⟩ := hI.2 j k hk hk9
    refine ⟨a, x, by rw [List.getElem?_append_right (by omega), l1, Nat.add_sub_cancel_left]; exact e1, xl_hc hle (fun n b _ hn hb => ?_) e2⟩
    rw [List.map_append, List.getElem?_append_right (by simp [l1]), List.length_map, l1]
    rw [show n + 127 - 0 - 127 = n by omega]
    exact hb
theorem xl_dec1 {t : Nat → ClassId} {sb : Nat} {ws wi : va_W} (l1 : ws.length = 127) (h : xv_H t sb xl_G2 148 (ws ++ wi)) : xv_H t sb xz_G 127 ws := by
  refine ⟨l1, fun r k' hr h9 => ?_⟩
  have hlt := xl_get_lt (by decide) hr
  rw [xl_sl.2.1] at hlt
  obtain ⟨k, hk, hk9, hle⟩ := xl_tle_ok xl_s3 (j := r) (by omega) (by rw [Nat.zero_add]; exact hr) h9
  rw [Nat.zero_add] at hk
  obtain ⟨a, x, e1, e2⟩ := h.2 r k hk hk9
  have hr127 : r < 127 := by
    rcases Nat.lt_or_ge r 127 with q | q
    · exact q
    · exfalso
      have : r = 127 ∨ r = 128 ∨ r = 129 ∨ r = 130 ∨ r = 131 ∨ r = 132 ∨ r = 133 ∨ r = 134 ∨ r = 135 ∨ r = 136 ∨ r = 137 ∨ r = 138 ∨ r = 139 := by omega
      rcases this with rfl | rfl | rfl | rfl | rfl | rfl | rfl | rfl | rfl | rfl | rfl | rfl | rfl <;> cases hr
  rw [List.getElem?_append_left (by omega)] at e1
  refine ⟨a, x, e1, xl_hc hle (fun n b _ hn hb => ?_) e2⟩
  rw [List.map_append, List.getElem?_append_left (by simp [l1]; omega)] at hb
  exact hb
theorem xl_dec2 {t : Nat → ClassId} {sb : Nat} {ws wi : va_W} (l1 : ws.length = 127) (h : xv_H t sb xl_G2 148 (ws ++ wi)) : xv_H t sb xl_GI 21 wi := by
  have l2 := h.1
  rw [List.length_append, l1] at l2
  refine ⟨by omega, fun r k' hr h9 => ?_⟩
  have hlt := xl_get_lt (by decide) hr
  rw [xl_sl.2.2] at hlt
  obtain ⟨k, hk, hk9, hle⟩ := xl_tle_ok xl_s4 (j := r) (by omega) (by rw [Nat.zero_add]; exact hr) h9
  obtain ⟨a, x, e1, e2⟩ := h.2 (127 + r) k hk hk9
  rw [List.getElem?_append_right (by omega), l1, Nat.add_sub_cancel_left] at e1
  refine ⟨a, x, e1, xl_hc hle (fun n b hn _ hb => ?_) e2⟩
  rw [List.map_append, List.getElem?_append_right (by simp [l1]; omega), List.length_map, l1] at hb
  rw [Nat.add_zero]
  exact hb
theorem xl_ct1 {ws wi : va_W} {r j : Nat} (h : r < ws.length) : xw_ct (ws ++ wi) r j = xw_ct ws r j := by
  unfold xw_ct
  rw [List.getElem?_append_left h]
theorem xl_ne9 {Γ : xv_A} (h9 : xv_get 14 Γ 9999 = none) {r : Nat} {c : xv_C} (h : xv_get 14 Γ r = some c) : r ≠ 9999 := fun w => by rw [w, h9] at h; cases h
theorem xl_Wd2 {t : Nat → ClassId} {X : xw_X} {xs : Nat → Int32} {ws wi : va_W} (l1 : ws.length = 127) (h : xw_Wd xz_hl xz_G t X (xw_mu xs ws) ws) (hI : xv_H t X.1 xl_GI 21 wi) : xw_Wd xz_hl xl_G2 t X (xw_mu xs (ws ++ wi)) (ws ++ wi) := by
  have hH := h.1
  rw [l1] at hH
  refine ⟨?_, fun c hc j hj => ?_, fun r c hc i => xy_mu (xl_ne9 xl_G2_9 hc)⟩
  · rw [List.length_append, l1, hI.1]; exact xl_comp hH hI
  · rw [xl_ct1 (by rw [l1]; decide)]
    refine h.2.1 c ?_ j hj
    rw [← hc]; rfl
theorem xl_Wd1 {t : Nat → ClassId} {X : xw_X} {xs : Nat → Int32} {ws wi : va_W} (l1 : ws.length = 127) (l2 : wi.length = 21) (h : xw_Wd xz_hl xl_G2 t X (xw_mu xs (ws ++ wi)) (ws ++ wi)) : xw_Wd xz_hl xz_G t X (xw_mu xs ws) ws ∧ xv_H t X.1 xl_GI 21 wi := by
  have hH := h.1
  rw [List.length_append, l1, l2] at hH
  refine ⟨⟨by rw [l1]; exact xl_dec1 l1 hH, fun c hc j hj => ?_, fun r c hc i => xy_mu (xl_ne9 xz_9 hc)⟩, xl_dec2 l1 hH⟩
  rw [← xl_ct1 (wi := wi) (by rw [l1]; decide)]
  refine h.2.1 c ?_ j hj
  rw [← hc]; rfl
theorem xl_tak {l : Launch} : xw_CV l (xv_JI xt_J) xz_hl xl_G2 xl_C0 ∧ xw_CV l (xv_JI xt_J) xz_hl xl_G2 xl_C1 ∧ xw_CV l (xv_JI xt_J) xz_hl xl_G2 xl_C2 ∧ xw_CV l (xv_JI xt_J) xz_hl xl_G2 xl_C3 :=
  have hv : xw_VOK l (xv_JI xt_J) xz_hl xl_G2 xz_CT ([], [], []) := fun _ _ _ h => by cases h
  ⟨xy_con xl_G2_9 xl_G2_nar xt_ok2 hv (by decide) xl_c0, xy_con xl_G2_9 xl_G2_nar xt_ok2 hv (by decide) xl_c1, xy_con xl_G2_9 xl_G2_nar xt_ok2 hv (by decide) xl_c2, xy_con xl_G2_9 xl_G2_nar xt_ok2 hv (by decide) xl_c3⟩
