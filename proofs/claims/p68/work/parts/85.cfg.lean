/-! the 16 worlds -/
def xl_n (j : Nat) : Nat := match j with
  | 0 => 94
  | 1 => 115
  | 2 => 115
  | 3 => 115
  | 4 => 136
  | 5 => 136
  | 6 => 136
  | 7 => 136
  | 8 => 136
  | 9 => 136
  | 10 => 157
  | 11 => 157
  | 12 => 157
  | 13 => 157
  | 14 => 157
  | _ => 157
set_option maxRecDepth 100000 in
theorem xl_u0 : (xl_tle xl_F1 xl_bw xl_sk0 93 xz_G xl_h0 && xl_tle xl_F2 xl_fw xl_sk8 102 xl_h0 xz_G) = true := by decide +kernel
set_option maxRecDepth 100000 in
theorem xl_u1 : (xl_tle xl_F1 xl_bw xl_sk0 93 xz_G xl_h1 && xl_tle xl_F2 xl_fw xl_sk8 102 xl_h1 xz_G) = true := by decide +kernel
set_option maxRecDepth 100000 in
theorem xl_u2 : (xl_tle xl_F1 xl_bw xl_sk0 93 xz_G xl_h2 && xl_tle xl_F2 xl_fw xl_sk8 102 xl_h2 xz_G) = true := by decide +kernel
set_option maxRecDepth 100000 in
theorem xl_u3 : (xl_tle xl_F1 xl_bw xl_sk0 93 xz_G xl_h3 && xl_tle xl_F2 xl_fw xl_sk8 102 xl_h3 xz_G) = true := by decide +kernel
set_option maxRecDepth 100000 in
theorem xl_u4 : (xl_tle xl_F1 xl_bw xl_sk0 93 xz_G xl_h4 && xl_tle xl_F2 xl_fw xl_sk8 102 xl_h4 xz_G) = true := by decide +kernel
set_option maxRecDepth 100000 in
theorem xl_u5 : (xl_tle xl_F1 xl_bw xl_sk0 93 xz_G xl_h5 && xl_tle xl_F2 xl_fw xl_sk8 102 xl_h5 xz_G) = true := by decide +kernel
set_option maxRecDepth 100000 in
theorem xl_u6 : (xl_tle xl_F1 xl_bw xl_sk0 93 xz_G xl_h6 && xl_tle xl_F2 xl_fw xl_sk8 102 xl_h6 xz_G) = true := by decide +kernel
set_option maxRecDepth 100000 in
theorem xl_u7 : (xl_tle xl_F1 xl_bw xl_sk0 93 xz_G xl_h7 && xl_tle xl_F2 xl_fw xl_sk8 102 xl_h7 xz_G) = true := by decide +kernel
set_option maxRecDepth 100000 in
theorem xl_u8 : (xl_tle xl_F1 xl_bw xl_sk0 93 xz_G xl_h8 && xl_tle xl_F2 xl_fw xl_sk8 102 xl_h8 xz_G) = true := by decide +kernel
set_option maxRecDepth 100000 in
theorem xl_u9 : (xl_tle xl_F1 xl_bw xl_sk0 93 xz_G xl_h9 && xl_tle xl_F2 xl_fw xl_sk8 102 xl_h9 xz_G) = true := by decide +kernel
set_option maxRecDepth 100000 in
theorem xl_u10 : (xl_tle xl_F1 xl_bw xl_sk0 93 xz_G xl_h10 && xl_tle xl_F2 xl_fw xl_sk8 102 xl_h10 xz_G) = true := by decide +kernel
set_option maxRecDepth 100000 in
theorem xl_u11 : (xl_tle xl_F1 xl_bw xl_sk0 93 xz_G xl_h11 && xl_tle xl_F2 xl_fw xl_sk8 102 xl_h11 xz_G) = true := by decide +kernel
set_option maxRecDepth 100000 in
theorem xl_u12 : (xl_tle xl_F1 xl_bw xl_sk0 93 xz_G xl_h12 && xl_tle xl_F2 xl_fw xl_sk8 102 xl_h12 xz_G) = true := by decide +kernel
set_option maxRecDepth 100000 in
theorem xl_u13 : (xl_tle xl_F1 xl_bw xl_sk0 93 xz_G xl_h13 && xl_tle xl_F2 xl_fw xl_sk8 102 xl_h13 xz_G) = true := by decide +kernel
set_option maxRecDepth 100000 in
theorem xl_u14 : (xl_tle xl_F1 xl_bw xl_sk0 93 xz_G xl_h14 && xl_tle xl_F2 xl_fw xl_sk8 102 xl_h14 xz_G) = true := by decide +kernel
set_option maxRecDepth 100000 in
theorem xl_u15 : (xl_tle xl_F1 xl_bw xl_sk0 93 xz_G xl_h15 && xl_tle xl_F2 xl_fw xl_sk8 102 xl_h15 xz_G) = true := by decide +kernel
theorem xl_u : ∀ j, j < 16 → (xl_tle xl_F1 xl_bw xl_sk0 93 xz_G (xl_hj j) && xl_tle xl_F2 xl_fw xl_sk8 102 (xl_hj j) xz_G) = true
  | 0, _ => xl_u0
  | 1, _ => xl_u1
  | 2, _ => xl_u2
  | 3, _ => xl_u3
  | 4, _ => xl_u4
  | 5, _ => xl_u5
  | 6, _ => xl_u6
  | 7, _ => xl_u7
  | 8, _ => xl_u8
  | 9, _ => xl_u9
  | 10, _ => xl_u10
  | 11, _ => xl_u11
  | 12, _ => xl_u12
  | 13, _ => xl_u13
  | 14, _ => xl_u14
  | 15, _ => xl_u15
  | j + 16, h => absurd h (by omega)
theorem xl_hlen : ∀ j, j < 16 → (xl_hj j).length = 14
  | 0, _ => rfl
  | 1, _ => rfl
  | 2, _ => rfl
  | 3, _ => rfl
  | 4, _ => rfl
  | 5, _ => rfl
  | 6, _ => rfl
  | 7, _ => rfl
  | 8, _ => rfl
  | 9, _ => rfl
  | 10, _ => rfl
  | 11, _ => rfl
  | 12, _ => rfl
  | 13, _ => rfl
  | 14, _ => rfl
  | 15, _ => rfl
  | j + 16, h => absurd h (by omega)
theorem xl_k5 (k : Int) : (k ≤ -1 ∨ 3 ≤ k) ∨ k = 0 ∨ k = 1 ∨ k = 2 := by omega
/-- a run of image or of again is told, whatever the number -/
def xl_R (id j : Nat) (k : Int32) (j' : Nat) (v : Int) : Prop := ∃ kv : xv_V, kv.1 = 0 ∧ kv.2.1 ≤ k.toInt ∧ k.toInt ≤ kv.2.2 ∧ j' < 16 ∧ xl_n j ≤ xl_n j' ∧ xl_cB id [(2, 0, 0), kv] (xl_hj j) (xl_n j) (xl_hj j') (xl_n j') v (xl_n j' - xl_n j) = true
theorem xl_Ri0 (k : Int32) : ∃ j' v, xl_R 181 0 k j' v ∧ (((k.toInt ≤ -1 ∨ 3 ≤ k.toInt) ∧ v = (-2) ∧ j' = 0) ∨ (k.toInt = 0 ∧ v = 0 ∧ j' = 1) ∨ (k.toInt = 1 ∧ v = 0 ∧ j' = 2) ∨ (k.toInt = 2 ∧ v = 0 ∧ j' = 3)) := by
  have hb := xv_i32 k
  rcases xl_k5 k.toInt with (h | h) | h | h | h
  · exact ⟨0, -2, ⟨(0, (-2147483648), (-1)), rfl, hb.1, h, by decide, by decide, xl_i0_n⟩, Or.inl ⟨Or.inl h, rfl, rfl⟩⟩
  · exact ⟨0, -2, ⟨(0, 3, 2147483647), rfl, h, hb.2, by decide, by decide, xl_i0_p⟩, Or.inl ⟨Or.inr h, rfl, rfl⟩⟩
  · exact ⟨1, 0, ⟨(0, 0, 0), rfl, by rw [h]; decide, by rw [h]; decide, by decide, by decide, xl_i0_0⟩, Or.inr (Or.inl ⟨h, rfl, rfl⟩)⟩
  · exact ⟨2, 0, ⟨(0, 1, 1), rfl, by rw [h]; decide, by rw [h]; decide, by decide, by decide, xl_i0_1⟩, Or.inr (Or.inr (Or.inl ⟨h, rfl, rfl⟩))⟩
  · exact ⟨3, 0, ⟨(0, 2, 2), rfl, by rw [h]; decide, by rw [h]; decide, by decide, by decide, xl_i0_2⟩, Or.inr (Or.inr (Or.inr (⟨h, rfl, rfl⟩)))⟩
theorem xl_Ri1 (k : Int32) : ∃ j' v, xl_R 181 1 k j' v ∧ (((k.toInt ≤ -1 ∨ 3 ≤ k.toInt) ∧ v = (-2) ∧ j' = 1) ∨ (k.toInt = 0 ∧ v = 0 ∧ j' = 1) ∨ (k.toInt = 1 ∧ v = 0 ∧ j' = 4) ∨ (k.toInt = 2 ∧ v = 0 ∧ j' = 5)) := by
  have hb := xv_i32 k
  rcases xl_k5 k.toInt with (h | h) | h | h | h
  · exact ⟨1, -2, ⟨(0, (-2147483648), (-1)), rfl, hb.1, h, by decide, by decide, xl_i1_n⟩, Or.inl ⟨Or.inl h, rfl, rfl⟩⟩
  · exact ⟨1, -2, ⟨(0, 3, 2147483647), rfl, h, hb.2, by decide, by decide, xl_i1_p⟩, Or.inl ⟨Or.inr h, rfl, rfl⟩⟩
  · exact ⟨1, 0, ⟨(0, 0, 0), rfl, by rw [h]; decide, by rw [h]; decide, by decide, by decide, xl_i1_0⟩, Or.inr (Or.inl ⟨h, rfl, rfl⟩)⟩
  · exact ⟨4, 0, ⟨(0, 1, 1), rfl, by rw [h]; decide, by rw [h]; decide, by decide, by decide, xl_i1_1⟩, Or.inr (Or.inr (Or.inl ⟨h, rfl, rfl⟩))⟩
  · exact ⟨5, 0, ⟨(0, 2, 2), rfl, by rw [h]; decide, by rw [h]; decide, by decide, by decide, xl_i1_2⟩, Or.inr (Or.inr (Or.inr (⟨h, rfl, rfl⟩)))⟩
theorem xl_Ri2 (k : Int32) : ∃ j' v, xl_R 181 2 k j' v ∧ (((k.toInt ≤ -1 ∨ 3 ≤ k.toInt) ∧ v = (-2) ∧ j' = 2) ∨ (k.toInt = 0 ∧ v = 0 ∧ j' = 6) ∨ (k.toInt = 1 ∧ v = 0 ∧ j' = 2) ∨ (k.toInt = 2 ∧ v = 0 ∧ j' = 7)) := by
  have hb := xv_i32 k
  rcases xl_k5 k.toInt with (h | h) | h | h | h
  · exact ⟨2, -2, ⟨(0, (-2147483648), (-1)), rfl, hb.1, h, by decide, by decide, xl_i2_n⟩, Or.inl ⟨Or.inl h, rfl, rfl⟩⟩
  · exact ⟨2, -2, ⟨(0, 3, 2147483647), rfl, h, hb.2, by decide, by decide, xl_i2_p⟩, Or.inl ⟨Or.inr h, rfl, rfl⟩⟩
  · exact ⟨6, 0, ⟨(0, 0, 0), rfl, by rw [h]; decide, by rw [h]; decide, by decide, by decide, xl_i2_0⟩, Or.inr (Or.inl ⟨h, rfl, rfl⟩)⟩
  · exact ⟨2, 0, ⟨(0, 1, 1), rfl, by rw [h]; decide, by rw [h]; decide, by decide, by decide, xl_i2_1⟩, Or.inr (Or.inr (Or.inl ⟨h, rfl, rfl⟩))⟩
  · exact ⟨7, 0, ⟨(0, 2, 2), rfl, by rw [h]; decide, by rw [h]; decide, by decide, by decide, xl_i2_2⟩, Or.inr (Or.inr (Or.inr (⟨h, rfl, rfl⟩)))⟩
theorem xl_Ri3 (k : Int32) : ∃ j' v, xl_R 181 3 k j' v ∧ (((k.toInt ≤ -1 ∨ 3 ≤ k.toInt) ∧ v = (-2) ∧ j' = 3) ∨ (k.toInt = 0 ∧ v = 0 ∧ j' = 8) ∨ (k.toInt = 1 ∧ v = 0 ∧ j' = 9) ∨ (k.toInt = 2 ∧ v = 0 ∧ j' = 3)) := by
  have hb := xv_i32 k
  rcases xl_k5 k.toInt with (h | h) | h | h | h
  · exact ⟨3, -2, ⟨(0, (-2147483648), (-1)), rfl, hb.1, h, by decide, by decide, xl_i3_n⟩, Or.inl ⟨Or.inl h, rfl, rfl⟩⟩
  · exact ⟨3, -2, ⟨(0, 3, 2147483647), rfl, h, hb.2, by decide, by decide, xl_i3_p⟩, Or.inl ⟨Or.inr h, rfl, rfl⟩⟩
  · exact ⟨8, 0, ⟨(0, 0, 0), rfl, by rw [h]; decide, by rw [h]; decide, by decide, by decide, xl_i3_0⟩, Or.inr (Or.inl ⟨h, rfl, rfl⟩)⟩
  · exact ⟨9, 0, ⟨(0, 1, 1), rfl, by rw [h]; decide, by rw [h]; decide, by decide, by decide, xl_i3_1⟩, Or.inr (Or.inr (Or.inl ⟨h, rfl, rfl⟩))⟩
  · exact ⟨3, 0, ⟨(0, 2, 2), rfl, by rw [h]; decide, by rw [h]; decide, by decide, by decide, xl_i3_2⟩, Or.inr (Or.inr (Or.inr (⟨h, rfl, rfl⟩)))⟩
theorem xl_Ri4 (k : Int32) : ∃ j' v, xl_R 181 4 k j' v ∧ (((k.toInt ≤ -1 ∨ 3 ≤ k.toInt) ∧ v = (-2) ∧ j' = 4) ∨ (k.toInt = 0 ∧ v = 0 ∧ j' = 4) ∨ (k.toInt = 1 ∧ v = 0 ∧ j' = 4) ∨ (k.toInt = 2 ∧ v = 0 ∧ j' = 10)) := by
  have hb := xv_i32 k
  rcases xl_k5 k.toInt with (h | h) | h | h | h
  · exact ⟨4, -2, ⟨(0, (-2147483648), (-1)), rfl, hb.1, h, by decide, by decide, xl_i4_n⟩, Or.inl ⟨Or.inl h, rfl, rfl⟩⟩
  · exact ⟨4, -2, ⟨(0, 3, 2147483647), rfl, h, hb.2, by decide, by decide, xl_i4_p⟩, Or.inl ⟨Or.inr h, rfl, rfl⟩⟩
  · exact ⟨4, 0, ⟨(0, 0, 0), rfl, by rw [h]; decide, by rw [h]; decide, by decide, by decide, xl_i4_0⟩, Or.inr (Or.inl ⟨h, rfl, rfl⟩)⟩
  · exact ⟨4, 0, ⟨(0, 1, 1), rfl, by rw [h]; decide, by rw [h]; decide, by decide, by decide, xl_i4_1⟩, Or.inr (Or.inr (Or.inl ⟨h, rfl, rfl⟩))⟩
  · exact ⟨10, 0, ⟨(0, 2, 2), rfl, by rw [h]; decide, by rw [h]; decide, by decide, by decide, xl_i4_2⟩, Or.inr (Or.inr (Or.inr (⟨h, rfl, rfl⟩)))⟩
theorem xl_Ri5 (k : Int32) : ∃ j' v, xl_R 181 5 k j' v ∧ (((k.toInt ≤ -1 ∨ 3 ≤ k.toInt) ∧ v = (-2) ∧ j' = 5) ∨ (k.toInt = 0 ∧ v = 0 ∧ j' = 5) ∨ (k.toInt = 1 ∧ v = 0 ∧ j' = 11) ∨ (k.toInt = 2 ∧ v = 0 ∧ j' = 5)) := by
  have hb := xv_i32 k
  rcases xl_k5 k.toInt with (h | h) | h | h | h
  · exact ⟨5, -2, ⟨(0, (-2147483648), (-1)), rfl, hb.1, h, by decide, by decide, xl_i5_n⟩, Or.inl ⟨Or.inl h, rfl, rfl⟩⟩
  · exact ⟨5, -2, ⟨(0, 3, 2147483647), rfl, h, hb.2, by decide, by decide, xl_i5_p⟩, Or.inl ⟨Or.inr h, rfl, rfl⟩⟩
  · exact ⟨5, 0, ⟨(0, 0, 0), rfl, by rw [h]; decide, by rw [h]; decide, by decide, by decide, xl_i5_0⟩, Or.inr (Or.inl ⟨h, rfl, rfl⟩)⟩
  · exact ⟨11, 0, ⟨(0, 1, 1), rfl, by rw [h]; decide, by rw [h]; decide, by decide, by decide, xl_i5_1⟩, Or.inr (Or.inr (Or.inl ⟨h, rfl, rfl⟩))⟩
  · exact ⟨5, 0, ⟨(0, 2, 2), rfl, by rw [h]; decide, by rw [h]; decide, by decide, by decide, xl_i5_2⟩, Or.inr (Or.inr (Or.inr (⟨h, rfl, rfl⟩)))⟩
theorem xl_Ri6 (k : Int32) : ∃ j' v, xl_R 181 6 k j' v ∧ (((k.toInt ≤ -1 ∨ 3 ≤ k.toInt) ∧ v = (-2) ∧ j' = 6) ∨ (k.toInt = 0 ∧ v = 0 ∧ j' = 6) ∨ (k.toInt = 1 ∧ v = 0 ∧ j' = 6) ∨ (k.toInt = 2 ∧ v = 0 ∧ j' = 12)) := by
  have hb := xv_i32 k
  rcases xl_k5 k.toInt with (h | h) | h | h | h
  · exact ⟨6, -2, ⟨(0, (-2147483648), (-1)), rfl, hb.1, h, by decide, by decide, xl_i6_n⟩, Or.inl ⟨Or.inl h, rfl, rfl⟩⟩
  · exact ⟨6, -2, ⟨(0, 3, 2147483647), rfl, h, hb.2, by decide, by decide, xl_i6_p⟩, Or.inl ⟨Or.inr h, rfl, rfl⟩⟩
  · exact ⟨6, 0, ⟨(0, 0, 0), rfl, by rw [h]; decide, by rw [h]; decide, by decide, by decide, xl_i6_0⟩, Or.inr (Or.inl ⟨h, rfl, rfl⟩)⟩
  · exact ⟨6, 0, ⟨(0, 1, 1), rfl, by rw [h]; decide, by rw [h]; decide, by decide, by decide, xl_i6_1⟩, Or.inr (Or.inr (Or.inl ⟨h, rfl, rfl⟩))⟩
  · exact ⟨12, 0, ⟨(0, 2, 2), rfl, by rw [h]; decide, by rw [h]; decide, by decide, by decide, xl_i6_2⟩, Or.inr (Or.inr (Or.inr (⟨h, rfl, rfl⟩)))⟩
theorem xl_Ri7 (k : Int32) : ∃ j' v, xl_R 181 7 k j' v ∧ (((k.toInt ≤ -1 ∨ 3 ≤ k.toInt) ∧ v = (-2) ∧ j' = 7) ∨ (k.toInt = 0 ∧ v = 0 ∧ j' = 13) ∨ (k.toInt = 1 ∧ v = 0 ∧ j' = 7) ∨ (k.toInt = 2 ∧ v = 0 ∧ j' = 7)) := by
  have hb := xv_i32 k
  rcases xl_k5 k.toInt with (h | h) | h | h | h
  · exact ⟨7, -2, ⟨(0, (-2147483648), (-1)), rfl, hb.1, h, by decide, by decide, xl_i7_n⟩, Or.inl ⟨Or.inl h, rfl, rfl⟩⟩
  · exact ⟨7, -2, ⟨(0, 3, 2147483647), rfl, h, hb.2, by decide, by decide, xl_i7_p⟩, Or.inl ⟨Or.inr h, rfl, rfl⟩⟩
  · exact ⟨13, 0, ⟨(0, 0, 0), rfl, by rw [h]; decide, by rw [h]; decide, by decide, by decide, xl_i7_0⟩, Or.inr (Or.inl ⟨h, rfl, rfl⟩)⟩
  · exact ⟨7, 0, ⟨(0, 1, 1), rfl, by rw [h]; decide, by rw [h]; decide, by decide, by decide, xl_i7_1⟩, Or.inr (Or.inr (Or.inl ⟨h, rfl, rfl⟩))⟩
  · exact ⟨7, 0, ⟨(0, 2, 2), rfl, by rw [h]; decide, by rw [h]; decide, by decide, by decide, xl_i7_2⟩, Or.inr (Or.inr (Or.inr (⟨h, rfl, rfl⟩)))⟩
theorem xl_Ri8 (k : Int32) : ∃ j' v, xl_R 181 8 k j' v ∧ (((k.toInt ≤ -1 ∨ 3 ≤ k.toInt) ∧ v = (-2) ∧ j' = 8) ∨ (k.toInt = 0 ∧ v = 0 ∧ j' = 8) ∨ (k.toInt = 1 ∧ v = 0 ∧ j' = 14) ∨ (k.toInt = 2 ∧ v = 0 ∧ j' = 8)) := by
  have hb := xv_i32 k
  rcases xl_k5 k.toInt with (h | h) | h | h | h
  · exact ⟨8, -2, ⟨(0, (-2147483648), (-1)), rfl, hb.1, h, by decide, by decide, xl_i8_n⟩, Or.inl ⟨Or.inl h, rfl, rfl⟩⟩
  · exact ⟨8, -2, ⟨(0, 3, 2147483647), rfl, h, hb.2, by decide, by decide, xl_i8_p⟩, Or.inl ⟨Or.inr h, rfl, rfl⟩⟩
  · exact ⟨8, 0, ⟨(0, 0, 0), rfl, by rw [h]; decide, by rw [h]; decide, by decide, by decide, xl_i8_0⟩, Or.inr (Or.inl ⟨h, rfl, rfl⟩)⟩
  · exact ⟨14, 0, ⟨(0, 1, 1), rfl, by rw [h]; decide, by rw [h]; decide, by decide, by decide, xl_i8_1⟩, Or.inr (Or.inr (Or.inl ⟨h, rfl, rfl⟩))⟩
  · exact ⟨8, 0, ⟨(0, 2, 2), rfl, by rw [h]; decide, by rw [h]; decide, by decide, by decide, xl_i8_2⟩, Or.inr (Or.inr (Or.inr (⟨h, rfl, rfl⟩)))⟩
theorem xl_Ri9 (k : Int32) : ∃ j' v, xl_R 181 9 k j' v ∧ (((k.toInt ≤ -1 ∨ 3 ≤ k.toInt) ∧ v = (-2) ∧ j' = 9) ∨ (k.toInt = 0 ∧ v = 0 ∧ j' = 15) ∨ (k.toInt = 1 ∧ v = 0 ∧ j' = 9) ∨ (k.toInt = 2 ∧ v = 0 ∧ j' = 9)) := by
  have hb := xv_i32 k
  rcases xl_k5 k.toInt with (h | h) | h | h | h
  · exact ⟨9, -2, ⟨(0, (-2147483648), (-1)), rfl, hb.1, h, by decide, by decide, xl_i9_n⟩, Or.inl ⟨Or.inl h, rfl, rfl⟩⟩
  · exact ⟨9, -2, ⟨(0, 3, 2147483647), rfl, h, hb.2, by decide, by decide, xl_i9_p⟩, Or.inl ⟨Or.inr h, rfl, rfl⟩⟩
  · exact ⟨15, 0, ⟨(0, 0, 0), rfl, by rw [h]; decide, by rw [h]; decide, by decide, by decide, xl_i9_0⟩, Or.inr (Or.inl ⟨h, rfl, rfl⟩)⟩
  · exact ⟨9, 0, ⟨(0, 1, 1), rfl, by rw [h]; decide, by rw [h]; decide, by decide, by decide, xl_i9_1⟩, Or.inr (Or.inr (Or.inl ⟨h, rfl, rfl⟩))⟩
  · exact ⟨9, 0, ⟨(0, 2, 2), rfl, by rw [h]; decide, by rw [h]; decide, by decide, by decide, xl_i9_2⟩, Or.inr (Or.inr (Or.inr (⟨h, rfl, rfl⟩)))⟩
theorem xl_Ri10 (k : Int32) : ∃ j' v, xl_R 181 10 k j' v ∧ (((k.toInt ≤ -1 ∨ 3 ≤ k.toInt) ∧ v = (-2) ∧ j' = 10) ∨ (k.toInt = 0 ∧ v = 0 ∧ j' = 10) ∨ (k.toInt = 1 ∧ v = 0 ∧ j' = 10) ∨ (k.toInt = 2 ∧ v = 0 ∧ j' = 10)) := by
  have hb := xv_i32 k
  rcases xl_k5 k.toInt with (h | h) | h | h | h
  · exact ⟨10, -2, ⟨(0, (-2147483648), (-1)), rfl, hb.1, h, by decide, by decide, xl_i10_n⟩, Or.inl ⟨Or.inl h, rfl, rfl⟩⟩
  · exact ⟨10, -2, ⟨(0, 3, 2147483647), rfl, h, hb.2, by decide, by decide, xl_i10_p⟩, Or.inl ⟨Or.inr h, rfl, rfl⟩⟩
  · exact ⟨10, 0, ⟨(0, 0, 0), rfl, by rw [h]; decide, by rw [h]; decide, by decide, by decide, xl_i10_0⟩, Or.inr (Or.inl ⟨h, rfl, rfl⟩)⟩
  · exact ⟨10, 0, ⟨(0, 1, 1), rfl, by rw [h]; decide, by rw [h]; decide, by decide, by decide, xl_i10_1⟩, Or.inr (Or.inr (Or.inl ⟨h, rfl, rfl⟩))⟩
  · exact ⟨10, 0, ⟨(0, 2, 2), rfl, by rw [h]; decide, by rw [h]; decide, by decide, by decide, xl_i10_2⟩, Or.inr (Or.inr (Or.inr (⟨h, rfl, rfl⟩)))⟩
theorem xl_Ri11 (k : Int32) : ∃ j' v, xl_R 181 11 k j' v ∧ (((k.toInt ≤ -1 ∨ 3 ≤ k.toInt) ∧ v = (-2) ∧ j' = 11) ∨ (k.toInt = 0 ∧ v = 0 ∧ j' = 11) ∨ (k.toInt = 1 ∧ v = 0 ∧ j' = 11) ∨ (k.toInt = 2 ∧ v = 0 ∧ j' = 11)) := by
  have hb := xv_i32 k
  rcases xl_k5 k.toInt with (h | h) | h | h | h
  · exact ⟨11, -2, ⟨(0, (-2147483648), (-1)), rfl, hb.1, h, by decide, by decide, xl_i11_n⟩, Or.inl ⟨Or.inl h, rfl, rfl⟩⟩
  · exact ⟨11, -2, ⟨(0, 3, 2147483647), rfl, h, hb.2, by decide, by decide, xl_i11_p⟩, Or.inl ⟨Or.inr h, rfl, rfl⟩⟩
  · exact ⟨11, 0, ⟨(0, 0, 0), rfl, by rw [h]; decide, by rw [h]; decide, by decide, by decide, xl_i11_0⟩, Or.inr (Or.inl ⟨h, rfl, rfl⟩)⟩
  · exact ⟨11, 0, ⟨(0, 1, 1), rfl, by rw [h]; decide, by rw [h]; decide, by decide, by decide, xl_i11_1⟩, Or.inr (Or.inr (Or.inl ⟨h, rfl, rfl⟩))⟩
  · exact ⟨11, 0, ⟨(0, 2, 2), rfl, by rw [h]; decide, by rw [h]; decide, by decide, by decide, xl_i11_2⟩, Or.inr (Or.inr (Or.inr (⟨h, rfl, rfl⟩)))⟩
theorem xl_Ri12 (k : Int32) : ∃ j' v, xl_R 181 12 k j' v ∧ (((k.toInt ≤ -1 ∨ 3 ≤ k.toInt) ∧ v = (-2) ∧ j' = 12) ∨ (k.toInt = 0 ∧ v = 0 ∧ j' = 12) ∨ (k.toInt = 1 ∧ v = 0 ∧ j' = 12) ∨ (k.toInt = 2 ∧ v = 0 ∧ j' = 12)) := by
  have hb := xv_i32 k
  rcases xl_k5 k.toInt with (h | h) | h | h | h
  · exact ⟨12, -2, ⟨(0, (-2147483648), (-1)), rfl, hb.1, h, by decide, by decide, xl_i12_n⟩, Or.inl ⟨Or.inl h, rfl, rfl⟩⟩
  · exact ⟨12, -2, ⟨(0, 3, 2147483647), rfl, h, hb.2, by decide, by decide, xl_i12_p⟩, Or.inl ⟨Or.inr h, rfl, rfl⟩⟩
  · exact ⟨12, 0, ⟨(0, 0, 0), rfl, by rw [h]; decide, by rw [h]; decide, by decide, by decide, xl_i12_0⟩, Or.inr (Or.inl ⟨h, rfl, rfl⟩)⟩
  · exact ⟨12, 0, ⟨(0, 1, 1), rfl, by rw [h]; decide, by rw [h]; decide, by decide, by decide, xl_i12_1⟩, Or.inr (Or.inr (Or.inl ⟨h, rfl, rfl⟩))⟩
  · exact ⟨12, 0, ⟨(0, 2, 2), rfl, by rw [h]; decide, by rw [h]; decide, by decide, by decide, xl_i12_2⟩, Or.inr (Or.inr (Or.inr (⟨h, rfl, rfl⟩)))⟩
theorem xl_Ri13 (k : Int32) : ∃ j' v, xl_R 181 13 k j' v ∧ (((k.toInt ≤ -1 ∨ 3 ≤ k.toInt) ∧ v = (-2) ∧ j' = 13) ∨ (k.toInt = 0 ∧ v = 0 ∧ j' = 13) ∨ (k.toInt = 1 ∧ v = 0 ∧ j' = 13) ∨ (k.toInt = 2 ∧ v = 0 ∧ j' = 13)) := by
  have hb := xv_i32 k
  rcases xl_k5 k.toInt with (h | h) | h | h | h
  · exact ⟨13, -2, ⟨(0, (-2147483648), (-1)), rfl, hb.1, h, by decide, by decide, xl_i13_n⟩, Or.inl ⟨Or.inl h, rfl, rfl⟩⟩
  · exact ⟨13, -2, ⟨(0, 3, 2147483647), rfl, h, hb.2, by decide, by decide, xl_i13_p⟩, Or.inl ⟨Or.inr h, rfl, rfl⟩⟩
  · exact ⟨13, 0, ⟨(0, 0, 0), rfl, by rw [h]; decide, by rw [h]; decide, by decide, by decide, xl_i13_0⟩, Or.inr (Or.inl ⟨h, rfl, rfl⟩)⟩
  · exact ⟨13, 0, ⟨(0, 1, 1), rfl, by rw [h]; decide, by rw [h]; decide, by decide, by decide, xl_i13_1⟩, Or.inr (Or.inr (Or.inl ⟨h, rfl, rfl⟩))⟩
  · exact ⟨13, 0, ⟨(0, 2, 2), rfl, by rw [h]; decide, by rw [h]; decide, by decide, by decide, xl_i13_2⟩, Or.inr (Or.inr (Or.inr (⟨h, rfl, rfl⟩)))⟩
theorem xl_Ri14 (k : Int32) : ∃ j' v, xl_R 181 14 k j' v ∧ (((k.toInt ≤ -1 ∨ 3 ≤ k.toInt) ∧ v = (-2) ∧ j' = 14) ∨ (k.toInt = 0 ∧ v = 0 ∧ j' = 14) ∨ (k.toInt = 1 ∧ v = 0 ∧ j' = 14) ∨ (k.toInt = 2 ∧ v = 0 ∧ j' = 14)) := by
  have hb := xv_i32 k
  rcases xl_k5 k.toInt with (h | h) | h | h | h
  · exact ⟨14, -2, ⟨(0, (-2147483648), (-1)), rfl, hb.1, h, by decide, by decide, xl_i14_n⟩, Or.inl ⟨Or.inl h, rfl, rfl⟩⟩
  · exact ⟨14, -2, ⟨(0, 3, 2147483647), rfl, h, hb.2, by decide, by decide, xl_i14_p⟩, Or.inl ⟨Or.inr h, rfl, rfl⟩⟩
  · exact ⟨14, 0, ⟨(0, 0, 0), rfl, by rw [h]; decide, by rw [h]; decide, by decide, by decide, xl_i14_0⟩, Or.inr (Or.inl ⟨h, rfl, rfl⟩)⟩
  · exact ⟨14, 0, ⟨(0, 1, 1), rfl, by rw [h]; decide, by rw [h]; decide, by decide, by decide, xl_i14_1⟩, Or.inr (Or.inr (Or.inl ⟨h, rfl, rfl⟩))⟩
  · exact ⟨14, 0, ⟨(0, 2, 2), rfl, by rw [h]; decide, by rw [h]; decide, by decide, by decide, xl_i14_2⟩, Or.inr (Or.inr (Or.inr (⟨h, rfl, rfl⟩)))⟩
theorem xl_Ri15 (k : Int32) : ∃ j' v, xl_R 181 15 k j' v ∧ (((k.toInt ≤ -1 ∨ 3 ≤ k.toInt) ∧ v = (-2) ∧ j' = 15) ∨ (k.toInt = 0 ∧ v = 0 ∧ j' = 15) ∨ (k.toInt = 1 ∧ v = 0 ∧ j' = 15) ∨ (k.toInt = 2 ∧ v = 0 ∧ j' = 15)) := by
  have hb := xv_i32 k
  rcases xl_k5 k.toInt with (h | h) | h | h | h
  · exact ⟨15, -2, ⟨(0, (-2147483648), (-1)), rfl, hb.1, h, by decide, by decide, xl_i15_n⟩, Or.inl ⟨Or.inl h, rfl, rfl⟩⟩
  · exact ⟨15, -2, ⟨(0, 3, 2147483647), rfl, h, hb.2, by decide, by decide, xl_i15_p⟩, Or.inl ⟨Or.inr h, rfl, rfl⟩⟩
  · exact ⟨15, 0, ⟨(0, 0, 0), rfl, by rw [h]; decide, by rw [h]; decide, by decide, by decide, xl_i15_0⟩, Or.inr (Or.inl ⟨h, rfl, rfl⟩)⟩
  · exact ⟨15, 0, ⟨(0, 1, 1), rfl, by rw [h]; decide, by rw [h]; decide, by decide, by decide, xl_i15_1⟩, Or.inr (Or.inr (Or.inl ⟨h, rfl, rfl⟩))⟩
  · exact ⟨15, 0, ⟨(0, 2, 2), rfl, by rw [h]; decide, by rw [h]; decide, by decide, by decide, xl_i15_2⟩, Or.inr (Or.inr (Or.inr (⟨h, rfl, rfl⟩)))⟩
theorem xl_Ra0 (k : Int32) : ∃ j' v, xl_R 182 0 k j' v ∧ (((k.toInt ≤ -1 ∨ 3 ≤ k.toInt) ∧ v = (-2) ∧ j' = 0) ∨ (k.toInt = 0 ∧ v = -6 ∧ j' = 0) ∨ (k.toInt = 1 ∧ v = -6 ∧ j' = 0) ∨ (k.toInt = 2 ∧ v = -6 ∧ j' = 0)) := by
  have hb := xv_i32 k
  rcases xl_k5 k.toInt with (h | h) | h | h | h
  · exact ⟨0, -2, ⟨(0, (-2147483648), (-1)), rfl, hb.1, h, by decide, by decide, xl_a0_n⟩, Or.inl ⟨Or.inl h, rfl, rfl⟩⟩
  · exact ⟨0, -2, ⟨(0, 3, 2147483647), rfl, h, hb.2, by decide, by decide, xl_a0_p⟩, Or.inl ⟨Or.inr h, rfl, rfl⟩⟩
  · exact ⟨0, -6, ⟨(0, 0, 0), rfl, by rw [h]; decide, by rw [h]; decide, by decide, by decide, xl_a0_0⟩, Or.inr (Or.inl ⟨h, rfl, rfl⟩)⟩
  · exact ⟨0, -6, ⟨(0, 1, 1), rfl, by rw [h]; decide, by rw [h]; decide, by decide, by decide, xl_a0_1⟩, Or.inr (Or.inr (Or.inl ⟨h, rfl, rfl⟩))⟩
  · exact ⟨0, -6, ⟨(0, 2, 2), rfl, by rw [h]; decide, by rw [h]; decide, by decide, by decide, xl_a0_2⟩, Or.inr (Or.inr (Or.inr (⟨h, rfl, rfl⟩)))⟩
theorem xl_Ra1 (k : Int32) : ∃ j' v, xl_R 182 1 k j' v ∧ (((k.toInt ≤ -1 ∨ 3 ≤ k.toInt) ∧ v = (-2) ∧ j' = 1) ∨ (k.toInt = 0 ∧ v = 0 ∧ j' = 1) ∨ (k.toInt = 1 ∧ v = -6 ∧ j' = 1) ∨ (k.toInt = 2 ∧ v = -6 ∧ j' = 1)) := by
  have hb := xv_i32 k
  rcases xl_k5 k.toInt with (h | h) | h | h | h
  · exact ⟨1, -2, ⟨(0, (-2147483648), (-1)), rfl, hb.1, h, by decide, by decide, xl_a1_n⟩, Or.inl ⟨Or.inl h, rfl, rfl⟩⟩
  · exact ⟨1, -2, ⟨(0, 3, 2147483647), rfl, h, hb.2, by decide, by decide, xl_a1_p⟩, Or.inl ⟨Or.inr h, rfl, rfl⟩⟩
  · exact ⟨1, 0, ⟨(0, 0, 0), rfl, by rw [h]; decide, by rw [h]; decide, by decide, by decide, xl_a1_0⟩, Or.inr (Or.inl ⟨h, rfl, rfl⟩)⟩
  · exact ⟨1, -6, ⟨(0, 1, 1), rfl, by rw [h]; decide, by rw [h]; decide, by decide, by decide, xl_a1_1⟩, Or.inr (Or.inr (Or.inl ⟨h, rfl, rfl⟩))⟩
  · exact ⟨1, -6, ⟨(0, 2, 2), rfl, by rw [h]; decide, by rw [h]; decide, by decide, by decide, xl_a1_2⟩, Or.inr (Or.inr (Or.inr (⟨h, rfl, rfl⟩)))⟩
theorem xl_Ra2 (k : Int32) : ∃ j' v, xl_R 182 2 k j' v ∧ (((k.toInt ≤ -1 ∨ 3 ≤ k.toInt) ∧ v = (-2) ∧ j' = 2) ∨ (k.toInt = 0 ∧ v = -6 ∧ j' = 2) ∨ (k.toInt = 1 ∧ v = 0 ∧ j' = 2) ∨ (k.toInt = 2 ∧ v = -6 ∧ j' = 2)) := by
  have hb := xv_i32 k
  rcases xl_k5 k.toInt with (h | h) | h | h | h
  · exact ⟨2, -2, ⟨(0, (-2147483648), (-1)), rfl, hb.1, h, by decide, by decide, xl_a2_n⟩, Or.inl ⟨Or.inl h, rfl, rfl⟩⟩
  · exact ⟨2, -2, ⟨(0, 3, 2147483647), rfl, h, hb.2, by decide, by decide, xl_a2_p⟩, Or.inl ⟨Or.inr h, rfl, rfl⟩⟩
  · exact ⟨2, -6, ⟨(0, 0, 0), rfl, by rw [h]; decide, by rw [h]; decide, by decide, by decide, xl_a2_0⟩, Or.inr (Or.inl ⟨h, rfl, rfl⟩)⟩
  · exact ⟨2, 0, ⟨(0, 1, 1), rfl, by rw [h]; decide, by rw [h]; decide, by decide, by decide, xl_a2_1⟩, Or.inr (Or.inr (Or.inl ⟨h, rfl, rfl⟩))⟩
  · exact ⟨2, -6, ⟨(0, 2, 2), rfl, by rw [h]; decide, by rw [h]; decide, by decide, by decide, xl_a2_2⟩, Or.inr (Or.inr (Or.inr (⟨h, rfl, rfl⟩)))⟩
theorem xl_Ra3 (k : Int32) : ∃ j' v, xl_R 182 3 k j' v ∧ (((k.toInt ≤ -1 ∨ 3 ≤ k.toInt) ∧ v = (-2) ∧ j' = 3) ∨ (k.toInt = 0 ∧ v = -6 ∧ j' = 3) ∨ (k.toInt = 1 ∧ v = -6 ∧ j' = 3) ∨ (k.toInt = 2 ∧ v = 0 ∧ j' = 3)) := by
  have hb := xv_i32 k
  rcases xl_k5 k.toInt with (h | h) | h | h | h
  · exact ⟨3, -2, ⟨(0, (-2147483648), (-1)), rfl, hb.1, h, by decide, by decide, xl_a3_n⟩, Or.inl ⟨Or.inl h, rfl, rfl⟩⟩
  · exact ⟨3, -2, ⟨(0, 3, 2147483647), rfl, h, hb.2, by decide, by decide, xl_a3_p⟩, Or.inl ⟨Or.inr h, rfl, rfl⟩⟩
  · exact ⟨3, -6, ⟨(0, 0, 0), rfl, by rw [h]; decide, by rw [h]; decide, by decide, by decide, xl_a3_0⟩, Or.inr (Or.inl ⟨h, rfl, rfl⟩)⟩
  · exact ⟨3, -6, ⟨(0, 1, 1), rfl, by rw [h]; decide, by rw [h]; decide, by decide, by decide, xl_a3_1⟩, Or.inr (Or.inr (Or.inl ⟨h, rfl, rfl⟩))⟩
  · exact ⟨3, 0, ⟨(0, 2, 2), rfl, by rw [h]; decide, by rw [h]; decide, by decide, by decide, xl_a3_2⟩, Or.inr (Or.inr (Or.inr (⟨h, rfl, rfl⟩)))⟩
theorem xl_Ra4 (k : Int32) : ∃ j' v, xl_R 182 4 k j' v ∧ (((k.toInt ≤ -1 ∨ 3 ≤ k.toInt) ∧ v = (-2) ∧ j' = 4) ∨ (k.toInt = 0 ∧ v = 0 ∧ j' = 4) ∨ (k.toInt = 1 ∧ v = 0 ∧ j' = 4) ∨ (k.toInt = 2 ∧ v = -6 ∧ j' = 4)) := by
  have hb := xv_i32 k
  rcases xl_k5 k.toInt with (h | h) | h | h | h
  · exact ⟨4, -2, ⟨(0, (-2147483648), (-1)), rfl, hb.1, h, by decide, by decide, xl_a4_n⟩, Or.inl ⟨Or.inl h, rfl, rfl⟩⟩
  · exact ⟨4, -2, ⟨(0, 3, 2147483647), rfl, h, hb.2, by decide, by decide, xl_a4_p⟩, Or.inl ⟨Or.inr h, rfl, rfl⟩⟩
  · exact ⟨4, 0, ⟨(0, 0, 0), rfl, by rw [h]; decide, by rw [h]; decide, by decide, by decide, xl_a4_0⟩, Or.inr (Or.inl ⟨h, rfl, rfl⟩)⟩
  · exact ⟨4, 0, ⟨(0, 1, 1), rfl, by rw [h]; decide, by rw [h]; decide, by decide, by decide, xl_a4_1⟩, Or.inr (Or.inr (Or.inl ⟨h, rfl, rfl⟩))⟩
  · exact ⟨4, -6, ⟨(0, 2, 2), rfl, by rw [h]; decide, by rw [h]; decide, by decide, by decide, xl_a4_2⟩, Or.inr (Or.inr (Or.inr (⟨h, rfl, rfl⟩)))⟩
theorem xl_Ra5 (k : Int32) : ∃ j' v, xl_R 182 5 k j' v ∧ (((k.toInt ≤ -1 ∨ 3 ≤ k.toInt) ∧ v = (-2) ∧ j' = 5) ∨ (k.toInt = 0 ∧ v = 0 ∧ j' = 5) ∨ (k.toInt = 1 ∧ v = -6 ∧ j' = 5) ∨ (k.toInt = 2 ∧ v = 0 ∧ j' = 5)) := by
  have hb := xv_i32 k
  rcases xl_k5 k.toInt with (h | h) | h | h | h
  · exact ⟨5, -2, ⟨(0, (-2147483648), (-1)), rfl, hb.1, h, by decide, by decide, xl_a5_n⟩, Or.inl ⟨Or.inl h, rfl, rfl⟩⟩
  · exact ⟨5, -2, ⟨(0, 3, 2147483647), rfl, h, hb.2, by decide, by decide, xl_a5_p⟩, Or.inl ⟨Or.inr h, rfl, rfl⟩⟩
  · exact ⟨5, 0, ⟨(0, 0, 0), rfl, by rw [h]; decide, by rw [h]; decide, by decide, by decide, xl_a5_0⟩, Or.inr (Or.inl ⟨h, rfl, rfl⟩)⟩
  · exact ⟨5, -6, ⟨(0, 1, 1), rfl, by rw [h]; decide, by rw [h]; decide, by decide, by decide, xl_a5_1⟩, Or.inr (Or.inr (Or.inl ⟨h, rfl, rfl⟩))⟩
  · exact ⟨5, 0, ⟨(0, 2, 2), rfl, by rw [h]; decide, by rw [h]; decide, by decide, by decide, xl_a5_2⟩, Or.inr (Or.inr (Or.inr (⟨h, rfl, rfl⟩)))⟩
theorem xl_Ra6 (k : Int32) : ∃ j' v, xl_R 182 6 k j' v ∧ (((k.toInt ≤ -1 ∨ 3 ≤ k.toInt) ∧ v = (-2) ∧ j' = 6) ∨ (k.toInt = 0 ∧ v = 0 ∧ j' = 6) ∨ (k.toInt = 1 ∧ v = 0 ∧ j' = 6) ∨ (k.toInt = 2 ∧ v = -6 ∧ j' = 6)) := by
  have hb := xv_i32 k
  rcases xl_k5 k.toInt with (h | h) | h | h | h
  · exact ⟨6, -2, ⟨(0, (-2147483648), (-1)), rfl, hb.1, h, by decide, by decide, xl_a6_n⟩, Or.inl ⟨Or.inl h, rfl, rfl⟩⟩
  · exact ⟨6, -2, ⟨(0, 3, 2147483647), rfl, h, hb.2, by decide, by decide, xl_a6_p⟩, Or.inl ⟨Or.inr h, rfl, rfl⟩⟩
  · exact ⟨6, 0, ⟨(0, 0, 0), rfl, by rw [h]; decide, by rw [h]; decide, by decide, by decide, xl_a6_0⟩, Or.inr (Or.inl ⟨h, rfl, rfl⟩)⟩
  · exact ⟨6, 0, ⟨(0, 1, 1), rfl, by rw [h]; decide, by rw [h]; decide, by decide, by decide, xl_a6_1⟩, Or.inr (Or.inr (Or.inl ⟨h, rfl, rfl⟩))⟩
  · exact ⟨6, -6, ⟨(0, 2, 2), rfl, by rw [h]; decide, by rw [h]; decide, by decide, by decide, xl_a6_2⟩, Or.inr (Or.inr (Or.inr (⟨h, rfl, rfl⟩)))⟩
theorem xl_Ra7 (k : Int32) : ∃ j' v, xl_R 182 7 k j' v ∧ (((k.toInt ≤ -1 ∨ 3 ≤ k.toInt) ∧ v = (-2) ∧ j' = 7) ∨ (k.toInt = 0 ∧ v = -6 ∧ j' = 7) ∨ (k.toInt = 1 ∧ v = 0 ∧ j' = 7) ∨ (k.toInt = 2 ∧ v = 0 ∧ j' = 7)) := by
  have hb := xv_i32 k
  rcases xl_k5 k.toInt with (h | h) | h | h | h
  · exact ⟨7, -2, ⟨(0, (-2147483648), (-1)), rfl, hb.1, h, by decide, by decide, xl_a7_n⟩, Or.inl ⟨Or.inl h, rfl, rfl⟩⟩
  · exact ⟨7, -2, ⟨(0, 3, 2147483647), rfl, h, hb.2, by decide, by decide, xl_a7_p⟩, Or.inl ⟨Or.inr h, rfl, rfl⟩⟩
  · exact ⟨7, -6, ⟨(0, 0, 0), rfl, by rw [h]; decide, by rw [h]; decide, by decide, by decide, xl_a7_0⟩, Or.inr (Or.inl ⟨h, rfl, rfl⟩)⟩
  · exact ⟨7, 0, ⟨(0, 1, 1), rfl, by rw [h]; decide, by rw [h]; decide, by decide, by decide, xl_a7_1⟩, Or.inr (Or.inr (Or.inl ⟨h, rfl, rfl⟩))⟩
  · exact ⟨7, 0, ⟨(0, 2, 2), rfl, by rw [h]; decide, by rw [h]; decide, by decide, by decide, xl_a7_2⟩, Or.inr (Or.inr (Or.inr (⟨h, rfl, rfl⟩)))⟩
theorem xl_Ra8 (k : Int32) : ∃ j' v, xl_R 182 8 k j' v ∧ (((k.toInt ≤ -1 ∨ 3 ≤ k.toInt) ∧ v = (-2) ∧ j' = 8) ∨ (k.toInt = 0 ∧ v = 0 ∧ j' = 8) ∨ (k.toInt = 1 ∧ v = -6 ∧ j' = 8) ∨ (k.toInt = 2 ∧ v = 0 ∧ j' = 8)) := by
  have hb := xv_i32 k
  rcases xl_k5 k.toInt with (h | h) | h | h | h
  · exact ⟨8, -2, ⟨(0, (-2147483648), (-1)), rfl, hb.1, h, by decide, by decide, xl_a8_n⟩, Or.inl ⟨Or.inl h, rfl, rfl⟩⟩
  · exact ⟨8, -2, ⟨(0, 3, 2147483647), rfl, h, hb.2, by decide, by decide, xl_a8_p⟩, Or.inl ⟨Or.inr h, rfl, rfl⟩⟩
  · exact ⟨8, 0, ⟨(0, 0, 0), rfl, by rw [h]; decide, by rw [h]; decide, by decide, by decide, xl_a8_0⟩, Or.inr (Or.inl ⟨h, rfl, rfl⟩)⟩
  · exact ⟨8, -6, ⟨(0, 1, 1), rfl, by rw [h]; decide, by rw [h]; decide, by decide, by decide, xl_a8_1⟩, Or.inr (Or.inr (Or.inl ⟨h, rfl, rfl⟩))⟩
  · exact ⟨8, 0, ⟨(0, 2, 2), rfl, by rw [h]; decide, by rw [h]; decide, by decide, by decide, xl_a8_2⟩, Or.inr (Or.inr (Or.inr (⟨h, rfl, rfl⟩)))⟩
theorem xl_Ra9 (k : Int32) : ∃ j' v, xl_R 182 9 k j' v ∧ (((k.toInt ≤ -1 ∨ 3 ≤ k.toInt) ∧ v = (-2) ∧ j' = 9) ∨ (k.toInt = 0 ∧ v = -6 ∧ j' = 9) ∨ (k.toInt = 1 ∧ v = 0 ∧ j' = 9) ∨ (k.toInt = 2 ∧ v = 0 ∧ j' = 9)) := by
  have hb := xv_i32 k
  rcases xl_k5 k.toInt with (h | h) | h | h | h
  · exact ⟨9, -2, ⟨(0, (-2147483648), (-1)), rfl, hb.1, h, by decide, by decide, xl_a9_n⟩, Or.inl ⟨Or.inl h, rfl, rfl⟩⟩
  · exact ⟨9, -2, ⟨(0, 3, 2147483647), rfl, h, hb.2, by decide, by decide, xl_a9_p⟩, Or.inl ⟨Or.inr h, rfl, rfl⟩⟩
  · exact ⟨9, -6, ⟨(0, 0, 0), rfl, by rw [h]; decide, by rw [h]; decide, by decide, by decide, xl_a9_0⟩, Or.inr (Or.inl ⟨h, rfl, rfl⟩)⟩
  · exact ⟨9, 0, ⟨(0, 1, 1), rfl, by rw [h]; decide, by rw [h]; decide, by decide, by decide, xl_a9_1⟩, Or.inr (Or.inr (Or.inl ⟨h, rfl, rfl⟩))⟩
  · exact ⟨9, 0, ⟨(0, 2, 2), rfl, by rw [h]; decide, by rw [h]; decide, by decide, by decide, xl_a9_2⟩, Or.inr (Or.inr (Or.inr (⟨h, rfl, rfl⟩)))⟩
theorem xl_Ra10 (k : Int32) : ∃ j' v, xl_R 182 10 k j' v ∧ (((k.toInt ≤ -1 ∨ 3 ≤ k.toInt) ∧ v = (-2) ∧ j' = 10) ∨ (k.toInt = 0 ∧ v = 0 ∧ j' = 10) ∨ (k.toInt = 1 ∧ v = 0 ∧ j' = 10) ∨ (k.toInt = 2 ∧ v = 0 ∧ j' = 10)) := by
  have hb := xv_i32 k
  rcases xl_k5 k.toInt with (h | h) | h | h | h
  · exact ⟨10, -2, ⟨(0, (-2147483648), (-1)), rfl, hb.1, h, by decide, by decide, xl_a10_n⟩, Or.inl ⟨Or.inl h, rfl, rfl⟩⟩
  · exact ⟨10, -2, ⟨(0, 3, 2147483647), rfl, h, hb.2, by decide, by decide, xl_a10_p⟩, Or.inl ⟨Or.inr h, rfl, rfl⟩⟩
  · exact ⟨10, 0, ⟨(0, 0, 0), rfl, by rw [h]; decide, by rw [h]; decide, by decide, by decide, xl_a10_0⟩, Or.inr (Or.inl ⟨h, rfl, rfl⟩)⟩
  · exact ⟨10, 0, ⟨(0, 1, 1), rfl, by rw [h]; decide, by rw [h]; decide, by decide, by decide, xl_a10_1⟩, Or.inr (Or.inr (Or.inl ⟨h, rfl, rfl⟩))⟩
  · exact ⟨10, 0, ⟨(0, 2, 2), rfl, by rw [h]; decide, by rw [h]; decide, by decide, by decide, xl_a10_2⟩, Or.inr (Or.inr (Or.inr (⟨h, rfl, rfl⟩)))⟩
theorem xl_Ra11 (k : Int32) : ∃ j' v, xl_R 182 11 k j' v ∧ (((k.toInt ≤ -1 ∨ 3 ≤ k.toInt) ∧ v = (-2) ∧ j' = 11) ∨ (k.toInt = 0 ∧ v = 0 ∧ j' = 11) ∨ (k.toInt = 1 ∧ v = 0 ∧ j' = 11) ∨ (k.toInt = 2 ∧ v = 0 ∧ j' = 11)) := by
  have hb := xv_i32 k
  rcases xl_k5 k.toInt with (h | h) | h | h | h
  · exact ⟨11, -2, ⟨(0, (-2147483648), (-1)), rfl, hb.1, h, by decide, by decide, xl_a11_n⟩, Or.inl ⟨Or.inl h, rfl, rfl⟩⟩
  · exact ⟨11, -2, ⟨(0, 3, 2147483647), rfl, h, hb.2, by decide, by decide, xl_a11_p⟩, Or.inl ⟨Or.inr h, rfl, rfl⟩⟩
  · exact ⟨11, 0, ⟨(0, 0, 0), rfl, by rw [h]; decide, by rw [h]; decide, by decide, by decide, xl_a11_0⟩, Or.inr (Or.inl ⟨h, rfl, rfl⟩)⟩
  · exact ⟨11, 0, ⟨(0, 1, 1), rfl, by rw [h]; decide, by rw [h]; decide, by decide, by decide, xl_a11_1⟩, Or.inr (Or.inr (Or.inl ⟨h, rfl, rfl⟩))⟩
  · exact ⟨11, 0, ⟨(0, 2, 2), rfl, by rw [h]; decide, by rw [h]; decide, by decide, by decide, xl_a11_2⟩, Or.inr (Or.inr (Or.inr (⟨h, rfl, rfl⟩)))⟩
theorem xl_Ra12 (k : Int32) : ∃ j' v, xl_R 182 12 k j' v ∧ (((k.toInt ≤ -1 ∨ 3 ≤ k.toInt) ∧ v = (-2) ∧ j' = 12) ∨ (k.toInt = 0 ∧ v = 0 ∧ j' = 12) ∨ (k.toInt = 1 ∧ v = 0 ∧ j' = 12) ∨ (k.toInt = 2 ∧ v = 0 ∧ j' = 12)) := by
  have hb := xv_i32 k
  rcases xl_k5 k.toInt with (h | h) | h | h | h
  · exact ⟨12, -2, ⟨(0, (-2147483648), (-1)), rfl, hb.1, h, by decide, by decide, xl_a12_n⟩, Or.inl ⟨Or.inl h, rfl, rfl⟩⟩
  · exact ⟨12, -2, ⟨(0, 3, 2147483647), rfl, h, hb.2, by decide, by decide, xl_a12_p⟩, Or.inl ⟨Or.inr h, rfl, rfl⟩⟩
  · exact ⟨12, 0, ⟨(0, 0, 0), rfl, by rw [h]; decide, by rw [h]; decide, by decide, by decide, xl_a12_0⟩, Or.inr (Or.inl ⟨h, rfl, rfl⟩)⟩
  · exact ⟨12, 0, ⟨(0, 1, 1), rfl, by rw [h]; decide, by rw [h]; decide, by decide, by decide, xl_a12_1⟩, Or.inr (Or.inr (Or.inl ⟨h, rfl, rfl⟩))⟩
  · exact ⟨12, 0, ⟨(0, 2, 2), rfl, by rw [h]; decide, by rw [h]; decide, by decide, by decide, xl_a12_2⟩, Or.inr (Or.inr (Or.inr (⟨h, rfl, rfl⟩)))⟩
theorem xl_Ra13 (k : Int32) : ∃ j' v, xl_R 182 13 k j' v ∧ (((k.toInt ≤ -1 ∨ 3 ≤ k.toInt) ∧ v = (-2) ∧ j' = 13) ∨ (k.toInt = 0 ∧ v = 0 ∧ j' = 13) ∨ (k.toInt = 1 ∧ v = 0 ∧ j' = 13) ∨ (k.toInt = 2 ∧ v = 0 ∧ j' = 13)) := by
  have hb := xv_i32 k
  rcases xl_k5 k.toInt with (h | h) | h | h | h
  · exact ⟨13, -2, ⟨(0, (-2147483648), (-1)), rfl, hb.1, h, by decide, by decide, xl_a13_n⟩, Or.inl ⟨Or.inl h, rfl, rfl⟩⟩
  · exact ⟨13, -2, ⟨(0, 3, 2147483647), rfl, h, hb.2, by decide, by decide, xl_a13_p⟩, Or.inl ⟨Or.inr h, rfl, rfl⟩⟩
  · exact ⟨13, 0, ⟨(0, 0, 0), rfl, by rw [h]; decide, by rw [h]; decide, by decide, by decide, xl_a13_0⟩, Or.inr (Or.inl ⟨h, rfl, rfl⟩)⟩
  · exact ⟨13, 0, ⟨(0, 1, 1), rfl, by rw [h]; decide, by rw [h]; decide, by decide, by decide, xl_a13_1⟩, Or.inr (Or.inr (Or.inl ⟨h, rfl, rfl⟩))⟩
  · exact ⟨13, 0, ⟨(0, 2, 2), rfl, by rw [h]; decide, by rw [h]; decide, by decide, by decide, xl_a13_2⟩, Or.inr (Or.inr (Or.inr (⟨h, rfl, rfl⟩)))⟩
theorem xl_Ra14 (k : Int32) : ∃ j' v, xl_R 182 14 k j' v ∧ (((k.toInt ≤ -1 ∨ 3 ≤ k.toInt) ∧ v = (-2) ∧ j' = 14) ∨ (k.toInt = 0 ∧ v = 0 ∧ j' = 14) ∨ (k.toInt = 1 ∧ v = 0 ∧ j' = 14) ∨ (k.toInt = 2 ∧ v = 0 ∧ j' = 14)) := by
  have hb := xv_i32 k
  rcases xl_k5 k.toInt with (h | h) | h | h | h
  · exact ⟨14, -2, ⟨(0, (-2147483648), (-1)), rfl, hb.1, h, by decide, by decide, xl_a14_n⟩, Or.inl ⟨Or.inl h, rfl, rfl⟩⟩
  · exact ⟨14, -2, ⟨(0, 3, 2147483647), rfl, h, hb.2, by decide, by decide, xl_a14_p⟩, Or.inl ⟨Or.inr h, rfl, rfl⟩⟩
  · exact ⟨14, 0, ⟨(0, 0, 0), rfl, by rw [h]; decide, by rw [h]; decide, by decide, by decide, xl_a14_0⟩, Or.inr (Or.inl ⟨h, rfl, rfl⟩)⟩
  · exact ⟨14, 0, ⟨(0, 1, 1), rfl, by rw [h]; decide, by rw [h]; decide, by decide, by decide, xl_a14_1⟩, Or.inr (Or.inr (Or.inl ⟨h, rfl, rfl⟩))⟩
  · exact ⟨14, 0, ⟨(0, 2, 2), rfl, by rw [h]; decide, by rw [h]; decide, by decide, by decide, xl_a14_2⟩, Or.inr (Or.inr (Or.inr (⟨h, rfl, rfl⟩)))⟩
theorem xl_Ra15 (k : Int32) : ∃ j' v, xl_R 182 15 k j' v ∧ (((k.toInt ≤ -1 ∨ 3 ≤ k.toInt) ∧ v = (-2) ∧ j' = 15) ∨ (k.toInt = 0 ∧ v = 0 ∧ j' = 15) ∨ (k.toInt = 1 ∧ v = 0 ∧ j' = 15) ∨ (k.toInt = 2 ∧ v = 0 ∧ j' = 15)) := by
  have hb := xv_i32 k
  rcases xl_k5 k.toInt with (h | h) | h | h | h
  · exact ⟨15, -2, ⟨(0, (-2147483648), (-1)), rfl, hb.1, h, by decide, by decide, xl_a15_n⟩, Or.inl ⟨Or.inl h, rfl, rfl⟩⟩
  · exact ⟨15, -2, ⟨(0, 3, 2147483647), rfl, h, hb.2, by decide, by decide, xl_a15_p⟩, Or.inl ⟨Or.inr h, rfl, rfl⟩⟩
  · exact ⟨15, 0, ⟨(0, 0, 0), rfl, by rw [h]; decide, by rw [h]; decide, by decide, by decide, xl_a15_0⟩, Or.inr (Or.inl ⟨h, rfl, rfl⟩)⟩
  · exact ⟨15, 0, ⟨(0, 1, 1), rfl, by rw [h]; decide, by rw [h]; decide, by decide, by decide, xl_a15_1⟩, Or.inr (Or.inr (Or.inl ⟨h, rfl, rfl⟩))⟩
  · exact ⟨15, 0, ⟨(0, 2, 2), rfl, by rw [h]; decide, by rw [h]; decide, by decide, by decide, xl_a15_2⟩, Or.inr (Or.inr (Or.inr (⟨h, rfl, rfl⟩)))⟩
theorem xl_Ri : ∀ j, j < 16 → ∀ k : Int32, ∃ j' v, xl_R 181 j k j' v ∧ (((k.toInt ≤ -1 ∨ 3 ≤ k.toInt) ∧ v = (-2) ∧ j' = j) ∨ (0 ≤ k.toInt ∧ k.toInt ≤ 2 ∧ v = 0 ∧ j' = xl_nx j k.toInt.toNat))
  | 0, _ => fun k => by
    obtain ⟨j', v, h, hc⟩ := xl_Ri0 k
    refine ⟨j', v, h, ?_⟩
    rcases hc with ⟨a, b, d⟩ | ⟨a, b, d⟩ | ⟨a, b, d⟩ | ⟨a, b, d⟩
    · exact Or.inl ⟨a, b, d⟩
    · exact Or.inr ⟨by omega, by omega, by rw [a]; exact ⟨b, d⟩⟩
    · exact Or.inr ⟨by omega, by omega, by rw [a]; exact ⟨b, d⟩⟩
    · exact Or.inr ⟨by omega, by omega, by rw [a]; exact ⟨b, d⟩⟩
  | 1, _ => fun k => by
    obtain ⟨j', v, h, hc⟩ := xl_Ri1 k
    refine ⟨j', v, h, ?_⟩
    rcases hc with ⟨a, b, d⟩ | ⟨a, b, d⟩ | ⟨a, b, d⟩ | ⟨a, b, d⟩
    · exact Or.inl ⟨a, b, d⟩
    · exact Or.inr ⟨by omega, by omega, by rw [a]; exact ⟨b, d⟩⟩
    · exact Or.inr ⟨by omega, by omega, by rw [a]; exact ⟨b, d⟩⟩
    · exact Or.inr ⟨by omega, by omega, by rw [a]; exact ⟨b, d⟩⟩
  | 2, _ => fun k => by
    obtain ⟨j', v, h, hc⟩ := xl_Ri2 k
    refine ⟨j', v, h, ?_⟩
    rcases hc with ⟨a, b, d⟩ | ⟨a, b, d⟩ | ⟨a, b, d⟩ | ⟨a, b, d⟩
    · exact Or.inl ⟨a, b, d⟩
    · exact Or.inr ⟨by omega, by omega, by rw [a]; exact ⟨b, d⟩⟩
    · exact Or.inr ⟨by omega, by omega, by rw [a]; exact ⟨b, d⟩⟩
    · exact Or.inr ⟨by omega, by omega, by rw [a]; exact ⟨b, d⟩⟩
  | 3, _ => fun k => by
    obtain ⟨j', v, h, hc⟩ := xl_Ri3 k
    refine ⟨j', v, h, ?_⟩
    rcases hc with ⟨a, b, d⟩ | ⟨a, b, d⟩ | ⟨a, b, d⟩ | ⟨a, b, d⟩
    · exact Or.inl ⟨a, b, d⟩
    · exact Or.inr ⟨by omega, by omega, by rw [a]; exact ⟨b, d⟩⟩
    · exact Or.inr ⟨by omega, by omega, by rw [a]; exact ⟨b, d⟩⟩
    · exact Or.inr ⟨by omega, by omega, by rw [a]; exact ⟨b, d⟩⟩
  | 4, _ => fun k => by
    obtain ⟨j', v, h, hc⟩ := xl_Ri4 k
    refine ⟨j', v, h, ?_⟩
    rcases hc with ⟨a, b, d⟩ | ⟨a, b, d⟩ | ⟨a, b, d⟩ | ⟨a, b, d⟩
    · exact Or.inl ⟨a, b, d⟩
    · exact Or.inr ⟨by omega, by omega, by rw [a]; exact ⟨b, d⟩⟩
    · exact Or.inr ⟨by omega, by omega, by rw [a]; exact ⟨b, d⟩⟩
    · exact Or.inr ⟨by omega, by omega, by rw [a]; exact ⟨b, d⟩⟩
  | 5, _ => fun k => by
    obtain ⟨j', v, h, hc⟩ := xl_Ri5 k
    refine ⟨j', v, h, ?_⟩
    rcases hc with ⟨a, b, d⟩ | ⟨a, b, d⟩ | ⟨a, b, d⟩ | ⟨a, b, d⟩
    · exact Or.inl ⟨a, b, d⟩
    · exact Or.inr ⟨by omega, by omega, by rw [a]; exact ⟨b, d⟩⟩
    · exact Or.inr ⟨by omega, by omega, by rw [a]; exact ⟨b, d⟩⟩
    · exact Or.inr ⟨by omega, by omega, by rw [a]; exact ⟨b, d⟩⟩
  | 6, _ => fun k => by
    obtain ⟨j', v, h, hc⟩ := xl_Ri6 k
    refine ⟨j', v, h, ?_⟩
    rcases hc with ⟨a, b, d⟩ | ⟨a, b, d⟩ | ⟨a, b, d⟩ | ⟨a, b, d⟩
    · exact Or.inl ⟨a, b, d⟩
    · exact Or.inr ⟨by omega, by omega, by rw [a]; exact ⟨b, d⟩⟩
    · exact Or.inr ⟨by omega, by omega, by rw [a]; exact ⟨b, d⟩⟩
    · exact Or.inr ⟨by omega, by omega, by rw [a]; exact ⟨b, d⟩⟩
  | 7, _ => fun k => by
    obtain ⟨j', v, h, hc⟩ := xl_Ri7 k
    refine ⟨j', v, h, ?_⟩
    rcases hc with ⟨a, b, d⟩ | ⟨a, b, d⟩ | ⟨a, b, d⟩ | ⟨a, b, d⟩
    · exact Or.inl ⟨a, b, d⟩
    · exact Or.inr ⟨by omega, by omega, by rw [a]; exact ⟨b, d⟩⟩
    · exact Or.inr ⟨by omega, by omega, by rw [a]; exact ⟨b, d⟩⟩
    · exact Or.inr ⟨by omega, by omega, by rw [a]; exact ⟨b, d⟩⟩
  | 8, _ => fun k => by
    obtain ⟨j', v, h, hc⟩ := xl_Ri8 k
    refine ⟨j', v, h, ?_⟩
    rcases hc with ⟨a, b, d⟩ | ⟨a, b, d⟩ | ⟨a, b, d⟩ | ⟨a, b, d⟩
    · exact Or.inl ⟨a, b, d⟩
    · exact Or.inr ⟨by omega, by omega, by rw [a]; exact ⟨b, d⟩⟩
    · exact Or.inr ⟨by omega, by omega, by rw [a]; exact ⟨b, d⟩⟩
    · exact Or.inr ⟨by omega, by omega, by rw [a]; exact ⟨b, d⟩⟩
  | 9, _ => fun k => by
    obtain ⟨j', v, h, hc⟩ := xl_Ri9 k
    refine ⟨j', v, h, ?_⟩
    rcases hc with ⟨a, b, d⟩ | ⟨a, b, d⟩ | ⟨a, b, d⟩ | ⟨a, b, d⟩
    · exact Or.inl ⟨a, b, d⟩
    · exact Or.inr ⟨by omega, by omega, by rw [a]; exact ⟨b, d⟩⟩
    · exact Or.inr ⟨by omega, by omega, by rw [a]; exact ⟨b, d⟩⟩
    · exact Or.inr ⟨by omega, by omega, by rw [a]; exact ⟨b, d⟩⟩
  | 10, _ => fun k => by
    obtain ⟨j', v, h, hc⟩ := xl_Ri10 k
    refine ⟨j', v, h, ?_⟩
    rcases hc with ⟨a, b, d⟩ | ⟨a, b, d⟩ | ⟨a, b, d⟩ | ⟨a, b, d⟩
    · exact Or.inl ⟨a, b, d⟩
    · exact Or.inr ⟨by omega, by omega, by rw [a]; exact ⟨b, d⟩⟩
    · exact Or.inr ⟨by omega, by omega, by rw [a]; exact ⟨b, d⟩⟩
    · exact Or.inr ⟨by omega, by omega, by rw [a]; exact ⟨b, d⟩⟩
  | 11, _ => fun k => by
    obtain ⟨j', v, h, hc⟩ := xl_Ri11 k
    refine ⟨j', v, h, ?_⟩
    rcases hc with ⟨a, b, d⟩ | ⟨a, b, d⟩ | ⟨a, b, d⟩ | ⟨a, b, d⟩
    · exact Or.inl ⟨a, b, d⟩
    · exact Or.inr ⟨by omega, by omega, by rw [a]; exact ⟨b, d⟩⟩
    · exact Or.inr ⟨by omega, by omega, by rw [a]; exact ⟨b, d⟩⟩
    · exact Or.inr ⟨by omega, by omega, by rw [a]; exact ⟨b, d⟩⟩
  | 12, _ => fun k => by
    obtain ⟨j', v, h, hc⟩ := xl_Ri12 k
    refine ⟨j', v, h, ?_⟩
    rcases hc with ⟨a, b, d⟩ | ⟨a, b, d⟩ | ⟨a, b, d⟩ | ⟨a, b, d⟩
    · exact Or.inl ⟨a, b, d⟩
    · exact Or.inr ⟨by omega, by omega, by rw [a]; exact ⟨b, d⟩⟩
    · exact Or.inr ⟨by omega, by omega, by rw [a]; exact ⟨b, d⟩⟩
    · exact Or.inr ⟨by omega, by omega, by rw [a]; exact ⟨b, d⟩⟩
  | 13, _ => fun k => by
    obtain ⟨j', v, h, hc⟩ := xl_Ri13 k
    refine ⟨j', v, h, ?_⟩
    rcases hc with ⟨a, b, d⟩ | ⟨a, b, d⟩ | ⟨a, b, d⟩ | ⟨a, b, d⟩
    · exact Or.inl ⟨a, b, d⟩
    · exact Or.inr ⟨by omega, by omega, by rw [a]; exact ⟨b, d⟩⟩
    · exact Or.inr ⟨by omega, by omega, by rw [a]; exact ⟨b, d⟩⟩
    · exact Or.inr ⟨by omega, by omega, by rw [a]; exact ⟨b, d⟩⟩
  | 14, _ => fun k => by
    obtain ⟨j', v, h, hc⟩ := xl_Ri14 k
    refine ⟨j', v, h, ?_⟩
    rcases hc with ⟨a, b, d⟩ | ⟨a, b, d⟩ | ⟨a, b, d⟩ | ⟨a, b, d⟩
    · exact Or.inl ⟨a, b, d⟩
    · exact Or.inr ⟨by omega, by omega, by rw [a]; exact ⟨b, d⟩⟩
    · exact Or.inr ⟨by omega, by omega, by rw [a]; exact ⟨b, d⟩⟩
    · exact Or.inr ⟨by omega, by omega, by rw [a]; exact ⟨b, d⟩⟩
  | 15, _ => fun k => by
    obtain ⟨j', v, h, hc⟩ := xl_Ri15 k
    refine ⟨j', v, h, ?_⟩
    rcases hc with ⟨a, b, d⟩ | ⟨a, b, d⟩ | ⟨a, b, d⟩ | ⟨a, b, d⟩
    · exact Or.inl ⟨a, b, d⟩
    · exact Or.inr ⟨by omega, by omega, by rw [a]; exact ⟨b, d⟩⟩
    · exact Or.inr ⟨by omega, by omega, by rw [a]; exact ⟨b, d⟩⟩
    · exact Or.inr ⟨by omega, by omega, by rw [a]; exact ⟨b, d⟩⟩
  | j + 16, h => absurd h (by omega)
theorem xl_Ra : ∀ j, j < 16 → ∀ k : Int32, ∃ j' v, xl_R 182 j k j' v ∧ (((k.toInt ≤ -1 ∨ 3 ≤ k.toInt) ∧ v = (-2) ∧ j' = j) ∨ (0 ≤ k.toInt ∧ k.toInt ≤ 2 ∧ v = (bif xl_has j k.toInt.toNat then 0 else -6) ∧ j' = j))
  | 0, _ => fun k => by
    obtain ⟨j', v, h, hc⟩ := xl_Ra0 k
    refine ⟨j', v, h, ?_⟩
    rcases hc with ⟨a, b, d⟩ | ⟨a, b, d⟩ | ⟨a, b, d⟩ | ⟨a, b, d⟩
    · exact Or.inl ⟨a, b, d⟩
    · exact Or.inr ⟨by omega, by omega, by rw [a]; exact ⟨b, d⟩⟩
    · exact Or.inr ⟨by omega, by omega, by rw [a]; exact ⟨b, d⟩⟩
    · exact Or.inr ⟨by omega, by omega, by rw [a]; exact ⟨b, d⟩⟩
  | 1, _ => fun k => by
    obtain ⟨j', v, h, hc⟩ := xl_Ra1 k
    refine ⟨j', v, h, ?_⟩
    rcases hc with ⟨a, b, d⟩ | ⟨a, b, d⟩ | ⟨a, b, d⟩ | ⟨a, b, d⟩
    · exact Or.inl ⟨a, b, d⟩
    · exact Or.inr ⟨by omega, by omega, by rw [a]; exact ⟨b, d⟩⟩
    · exact Or.inr ⟨by omega, by omega, by rw [a]; exact ⟨b, d⟩⟩
    · exact Or.inr ⟨by omega, by omega, by rw [a]; exact ⟨b, d⟩⟩
  | 2, _ => fun k => by
    obtain ⟨j', v, h, hc⟩ := xl_Ra2 k
    refine ⟨j', v, h, ?_⟩
    rcases hc with ⟨a, b, d⟩ | ⟨a, b, d⟩ | ⟨a, b, d⟩ | ⟨a, b, d⟩
    · exact Or.inl ⟨a, b, d⟩
    · exact Or.inr ⟨by omega, by omega, by rw [a]; exact ⟨b, d⟩⟩
    · exact Or.inr ⟨by omega, by omega, by rw [a]; exact ⟨b, d⟩⟩
    · exact Or.inr ⟨by omega, by omega, by rw [a]; exact ⟨b, d⟩⟩
  | 3, _ => fun k => by
    obtain ⟨j', v, h, hc⟩ := xl_Ra3 k
    refine ⟨j', v, h, ?_⟩
    rcases hc with ⟨a, b, d⟩ | ⟨a, b, d⟩ | ⟨a, b, d⟩ | ⟨a, b, d⟩
    · exact Or.inl ⟨a, b, d⟩
    · exact Or.inr ⟨by omega, by omega, by rw [a]; exact ⟨b, d⟩⟩
    · exact Or.inr ⟨by omega, by omega, by rw [a]; exact ⟨b, d⟩⟩
    · exact Or.inr ⟨by omega, by omega, by rw [a]; exact ⟨b, d⟩⟩
  | 4, _ => fun k => by
    obtain ⟨j', v, h, hc⟩ := xl_Ra4 k
    refine ⟨j', v, h, ?_⟩
    rcases hc with ⟨a, b, d⟩ | ⟨a, b, d⟩ | ⟨a, b, d⟩ | ⟨a, b, d⟩
    · exact Or.inl ⟨a, b, d⟩
    · exact Or.inr ⟨by omega, by omega, by rw [a]; exact ⟨b, d⟩⟩
    · exact Or.inr ⟨by omega, by omega, by rw [a]; exact ⟨b, d⟩⟩
    · exact Or.inr ⟨by omega, by omega, by rw [a]; exact ⟨b, d⟩⟩
  | 5, _ => fun k => by
    obtain ⟨j', v, h, hc⟩ := xl_Ra5 k
    refine ⟨j', v, h, ?_⟩
    rcases hc with ⟨a, b, d⟩ | ⟨a, b, d⟩ | ⟨a, b, d⟩ | ⟨a, b, d⟩
    · exact Or.inl ⟨a, b, d⟩
    · exact Or.inr ⟨by omega, by omega, by rw [a]; exact ⟨b, d⟩⟩
    · exact Or.inr ⟨by omega, by omega, by rw [a]; exact ⟨b, d⟩⟩
    · exact Or.inr ⟨by omega, by omega, by rw [a]; exact ⟨b, d⟩⟩
  | 6, _ => fun k => by
    obtain ⟨j', v, h, hc⟩ := xl_Ra6 k
    refine ⟨j', v, h, ?_⟩
    rcases hc with ⟨a, b, d⟩ | ⟨a, b, d⟩ | ⟨a, b, d⟩ | ⟨a, b, d⟩
    · exact Or.inl ⟨a, b, d⟩
    · exact Or.inr ⟨by omega, by omega, by rw [a]; exact ⟨b, d⟩⟩
    · exact Or.inr ⟨by omega, by omega, by rw [a]; exact ⟨b, d⟩⟩
    · exact Or.inr ⟨by omega, by omega, by rw [a]; exact ⟨b, d⟩⟩
  | 7, _ => fun k => by
    obtain ⟨j', v, h, hc⟩ := xl_Ra7 k
    refine ⟨j', v, h, ?_⟩
    rcases hc with ⟨a, b, d⟩ | ⟨a, b, d⟩ | ⟨a, b, d⟩ | ⟨a, b, d⟩
    · exact Or.inl ⟨a, b, d⟩
    · exact Or.inr ⟨by omega, by omega, by rw [a]; exact ⟨b, d⟩⟩
    · exact Or.inr ⟨by omega, by omega, by rw [a]; exact ⟨b, d⟩⟩
    · exact Or.inr ⟨by omega, by omega, by rw [a]; exact ⟨b, d⟩⟩
  | 8, _ => fun k => by
    obtain ⟨j', v, h, hc⟩ := xl_Ra8 k
    refine ⟨j', v, h, ?_⟩
    rcases hc with ⟨a, b, d⟩ | ⟨a, b, d⟩ | ⟨a, b, d⟩ | ⟨a, b, d⟩
    · exact Or.inl ⟨a, b, d⟩
    · exact Or.inr ⟨by omega, by omega, by rw [a]; exact ⟨b, d⟩⟩
    · exact Or.inr ⟨by omega, by omega, by rw [a]; exact ⟨b, d⟩⟩
    · exact Or.inr ⟨by omega, by omega, by rw [a]; exact ⟨b, d⟩⟩
  | 9, _ => fun k => by
    obtain ⟨j', v, h, hc⟩ := xl_Ra9 k
    refine ⟨j', v, h, ?_⟩
    rcases hc with ⟨a, b, d⟩ | ⟨a, b, d⟩ | ⟨a, b, d⟩ | ⟨a, b, d⟩
    · exact Or.inl ⟨a, b, d⟩
    · exact Or.inr ⟨by omega, by omega, by rw [a]; exact ⟨b, d⟩⟩
    · exact Or.inr ⟨by omega, by omega, by rw [a]; exact ⟨b, d⟩⟩
    · exact Or.inr ⟨by omega, by omega, by rw [a]; exact ⟨b, d⟩⟩
  | 10, _ => fun k => by
    obtain ⟨j', v, h, hc⟩ := xl_Ra10 k
    refine ⟨j', v, h, ?_⟩
    rcases hc with ⟨a, b, d⟩ | ⟨a, b, d⟩ | ⟨a, b, d⟩ | ⟨a, b, d⟩
    · exact Or.inl ⟨a, b, d⟩
    · exact Or.inr ⟨by omega, by omega, by rw [a]; exact ⟨b, d⟩⟩
    · exact Or.inr ⟨by omega, by omega, by rw [a]; exact ⟨b, d⟩⟩
    · exact Or.inr ⟨by omega, by omega, by rw [a]; exact ⟨b, d⟩⟩
  | 11, _ => fun k => by
    obtain ⟨j', v, h, hc⟩ := xl_Ra11 k
    refine ⟨j', v, h, ?_⟩
    rcases hc with ⟨a, b, d⟩ | ⟨a, b, d⟩ | ⟨a, b, d⟩ | ⟨a, b, d⟩
    · exact Or.inl ⟨a, b, d⟩
    · exact Or.inr ⟨by omega, by omega, by rw [a]; exact ⟨b, d⟩⟩
    · exact Or.inr ⟨by omega, by omega, by rw [a]; exact ⟨b, d⟩⟩
    · exact Or.inr ⟨by omega, by omega, by rw [a]; exact ⟨b, d⟩⟩
  | 12, _ => fun k => by
    obtain ⟨j', v, h, hc⟩ := xl_Ra12 k
    refine ⟨j', v, h, ?_⟩
    rcases hc with ⟨a, b, d⟩ | ⟨a, b, d⟩ | ⟨a, b, d⟩ | ⟨a, b, d⟩
    · exact Or.inl ⟨a, b, d⟩
    · exact Or.inr ⟨by omega, by omega, by rw [a]; exact ⟨b, d⟩⟩
    · exact Or.inr ⟨by omega, by omega, by rw [a]; exact ⟨b, d⟩⟩
    · exact Or.inr ⟨by omega, by omega, by rw [a]; exact ⟨b, d⟩⟩
  | 13, _ => fun k => by
    obtain ⟨j', v, h, hc⟩ := xl_Ra13 k
    refine ⟨j', v, h, ?_⟩
    rcases hc with ⟨a, b, d⟩ | ⟨a, b, d⟩ | ⟨a, b, d⟩ | ⟨a, b, d⟩
    · exact Or.inl ⟨a, b, d⟩
    · exact Or.inr ⟨by omega, by omega, by rw [a]; exact ⟨b, d⟩⟩
    · exact Or.inr ⟨by omega, by omega, by rw [a]; exact ⟨b, d⟩⟩
    · exact Or.inr ⟨by omega, by omega, by rw [a]; exact ⟨b, d⟩⟩
  | 14, _ => fun k => by
    obtain ⟨j', v, h, hc⟩ := xl_Ra14 k
    refine ⟨j', v, h, ?_⟩
    rcases hc with ⟨a, b, d⟩ | ⟨a, b, d⟩ | ⟨a, b, d⟩ | ⟨a, b, d⟩
    · exact Or.inl ⟨a, b, d⟩
    · exact Or.inr ⟨by omega, by omega, by rw [a]; exact ⟨b, d⟩⟩
    · exact Or.inr ⟨by omega, by omega, by rw [a]; exact ⟨b, d⟩⟩
    · exact Or.inr ⟨by omega, by omega, by rw [a]; exact ⟨b, d⟩⟩
  | 15, _ => fun k => by
    obtain ⟨j', v, h, hc⟩ := xl_Ra15 k
    refine ⟨j', v, h, ?_⟩
    rcases hc with ⟨a, b, d⟩ | ⟨a, b, d⟩ | ⟨a, b, d⟩ | ⟨a, b, d⟩
    · exact Or.inl ⟨a, b, d⟩
    · exact Or.inr ⟨by omega, by omega, by rw [a]; exact ⟨b, d⟩⟩
    · exact Or.inr ⟨by omega, by omega, by rw [a]; exact ⟨b, d⟩⟩
    · exact Or.inr ⟨by omega, by omega, by rw [a]; exact ⟨b, d⟩⟩
  | j + 16, h => absurd h (by omega)
theorem xl_hnx : ∀ j, j < 16 → ∀ k, k < 3 → xl_nx j k < 16 ∧ ∀ q, q < 3 → xl_has (xl_nx j k) q = (Nat.beq q k || xl_has j q) := by decide
