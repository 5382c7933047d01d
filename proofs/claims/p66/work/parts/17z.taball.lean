/-! .. put together -/
theorem xt_all (id : Nat) : xv_mB xt_M xt_J id = true := by
  by_cases h : id < 340
  · have hx : ∀ (b : Nat), (List.range 5).all (fun j => xv_mB xt_M xt_J (b + j)) = true → b ≤ id → id < b + 5 → xv_mB xt_M xt_J id = true := fun b hb h1 h2 => by
      have := List.all_eq_true.mp hb (id - b) (List.mem_range.mpr (by omega))
      rw [show b + (id - b) = id by omega] at this
      exact this
    by_cases h0_0 : id < 5
    · exact hx 0 xt_c0_0 (by omega) (by omega)
    by_cases h0_1 : id < 10
    · exact hx 5 xt_c0_1 (by omega) (by omega)
    by_cases h0_2 : id < 15
    · exact hx 10 xt_c0_2 (by omega) (by omega)
    by_cases h0_3 : id < 20
    · exact hx 15 xt_c0_3 (by omega) (by omega)
    by_cases h1_0 : id < 25
    · exact hx 20 xt_c1_0 (by omega) (by omega)
    by_cases h1_1 : id < 30
    · exact hx 25 xt_c1_1 (by omega) (by omega)
    by_cases h1_2 : id < 35
    · exact hx 30 xt_c1_2 (by omega) (by omega)
    by_cases h1_3 : id < 40
    · exact hx 35 xt_c1_3 (by omega) (by omega)
    by_cases h2_0 : id < 45
    · exact hx 40 xt_c2_0 (by omega) (by omega)
    by_cases h2_1 : id < 50
    · exact hx 45 xt_c2_1 (by omega) (by omega)
    by_cases h2_2 : id < 55
    · exact hx 50 xt_c2_2 (by omega) (by omega)
    by_cases h2_3 : id < 60
    · exact hx 55 xt_c2_3 (by omega) (by omega)
    by_cases h3_0 : id < 65
    · exact hx 60 xt_c3_0 (by omega) (by omega)
    by_cases h3_1 : id < 70
    · exact hx 65 xt_c3_1 (by omega) (by omega)
    by_cases h3_2 : id < 75
    · exact hx 70 xt_c3_2 (by omega) (by omega)
    by_cases h3_3 : id < 80
    · exact hx 75 xt_c3_3 (by omega) (by omega)
    by_cases h4_0 : id < 85
    · exact hx 80 xt_c4_0 (by omega) (by omega)
    by_cases h4_1 : id < 90
    · exact hx 85 xt_c4_1 (by omega) (by omega)
    by_cases h4_2 : id < 95
    · exact hx 90 xt_c4_2 (by omega) (by omega)
    by_cases h4_3 : id < 100
    · exact hx 95 xt_c4_3 (by omega) (by omega)
    by_cases h5_0 : id < 105
    · exact hx 100 xt_c5_0 (by omega) (by omega)
    by_cases h5_1 : id < 110
    · exact hx 105 xt_c5_1 (by omega) (by omega)
    by_cases h5_2 : id < 115
    · exact hx 110 xt_c5_2 (by omega) (by omega)
    by_cases h5_3 : id < 120
    · exact hx 115 xt_c5_3 (by omega) (by omega)
    by_cases h6_0 : id < 125
    · exact hx 120 xt_c6_0 (by omega) (by omega)
    by_cases h6_1 : id < 130
    · exact hx 125 xt_c6_1 (by omega) (by omega)
    by_cases h6_2 : id < 135
    · exact hx 130 xt_c6_2 (by omega) (by omega)
    by_cases h6_3 : id < 140
    · exact hx 135 xt_c6_3 (by omega) (by omega)
    by_cases h7_0 : id < 145
    · exact hx 140 xt_c7_0 (by omega) (by omega)
    by_cases h7_1 : id < 150
    · exact hx 145 xt_c7_1 (by omega) (by omega)
    by_cases h7_2 : id < 155
    · exact hx 150 xt_c7_2 (by omega) (by omega)
    by_cases h7_3 : id < 160
    · exact hx 155 xt_c7_3 (by omega) (by omega)
    by_cases h8_0 : id < 165
    · exact hx 160 xt_c8_0 (by omega) (by omega)
    by_cases h8_1 : id < 170
    · exact hx 165 xt_c8_1 (by omega) (by omega)
    by_cases h8_2 : id < 175
    · exact hx 170 xt_c8_2 (by omega) (by omega)
    by_cases h8_3 : id < 180
    · exact hx 175 xt_c8_3 (by omega) (by omega)
    by_cases h9_0 : id < 185
    · exact hx 180 xt_c9_0 (by omega) (by omega)
    by_cases h9_1 : id < 190
    · exact hx 185 xt_c9_1 (by omega) (by omega)
    by_cases h9_2 : id < 195
    · exact hx 190 xt_c9_2 (by omega) (by omega)
    by_cases h9_3 : id < 200
    · exact hx 195 xt_c9_3 (by omega) (by omega)
    by_cases h10_0 : id < 205
    · exact hx 200 xt_c10_0 (by omega) (by omega)
    by_cases h10_1 : id < 210
    · exact hx 205 xt_c10_1 (by omega) (by omega)
    by_cases h10_2 : id < 215
    · exact hx 210 xt_c10_2 (by omega) (by omega)
    by_cases h10_3 : id < 220
    · exact hx 215 xt_c10_3 (by omega) (by omega)
    by_cases h11_0 : id < 225
    · exact hx 220 xt_c11_0 (by omega) (by omega)
    by_cases h11_1 : id < 230
    · exact hx 225 xt_c11_1 (by omega) (by omega)
    by_cases h11_2 : id < 235
    · exact hx 230 xt_c11_2 (by omega) (by omega)
    by_cases h11_3 : id < 240
    · exact hx 235 xt_c11_3 (by omega) (by omega)
    by_cases h12_0 : id < 245
    · exact hx 240 xt_c12_0 (by omega) (by omega)
    by_cases h12_1 : id < 250
    · exact hx 245 xt_c12_1 (by omega) (by omega)
    by_cases h12_2 : id < 255
    · exact hx 250 xt_c12_2 (by omega) (by omega)
    by_cases h12_3 : id < 260
    · exact hx 255 xt_c12_3 (by omega) (by omega)
    by_cases h13_0 : id < 265
    · exact hx 260 xt_c13_0 (by omega) (by omega)
    by_cases h13_1 : id < 270
    · exact hx 265 xt_c13_1 (by omega) (by omega)
    by_cases h13_2 : id < 275
    · exact hx 270 xt_c13_2 (by omega) (by omega)
    by_cases h13_3 : id < 280
    · exact hx 275 xt_c13_3 (by omega) (by omega)
    by_cases h14_0 : id < 285
    · exact hx 280 xt_c14_0 (by omega) (by omega)
    by_cases h14_1 : id < 290
    · exact hx 285 xt_c14_1 (by omega) (by omega)
    by_cases h14_2 : id < 295
    · exact hx 290 xt_c14_2 (by omega) (by omega)
    by_cases h14_3 : id < 300
    · exact hx 295 xt_c14_3 (by omega) (by omega)
    by_cases h15_0 : id < 305
    · exact hx 300 xt_c15_0 (by omega) (by omega)
    by_cases h15_1 : id < 310
    · exact hx 305 xt_c15_1 (by omega) (by omega)
    by_cases h15_2 : id < 315
    · exact hx 310 xt_c15_2 (by omega) (by omega)
    by_cases h15_3 : id < 320
    · exact hx 315 xt_c15_3 (by omega) (by omega)
    by_cases h16_0 : id < 325
    · exact hx 320 xt_c16_0 (by omega) (by omega)
    by_cases h16_1 : id < 330
    · exact hx 325 xt_c16_1 (by omega) (by omega)
    by_cases h16_2 : id < 335
    · exact hx 330 xt_c16_2 (by omega) (by omega)
    by_cases h16_3 : id < 340
    · exact hx 335 xt_c16_3 (by omega) (by omega)
    omega
  · have e1 : xv_get 20 xt_M id = none := by
      rw [xv_get_eq, List.getElem?_eq_none (by show 17 ≤ id / 20; omega)]; rfl
    have e2 : xt_J id = none := by
      show xv_get 20 xt_JL id = none
      rw [xv_get_eq, List.getElem?_eq_none (by show 17 ≤ id / 20; omega)]; rfl
    unfold xv_mB
    rw [e1, e2]
theorem xt_ok : xv_JOK xt_J ∧ xv_MOK xt_M (xv_JI xt_J) := xv_mB_ok xt_all
