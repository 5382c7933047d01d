/-! .. put together -/
theorem xt_all (id : Nat) : xv_mB xt_M xt_J id = true := by
  by_cases h : id < 340
  · have hx : ∀ (b : Nat), (List.range 10).all (fun j => xv_mB xt_M xt_J (b + j)) = true → b ≤ id → id < b + 10 → xv_mB xt_M xt_J id = true := fun b hb h1 h2 => by
      have := List.all_eq_true.mp hb (id - b) (List.mem_range.mpr (by omega))
      rw [show b + (id - b) = id by omega] at this
      exact this
    by_cases h0_0 : id < 10
    · exact hx 0 xt_c0_0 (by omega) (by omega)
    by_cases h0_1 : id < 20
    · exact hx 10 xt_c0_1 (by omega) (by omega)
    by_cases h1_0 : id < 30
    · exact hx 20 xt_c1_0 (by omega) (by omega)
    by_cases h1_1 : id < 40
    · exact hx 30 xt_c1_1 (by omega) (by omega)
    by_cases h2_0 : id < 50
    · exact hx 40 xt_c2_0 (by omega) (by omega)
    by_cases h2_1 : id < 60
    · exact hx 50 xt_c2_1 (by omega) (by omega)
    by_cases h3_0 : id < 70
    · exact hx 60 xt_c3_0 (by omega) (by omega)
    by_cases h3_1 : id < 80
    · exact hx 70 xt_c3_1 (by omega) (by omega)
    by_cases h4_0 : id < 90
    · exact hx 80 xt_c4_0 (by omega) (by omega)
    by_cases h4_1 : id < 100
    · exact hx 90 xt_c4_1 (by omega) (by omega)
    by_cases h5_0 : id < 110
    · exact hx 100 xt_c5_0 (by omega) (by omega)
    by_cases h5_1 : id < 120
    · exact hx 110 xt_c5_1 (by omega) (by omega)
    by_cases h6_0 : id < 130
    · exact hx 120 xt_c6_0 (by omega) (by omega)
    by_cases h6_1 : id < 140
    · exact hx 130 xt_c6_1 (by omega) (by omega)
    by_cases h7_0 : id < 150
    · exact hx 140 xt_c7_0 (by omega) (by omega)
    by_cases h7_1 : id < 160
    · exact hx 150 xt_c7_1 (by omega) (by omega)
    by_cases h8_0 : id < 170
    · exact hx 160 xt_c8_0 (by omega) (by omega)
    by_cases h8_1 : id < 180
    · exact hx 170 xt_c8_1 (by omega) (by omega)
    by_cases h9_0 : id < 190
    · exact hx 180 xt_c9_0 (by omega) (by omega)
    by_cases h9_1 : id < 200
    · exact hx 190 xt_c9_1 (by omega) (by omega)
    by_cases h10_0 : id < 210
    · exact hx 200 xt_c10_0 (by omega) (by omega)
    by_cases h10_1 : id < 220
    · exact hx 210 xt_c10_1 (by omega) (by omega)
    by_cases h11_0 : id < 230
    · exact hx 220 xt_c11_0 (by omega) (by omega)
    by_cases h11_1 : id < 240
    · exact hx 230 xt_c11_1 (by omega) (by omega)
    by_cases h12_0 : id < 250
    · exact hx 240 xt_c12_0 (by omega) (by omega)
    by_cases h12_1 : id < 260
    · exact hx 250 xt_c12_1 (by omega) (by omega)
    by_cases h13_0 : id < 270
    · exact hx 260 xt_c13_0 (by omega) (by omega)
    by_cases h13_1 : id < 280
    · exact hx 270 xt_c13_1 (by omega) (by omega)
    by_cases h14_0 : id < 290
    · exact hx 280 xt_c14_0 (by omega) (by omega)
    by_cases h14_1 : id < 300
    · exact hx 290 xt_c14_1 (by omega) (by omega)
    by_cases h15_0 : id < 310
    · exact hx 300 xt_c15_0 (by omega) (by omega)
    by_cases h15_1 : id < 320
    · exact hx 310 xt_c15_1 (by omega) (by omega)
    by_cases h16_0 : id < 330
    · exact hx 320 xt_c16_0 (by omega) (by omega)
    by_cases h16_1 : id < 340
    · exact hx 330 xt_c16_1 (by omega) (by omega)
    omega
  · have e1 : xv_get 20 xt_M id = none := by
      rw [xv_get_eq, List.getElem?_eq_none (by show 17 ≤ id / 20; omega)]; rfl
    have e2 : xt_J id = none := by
      show xv_get 20 xt_JL id = none
      rw [xv_get_eq, List.getElem?_eq_none (by show 17 ≤ id / 20; omega)]; rfl
    unfold xv_mB
    rw [e1, e2]
theorem xt_ok : xv_JOK xt_J ∧ xv_MOK xt_M (xv_JI xt_J) := xv_mB_ok xt_all
