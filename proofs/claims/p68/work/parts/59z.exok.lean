/-! the tables once more, checked -/
set_option maxRecDepth 100000 in
set_option maxHeartbeats 4000000 in
theorem xt_x0 : (List.range 20).all (fun j => xw_mxB xt_M xt_J (0 + j)) = true := by decide +kernel
set_option maxRecDepth 100000 in
set_option maxHeartbeats 4000000 in
theorem xt_x1 : (List.range 20).all (fun j => xw_mxB xt_M xt_J (20 + j)) = true := by decide +kernel
set_option maxRecDepth 100000 in
set_option maxHeartbeats 4000000 in
theorem xt_x2 : (List.range 20).all (fun j => xw_mxB xt_M xt_J (40 + j)) = true := by decide +kernel
set_option maxRecDepth 100000 in
set_option maxHeartbeats 4000000 in
theorem xt_x3 : (List.range 20).all (fun j => xw_mxB xt_M xt_J (60 + j)) = true := by decide +kernel
set_option maxRecDepth 100000 in
set_option maxHeartbeats 4000000 in
theorem xt_x4 : (List.range 20).all (fun j => xw_mxB xt_M xt_J (80 + j)) = true := by decide +kernel
set_option maxRecDepth 100000 in
set_option maxHeartbeats 4000000 in
theorem xt_x5 : (List.range 20).all (fun j => xw_mxB xt_M xt_J (100 + j)) = true := by decide +kernel
set_option maxRecDepth 100000 in
set_option maxHeartbeats 4000000 in
theorem xt_x6 : (List.range 20).all (fun j => xw_mxB xt_M xt_J (120 + j)) = true := by decide +kernel
set_option maxRecDepth 100000 in
set_option maxHeartbeats 4000000 in
theorem xt_x7 : (List.range 20).all (fun j => xw_mxB xt_M xt_J (140 + j)) = true := by decide +kernel
set_option maxRecDepth 100000 in
set_option maxHeartbeats 4000000 in
theorem xt_x8 : (List.range 20).all (fun j => xw_mxB xt_M xt_J (160 + j)) = true := by decide +kernel
set_option maxRecDepth 100000 in
set_option maxHeartbeats 4000000 in
theorem xt_x9 : (List.range 20).all (fun j => xw_mxB xt_M xt_J (180 + j)) = true := by decide +kernel
set_option maxRecDepth 100000 in
set_option maxHeartbeats 4000000 in
theorem xt_x10 : (List.range 20).all (fun j => xw_mxB xt_M xt_J (200 + j)) = true := by decide +kernel
set_option maxRecDepth 100000 in
set_option maxHeartbeats 4000000 in
theorem xt_x11 : (List.range 20).all (fun j => xw_mxB xt_M xt_J (220 + j)) = true := by decide +kernel
set_option maxRecDepth 100000 in
set_option maxHeartbeats 4000000 in
theorem xt_x12 : (List.range 20).all (fun j => xw_mxB xt_M xt_J (240 + j)) = true := by decide +kernel
set_option maxRecDepth 100000 in
set_option maxHeartbeats 4000000 in
theorem xt_x13 : (List.range 20).all (fun j => xw_mxB xt_M xt_J (260 + j)) = true := by decide +kernel
set_option maxRecDepth 100000 in
set_option maxHeartbeats 4000000 in
theorem xt_x14 : (List.range 20).all (fun j => xw_mxB xt_M xt_J (280 + j)) = true := by decide +kernel
set_option maxRecDepth 100000 in
set_option maxHeartbeats 4000000 in
theorem xt_x15 : (List.range 20).all (fun j => xw_mxB xt_M xt_J (300 + j)) = true := by decide +kernel
set_option maxRecDepth 100000 in
set_option maxHeartbeats 4000000 in
theorem xt_x16 : (List.range 20).all (fun j => xw_mxB xt_M xt_J (320 + j)) = true := by decide +kernel
theorem xt_xall (id : Nat) : xw_mxB xt_M xt_J id = true := by
  by_cases h : id < 340
  · have hx : ∀ (b : Nat), (List.range 20).all (fun j => xw_mxB xt_M xt_J (b + j)) = true → b ≤ id → id < b + 20 → xw_mxB xt_M xt_J id = true := fun b hb h1 h2 => by
      have := List.all_eq_true.mp hb (id - b) (List.mem_range.mpr (by omega))
      rw [show b + (id - b) = id by omega] at this
      exact this
    by_cases h0 : id < 20
    · exact hx 0 xt_x0 (by omega) (by omega)
    by_cases h1 : id < 40
    · exact hx 20 xt_x1 (by omega) (by omega)
    by_cases h2 : id < 60
    · exact hx 40 xt_x2 (by omega) (by omega)
    by_cases h3 : id < 80
    · exact hx 60 xt_x3 (by omega) (by omega)
    by_cases h4 : id < 100
    · exact hx 80 xt_x4 (by omega) (by omega)
    by_cases h5 : id < 120
    · exact hx 100 xt_x5 (by omega) (by omega)
    by_cases h6 : id < 140
    · exact hx 120 xt_x6 (by omega) (by omega)
    by_cases h7 : id < 160
    · exact hx 140 xt_x7 (by omega) (by omega)
    by_cases h8 : id < 180
    · exact hx 160 xt_x8 (by omega) (by omega)
    by_cases h9 : id < 200
    · exact hx 180 xt_x9 (by omega) (by omega)
    by_cases h10 : id < 220
    · exact hx 200 xt_x10 (by omega) (by omega)
    by_cases h11 : id < 240
    · exact hx 220 xt_x11 (by omega) (by omega)
    by_cases h12 : id < 260
    · exact hx 240 xt_x12 (by omega) (by omega)
    by_cases h13 : id < 280
    · exact hx 260 xt_x13 (by omega) (by omega)
    by_cases h14 : id < 300
    · exact hx 280 xt_x14 (by omega) (by omega)
    by_cases h15 : id < 320
    · exact hx 300 xt_x15 (by omega) (by omega)
    by_cases h16 : id < 340
    · exact hx 320 xt_x16 (by omega) (by omega)
    omega
  · have e1 : xv_get 20 xt_M id = none := by
      rw [xv_get_eq, List.getElem?_eq_none (by show 17 ≤ id / 20; omega)]; rfl
    unfold xw_mxB
    rw [e1]
theorem xt_ok2 : xw_MOK xt_M (xv_JI xt_J) := xw_mok xt_ok.2 xt_xall
