/-! laysDeal, by hand -/
def sg_ld0_a0 : xh_Ar := (13, [(2, (102, [])), (0, (0, [(0, 1)])), (0, (0, [])), (9, (0, [])), (9, (0, [])), (9, (0, []))], [], [(0, 0, 7)], [], [(109, (4, []), (0, (0, [(0, 1)])))], [], [(118, 0), (115, 0), (102, 25)])
def sg_ld0_r : List xh_Ar := [sg_ld0_a0]
def sg_ld0_s : List (Nat × Int × Int) := [(2, 102, 0)]
def sg_ld0_p : List xw_T := []
def sg_ld0_v : List xw_V := [(2, (102, []))]
def sg_ld0_k : List xw_V := []
def sg_ld0_q : xw_Q := ([], [], [(284, 1, [403])])
set_option maxRecDepth 100000 in
set_option maxHeartbeats 4000000 in
theorem sg_ld0 : xh_chk xz_hl xz_G (xw_calls xz_hl xz_G xt_M xz_HS xz_CT 5000 [] sg_ld0_q 5) 284 [13] sg_ld0_r xt_284 5000 6 0 sg_ld0_s sg_ld0_p sg_ld0_v sg_ld0_k = true := by decide +kernel
theorem sg_ld0_d0 {ρ : Nat → Int} {μ : Nat → Nat → Value} (h : xh_ok ρ μ sg_ld0_a0) : (0 ≤ ρ 0 ∧ ρ 0 ≤ 7) ∧ xo_N μ 109 (4) = ρ 0 := by
  obtain ⟨⟨h0, -⟩, -, ⟨k0, -⟩, -⟩ := h
  have k0 : xw_n0 (μ 109 ((4 : Int) + 0).toNat) = (0 : Int) + (1 * ρ 0 + 0) := k0.2
  have k0 : xo_N μ 109 (4) = ρ 0 := by
    rw [show (4 : Int) = (4 : Int) + 0 by omega]
    exact k0.trans (by omega)
  exact ⟨h0, k0⟩
def sg_ld13_a0 : xh_Ar := (43, [(2, (102, [])), (0, (0, [(0, 1)])), (0, ((-1), [(0, 1)])), (9, (0, [])), (9, (0, [])), (9, (0, []))], [], [(0, 0, 7), (1, 128, 128)], [], [], [], [])
def sg_ld13_a1 : xh_Ar := (32, [(2, (102, [])), (0, (0, [(0, 1)])), (0, (0, [(1, 1)])), (9, (0, [])), (9, (0, [])), (9, (0, []))], [(0, (0, [])), (0, (0, [(0, 128), (1, 1)])), (2, (120, []))], [(0, 0, 7), (1, 0, 127)], [], [], [], [])
def sg_ld13_r : List xh_Ar := [sg_ld13_a0, sg_ld13_a1]
def sg_ld13_s : List (Nat × Int × Int) := [(2, 102, 0), (0, 0, 7), (0, 0, 128)]
def sg_ld13_p : List xw_T := []
def sg_ld13_v : List xw_V := [(2, (102, [])), (0, (0, [(0, 1)])), (0, (0, [(1, 1)]))]
def sg_ld13_k : List xw_V := []
def sg_ld13_q : xw_Q := ([], [], [])
set_option maxRecDepth 100000 in
set_option maxHeartbeats 4000000 in
theorem sg_ld13 : xh_chk xz_hl xz_G (xw_calls xz_hl xz_G xt_M xz_HS xz_CT 5000 [] sg_ld13_q 2) 284 [32, 43] sg_ld13_r xt_284 5000 6 13 sg_ld13_s sg_ld13_p sg_ld13_v sg_ld13_k = true := by decide +kernel
theorem sg_ld13_d0 {ρ : Nat → Int} {μ : Nat → Nat → Value} (h : xh_ok ρ μ sg_ld13_a0) : (0 ≤ ρ 0 ∧ ρ 0 ≤ 7) ∧ (128 ≤ ρ 1 ∧ ρ 1 ≤ 128) := by
  obtain ⟨⟨h0, h1, -⟩, -, -, -⟩ := h
  exact ⟨h0, h1⟩
theorem sg_ld13_d1 {ρ : Nat → Int} {μ : Nat → Nat → Value} (h : xh_ok ρ μ sg_ld13_a1) : (0 ≤ ρ 0 ∧ ρ 0 ≤ 7) ∧ (0 ≤ ρ 1 ∧ ρ 1 ≤ 127) := by
  obtain ⟨⟨h0, h1, -⟩, -, -, -⟩ := h
  exact ⟨h0, h1⟩
def sg_ld33_a0 : xh_Ar := (13, [(2, (102, [])), (0, (0, [(0, 1)])), (0, (1, [(1, 1)])), (9, (0, [])), (9, (0, [])), (9, (0, []))], [], [(0, 0, 7), (1, 0, 127)], [], [], [], [])
def sg_ld33_r : List xh_Ar := [sg_ld33_a0]
def sg_ld33_s : List (Nat × Int × Int) := [(2, 102, 0), (0, 0, 7), (0, 0, 127)]
def sg_ld33_p : List xw_T := []
def sg_ld33_v : List xw_V := [(2, (102, [])), (0, (0, [(0, 1)])), (0, (0, [(1, 1)]))]
def sg_ld33_k : List xw_V := []
def sg_ld33_q : xw_Q := ([], [], [])
set_option maxRecDepth 100000 in
set_option maxHeartbeats 4000000 in
theorem sg_ld33 : xh_chk xz_hl xz_G (xw_calls xz_hl xz_G xt_M xz_HS xz_CT 5000 [] sg_ld33_q 2) 284 [13] sg_ld33_r xt_284 5000 6 33 sg_ld33_s sg_ld33_p sg_ld33_v sg_ld33_k = true := by decide +kernel
theorem sg_ld33_d0 {ρ : Nat → Int} {μ : Nat → Nat → Value} (h : xh_ok ρ μ sg_ld33_a0) : (0 ≤ ρ 0 ∧ ρ 0 ≤ 7) ∧ (0 ≤ ρ 1 ∧ ρ 1 ≤ 127) := by
  obtain ⟨⟨h0, h1, -⟩, -, -, -⟩ := h
  exact ⟨h0, h1⟩
def sg_ld43_a0 : xh_Ar := (182, [(2, (102, [])), (0, (0, [(0, 1)])), (0, (0, [(1, 1)])), (9, (0, [])), (9, (0, [])), (9, (0, []))], [], [(0, 0, 7), (1, (-1), (-1))], [], [], [], [])
def sg_ld43_a1 : xh_Ar := (49, [(2, (102, [])), (0, (0, [(0, 1)])), (0, (0, [(1, 1)])), (0, (0, [])), (9, (0, [])), (9, (0, []))], [], [(0, 0, 7), (1, 0, 6)], [], [], [], [])
def sg_ld43_r : List xh_Ar := [sg_ld43_a0, sg_ld43_a1]
def sg_ld43_s : List (Nat × Int × Int) := [(2, 102, 0), (0, 0, 7), (0, (-1), 6)]
def sg_ld43_p : List xw_T := []
def sg_ld43_v : List xw_V := [(2, (102, [])), (0, (0, [(0, 1)])), (0, (0, [(1, 1)]))]
def sg_ld43_k : List xw_V := []
def sg_ld43_q : xw_Q := ([], [], [])
set_option maxRecDepth 100000 in
set_option maxHeartbeats 4000000 in
theorem sg_ld43 : xh_chk xz_hl xz_G (xw_calls xz_hl xz_G xt_M xz_HS xz_CT 5000 [] sg_ld43_q 2) 284 [49, 182] sg_ld43_r xt_284 5000 6 43 sg_ld43_s sg_ld43_p sg_ld43_v sg_ld43_k = true := by decide +kernel
theorem sg_ld43_d0 {ρ : Nat → Int} {μ : Nat → Nat → Value} (h : xh_ok ρ μ sg_ld43_a0) : (0 ≤ ρ 0 ∧ ρ 0 ≤ 7) ∧ ((-1) ≤ ρ 1 ∧ ρ 1 ≤ (-1)) := by
  obtain ⟨⟨h0, h1, -⟩, -, -, -⟩ := h
  exact ⟨h0, h1⟩
theorem sg_ld43_d1 {ρ : Nat → Int} {μ : Nat → Nat → Value} (h : xh_ok ρ μ sg_ld43_a1) : (0 ≤ ρ 0 ∧ ρ 0 ≤ 7) ∧ (0 ≤ ρ 1 ∧ ρ 1 ≤ 6) := by
  obtain ⟨⟨h0, h1, -⟩, -, -, -⟩ := h
  exact ⟨h0, h1⟩
def sg_ld49_a0 : xh_Ar := (43, [(2, (102, [])), (0, (0, [(0, 1)])), (0, ((-1), [(1, 1)])), (0, (0, [(2, 1)])), (9, (0, [])), (9, (0, []))], [], [(0, 0, 7), (1, 0, 6), (2, 1, 128), (3, 1, 128)], [(0, [(2, 1), (3, (-1))])], [], [(0, 3, (0, [(0, 1)]), (0, [(0, 1)]))], [])
def sg_ld49_a1 : xh_Ar := (64, [(2, (102, [])), (0, (0, [(0, 1)])), (0, (0, [(1, 1)])), (0, (0, [(2, 1)])), (0, (100000000, [])), (0, (0, []))], [], [(0, 0, 7), (1, 0, 6), (2, 0, 127), (3, 1, 128)], [((-1), [(2, (-1)), (3, 1)])], [], [(0, 3, (0, [(0, 1)]), (0, [(0, 1)]))], [])
def sg_ld49_r : List xh_Ar := [sg_ld49_a0, sg_ld49_a1]
def sg_ld49_s : List (Nat × Int × Int) := [(2, 102, 0), (0, 0, 7), (0, 0, 6), (0, 0, 128)]
def sg_ld49_p : List xw_T := []
def sg_ld49_v : List xw_V := [(2, (102, [])), (0, (0, [(0, 1)])), (0, (0, [(1, 1)])), (0, (0, [(2, 1)]))]
def sg_ld49_k : List xw_V := []
def sg_ld49_q : xw_Q := ([], [], [])
set_option maxRecDepth 100000 in
set_option maxHeartbeats 4000000 in
theorem sg_ld49 : xh_chk xz_hl xz_G (xw_calls xz_hl xz_G xt_M xz_HS xz_CT 5000 [] sg_ld49_q 2) 284 [64, 43] sg_ld49_r xt_284 5000 6 49 sg_ld49_s sg_ld49_p sg_ld49_v sg_ld49_k = true := by decide +kernel
theorem sg_ld49_d0 {ρ : Nat → Int} {μ : Nat → Nat → Value} (h : xh_ok ρ μ sg_ld49_a0) : (0 ≤ ρ 0 ∧ ρ 0 ≤ 7) ∧ (0 ≤ ρ 1 ∧ ρ 1 ≤ 6) ∧ (1 ≤ ρ 2 ∧ ρ 2 ≤ 128) ∧ (1 ≤ ρ 3 ∧ ρ 3 ≤ 128) ∧ 0 ≤ ρ 2 + (-1) * ρ 3 ∧ (0 ≤ ρ 0 ∧ ρ 3 = 2 ^ (ρ 0).toNat) := by
  obtain ⟨⟨h0, h1, h2, h3, -⟩, ⟨g0, -⟩, -, ⟨w0, -⟩⟩ := h
  have g0 : 0 ≤ (0 : Int) + (1 * ρ 2 + ((-1) * ρ 3 + 0)) := g0
  have w0 : 0 ≤ (0 : Int) + (1 * ρ 0 + 0) ∧ ρ 3 = 2 ^ ((0 : Int) + (1 * ρ 0 + 0)).toNat := w0
  rw [show ((0 : Int) + (1 * ρ 0 + 0) : Int) = ρ 0 by omega] at w0
  exact ⟨h0, h1, h2, h3, (by omega), w0⟩
theorem sg_ld49_d1 {ρ : Nat → Int} {μ : Nat → Nat → Value} (h : xh_ok ρ μ sg_ld49_a1) : (0 ≤ ρ 0 ∧ ρ 0 ≤ 7) ∧ (0 ≤ ρ 1 ∧ ρ 1 ≤ 6) ∧ (0 ≤ ρ 2 ∧ ρ 2 ≤ 127) ∧ (1 ≤ ρ 3 ∧ ρ 3 ≤ 128) ∧ 0 ≤ (-1) + (-1) * ρ 2 + ρ 3 ∧ (0 ≤ ρ 0 ∧ ρ 3 = 2 ^ (ρ 0).toNat) := by
  obtain ⟨⟨h0, h1, h2, h3, -⟩, ⟨g0, -⟩, -, ⟨w0, -⟩⟩ := h
  have g0 : 0 ≤ ((-1) : Int) + ((-1) * ρ 2 + (1 * ρ 3 + 0)) := g0
  have w0 : 0 ≤ (0 : Int) + (1 * ρ 0 + 0) ∧ ρ 3 = 2 ^ ((0 : Int) + (1 * ρ 0 + 0)).toNat := w0
  rw [show ((0 : Int) + (1 * ρ 0 + 0) : Int) = ρ 0 by omega] at w0
  exact ⟨h0, h1, h2, h3, (by omega), w0⟩
def sg_ld64_a0 : xh_Ar := (169, [(2, (102, [])), (0, (0, [(0, 1)])), (0, (0, [(1, 1)])), (0, (0, [(2, 1)])), (0, (0, [(3, 1)])), (0, (0, [(4, 1)]))], [(0, (0, [(3, 1)])), (0, (0, [(1, 128), (2, 1)])), (2, (120, []))], [(0, 0, 7), (1, 0, 6), (2, 0, 127), (3, 0, 100000000), (4, 0, 7)], [(0, [(0, (-1)), (4, 1)])], [], [], [])
def sg_ld64_a1 : xh_Ar := (64, [(2, (102, [])), (0, (0, [(0, 1)])), (0, (0, [(1, 1)])), (0, (0, [(2, 1)])), (0, (0, [(3, 1)])), (0, (1, [(4, 1)]))], [], [(0, 1, 7), (1, 0, 6), (2, 0, 126), (3, 0, 100000000), (4, 0, 6), (5, 0, 127), (6, 0, 0), (7, 0, 7), (8, 0, 99), (9, 0, 9), (10, 0, 891), (11, 0, 999), (12, 1, 64), (13, 0, 100000000)], [(0, [(3, (-1)), (10, 1), (11, 1), (13, 1)]), (127, [(2, (-1)), (12, (-1))]), ((-1), [(0, 1), (4, (-1))])], [(120, (128, [(1, 128), (2, 1), (12, 1)]), (0, (0, [(13, 1)]))), (111, (4, [(1, 12), (7, 1)]), (0, (0, [(11, 1)]))), (111, (3, [(1, 12)]), (0, (0, [(9, 1)]))), (110, (0, [(7, 1)]), (0, (0, [(8, 1)]))), (118, (0, [(4, 1)]), (0, (0, [(7, 1)])))], [(0, 12, (0, [(4, 1)]), (0, [(4, 1)])), (3, 10, (0, [(8, 1)]), (0, [(9, 1)])), (2, 6, (0, [(2, 1)]), (0, [(4, 1)])), (1, 5, (0, [(2, 1)]), (0, [(4, 1)]))], [])
def sg_ld64_a2 : xh_Ar := (64, [(2, (102, [])), (0, (0, [(0, 1)])), (0, (0, [(1, 1)])), (0, (0, [(2, 1)])), (0, (0, [(10, 1), (11, 1), (15, 1)])), (0, (1, [(4, 1)]))], [], [(0, 1, 7), (1, 0, 6), (2, 0, 126), (3, 1, 100000000), (4, 0, 6), (5, 0, 127), (6, 0, 0), (7, 0, 7), (8, 0, 99), (9, 0, 9), (10, 0, 891), (11, 0, 999), (12, 1, 64), (13, 0, 99999999), (14, 1, 64), (15, 0, 100000000)], [(127, [(2, (-1)), (14, (-1))]), ((-1), [(3, 1), (10, (-1)), (11, (-1)), (13, (-1))]), (127, [(2, (-1)), (12, (-1))]), ((-1), [(0, 1), (4, (-1))])], [(120, (128, [(1, 128), (2, 1), (14, 1)]), (0, (0, [(15, 1)]))), (120, (128, [(1, 128), (2, 1), (12, 1)]), (0, (0, [(13, 1)]))), (111, (4, [(1, 12), (7, 1)]), (0, (0, [(11, 1)]))), (111, (3, [(1, 12)]), (0, (0, [(9, 1)]))), (110, (0, [(7, 1)]), (0, (0, [(8, 1)]))), (118, (0, [(4, 1)]), (0, (0, [(7, 1)])))], [(0, 14, (0, [(4, 1)]), (0, [(4, 1)])), (0, 12, (0, [(4, 1)]), (0, [(4, 1)])), (3, 10, (0, [(8, 1)]), (0, [(9, 1)])), (2, 6, (0, [(2, 1)]), (0, [(4, 1)])), (1, 5, (0, [(2, 1)]), (0, [(4, 1)]))], [])
def sg_ld64_a3 : xh_Ar := (64, [(2, (102, [])), (0, (0, [(0, 1)])), (0, (0, [(1, 1)])), (0, (0, [(2, 1)])), (0, (0, [(3, 1)])), (0, (1, [(4, 1)]))], [], [(0, 1, 7), (1, 0, 6), (2, 0, 126), (3, 0, 100000000), (4, 0, 6), (5, 0, 127), (6, 0, 0), (7, (-1), (-1)), (8, 1, 64), (9, 0, 100000000)], [(0, [(3, (-1)), (9, 1)]), (127, [(2, (-1)), (8, (-1))]), ((-1), [(0, 1), (4, (-1))])], [(120, (128, [(1, 128), (2, 1), (8, 1)]), (0, (0, [(9, 1)]))), (118, (0, [(4, 1)]), (0, (0, [(7, 1)])))], [(0, 8, (0, [(4, 1)]), (0, [(4, 1)])), (2, 6, (0, [(2, 1)]), (0, [(4, 1)])), (1, 5, (0, [(2, 1)]), (0, [(4, 1)]))], [])
def sg_ld64_a4 : xh_Ar := (64, [(2, (102, [])), (0, (0, [(0, 1)])), (0, (0, [(1, 1)])), (0, (0, [(2, 1)])), (0, (0, [(11, 1)])), (0, (1, [(4, 1)]))], [], [(0, 1, 7), (1, 0, 6), (2, 0, 126), (3, 1, 100000000), (4, 0, 6), (5, 0, 127), (6, 0, 0), (7, (-1), (-1)), (8, 1, 64), (9, 0, 99999999), (10, 1, 64), (11, 0, 100000000)], [(127, [(2, (-1)), (10, (-1))]), ((-1), [(3, 1), (9, (-1))]), (127, [(2, (-1)), (8, (-1))]), ((-1), [(0, 1), (4, (-1))])], [(120, (128, [(1, 128), (2, 1), (10, 1)]), (0, (0, [(11, 1)]))), (120, (128, [(1, 128), (2, 1), (8, 1)]), (0, (0, [(9, 1)]))), (118, (0, [(4, 1)]), (0, (0, [(7, 1)])))], [(0, 10, (0, [(4, 1)]), (0, [(4, 1)])), (0, 8, (0, [(4, 1)]), (0, [(4, 1)])), (2, 6, (0, [(2, 1)]), (0, [(4, 1)])), (1, 5, (0, [(2, 1)]), (0, [(4, 1)]))], [])
def sg_ld64_a5 : xh_Ar := (64, [(2, (102, [])), (0, (0, [(0, 1)])), (0, (0, [(1, 1)])), (0, (0, [(2, 1)])), (0, (0, [(3, 1)])), (0, (1, [(4, 1)]))], [], [(0, 1, 7), (1, 0, 6), (2, 0, 127), (3, 0, 100000000), (4, 0, 6), (5, 0, 127), (6, 1, 1)], [((-1), [(0, 1), (4, (-1))])], [], [(2, 6, (0, [(2, 1)]), (0, [(4, 1)])), (1, 5, (0, [(2, 1)]), (0, [(4, 1)]))], [])
def sg_ld64_r : List xh_Ar := [sg_ld64_a0, sg_ld64_a1, sg_ld64_a2, sg_ld64_a3, sg_ld64_a4, sg_ld64_a5]
def sg_ld64_s : List (Nat × Int × Int) := [(2, 102, 0), (0, 0, 7), (0, 0, 6), (0, 0, 127), (0, 0, 100000000), (0, 0, 7)]
def sg_ld64_p : List xw_T := []
def sg_ld64_v : List xw_V := [(2, (102, [])), (0, (0, [(0, 1)])), (0, (0, [(1, 1)])), (0, (0, [(2, 1)])), (0, (0, [(3, 1)])), (0, (0, [(4, 1)]))]
def sg_ld64_k : List xw_V := []
def sg_ld64_q : xw_Q := ([], [], [])
set_option maxRecDepth 100000 in
set_option maxHeartbeats 4000000 in
theorem sg_ld64 : xh_chk xz_hl xz_G (xw_calls xz_hl xz_G xt_M xz_HS xz_CT 5000 [] sg_ld64_q 2) 284 [64, 169] sg_ld64_r xt_284 5000 6 64 sg_ld64_s sg_ld64_p sg_ld64_v sg_ld64_k = true := by decide +kernel
theorem sg_ld64_d0 {ρ : Nat → Int} {μ : Nat → Nat → Value} (h : xh_ok ρ μ sg_ld64_a0) : (0 ≤ ρ 0 ∧ ρ 0 ≤ 7) ∧ (0 ≤ ρ 1 ∧ ρ 1 ≤ 6) ∧ (0 ≤ ρ 2 ∧ ρ 2 ≤ 127) ∧ (0 ≤ ρ 3 ∧ ρ 3 ≤ 100000000) ∧ (0 ≤ ρ 4 ∧ ρ 4 ≤ 7) ∧ 0 ≤ (-1) * ρ 0 + ρ 4 := by
  obtain ⟨⟨h0, h1, h2, h3, h4, -⟩, ⟨g0, -⟩, -, -⟩ := h
  have g0 : 0 ≤ (0 : Int) + ((-1) * ρ 0 + (1 * ρ 4 + 0)) := g0
  exact ⟨h0, h1, h2, h3, h4, (by omega)⟩
theorem sg_ld64_d1 {ρ : Nat → Int} {μ : Nat → Nat → Value} (h : xh_ok ρ μ sg_ld64_a1) : (1 ≤ ρ 0 ∧ ρ 0 ≤ 7) ∧ (0 ≤ ρ 1 ∧ ρ 1 ≤ 6) ∧ (0 ≤ ρ 2 ∧ ρ 2 ≤ 126) ∧ (0 ≤ ρ 3 ∧ ρ 3 ≤ 100000000) ∧ (0 ≤ ρ 4 ∧ ρ 4 ≤ 6) ∧ (0 ≤ ρ 5 ∧ ρ 5 ≤ 127) ∧ (0 ≤ ρ 6 ∧ ρ 6 ≤ 0) ∧ (0 ≤ ρ 7 ∧ ρ 7 ≤ 7) ∧ (0 ≤ ρ 8 ∧ ρ 8 ≤ 99) ∧ (0 ≤ ρ 9 ∧ ρ 9 ≤ 9) ∧ (0 ≤ ρ 10 ∧ ρ 10 ≤ 891) ∧ (0 ≤ ρ 11 ∧ ρ 11 ≤ 999) ∧ (1 ≤ ρ 12 ∧ ρ 12 ≤ 64) ∧ (0 ≤ ρ 13 ∧ ρ 13 ≤ 100000000) ∧ 0 ≤ (-1) * ρ 3 + ρ 10 + ρ 11 + ρ 13 ∧ 0 ≤ 127 + (-1) * ρ 2 + (-1) * ρ 12 ∧ 0 ≤ (-1) + ρ 0 + (-1) * ρ 4 ∧ xo_N μ 120 (128 + 128 * ρ 1 + ρ 2 + ρ 12) = ρ 13 ∧ xo_N μ 111 (4 + 12 * ρ 1 + ρ 7) = ρ 11 ∧ xo_N μ 111 (3 + 12 * ρ 1) = ρ 9 ∧ xo_N μ 110 (ρ 7) = ρ 8 ∧ xo_N μ 118 (ρ 4) = ρ 7 ∧ (0 ≤ ρ 4 ∧ ρ 12 = 2 ^ (ρ 4).toNat) ∧ ρ 10 = (ρ 8) * (ρ 9) ∧ (0 ≤ ρ 4 ∧ ρ 6 = (ρ 2) / 2 ^ (ρ 4).toNat % 2) ∧ ρ 5 = (ρ 2) / 2 ^ (ρ 4).toNat := by
  obtain ⟨⟨h0, h1, h2, h3, h4, h5, h6, h7, h8, h9, h10, h11, h12, h13, -⟩, ⟨g0, g1, g2, -⟩, ⟨k0, k1, k2, k3, k4, -⟩, ⟨w0, w1, w2, w3, -⟩⟩ := h
  have g0 : 0 ≤ (0 : Int) + ((-1) * ρ 3 + (1 * ρ 10 + (1 * ρ 11 + (1 * ρ 13 + 0)))) := g0
  have g1 : 0 ≤ (127 : Int) + ((-1) * ρ 2 + ((-1) * ρ 12 + 0)) := g1
  have g2 : 0 ≤ ((-1) : Int) + (1 * ρ 0 + ((-1) * ρ 4 + 0)) := g2
  have k0 : xw_n0 (μ 120 ((128 : Int) + (128 * ρ 1 + (1 * ρ 2 + (1 * ρ 12 + 0)))).toNat) = (0 : Int) + (1 * ρ 13 + 0) := k0.2
  have k0 : xo_N μ 120 (128 + 128 * ρ 1 + ρ 2 + ρ 12) = ρ 13 := by
    rw [show (128 + 128 * ρ 1 + ρ 2 + ρ 12 : Int) = (128 : Int) + (128 * ρ 1 + (1 * ρ 2 + (1 * ρ 12 + 0))) by omega]
    exact k0.trans (by omega)
  have k1 : xw_n0 (μ 111 ((4 : Int) + (12 * ρ 1 + (1 * ρ 7 + 0))).toNat) = (0 : Int) + (1 * ρ 11 + 0) := k1.2
  have k1 : xo_N μ 111 (4 + 12 * ρ 1 + ρ 7) = ρ 11 := by
    rw [show (4 + 12 * ρ 1 + ρ 7 : Int) = (4 : Int) + (12 * ρ 1 + (1 * ρ 7 + 0)) by omega]
    exact k1.trans (by omega)
  have k2 : xw_n0 (μ 111 ((3 : Int) + (12 * ρ 1 + 0)).toNat) = (0 : Int) + (1 * ρ 9 + 0) := k2.2
  have k2 : xo_N μ 111 (3 + 12 * ρ 1) = ρ 9 := by
    rw [show (3 + 12 * ρ 1 : Int) = (3 : Int) + (12 * ρ 1 + 0) by omega]
    exact k2.trans (by omega)
  have k3 : xw_n0 (μ 110 ((0 : Int) + (1 * ρ 7 + 0)).toNat) = (0 : Int) + (1 * ρ 8 + 0) := k3.2
  have k3 : xo_N μ 110 (ρ 7) = ρ 8 := by
    rw [show (ρ 7 : Int) = (0 : Int) + (1 * ρ 7 + 0) by omega]
    exact k3.trans (by omega)
  have k4 : xw_n0 (μ 118 ((0 : Int) + (1 * ρ 4 + 0)).toNat) = (0 : Int) + (1 * ρ 7 + 0) := k4.2
  have k4 : xo_N μ 118 (ρ 4) = ρ 7 := by
    rw [show (ρ 4 : Int) = (0 : Int) + (1 * ρ 4 + 0) by omega]
    exact k4.trans (by omega)
  have w0 : 0 ≤ (0 : Int) + (1 * ρ 4 + 0) ∧ ρ 12 = 2 ^ ((0 : Int) + (1 * ρ 4 + 0)).toNat := w0
  rw [show ((0 : Int) + (1 * ρ 4 + 0) : Int) = ρ 4 by omega] at w0
  have w1 : ρ 10 = ((0 : Int) + (1 * ρ 8 + 0)) * ((0 : Int) + (1 * ρ 9 + 0)) := w1
  rw [show ((0 : Int) + (1 * ρ 8 + 0) : Int) = ρ 8 by omega, show ((0 : Int) + (1 * ρ 9 + 0) : Int) = ρ 9 by omega] at w1
  have w2 : 0 ≤ (0 : Int) + (1 * ρ 4 + 0) ∧ ρ 6 = ((0 : Int) + (1 * ρ 2 + 0)) / 2 ^ ((0 : Int) + (1 * ρ 4 + 0)).toNat % 2 := w2
  rw [show ((0 : Int) + (1 * ρ 2 + 0) : Int) = ρ 2 by omega, show ((0 : Int) + (1 * ρ 4 + 0) : Int) = ρ 4 by omega] at w2
  have w3 : ρ 5 = ((0 : Int) + (1 * ρ 2 + 0)) / 2 ^ ((0 : Int) + (1 * ρ 4 + 0)).toNat := w3
  rw [show ((0 : Int) + (1 * ρ 2 + 0) : Int) = ρ 2 by omega, show ((0 : Int) + (1 * ρ 4 + 0) : Int) = ρ 4 by omega] at w3
  exact ⟨h0, h1, h2, h3, h4, h5, h6, h7, h8, h9, h10, h11, h12, h13, (by omega), (by omega), (by omega), k0, k1, k2, k3, k4, w0, w1, w2, w3⟩
theorem sg_ld64_d2 {ρ : Nat → Int} {μ : Nat → Nat → Value} (h : xh_ok ρ μ sg_ld64_a2) : (1 ≤ ρ 0 ∧ ρ 0 ≤ 7) ∧ (0 ≤ ρ 1 ∧ ρ 1 ≤ 6) ∧ (0 ≤ ρ 2 ∧ ρ 2 ≤ 126) ∧ (1 ≤ ρ 3 ∧ ρ 3 ≤ 100000000) ∧ (0 ≤ ρ 4 ∧ ρ 4 ≤ 6) ∧ (0 ≤ ρ 5 ∧ ρ 5 ≤ 127) ∧ (0 ≤ ρ 6 ∧ ρ 6 ≤ 0) ∧ (0 ≤ ρ 7 ∧ ρ 7 ≤ 7) ∧ (0 ≤ ρ 8 ∧ ρ 8 ≤ 99) ∧ (0 ≤ ρ 9 ∧ ρ 9 ≤ 9) ∧ (0 ≤ ρ 10 ∧ ρ 10 ≤ 891) ∧ (0 ≤ ρ 11 ∧ ρ 11 ≤ 999) ∧ (1 ≤ ρ 12 ∧ ρ 12 ≤ 64) ∧ (0 ≤ ρ 13 ∧ ρ 13 ≤ 99999999) ∧ (1 ≤ ρ 14 ∧ ρ 14 ≤ 64) ∧ (0 ≤ ρ 15 ∧ ρ 15 ≤ 100000000) ∧ 0 ≤ 127 + (-1) * ρ 2 + (-1) * ρ 14 ∧ 0 ≤ (-1) + ρ 3 + (-1) * ρ 10 + (-1) * ρ 11 + (-1) * ρ 13 ∧ 0 ≤ 127 + (-1) * ρ 2 + (-1) * ρ 12 ∧ 0 ≤ (-1) + ρ 0 + (-1) * ρ 4 ∧ xo_N μ 120 (128 + 128 * ρ 1 + ρ 2 + ρ 14) = ρ 15 ∧ xo_N μ 120 (128 + 128 * ρ 1 + ρ 2 + ρ 12) = ρ 13 ∧ xo_N μ 111 (4 + 12 * ρ 1 + ρ 7) = ρ 11 ∧ xo_N μ 111 (3 + 12 * ρ 1) = ρ 9 ∧ xo_N μ 110 (ρ 7) = ρ 8 ∧ xo_N μ 118 (ρ 4) = ρ 7 ∧ (0 ≤ ρ 4 ∧ ρ 14 = 2 ^ (ρ 4).toNat) ∧ (0 ≤ ρ 4 ∧ ρ 12 = 2 ^ (ρ 4).toNat) ∧ ρ 10 = (ρ 8) * (ρ 9) ∧ (0 ≤ ρ 4 ∧ ρ 6 = (ρ 2) / 2 ^ (ρ 4).toNat % 2) ∧ ρ 5 = (ρ 2) / 2 ^ (ρ 4).toNat := by
  obtain ⟨⟨h0, h1, h2, h3, h4, h5, h6, h7, h8, h9, h10, h11, h12, h13, h14, h15, -⟩, ⟨g0, g1, g2, g3, -⟩, ⟨k0, k1, k2, k3, k4, k5, -⟩, ⟨w0, w1, w2, w3, w4, -⟩⟩ := h
  have g0 : 0 ≤ (127 : Int) + ((-1) * ρ 2 + ((-1) * ρ 14 + 0)) := g0
  have g1 : 0 ≤ ((-1) : Int) + (1 * ρ 3 + ((-1) * ρ 10 + ((-1) * ρ 11 + ((-1) * ρ 13 + 0)))) := g1
  have g2 : 0 ≤ (127 : Int) + ((-1) * ρ 2 + ((-1) * ρ 12 + 0)) := g2
  have g3 : 0 ≤ ((-1) : Int) + (1 * ρ 0 + ((-1) * ρ 4 + 0)) := g3
  have k0 : xw_n0 (μ 120 ((128 : Int) + (128 * ρ 1 + (1 * ρ 2 + (1 * ρ 14 + 0)))).toNat) = (0 : Int) + (1 * ρ 15 + 0) := k0.2
  have k0 : xo_N μ 120 (128 + 128 * ρ 1 + ρ 2 + ρ 14) = ρ 15 := by
    rw [show (128 + 128 * ρ 1 + ρ 2 + ρ 14 : Int) = (128 : Int) + (128 * ρ 1 + (1 * ρ 2 + (1 * ρ 14 + 0))) by omega]
    exact k0.trans (by omega)
  have k1 : xw_n0 (μ 120 ((128 : Int) + (128 * ρ 1 + (1 * ρ 2 + (1 * ρ 12 + 0)))).toNat) = (0 : Int) + (1 * ρ 13 + 0) := k1.2
  have k1 : xo_N μ 120 (128 + 128 * ρ 1 + ρ 2 + ρ 12) = ρ 13 := by
    rw [show (128 + 128 * ρ 1 + ρ 2 + ρ 12 : Int) = (128 : Int) + (128 * ρ 1 + (1 * ρ 2 + (1 * ρ 12 + 0))) by omega]
    exact k1.trans (by omega)
  have k2 : xw_n0 (μ 111 ((4 : Int) + (12 * ρ 1 + (1 * ρ 7 + 0))).toNat) = (0 : Int) + (1 * ρ 11 + 0) := k2.2
  have k2 : xo_N μ 111 (4 + 12 * ρ 1 + ρ 7) = ρ 11 := by
    rw [show (4 + 12 * ρ 1 + ρ 7 : Int) = (4 : Int) + (12 * ρ 1 + (1 * ρ 7 + 0)) by omega]
    exact k2.trans (by omega)
  have k3 : xw_n0 (μ 111 ((3 : Int) + (12 * ρ 1 + 0)).toNat) = (0 : Int) + (1 * ρ 9 + 0) := k3.2
  have k3 : xo_N μ 111 (3 + 12 * ρ 1) = ρ 9 := by
    rw [show (3 + 12 * ρ 1 : Int) = (3 : Int) + (12 * ρ 1 + 0) by omega]
    exact k3.trans (by omega)
  have k4 : xw_n0 (μ 110 ((0 : Int) + (1 * ρ 7 + 0)).toNat) = (0 : Int) + (1 * ρ 8 + 0) := k4.2
  have k4 : xo_N μ 110 (ρ 7) = ρ 8 := by
    rw [show (ρ 7 : Int) = (0 : Int) + (1 * ρ 7 + 0) by omega]
    exact k4.trans (by omega)
  have k5 : xw_n0 (μ 118 ((0 : Int) + (1 * ρ 4 + 0)).toNat) = (0 : Int) + (1 * ρ 7 + 0) := k5.2
  have k5 : xo_N μ 118 (ρ 4) = ρ 7 := by
    rw [show (ρ 4 : Int) = (0 : Int) + (1 * ρ 4 + 0) by omega]
    exact k5.trans (by omega)
  have w0 : 0 ≤ (0 : Int) + (1 * ρ 4 + 0) ∧ ρ 14 = 2 ^ ((0 : Int) + (1 * ρ 4 + 0)).toNat := w0
  rw [show ((0 : Int) + (1 * ρ 4 + 0) : Int) = ρ 4 by omega] at w0
  have w1 : 0 ≤ (0 : Int) + (1 * ρ 4 + 0) ∧ ρ 12 = 2 ^ ((0 : Int) + (1 * ρ 4 + 0)).toNat := w1
  rw [show ((0 : Int) + (1 * ρ 4 + 0) : Int) = ρ 4 by omega] at w1
  have w2 : ρ 10 = ((0 : Int) + (1 * ρ 8 + 0)) * ((0 : Int) + (1 * ρ 9 + 0)) := w2
  rw [show ((0 : Int) + (1 * ρ 8 + 0) : Int) = ρ 8 by omega, show ((0 : Int) + (1 * ρ 9 + 0) : Int) = ρ 9 by omega] at w2
  have w3 : 0 ≤ (0 : Int) + (1 * ρ 4 + 0) ∧ ρ 6 = ((0 : Int) + (1 * ρ 2 + 0)) / 2 ^ ((0 : Int) + (1 * ρ 4 + 0)).toNat % 2 := w3
  rw [show ((0 : Int) + (1 * ρ 2 + 0) : Int) = ρ 2 by omega, show ((0 : Int) + (1 * ρ 4 + 0) : Int) = ρ 4 by omega] at w3
  have w4 : ρ 5 = ((0 : Int) + (1 * ρ 2 + 0)) / 2 ^ ((0 : Int) + (1 * ρ 4 + 0)).toNat := w4
  rw [show ((0 : Int) + (1 * ρ 2 + 0) : Int) = ρ 2 by omega, show ((0 : Int) + (1 * ρ 4 + 0) : Int) = ρ 4 by omega] at w4
  exact ⟨h0, h1, h2, h3, h4, h5, h6, h7, h8, h9, h10, h11, h12, h13, h14, h15, (by omega), (by omega), (by omega), (by omega), k0, k1, k2, k3, k4, k5, w0, w1, w2, w3, w4⟩
theorem sg_ld64_d3 {ρ : Nat → Int} {μ : Nat → Nat → Value} (h : xh_ok ρ μ sg_ld64_a3) : (1 ≤ ρ 0 ∧ ρ 0 ≤ 7) ∧ (0 ≤ ρ 1 ∧ ρ 1 ≤ 6) ∧ (0 ≤ ρ 2 ∧ ρ 2 ≤ 126) ∧ (0 ≤ ρ 3 ∧ ρ 3 ≤ 100000000) ∧ (0 ≤ ρ 4 ∧ ρ 4 ≤ 6) ∧ (0 ≤ ρ 5 ∧ ρ 5 ≤ 127) ∧ (0 ≤ ρ 6 ∧ ρ 6 ≤ 0) ∧ ((-1) ≤ ρ 7 ∧ ρ 7 ≤ (-1)) ∧ (1 ≤ ρ 8 ∧ ρ 8 ≤ 64) ∧ (0 ≤ ρ 9 ∧ ρ 9 ≤ 100000000) ∧ 0 ≤ (-1) * ρ 3 + ρ 9 ∧ 0 ≤ 127 + (-1) * ρ 2 + (-1) * ρ 8 ∧ 0 ≤ (-1) + ρ 0 + (-1) * ρ 4 ∧ xo_N μ 120 (128 + 128 * ρ 1 + ρ 2 + ρ 8) = ρ 9 ∧ xo_N μ 118 (ρ 4) = ρ 7 ∧ (0 ≤ ρ 4 ∧ ρ 8 = 2 ^ (ρ 4).toNat) ∧ (0 ≤ ρ 4 ∧ ρ 6 = (ρ 2) / 2 ^ (ρ 4).toNat % 2) ∧ ρ 5 = (ρ 2) / 2 ^ (ρ 4).toNat := by
  obtain ⟨⟨h0, h1, h2, h3, h4, h5, h6, h7, h8, h9, -⟩, ⟨g0, g1, g2, -⟩, ⟨k0, k1, -⟩, ⟨w0, w1, w2, -⟩⟩ := h
  have g0 : 0 ≤ (0 : Int) + ((-1) * ρ 3 + (1 * ρ 9 + 0)) := g0
  have g1 : 0 ≤ (127 : Int) + ((-1) * ρ 2 + ((-1) * ρ 8 + 0)) := g1
  have g2 : 0 ≤ ((-1) : Int) + (1 * ρ 0 + ((-1) * ρ 4 + 0)) := g2
  have k0 : xw_n0 (μ 120 ((128 : Int) + (128 * ρ 1 + (1 * ρ 2 + (1 * ρ 8 + 0)))).toNat) = (0 : Int) + (1 * ρ 9 + 0) := k0.2
  have k0 : xo_N μ 120 (128 + 128 * ρ 1 + ρ 2 + ρ 8) = ρ 9 := by
    rw [show (128 + 128 * ρ 1 + ρ 2 + ρ 8 : Int) = (128 : Int) + (128 * ρ 1 + (1 * ρ 2 + (1 * ρ 8 + 0))) by omega]
    exact k0.trans (by omega)
  have k1 : xw_n0 (μ 118 ((0 : Int) + (1 * ρ 4 + 0)).toNat) = (0 : Int) + (1 * ρ 7 + 0) := k1.2
  have k1 : xo_N μ 118 (ρ 4) = ρ 7 := by
    rw [show (ρ 4 : Int) = (0 : Int) + (1 * ρ 4 + 0) by omega]
    exact k1.trans (by omega)
  have w0 : 0 ≤ (0 : Int) + (1 * ρ 4 + 0) ∧ ρ 8 = 2 ^ ((0 : Int) + (1 * ρ 4 + 0)).toNat := w0
  rw [show ((0 : Int) + (1 * ρ 4 + 0) : Int) = ρ 4 by omega] at w0
  have w1 : 0 ≤ (0 : Int) + (1 * ρ 4 + 0) ∧ ρ 6 = ((0 : Int) + (1 * ρ 2 + 0)) / 2 ^ ((0 : Int) + (1 * ρ 4 + 0)).toNat % 2 := w1
  rw [show ((0 : Int) + (1 * ρ 2 + 0) : Int) = ρ 2 by omega, show ((0 : Int) + (1 * ρ 4 + 0) : Int) = ρ 4 by omega] at w1
  have w2 : ρ 5 = ((0 : Int) + (1 * ρ 2 + 0)) / 2 ^ ((0 : Int) + (1 * ρ 4 + 0)).toNat := w2
  rw [show ((0 : Int) + (1 * ρ 2 + 0) : Int) = ρ 2 by omega, show ((0 : Int) + (1 * ρ 4 + 0) : Int) = ρ 4 by omega] at w2
  exact ⟨h0, h1, h2, h3, h4, h5, h6, h7, h8, h9, (by omega), (by omega), (by omega), k0, k1, w0, w1, w2⟩
theorem sg_ld64_d4 {ρ : Nat → Int} {μ : Nat → Nat → Value} (h : xh_ok ρ μ sg_ld64_a4) : (1 ≤ ρ 0 ∧ ρ 0 ≤ 7) ∧ (0 ≤ ρ 1 ∧ ρ 1 ≤ 6) ∧ (0 ≤ ρ 2 ∧ ρ 2 ≤ 126) ∧ (1 ≤ ρ 3 ∧ ρ 3 ≤ 100000000) ∧ (0 ≤ ρ 4 ∧ ρ 4 ≤ 6) ∧ (0 ≤ ρ 5 ∧ ρ 5 ≤ 127) ∧ (0 ≤ ρ 6 ∧ ρ 6 ≤ 0) ∧ ((-1) ≤ ρ 7 ∧ ρ 7 ≤ (-1)) ∧ (1 ≤ ρ 8 ∧ ρ 8 ≤ 64) ∧ (0 ≤ ρ 9 ∧ ρ 9 ≤ 99999999) ∧ (1 ≤ ρ 10 ∧ ρ 10 ≤ 64) ∧ (0 ≤ ρ 11 ∧ ρ 11 ≤ 100000000) ∧ 0 ≤ 127 + (-1) * ρ 2 + (-1) * ρ 10 ∧ 0 ≤ (-1) + ρ 3 + (-1) * ρ 9 ∧ 0 ≤ 127 + (-1) * ρ 2 + (-1) * ρ 8 ∧ 0 ≤ (-1) + ρ 0 + (-1) * ρ 4 ∧ xo_N μ 120 (128 + 128 * ρ 1 + ρ 2 + ρ 10) = ρ 11 ∧ xo_N μ 120 (128 + 128 * ρ 1 + ρ 2 + ρ 8) = ρ 9 ∧ xo_N μ 118 (ρ 4) = ρ 7 ∧ (0 ≤ ρ 4 ∧ ρ 10 = 2 ^ (ρ 4).toNat) ∧ (0 ≤ ρ 4 ∧ ρ 8 = 2 ^ (ρ 4).toNat) ∧ (0 ≤ ρ 4 ∧ ρ 6 = (ρ 2) / 2 ^ (ρ 4).toNat % 2) ∧ ρ 5 = (ρ 2) / 2 ^ (ρ 4).toNat := by
  obtain ⟨⟨h0, h1, h2, h3, h4, h5, h6, h7, h8, h9, h10, h11, -⟩, ⟨g0, g1, g2, g3, -⟩, ⟨k0, k1, k2, -⟩, ⟨w0, w1, w2, w3, -⟩⟩ := h
  have g0 : 0 ≤ (127 : Int) + ((-1) * ρ 2 + ((-1) * ρ 10 + 0)) := g0
  have g1 : 0 ≤ ((-1) : Int) + (1 * ρ 3 + ((-1) * ρ 9 + 0)) := g1
  have g2 : 0 ≤ (127 : Int) + ((-1) * ρ 2 + ((-1) * ρ 8 + 0)) := g2
  have g3 : 0 ≤ ((-1) : Int) + (1 * ρ 0 + ((-1) * ρ 4 + 0)) := g3
  have k0 : xw_n0 (μ 120 ((128 : Int) + (128 * ρ 1 + (1 * ρ 2 + (1 * ρ 10 + 0)))).toNat) = (0 : Int) + (1 * ρ 11 + 0) := k0.2
  have k0 : xo_N μ 120 (128 + 128 * ρ 1 + ρ 2 + ρ 10) = ρ 11 := by
    rw [show (128 + 128 * ρ 1 + ρ 2 + ρ 10 : Int) = (128 : Int) + (128 * ρ 1 + (1 * ρ 2 + (1 * ρ 10 + 0))) by omega]
    exact k0.trans (by omega)
  have k1 : xw_n0 (μ 120 ((128 : Int) + (128 * ρ 1 + (1 * ρ 2 + (1 * ρ 8 + 0)))).toNat) = (0 : Int) + (1 * ρ 9 + 0) := k1.2
  have k1 : xo_N μ 120 (128 + 128 * ρ 1 + ρ 2 + ρ 8) = ρ 9 := by
    rw [show (128 + 128 * ρ 1 + ρ 2 + ρ 8 : Int) = (128 : Int) + (128 * ρ 1 + (1 * ρ 2 + (1 * ρ 8 + 0))) by omega]
    exact k1.trans (by omega)
  have k2 : xw_n0 (μ 118 ((0 : Int) + (1 * ρ 4 + 0)).toNat) = (0 : Int) + (1 * ρ 7 + 0) := k2.2
  have k2 : xo_N μ 118 (ρ 4) = ρ 7 := by
    rw [show (ρ 4 : Int) = (0 : Int) + (1 * ρ 4 + 0) by omega]
    exact k2.trans (by omega)
  have w0 : 0 ≤ (0 : Int) + (1 * ρ 4 + 0) ∧ ρ 10 = 2 ^ ((0 : Int) + (1 * ρ 4 + 0)).toNat := w0
  rw [show ((0 : Int) + (1 * ρ 4 + 0) : Int) = ρ 4 by omega] at w0
  have w1 : 0 ≤ (0 : Int) + (1 * ρ 4 + 0) ∧ ρ 8 = 2 ^ ((0 : Int) + (1 * ρ 4 + 0)).toNat := w1
  rw [show ((0 : Int) + (1 * ρ 4 + 0) : Int) = ρ 4 by omega] at w1
  have w2 : 0 ≤ (0 : Int) + (1 * ρ 4 + 0) ∧ ρ 6 = ((0 : Int) + (1 * ρ 2 + 0)) / 2 ^ ((0 : Int) + (1 * ρ 4 + 0)).toNat % 2 := w2
  rw [show ((0 : Int) + (1 * ρ 2 + 0) : Int) = ρ 2 by omega, show ((0 : Int) + (1 * ρ 4 + 0) : Int) = ρ 4 by omega] at w2
  have w3 : ρ 5 = ((0 : Int) + (1 * ρ 2 + 0)) / 2 ^ ((0 : Int) + (1 * ρ 4 + 0)).toNat := w3
  rw [show ((0 : Int) + (1 * ρ 2 + 0) : Int) = ρ 2 by omega, show ((0 : Int) + (1 * ρ 4 + 0) : Int) = ρ 4 by omega] at w3
  exact ⟨h0, h1, h2, h3, h4, h5, h6, h7, h8, h9, h10, h11, (by omega), (by omega), (by omega), (by omega), k0, k1, k2, w0, w1, w2, w3⟩
theorem sg_ld64_d5 {ρ : Nat → Int} {μ : Nat → Nat → Value} (h : xh_ok ρ μ sg_ld64_a5) : (1 ≤ ρ 0 ∧ ρ 0 ≤ 7) ∧ (0 ≤ ρ 1 ∧ ρ 1 ≤ 6) ∧ (0 ≤ ρ 2 ∧ ρ 2 ≤ 127) ∧ (0 ≤ ρ 3 ∧ ρ 3 ≤ 100000000) ∧ (0 ≤ ρ 4 ∧ ρ 4 ≤ 6) ∧ (0 ≤ ρ 5 ∧ ρ 5 ≤ 127) ∧ (1 ≤ ρ 6 ∧ ρ 6 ≤ 1) ∧ 0 ≤ (-1) + ρ 0 + (-1) * ρ 4 ∧ (0 ≤ ρ 4 ∧ ρ 6 = (ρ 2) / 2 ^ (ρ 4).toNat % 2) ∧ ρ 5 = (ρ 2) / 2 ^ (ρ 4).toNat := by
  obtain ⟨⟨h0, h1, h2, h3, h4, h5, h6, -⟩, ⟨g0, -⟩, -, ⟨w0, w1, -⟩⟩ := h
  have g0 : 0 ≤ ((-1) : Int) + (1 * ρ 0 + ((-1) * ρ 4 + 0)) := g0
  have w0 : 0 ≤ (0 : Int) + (1 * ρ 4 + 0) ∧ ρ 6 = ((0 : Int) + (1 * ρ 2 + 0)) / 2 ^ ((0 : Int) + (1 * ρ 4 + 0)).toNat % 2 := w0
  rw [show ((0 : Int) + (1 * ρ 2 + 0) : Int) = ρ 2 by omega, show ((0 : Int) + (1 * ρ 4 + 0) : Int) = ρ 4 by omega] at w0
  have w1 : ρ 5 = ((0 : Int) + (1 * ρ 2 + 0)) / 2 ^ ((0 : Int) + (1 * ρ 4 + 0)).toNat := w1
  rw [show ((0 : Int) + (1 * ρ 2 + 0) : Int) = ρ 2 by omega, show ((0 : Int) + (1 * ρ 4 + 0) : Int) = ρ 4 by omega] at w1
  exact ⟨h0, h1, h2, h3, h4, h5, h6, (by omega), w0, w1⟩
def sg_ld170_a0 : xh_Ar := (49, [(2, (102, [])), (0, (0, [(0, 1)])), (0, (0, [(1, 1)])), (0, (1, [(2, 1)])), (0, (0, [(3, 1)])), (0, (0, [(4, 1)]))], [], [(0, 0, 7), (1, 0, 6), (2, 0, 127), (3, 0, 100000000), (4, 0, 7)], [], [], [], [])
def sg_ld170_r : List xh_Ar := [sg_ld170_a0]
def sg_ld170_s : List (Nat × Int × Int) := [(2, 102, 0), (0, 0, 7), (0, 0, 6), (0, 0, 127), (0, 0, 100000000), (0, 0, 7)]
def sg_ld170_p : List xw_T := []
def sg_ld170_v : List xw_V := [(2, (102, [])), (0, (0, [(0, 1)])), (0, (0, [(1, 1)])), (0, (0, [(2, 1)])), (0, (0, [(3, 1)])), (0, (0, [(4, 1)]))]
def sg_ld170_k : List xw_V := []
def sg_ld170_q : xw_Q := ([], [], [])
set_option maxRecDepth 100000 in
set_option maxHeartbeats 4000000 in
theorem sg_ld170 : xh_chk xz_hl xz_G (xw_calls xz_hl xz_G xt_M xz_HS xz_CT 5000 [] sg_ld170_q 2) 284 [49] sg_ld170_r xt_284 5000 6 170 sg_ld170_s sg_ld170_p sg_ld170_v sg_ld170_k = true := by decide +kernel
theorem sg_ld170_d0 {ρ : Nat → Int} {μ : Nat → Nat → Value} (h : xh_ok ρ μ sg_ld170_a0) : (0 ≤ ρ 0 ∧ ρ 0 ≤ 7) ∧ (0 ≤ ρ 1 ∧ ρ 1 ≤ 6) ∧ (0 ≤ ρ 2 ∧ ρ 2 ≤ 127) ∧ (0 ≤ ρ 3 ∧ ρ 3 ≤ 100000000) ∧ (0 ≤ ρ 4 ∧ ρ 4 ≤ 7) := by
  obtain ⟨⟨h0, h1, h2, h3, h4, -⟩, -, -, -⟩ := h
  exact ⟨h0, h1, h2, h3, h4⟩
/-- contracts of a closed set, none of them by hand -/
theorem xz_sub {l : Launch} {I : Nat → Option xv_I} (hI : I = xv_JI xt_J) (hM : xw_MOK xt_M I) (ds : List Nat) (hlt : ds.all (fun n => Nat.ble (n + 1) 422 && !(xz_sp.contains n)) = true) (hcl : ds.all (fun n => match xv_get 20 xz_Q n with
    | some q => q.2.2.all (fun s => s.2.2.all (fun j => ds.contains j))
    | none => false) = true) : ∀ n, n ∈ ds → ∀ c, xv_get 20 xz_CT n = some c → xw_CV l I xz_hl xz_G c := by
  intro n
  induction n using Nat.strongRecOn with
  | _ n ih =>
    intro hn c hct
    obtain ⟨h1, h2⟩ := xv_and_t (List.all_eq_true.mp hlt n hn)
    rcases xz_hc n (xv_ble h1) with hsp | hck
    · rw [List.contains_iff_mem.mpr hsp] at h2; cases h2
    · unfold xz_chk at hck
      rw [hct] at hck
      have h3 := List.all_eq_true.mp hcl n hn
      cases hq : xv_get 20 xz_Q n with
      | none => rw [hq] at hck; cases hck
      | some q =>
        rw [hq] at hck h3
        obtain ⟨b1, hck⟩ := xv_and_t hck
        obtain ⟨b2, hck⟩ := xv_and_t hck
        refine xy_con xz_9 xz_nar hM (fun caller pc cs hf j hj c' hc' => ?_) (xv_ble b1) hck
        obtain ⟨a, ha, rfl⟩ := xw_find_mem hf
        have hlt := xv_ble (List.all_eq_true.mp (List.all_eq_true.mp b2 a ha) j hj)
        have hin := List.contains_iff_mem.mp (List.all_eq_true.mp (List.all_eq_true.mp h3 a ha) j hj)
        exact ih j (by omega) hin c' hc'
/-! deals: pure rows -/
def xd_w (μ : Nat → Nat → Value) (n p u q v : Int) : Prop := 0 ≤ q ∧ q ≤ 6 ∧ q < n ∧ u / 2 ^ q.toNat % 2 = 0 ∧ xo_cst μ p (xo_N μ 118 q) + xo_N μ 120 (128 * (p + 1) + (u + 2 ^ q.toNat)) = v
def xd_A (μ : Nat → Nat → Value) (n p u : Int) : Prop := xo_N μ 120 (128 * p + u) = 100000000 ∨ ∃ q, xd_w μ n p u q (xo_N μ 120 (128 * p + u))
def xd_I (μ : Nat → Nat → Value) (n p : Int) : Prop := (∀ p' u : Int, p < p' → p' < n → 0 ≤ u → u < 2 ^ n.toNat → xd_A μ n p' u) ∧ xo_N μ 120 (128 * (p + 1) + 2 ^ (p + 1).toNat - 1) ≤ 1890 * (n - (p + 1))
def xd_J (μ : Nat → Nat → Value) (n p used : Int) : Prop := (∀ u : Int, 0 ≤ u → u < used → xd_A μ n p u) ∧ (2 ^ p.toNat - 1 < used → xo_N μ 120 (128 * p + 2 ^ p.toNat - 1) ≤ 1890 * (n - p))
def xd_T (μ : Nat → Nat → Value) (n p used least q : Int) : Prop := (least = 100000000 ∨ ∃ q', xd_w μ n p used q' least) ∧ (used = 2 ^ p.toNat - 1 → p < q → least ≤ 1890 * (n - p))
def xd_k (μ μ' : Nat → Nat → Value) : Prop := ∀ r j, r = 109 ∨ r = 110 ∨ r = 111 ∨ r = 112 ∨ r = 118 → μ' r j = μ r j
def xd_one (μ μ' : Nat → Nat → Value) (k : Int) : Prop := xd_k μ μ' ∧ ∀ j : Int, 0 ≤ j → j ≠ k → xo_N μ' 120 j = xo_N μ 120 j
theorem xd_k.o {μ μ' : Nat → Nat → Value} (h : xd_k μ μ') : xo_k μ μ' := fun r j hr => h r j (by omega)
theorem xd_g_k {μ μ' : Nat → Nat → Value} (h : xd_k μ μ') (q : Int) : xo_N μ' 118 q = xo_N μ 118 q := by unfold xo_N; rw [h 118 _ (by omega)]
theorem xd_w.keep {μ μ' : Nat → Nat → Value} {n p u q v : Int} (h : xd_w μ n p u q v) (hk : xd_k μ μ') (h2 : xo_N μ' 120 (128 * (p + 1) + (u + 2 ^ q.toNat)) = xo_N μ 120 (128 * (p + 1) + (u + 2 ^ q.toNat))) : xd_w μ' n p u q v := by
  obtain ⟨a, b, c, d, e⟩ := h
  refine ⟨a, b, c, d, ?_⟩
  rw [xo_cst_k hk.o, xd_g_k hk, h2]
  exact e
theorem xd_A.keep {μ μ' : Nat → Nat → Value} {n p u p0 u0 : Int} (h : xd_A μ n p u) (ho : xd_one μ μ' (128 * p0 + u0)) (h0 : 0 ≤ p0) (hu0 : u0 ≤ 127) (hp : p0 ≤ p) (hu : 0 ≤ u) (hne : p = p0 → u ≠ u0) : xd_A μ' n p u := by
  have e1 : xo_N μ' 120 (128 * p + u) = xo_N μ 120 (128 * p + u) := ho.2 _ (by omega) (by
    intro he
    by_cases hpp : p = p0
    · exact hne hpp (by omega)
    · omega)
  unfold xd_A
  rw [e1]
  rcases h with h | ⟨q, hq⟩
  · exact Or.inl h
  · have p1 := xo_pos q.toNat
    exact Or.inr ⟨q, hq.keep ho.1 (ho.2 _ (by omega) (by omega))⟩
theorem xd_I.keep {μ μ' : Nat → Nat → Value} {n p u0 : Int} (h : xd_I μ n p) (ho : xd_one μ μ' (128 * p + u0)) (h0 : 0 ≤ p) (hu1 : u0 ≤ 127) : xd_I μ' n p := by
  refine ⟨fun p' u h1 h2 h3 h4 => (h.1 p' u h1 h2 h3 h4).keep ho h0 hu1 (by omega) h3 (by omega), ?_⟩
  have p1 := xo_pos (p + 1).toNat
  rw [ho.2 _ (by omega) (by omega)]
  exact h.2
theorem xd_T.keep {μ μ' : Nat → Nat → Value} {n p used least q : Int} (h : xd_T μ n p used least q) (hk : xd_k μ μ') (h2 : ∀ j, μ' 120 j = μ 120 j) : xd_T μ' n p used least q := by
  refine ⟨?_, h.2⟩
  rcases h.1 with w | ⟨q', hq⟩
  · exact Or.inl w
  · exact Or.inr ⟨q', hq.keep hk (by unfold xo_N; rw [h2])⟩
theorem xd_pw {p n : Int} (h0 : 0 ≤ p) (h : p ≤ n) : (2 : Int) ^ p.toNat ≤ 2 ^ n.toNat := by
  have : (2 : Nat) ^ p.toNat ≤ 2 ^ n.toNat := Nat.pow_le_pow_right (by decide) (by omega)
  have h2 : ((2 ^ p.toNat : Nat) : Int) ≤ ((2 ^ n.toNat : Nat) : Int) := Int.ofNat_le.mpr this
  simpa using h2
theorem xd_p1 {p : Int} (h0 : 0 ≤ p) : (2 : Int) ^ (p + 1).toNat = 2 * 2 ^ p.toNat := by
  rw [show (p + 1).toNat = p.toNat + 1 by omega, Int.pow_succ]; omega
theorem xd_wr {μ μ2 : Nat → Nat → Value} {k : Int} {k0 : Nat} {x : Value} (h : xw_one μ 120 k0 x μ2) (hk : (k0 : Int) = k) : xd_one μ μ2 k := ⟨fun r j hr => h.2 r j (by omega), fun j h0 hj => by unfold xo_N; rw [h.2 120 j.toNat (by omega)]⟩
theorem xd_wv {μ μ2 : Nat → Nat → Value} {k : Int} {k0 : Nat} {x : Int32} (h : xw_one μ 120 k0 (.int x) μ2) (hk : (k0 : Int) = k) (h0 : 0 ≤ k) : xo_N μ2 120 k = x.toInt := by
  unfold xo_N
  rw [show k.toNat = k0 by omega, h.1]
  rfl
theorem xd_ti {sb : Nat} {as : List Nat} {i : Nat} {u : xv_V} {y : Int32} (h0 : 0 ≤ y.toInt) (h1 : y.toInt ≤ 100000000) (hu : xv_get 8 [[((0 : Nat), (0 : Int), (100000000 : Int))]] (i % 1) = some u) : xv_hv sb as u (.int y) := by
  rw [Nat.mod_one] at hu
  cases hu
  exact xv_hv.i ⟨rfl, h0, h1⟩
theorem xd_V {hl : Nat × Int} {t : Nat → ClassId} {X : xw_X} {xs : Nat → Int32} {ws : va_W} (hWd : xw_Wd hl xz_G t X (xw_mu xs ws) ws) {j : Int} (h0 : 0 ≤ j) (h1 : j < 1024) : 0 ≤ xo_N (xw_mu xs ws) 120 j ∧ xo_N (xw_mu xs ws) 120 j ≤ 100000000 := by
  have h := xw_ty_ok (r := 120) (i := j.toNat) (c := (1, 1024, 1, [[(0, 0, 100000000)]])) (u := (0, 0, 100000000)) hWd.1 rfl (by decide) (by show j.toNat < 1024; omega) (by show xv_get 8 _ (j.toNat % 1) = _; rw [Nat.mod_one]; rfl)
  obtain ⟨i, e, h1, h2⟩ := h.1 rfl
  have e2 : xw_mu xs ws 120 j.toNat = .int i := by rw [← e]; exact hWd.2.2 120 _ rfl j.toNat
  unfold xo_N
  rw [e2]
  exact ⟨h1, h2⟩
def xd_P (μ : Nat → Nat → Value) : Prop := (∀ p u : Int, 0 ≤ p → p < xo_N μ 109 4 → 0 ≤ u → u < 2 ^ (xo_N μ 109 4).toNat → xd_A μ (xo_N μ 109 4) p u) ∧ xo_N μ 120 0 ≤ 13230
def xd_dd : xw_D := [(102, 25), (115, 0), (118, 0), (120, 0)]
theorem xd_B {xs : Nat → Int32} {dd : xw_D} {ws ws' : va_W} (h : xh_B xs dd ws ws') (hd : dd.all (fun e => Nat.beq e.1 120) = true) : xd_k (xw_mu xs ws) (xw_mu xs ws') := fun r j hr => by
  refine h.1 r j ?_
  cases w : xw_isin dd r (j + 1) with
  | false => rfl
  | true =>
    obtain ⟨c', hc', -⟩ := xw_isin_mem w
    have := xv_beq (List.all_eq_true.mp hd _ hc')
    dsimp only at this
    omega
theorem xd_N9 {xs : Nat → Int32} {ws ws' : va_W} (h : xh_B xs xd_dd ws ws') : xo_N (xw_mu xs ws') 109 4 = xo_N (xw_mu xs ws) 109 4 := by
  unfold xo_N
  rw [h.1 109 _ rfl]

set_option maxHeartbeats 40000000 in
theorem xd_lays {l : Launch} {I : Nat → Option xv_I} (hJI : I = xv_JI xt_J) (hM : xw_MOK xt_M I) : ∃ i : xv_I, I 284 = some i ∧ ∀ d, 6 ≤ d → ∀ (D : va_G) (t : Nat → ClassId) (X : xw_X) (xs : Nat → Int32) (ws : va_W) (sz ad : Nat), xw_Inv X → xw_Wd xz_hl xz_G t X (xw_mu xs ws) ws → va_D (fun _ => True) ws → (ws.map Prod.fst)[102]? = some ad →
    Met l i.1 (Cond.code i.1 i.2.1 i.2.2.1 i.2.2.2 :: xv_tb) { frames := d, cells := 0, slots := 0, locals := 60 * d } (xw_Pr D t X xs ws [.ref ad] sz) (xh_Q D t xz_hl xz_G X xs ws sz xd_dd (fun ws' rv => rv = none ∧ xd_P (xw_mu xs ws'))) 0 0 (va_A ws sz) := by
  obtain ⟨⟨y, cc, mL, ret⟩, hi, hok⟩ := hM 284 (xt_284, 6) rfl
  refine ⟨_, hi, fun d hd D t X xs ws sz ad hI hWd hD0 had => ?_⟩
  obtain ⟨d, rfl⟩ : ∃ d', d = d' + 1 := ⟨d - 1, by omega⟩
  obtain ⟨e1, hmL, hpn, hfull⟩ := id hok
  have e1 : 6 = mL := e1
  subst e1
  refine xh_meth xz_9 hok hI hWd hD0 (by show 1 ≤ 6; decide) ?_
  intro p e s m args below meth c R Q hR hCS C hnm hiret hvret ls hls hWo
  dsimp only at C hnm hls hfull hiret hvret
  have hCG : ∀ Qd : xw_Q, Qd.2.2 = [] → xw_CG l d I xz_hl xz_G [] (xw_calls xz_hl xz_G xt_M xz_HS xz_CT 5000 [] Qd 2) := fun Qd hq => xo_cg (l := l) hM (show 2 ≤ d by omega) Qd hq
  have hCG0 : xw_CG l d I xz_hl xz_G [] (xw_calls xz_hl xz_G xt_M xz_HS xz_CT 5000 [] sg_ld0_q 5) := xy_calls xz_9 xz_nar hM (fun caller pc cs hf j hj c' hc' => by
    obtain ⟨a, ha, rfl⟩ := xw_find_mem hf
    have ea := List.mem_singleton.mp ha
    subst ea
    have ej := List.mem_singleton.mp hj
    subst ej
    exact xz_sub (l := l) hJI hM [142, 143, 277, 403] (by decide) (by decide +kernel) 403 (by decide) c' hc') 5 d (by omega)
  have hn := xo_N4 hWd
  generalize hnn : xo_N (xw_mu xs ws) 109 4 = n at hn
  have hp7 := xo_p7 hn.1 hn.2
  have hpn0 := xo_pos n.toNat
  have hn9 : ∀ ws1, xh_B xs xd_dd ws ws1 → xo_N (xw_mu xs ws1) 109 4 = n := fun ws1 h => by rw [xd_N9 h, hnn]
  -- the rows
  have k43 : ∀ (nI : Int32), nI.toInt = n → ∀ (N : Nat) (pp : Int32) (ls : Array Slot) (H : Heap) (locs : List Loc) (ws' : va_W), pp.toInt + 1 = (N : Int) → pp.toInt < n → lv_has ls 6 (lv_args 0 [.ref ad, .int nI, .int pp]) → xh_Wo D t (va_A ws sz) s.heap xz_hl xz_G X xs H locs ws' → xh_B xs xd_dd ws ws' → xd_I (xw_mu xs ws') n pp.toInt →
      W p l e R s m args below meth c H locs 0 0 Q (F0 m 43 ls []) := by
    intro nI hnI N
    induction N with
    | zero =>
      intro pp ls H locs ws' hN hpn hls hWo hB hI0
      have had' : (ws'.map Prod.fst)[102]? = some ad := by rw [hB.2.2]; exact had
      refine xh_seg2 (vl := [.ref ad, .int nI, .int pp]) (vk := []) sg_ld43 C (hCG _ rfl) hR hCS hnm xz_nar hfull (by decide) rfl hWo ⟨Or.inr (Or.inr (Or.inl ⟨rfl, ad, had', rfl⟩)), Or.inl ⟨rfl, nI, rfl, by show (0 : Int) ≤ _; omega, by show _ ≤ (7 : Int); omega⟩, Or.inl ⟨rfl, pp, rfl, by show ((-1) : Int) ≤ _; omega, by show _ ≤ (6 : Int); omega⟩, True.intro⟩ (fun _ h => by cases h) hls ?_
      intro a ha ρ n' ls1 vst H1 locs1 ws1 hWo1 hB1 hlv hsk hrel hok1
      rcases List.mem_cons.mp ha with rfl | ha
      · skip
        have hvst := hsk.nil
        subst hvst
        obtain ⟨q1, q2, -⟩ := hrel
        have q1 := q1 rfl
        replace q1 : _ = (0 : Int) + (1 * ρ 0 + 0) := q1
        have q2 := q2 rfl
        replace q2 : _ = (0 : Int) + (1 * ρ 1 + 0) := q2
        obtain ⟨v0, v1⟩ := sg_ld43_d0 hok1
        have er : ret = none := xh_lk hfull 109 (e := (182, .return_, 1, 0, 0, 0, 0)) rfl
        refine hvret 182 _ _ _ _ er (xh_dec hfull 109 (e := (182, .return_, 1, 0, 0, 0, 0)) rfl) hWo1 (hB.tr hB1 (by decide)) ⟨rfl, ?_⟩
        rw [xo_B0 hB1]
        unfold xd_P
        rw [hn9 ws' hB]
        refine ⟨fun p' u h1 h2 h3 h4 => hI0.1 p' u (by omega) h2 h3 h4, ?_⟩
        have h2 := hI0.2
        rw [show pp.toInt = -1 by omega] at h2
        have h3 : xo_N (xw_mu xs ws') 120 0 ≤ 1890 * (n - 0) := h2
        omega
      rcases List.mem_cons.mp ha with rfl | ha
      · skip
        have hvst := hsk.nil
        subst hvst
        obtain ⟨q1, q2, -⟩ := hrel
        have q1 := q1 rfl
        replace q1 : _ = (0 : Int) + (1 * ρ 0 + 0) := q1
        have q2 := q2 rfl
        replace q2 : _ = (0 : Int) + (1 * ρ 1 + 0) := q2
        obtain ⟨v0, v1⟩ := sg_ld43_d1 hok1
        omega
      cases ha
    | succ N ih43 =>
      intro pp ls H locs ws' hN hpn hls hWo hB hI0
      have hpp0 := xo_pos pp.toInt.toNat
      have hppn := xd_pw (p := pp.toInt) (n := n) (by omega) (by omega)
      have hpp1 := xd_p1 (p := pp.toInt) (by omega)
      have hppn1 := xd_pw (p := pp.toInt + 1) (n := n) (by omega) (by omega)
      -- the sets
      have k49 : ∀ (M : Nat) (used : Int32) (ls : Array Slot) (H : Heap) (locs : List Loc) (ws' : va_W), used.toInt + (M : Int) = 2 ^ n.toNat → 0 ≤ used.toInt → lv_has ls 6 (lv_args 0 [.ref ad, .int nI, .int pp, .int used]) → xh_Wo D t (va_A ws sz) s.heap xz_hl xz_G X xs H locs ws' → xh_B xs xd_dd ws ws' → xd_I (xw_mu xs ws') n pp.toInt → xd_J (xw_mu xs ws') n pp.toInt used.toInt →
          W p l e R s m args below meth c H locs 0 0 Q (F0 m 49 ls []) := by
        intro M
        induction M with
        | zero =>
          intro used ls H locs ws' hM hu0 hls hWo hB hI0 hJ0
          have had' : (ws'.map Prod.fst)[102]? = some ad := by rw [hB.2.2]; exact had
          refine xh_seg2 (vl := [.ref ad, .int nI, .int pp, .int used]) (vk := []) sg_ld49 C (hCG _ rfl) hR hCS hnm xz_nar hfull (by decide) rfl hWo ⟨Or.inr (Or.inr (Or.inl ⟨rfl, ad, had', rfl⟩)), Or.inl ⟨rfl, nI, rfl, by show (0 : Int) ≤ _; omega, by show _ ≤ (7 : Int); omega⟩, Or.inl ⟨rfl, pp, rfl, by show (0 : Int) ≤ _; omega, by show _ ≤ (6 : Int); omega⟩, Or.inl ⟨rfl, used, rfl, by show (0 : Int) ≤ _; omega, by show _ ≤ (128 : Int); omega⟩, True.intro⟩ (fun _ h => by cases h) hls ?_
          intro a ha ρ n' ls1 vst H1 locs1 ws1 hWo1 hB1 hlv hsk hrel hok1
          rcases List.mem_cons.mp ha with rfl | ha
          · skip
            obtain ⟨ad0, ha0, x1, e1, x2, e2, hls1⟩ := xh_locs hlv 3 (by decide)
            replace ha0 : (List.map Prod.fst _)[(102 : Nat)]? = some ad0 := ha0
            have e1 : x1.toInt = (0 : Int) + (1 * ρ 0 + 0) := e1
            have e2 : x2.toInt = ((-1) : Int) + (1 * ρ 1 + 0) := e2
            have hvst := hsk.nil
            subst hvst
            obtain ⟨q1, q2, q3, -⟩ := hrel
            have q1 := q1 rfl
            replace q1 : _ = (0 : Int) + (1 * ρ 0 + 0) := q1
            have q2 := q2 rfl
            replace q2 : _ = (0 : Int) + (1 * ρ 1 + 0) := q2
            have q3 := q3 rfl
            replace q3 : _ = (0 : Int) + (1 * ρ 2 + 0) := q3
            obtain ⟨v0, v1, v2, v3, f0, r0⟩ := sg_ld49_d0 hok1
            rw [had'] at ha0
            cases ha0
            have ex1 : x1 = nI := Int32.toInt_inj.mp (by omega)
            rw [ex1] at hls1
            refine ih43 x2 ls1 H1 locs1 ws1 (by omega) (by omega) hls1 hWo1 (hB.tr hB1 (by decide)) ?_
            rw [xo_B0 hB1, show x2.toInt = pp.toInt - 1 by omega]
            refine ⟨fun p' u h1 h2 h3 h4 => ?_, ?_⟩
            · by_cases hp' : p' = pp.toInt
              · rw [hp']; exact hJ0.1 u h3 (by omega)
              · exact hI0.1 p' u (by omega) h2 h3 h4
            · rw [show pp.toInt - 1 + 1 = pp.toInt by omega]
              exact hJ0.2 (by omega)
          rcases List.mem_cons.mp ha with rfl | ha
          · skip
            have hvst := hsk.nil
            subst hvst
            obtain ⟨q1, q2, q3, -⟩ := hrel
            have q1 := q1 rfl
            replace q1 : _ = (0 : Int) + (1 * ρ 0 + 0) := q1
            have q2 := q2 rfl
            replace q2 : _ = (0 : Int) + (1 * ρ 1 + 0) := q2
            have q3 := q3 rfl
            replace q3 : _ = (0 : Int) + (1 * ρ 2 + 0) := q3
            obtain ⟨v0, v1, v2, v3, f0, r0⟩ := sg_ld49_d1 hok1
            have e2 : (2 : Int) ^ (ρ 0).toNat = 2 ^ n.toNat := by rw [show ρ 0 = n by omega]
            omega
          cases ha
        | succ M ih49 =>
          intro used ls H locs ws' hM hu0 hls hWo hB hI0 hJ0
          have had' : (ws'.map Prod.fst)[102]? = some ad := by rw [hB.2.2]; exact had
          -- the shares
          have k64 : ∀ (L : Nat) (least q : Int32) (ls : Array Slot) (H : Heap) (locs : List Loc) (ws' : va_W), q.toInt + (L : Int) = n → 0 ≤ q.toInt → 0 ≤ least.toInt → least.toInt ≤ 100000000 → lv_has ls 6 (lv_args 0 [.ref ad, .int nI, .int pp, .int used, .int least, .int q]) → xh_Wo D t (va_A ws sz) s.heap xz_hl xz_G X xs H locs ws' → xh_B xs xd_dd ws ws' → xd_I (xw_mu xs ws') n pp.toInt → xd_J (xw_mu xs ws') n pp.toInt used.toInt → xd_T (xw_mu xs ws') n pp.toInt used.toInt least.toInt q.toInt →
              W p l e R s m args below meth c H locs 0 0 Q (F0 m 64 ls []) := by
            clear hls hWo hB hI0 hJ0 had'
            intro L
            induction L with
            | zero =>
              intro least q ls H locs ws' hL hq0 hl0 hl1 hls hWo hB hI0 hJ0 hT0
              have had' : (ws'.map Prod.fst)[102]? = some ad := by rw [hB.2.2]; exact had
              refine xh_seg2 (vl := [.ref ad, .int nI, .int pp, .int used, .int least, .int q]) (vk := []) sg_ld64 C (hCG _ rfl) hR hCS hnm xz_nar hfull (by decide) rfl hWo ⟨Or.inr (Or.inr (Or.inl ⟨rfl, ad, had', rfl⟩)), Or.inl ⟨rfl, nI, rfl, by show (0 : Int) ≤ _; omega, by show _ ≤ (7 : Int); omega⟩, Or.inl ⟨rfl, pp, rfl, by show (0 : Int) ≤ _; omega, by show _ ≤ (6 : Int); omega⟩, Or.inl ⟨rfl, used, rfl, by show (0 : Int) ≤ _; omega, by show _ ≤ (127 : Int); omega⟩, Or.inl ⟨rfl, least, rfl, by show (0 : Int) ≤ _; omega, by show _ ≤ (100000000 : Int); omega⟩, Or.inl ⟨rfl, q, rfl, by show (0 : Int) ≤ _; omega, by show _ ≤ (7 : Int); omega⟩, True.intro⟩ (fun _ h => by cases h) hls ?_
              intro a ha ρ n' ls1 vst H1 locs1 ws1 hWo1 hB1 hlv hsk hrel hok1
              rcases List.mem_cons.mp ha with rfl | ha
              · skip
                obtain ⟨ad0, ha0, x1, e1, x2, e2, x3, e3, x4, e4, x5, e5, hls1⟩ := xh_locs hlv 6 (by decide)
                replace ha0 : (List.map Prod.fst _)[(102 : Nat)]? = some ad0 := ha0
                have e1 : x1.toInt = (0 : Int) + (1 * ρ 0 + 0) := e1
                have e2 : x2.toInt = (0 : Int) + (1 * ρ 1 + 0) := e2
                have e3 : x3.toInt = (0 : Int) + (1 * ρ 2 + 0) := e3
                have e4 : x4.toInt = (0 : Int) + (1 * ρ 3 + 0) := e4
                have e5 : x5.toInt = (0 : Int) + (1 * ρ 4 + 0) := e5
                obtain ⟨y0, z0, y1, z1, ak2, hk2, hvst⟩ := xh_stk hsk (by decide)
                have z0 : y0.toInt = (0 : Int) + (1 * ρ 3 + 0) := z0
                have z1 : y1.toInt = (0 : Int) + (128 * ρ 1 + (1 * ρ 2 + 0)) := z1
                replace hk2 : (List.map Prod.fst _)[(120 : Nat)]? = some ak2 := hk2
                subst hvst
                obtain ⟨q1, q2, q3, q4, q5, -⟩ := hrel
                have q1 := q1 rfl
                replace q1 : _ = (0 : Int) + (1 * ρ 0 + 0) := q1
                have q2 := q2 rfl
                replace q2 : _ = (0 : Int) + (1 * ρ 1 + 0) := q2
                have q3 := q3 rfl
                replace q3 : _ = (0 : Int) + (1 * ρ 2 + 0) := q3
                have q4 := q4 rfl
                replace q4 : _ = (0 : Int) + (1 * ρ 3 + 0) := q4
                have q5 := q5 rfl
                replace q5 : _ = (0 : Int) + (1 * ρ 4 + 0) := q5
                obtain ⟨v0, v1, v2, v3, v4, f0⟩ := sg_ld64_d0 hok1
                rw [had'] at ha0
                cases ha0
                have hb2 : xw_mu xs ws1 = xw_mu xs ws' := xo_B0 hB1
                have ex1 : x1 = nI := Int32.toInt_inj.mp (by omega)
                have ex2 : x2 = pp := Int32.toInt_inj.mp (by omega)
                have ex3 : x3 = used := Int32.toInt_inj.mp (by omega)
                have ex4 : x4 = least := Int32.toInt_inj.mp (by omega)
                have ex5 : x5 = q := Int32.toInt_inj.mp (by omega)
                rw [ex1, ex2, ex3, ex4, ex5] at hls1
                have ey0 : y0.toInt = least.toInt := by omega
                refine xh_ist (r := 120) (cl := (1, 1024, 1, [[(0, 0, 100000000)]])) C (xh_dec hfull 104 (e := (169, .iastore, 1, 0, 0, 0, 0)) rfl) hWo1 rfl rfl (by decide) (by rw [hB1.2.2]; exact hk2) (by omega) (by show _ < 1024; omega) (fun u hu => xd_ti (by omega) (by omega) hu) ?_
                intro H2 locs2 ws2 hWo2 hone hB2
                have ho : xd_one (xw_mu xs ws') (xw_mu xs ws2) (128 * pp.toInt + used.toInt) := by rw [← hb2]; exact xd_wr hone (by omega)
                have hv : xo_N (xw_mu xs ws2) 120 (128 * pp.toInt + used.toInt) = least.toInt := by rw [xd_wv hone (by omega) (by omega)]; exact ey0
                have hB3 := (hB.tr hB1 (by decide)).tr hB2 (by decide)
                have had2 : (ws2.map Prod.fst)[102]? = some ad := by rw [hB3.2.2]; exact had
                have hI2 := hI0.keep ho (by omega) (by omega)
                have hJ2 : xd_J (xw_mu xs ws2) n pp.toInt (used.toInt + 1) := by
                  refine ⟨fun u h1 h2 => ?_, fun hc => ?_⟩
                  · by_cases hu : u = used.toInt
                    · rw [hu]
                      unfold xd_A
                      rw [hv]
                      rcases hT0.1 with w | ⟨q', hq'⟩
                      · exact Or.inl w
                      · have p1 := xo_pos q'.toNat
                        exact Or.inr ⟨q', hq'.keep ho.1 (ho.2 _ (by omega) (by omega))⟩
                    · exact (hJ0.1 u h1 (by omega)).keep ho (by omega) (by omega) (by omega) h1 (fun _ => hu)
                  · by_cases hu : used.toInt = 2 ^ pp.toInt.toNat - 1
                    · rw [show (128 * pp.toInt + 2 ^ pp.toInt.toNat - 1 : Int) = 128 * pp.toInt + used.toInt by omega, hv]
                      exact hT0.2 hu (by omega)
                    · rw [ho.2 _ (by omega) (by omega)]
                      exact hJ0.2 (by omega)
                refine xh_seg2 (vl := [.ref ad, .int nI, .int pp, .int used, .int least, .int q]) (vk := []) sg_ld170 C (hCG _ rfl) hR hCS hnm xz_nar hfull (by decide) rfl hWo2 ⟨Or.inr (Or.inr (Or.inl ⟨rfl, ad, had2, rfl⟩)), Or.inl ⟨rfl, nI, rfl, by show (0 : Int) ≤ _; omega, by show _ ≤ (7 : Int); omega⟩, Or.inl ⟨rfl, pp, rfl, by show (0 : Int) ≤ _; omega, by show _ ≤ (6 : Int); omega⟩, Or.inl ⟨rfl, used, rfl, by show (0 : Int) ≤ _; omega, by show _ ≤ (127 : Int); omega⟩, Or.inl ⟨rfl, least, rfl, by show (0 : Int) ≤ _; omega, by show _ ≤ (100000000 : Int); omega⟩, Or.inl ⟨rfl, q, rfl, by show (0 : Int) ≤ _; omega, by show _ ≤ (7 : Int); omega⟩, True.intro⟩ (fun _ h => by cases h) hls1 ?_
                clear hok1 hlv hsk ha hls1
                clear q1 q2 q3 q4 q5 v0 v1 v2 v3 v4 f0 e1 e2 e3 e4 e5 z0 z1
                intro a ha ρ n' ls3 vst H3 locs3 ws3 hWo3 hB4 hlv hsk hrel hok1
                rcases List.mem_cons.mp ha with rfl | ha
                · skip
                  obtain ⟨ad0, ha0, w1, e1, w2, e2, w3, e3, hls1⟩ := xh_locs hlv 4 (by decide)
                  replace ha0 : (List.map Prod.fst _)[(102 : Nat)]? = some ad0 := ha0
                  have e1 : w1.toInt = (0 : Int) + (1 * ρ 0 + 0) := e1
                  have e2 : w2.toInt = (0 : Int) + (1 * ρ 1 + 0) := e2
                  have e3 : w3.toInt = (1 : Int) + (1 * ρ 2 + 0) := e3
                  have hvst := hsk.nil
                  subst hvst
                  obtain ⟨q1, q2, q3, q4, q5, -⟩ := hrel
                  have q1 := q1 rfl
                  replace q1 : _ = (0 : Int) + (1 * ρ 0 + 0) := q1
                  have q2 := q2 rfl
                  replace q2 : _ = (0 : Int) + (1 * ρ 1 + 0) := q2
                  have q3 := q3 rfl
                  replace q3 : _ = (0 : Int) + (1 * ρ 2 + 0) := q3
                  have q4 := q4 rfl
                  replace q4 : _ = (0 : Int) + (1 * ρ 3 + 0) := q4
                  have q5 := q5 rfl
                  replace q5 : _ = (0 : Int) + (1 * ρ 4 + 0) := q5
                  obtain ⟨v0, v1, v2, v3, v4⟩ := sg_ld170_d0 hok1
                  rw [had2] at ha0
                  cases ha0
                  have ew1 : w1 = nI := Int32.toInt_inj.mp (by omega)
                  have ew2 : w2 = pp := Int32.toInt_inj.mp (by omega)
                  rw [ew1, ew2] at hls1
                  refine ih49 w3 ls3 H3 locs3 ws3 (by omega) (by omega) hls1 hWo3 (hB3.tr hB4 (by decide)) (by rw [xo_B0 hB4]; exact hI2) ?_
                  rw [xo_B0 hB4, show w3.toInt = used.toInt + 1 by omega]
                  exact hJ2
                cases ha
              rcases List.mem_cons.mp ha with rfl | ha
              · skip
                have hvst := hsk.nil
                subst hvst
                obtain ⟨q1, q2, q3, q4, q5, -⟩ := hrel
                have q1 := q1 rfl
                replace q1 : _ = (0 : Int) + (1 * ρ 0 + 0) := q1
                have q2 := q2 rfl
                replace q2 : _ = (0 : Int) + (1 * ρ 1 + 0) := q2
                have q3 := q3 rfl
                replace q3 : _ = (0 : Int) + (1 * ρ 2 + 0) := q3
                have q4 := q4 rfl
                replace q4 : _ = (0 : Int) + (1 * ρ 3 + 0) := q4
                have q5 := q5 rfl
                replace q5 : _ = (0 : Int) + (1 * ρ 4 + 0) := q5
                obtain ⟨v0, v1, v2, v3, v4, v5, v6, v7, v8, v9, v10, v11, v12, v13, f0, f1, f2, m0, m1, m2, m3, m4, r0, r1, r2, r3⟩ := sg_ld64_d1 hok1
                omega
              rcases List.mem_cons.mp ha with rfl | ha
              · skip
                have hvst := hsk.nil
                subst hvst
                obtain ⟨q1, q2, q3, q4, q5, -⟩ := hrel
                have q1 := q1 rfl
                replace q1 : _ = (0 : Int) + (1 * ρ 0 + 0) := q1
                have q2 := q2 rfl
                replace q2 : _ = (0 : Int) + (1 * ρ 1 + 0) := q2
                have q3 := q3 rfl
                replace q3 : _ = (0 : Int) + (1 * ρ 2 + 0) := q3
                have q4 := q4 rfl
                replace q4 : _ = (0 : Int) + (1 * ρ 3 + 0) := q4
                have q5 := q5 rfl
                replace q5 : _ = (0 : Int) + (1 * ρ 4 + 0) := q5
                obtain ⟨v0, v1, v2, v3, v4, v5, v6, v7, v8, v9, v10, v11, v12, v13, v14, v15, f0, f1, f2, f3, m0, m1, m2, m3, m4, m5, r0, r1, r2, r3, r4⟩ := sg_ld64_d2 hok1
                omega
              rcases List.mem_cons.mp ha with rfl | ha
              · skip
                have hvst := hsk.nil
                subst hvst
                obtain ⟨q1, q2, q3, q4, q5, -⟩ := hrel
                have q1 := q1 rfl
                replace q1 : _ = (0 : Int) + (1 * ρ 0 + 0) := q1
                have q2 := q2 rfl
                replace q2 : _ = (0 : Int) + (1 * ρ 1 + 0) := q2
                have q3 := q3 rfl
                replace q3 : _ = (0 : Int) + (1 * ρ 2 + 0) := q3
                have q4 := q4 rfl
                replace q4 : _ = (0 : Int) + (1 * ρ 3 + 0) := q4
                have q5 := q5 rfl
                replace q5 : _ = (0 : Int) + (1 * ρ 4 + 0) := q5
                obtain ⟨v0, v1, v2, v3, v4, v5, v6, v7, v8, v9, f0, f1, f2, m0, m1, r0, r1, r2⟩ := sg_ld64_d3 hok1
                omega
              rcases List.mem_cons.mp ha with rfl | ha
              · skip
                have hvst := hsk.nil
                subst hvst
                obtain ⟨q1, q2, q3, q4, q5, -⟩ := hrel
                have q1 := q1 rfl
                replace q1 : _ = (0 : Int) + (1 * ρ 0 + 0) := q1
                have q2 := q2 rfl
                replace q2 : _ = (0 : Int) + (1 * ρ 1 + 0) := q2
                have q3 := q3 rfl
                replace q3 : _ = (0 : Int) + (1 * ρ 2 + 0) := q3
                have q4 := q4 rfl
                replace q4 : _ = (0 : Int) + (1 * ρ 3 + 0) := q4
                have q5 := q5 rfl
                replace q5 : _ = (0 : Int) + (1 * ρ 4 + 0) := q5
                obtain ⟨v0, v1, v2, v3, v4, v5, v6, v7, v8, v9, v10, v11, f0, f1, f2, f3, m0, m1, m2, r0, r1, r2, r3⟩ := sg_ld64_d4 hok1
                omega
              rcases List.mem_cons.mp ha with rfl | ha
              · skip
                have hvst := hsk.nil
                subst hvst
                obtain ⟨q1, q2, q3, q4, q5, -⟩ := hrel
                have q1 := q1 rfl
                replace q1 : _ = (0 : Int) + (1 * ρ 0 + 0) := q1
                have q2 := q2 rfl
                replace q2 : _ = (0 : Int) + (1 * ρ 1 + 0) := q2
                have q3 := q3 rfl
                replace q3 : _ = (0 : Int) + (1 * ρ 2 + 0) := q3
                have q4 := q4 rfl
                replace q4 : _ = (0 : Int) + (1 * ρ 3 + 0) := q4
                have q5 := q5 rfl
                replace q5 : _ = (0 : Int) + (1 * ρ 4 + 0) := q5
                obtain ⟨v0, v1, v2, v3, v4, v5, v6, f0, r0, r1⟩ := sg_ld64_d5 hok1
                omega
              cases ha
            | succ L ih =>
              intro least q ls H locs ws' hL hq0 hl0 hl1 hls hWo hB hI0 hJ0 hT0
              have had' : (ws'.map Prod.fst)[102]? = some ad := by rw [hB.2.2]; exact had
              refine xh_seg2 (vl := [.ref ad, .int nI, .int pp, .int used, .int least, .int q]) (vk := []) sg_ld64 C (hCG _ rfl) hR hCS hnm xz_nar hfull (by decide) rfl hWo ⟨Or.inr (Or.inr (Or.inl ⟨rfl, ad, had', rfl⟩)), Or.inl ⟨rfl, nI, rfl, by show (0 : Int) ≤ _; omega, by show _ ≤ (7 : Int); omega⟩, Or.inl ⟨rfl, pp, rfl, by show (0 : Int) ≤ _; omega, by show _ ≤ (6 : Int); omega⟩, Or.inl ⟨rfl, used, rfl, by show (0 : Int) ≤ _; omega, by show _ ≤ (127 : Int); omega⟩, Or.inl ⟨rfl, least, rfl, by show (0 : Int) ≤ _; omega, by show _ ≤ (100000000 : Int); omega⟩, Or.inl ⟨rfl, q, rfl, by show (0 : Int) ≤ _; omega, by show _ ≤ (7 : Int); omega⟩, True.intro⟩ (fun _ h => by cases h) hls ?_
              intro a ha ρ n' ls1 vst H1 locs1 ws1 hWo1 hB1 hlv hsk hrel hok1
              rcases List.mem_cons.mp ha with rfl | ha
              · skip
                obtain ⟨y0, z0, y1, z1, ak2, hk2, hvst⟩ := xh_stk hsk (by decide)
                have z0 : y0.toInt = (0 : Int) + (1 * ρ 3 + 0) := z0
                have z1 : y1.toInt = (0 : Int) + (128 * ρ 1 + (1 * ρ 2 + 0)) := z1
                replace hk2 : (List.map Prod.fst _)[(120 : Nat)]? = some ak2 := hk2
                subst hvst
                obtain ⟨q1, q2, q3, q4, q5, -⟩ := hrel
                have q1 := q1 rfl
                replace q1 : _ = (0 : Int) + (1 * ρ 0 + 0) := q1
                have q2 := q2 rfl
                replace q2 : _ = (0 : Int) + (1 * ρ 1 + 0) := q2
                have q3 := q3 rfl
                replace q3 : _ = (0 : Int) + (1 * ρ 2 + 0) := q3
                have q4 := q4 rfl
                replace q4 : _ = (0 : Int) + (1 * ρ 3 + 0) := q4
                have q5 := q5 rfl
                replace q5 : _ = (0 : Int) + (1 * ρ 4 + 0) := q5
                obtain ⟨v0, v1, v2, v3, v4, f0⟩ := sg_ld64_d0 hok1
                omega
              rcases List.mem_cons.mp ha with rfl | ha
              · skip
                obtain ⟨ad0, ha0, x1, e1, x2, e2, x3, e3, x4, e4, x5, e5, hls1⟩ := xh_locs hlv 6 (by decide)
                replace ha0 : (List.map Prod.fst _)[(102 : Nat)]? = some ad0 := ha0
                have e1 : x1.toInt = (0 : Int) + (1 * ρ 0 + 0) := e1
                have e2 : x2.toInt = (0 : Int) + (1 * ρ 1 + 0) := e2
                have e3 : x3.toInt = (0 : Int) + (1 * ρ 2 + 0) := e3
                have e4 : x4.toInt = (0 : Int) + (1 * ρ 3 + 0) := e4
                have e5 : x5.toInt = (1 : Int) + (1 * ρ 4 + 0) := e5
                have hvst := hsk.nil
                subst hvst
                obtain ⟨q1, q2, q3, q4, q5, -⟩ := hrel
                have q1 := q1 rfl
                replace q1 : _ = (0 : Int) + (1 * ρ 0 + 0) := q1
                have q2 := q2 rfl
                replace q2 : _ = (0 : Int) + (1 * ρ 1 + 0) := q2
                have q3 := q3 rfl
                replace q3 : _ = (0 : Int) + (1 * ρ 2 + 0) := q3
                have q4 := q4 rfl
                replace q4 : _ = (0 : Int) + (1 * ρ 3 + 0) := q4
                have q5 := q5 rfl
                replace q5 : _ = (0 : Int) + (1 * ρ 4 + 0) := q5
                obtain ⟨v0, v1, v2, v3, v4, v5, v6, v7, v8, v9, v10, v11, v12, v13, f0, f1, f2, m0, m1, m2, m3, m4, r0, r1, r2, r3⟩ := sg_ld64_d1 hok1
                rw [had'] at ha0
                cases ha0
                have hb2 : xw_mu xs ws1 = xw_mu xs ws' := xo_B0 hB1
                have ex1 : x1 = nI := Int32.toInt_inj.mp (by omega)
                have ex2 : x2 = pp := Int32.toInt_inj.mp (by omega)
                have ex3 : x3 = used := Int32.toInt_inj.mp (by omega)
                rw [ex1, ex2, ex3] at hls1
                have hbit : used.toInt / 2 ^ q.toInt.toNat % 2 = ρ 6 := by rw [r2.2, show ρ 2 = used.toInt by omega, show ρ 4 = q.toInt by omega]
                have hpv : ρ 12 = 2 ^ q.toInt.toNat := by rw [r0.2]; congr 1; omega
                have hV : xo_N (xw_mu xs ws1) 120 (128 * (pp.toInt + 1) + (used.toInt + 2 ^ q.toInt.toNat)) = ρ 13 := by rw [← m0]; congr 1; omega
                have hg : xo_N (xw_mu xs ws1) 118 q.toInt = ρ 7 := by rw [← m4]; congr 1; omega
                have hcst : xo_cst (xw_mu xs ws1) pp.toInt (ρ 7) = ρ 10 + ρ 11 := by
                  unfold xo_cst
                  rw [if_neg (by omega), show (12 * pp.toInt + 3 : Int) = 3 + 12 * ρ 1 by omega, show (12 * pp.toInt + 4 + ρ 7 : Int) = 4 + 12 * ρ 1 + ρ 7 by omega, m3, m2, m1, r1]
                have hch : used.toInt = 2 ^ pp.toInt.toNat - 1 → q.toInt = pp.toInt → ρ 13 ≤ 1890 * (n - (pp.toInt + 1)) := fun h1 h2 => by
                  rw [← hV, hb2, show (128 * (pp.toInt + 1) + (used.toInt + 2 ^ q.toInt.toNat) : Int) = 128 * (pp.toInt + 1) + 2 ^ (pp.toInt + 1).toNat - 1 by rw [h2]; omega]
                  exact hI0.2
                refine ih x4 x5 ls1 H1 locs1 ws1 (by omega) (by omega) (by omega) (by omega) hls1 hWo1 (hB.tr hB1 (by decide)) (by rw [hb2]; exact hI0) (by rw [hb2]; exact hJ0) ?_
                rw [hb2, show x4.toInt = least.toInt by omega]
                refine ⟨hT0.1, fun h1 h2 => ?_⟩
                by_cases hpq : pp.toInt < q.toInt
                · exact hT0.2 h1 hpq
                · have := hch h1 (by omega)
                  omega
              rcases List.mem_cons.mp ha with rfl | ha
              · skip
                obtain ⟨ad0, ha0, x1, e1, x2, e2, x3, e3, x4, e4, x5, e5, hls1⟩ := xh_locs hlv 6 (by decide)
                replace ha0 : (List.map Prod.fst _)[(102 : Nat)]? = some ad0 := ha0
                have e1 : x1.toInt = (0 : Int) + (1 * ρ 0 + 0) := e1
                have e2 : x2.toInt = (0 : Int) + (1 * ρ 1 + 0) := e2
                have e3 : x3.toInt = (0 : Int) + (1 * ρ 2 + 0) := e3
                have e4 : x4.toInt = (0 : Int) + (1 * ρ 10 + (1 * ρ 11 + (1 * ρ 15 + 0))) := e4
                have e5 : x5.toInt = (1 : Int) + (1 * ρ 4 + 0) := e5
                have hvst := hsk.nil
                subst hvst
                obtain ⟨q1, q2, q3, q4, q5, -⟩ := hrel
                have q1 := q1 rfl
                replace q1 : _ = (0 : Int) + (1 * ρ 0 + 0) := q1
                have q2 := q2 rfl
                replace q2 : _ = (0 : Int) + (1 * ρ 1 + 0) := q2
                have q3 := q3 rfl
                replace q3 : _ = (0 : Int) + (1 * ρ 2 + 0) := q3
                have q4 := q4 rfl
                replace q4 : _ = (0 : Int) + (1 * ρ 3 + 0) := q4
                have q5 := q5 rfl
                replace q5 : _ = (0 : Int) + (1 * ρ 4 + 0) := q5
                obtain ⟨v0, v1, v2, v3, v4, v5, v6, v7, v8, v9, v10, v11, v12, v13, v14, v15, f0, f1, f2, f3, m0, m1, m2, m3, m4, m5, r0, r1, r2, r3, r4⟩ := sg_ld64_d2 hok1
                rw [had'] at ha0
                cases ha0
                have hb2 : xw_mu xs ws1 = xw_mu xs ws' := xo_B0 hB1
                have ex1 : x1 = nI := Int32.toInt_inj.mp (by omega)
                have ex2 : x2 = pp := Int32.toInt_inj.mp (by omega)
                have ex3 : x3 = used := Int32.toInt_inj.mp (by omega)
                rw [ex1, ex2, ex3] at hls1
                have hbit : used.toInt / 2 ^ q.toInt.toNat % 2 = ρ 6 := by rw [r3.2, show ρ 2 = used.toInt by omega, show ρ 4 = q.toInt by omega]
                have hpv : ρ 12 = 2 ^ q.toInt.toNat := by rw [r1.2]; congr 1; omega
                have hV : xo_N (xw_mu xs ws1) 120 (128 * (pp.toInt + 1) + (used.toInt + 2 ^ q.toInt.toNat)) = ρ 13 := by rw [← m1]; congr 1; omega
                have hg : xo_N (xw_mu xs ws1) 118 q.toInt = ρ 7 := by rw [← m5]; congr 1; omega
                have hcst : xo_cst (xw_mu xs ws1) pp.toInt (ρ 7) = ρ 10 + ρ 11 := by
                  unfold xo_cst
                  rw [if_neg (by omega), show (12 * pp.toInt + 3 : Int) = 3 + 12 * ρ 1 by omega, show (12 * pp.toInt + 4 + ρ 7 : Int) = 4 + 12 * ρ 1 + ρ 7 by omega, m4, m3, m2, r2]
                have hch : used.toInt = 2 ^ pp.toInt.toNat - 1 → q.toInt = pp.toInt → ρ 13 ≤ 1890 * (n - (pp.toInt + 1)) := fun h1 h2 => by
                  rw [← hV, hb2, show (128 * (pp.toInt + 1) + (used.toInt + 2 ^ q.toInt.toNat) : Int) = 128 * (pp.toInt + 1) + 2 ^ (pp.toInt + 1).toNat - 1 by rw [h2]; omega]
                  exact hI0.2
                have hpv2 : ρ 14 = 2 ^ q.toInt.toNat := by rw [r0.2]; congr 1; omega
                have hV2 : ρ 15 = ρ 13 := by rw [← hV, ← m0]; congr 1; omega
                refine ih x4 x5 ls1 H1 locs1 ws1 (by omega) (by omega) (by omega) (by omega) hls1 hWo1 (hB.tr hB1 (by decide)) (by rw [hb2]; exact hI0) (by rw [hb2]; exact hJ0) ?_
                refine ⟨Or.inr ⟨q.toInt, hq0, by omega, by omega, by rw [hbit]; omega, ?_⟩, fun h1 h2 => ?_⟩
                · rw [hg, hcst, hV]; omega
                · by_cases hpq : pp.toInt < q.toInt
                  · have := hT0.2 h1 hpq
                    omega
                  · have := hch h1 (by omega)
                    omega
              rcases List.mem_cons.mp ha with rfl | ha
              · skip
                obtain ⟨ad0, ha0, x1, e1, x2, e2, x3, e3, x4, e4, x5, e5, hls1⟩ := xh_locs hlv 6 (by decide)
                replace ha0 : (List.map Prod.fst _)[(102 : Nat)]? = some ad0 := ha0
                have e1 : x1.toInt = (0 : Int) + (1 * ρ 0 + 0) := e1
                have e2 : x2.toInt = (0 : Int) + (1 * ρ 1 + 0) := e2
                have e3 : x3.toInt = (0 : Int) + (1 * ρ 2 + 0) := e3
                have e4 : x4.toInt = (0 : Int) + (1 * ρ 3 + 0) := e4
                have e5 : x5.toInt = (1 : Int) + (1 * ρ 4 + 0) := e5
                have hvst := hsk.nil
                subst hvst
                obtain ⟨q1, q2, q3, q4, q5, -⟩ := hrel
                have q1 := q1 rfl
                replace q1 : _ = (0 : Int) + (1 * ρ 0 + 0) := q1
                have q2 := q2 rfl
                replace q2 : _ = (0 : Int) + (1 * ρ 1 + 0) := q2
                have q3 := q3 rfl
                replace q3 : _ = (0 : Int) + (1 * ρ 2 + 0) := q3
                have q4 := q4 rfl
                replace q4 : _ = (0 : Int) + (1 * ρ 3 + 0) := q4
                have q5 := q5 rfl
                replace q5 : _ = (0 : Int) + (1 * ρ 4 + 0) := q5
                obtain ⟨v0, v1, v2, v3, v4, v5, v6, v7, v8, v9, f0, f1, f2, m0, m1, r0, r1, r2⟩ := sg_ld64_d3 hok1
                rw [had'] at ha0
                cases ha0
                have hb2 : xw_mu xs ws1 = xw_mu xs ws' := xo_B0 hB1
                have ex1 : x1 = nI := Int32.toInt_inj.mp (by omega)
                have ex2 : x2 = pp := Int32.toInt_inj.mp (by omega)
                have ex3 : x3 = used := Int32.toInt_inj.mp (by omega)
                rw [ex1, ex2, ex3] at hls1
                have hbit : used.toInt / 2 ^ q.toInt.toNat % 2 = ρ 6 := by rw [r1.2, show ρ 2 = used.toInt by omega, show ρ 4 = q.toInt by omega]
                have hpv : ρ 8 = 2 ^ q.toInt.toNat := by rw [r0.2]; congr 1; omega
                have hV : xo_N (xw_mu xs ws1) 120 (128 * (pp.toInt + 1) + (used.toInt + 2 ^ q.toInt.toNat)) = ρ 9 := by rw [← m0]; congr 1; omega
                have hg : xo_N (xw_mu xs ws1) 118 q.toInt = ρ 7 := by rw [← m1]; congr 1; omega
                have hcst : xo_cst (xw_mu xs ws1) pp.toInt (ρ 7) = 0 := by
                  unfold xo_cst
                  rw [if_pos (by omega)]
                have hch : used.toInt = 2 ^ pp.toInt.toNat - 1 → q.toInt = pp.toInt → ρ 9 ≤ 1890 * (n - (pp.toInt + 1)) := fun h1 h2 => by
                  rw [← hV, hb2, show (128 * (pp.toInt + 1) + (used.toInt + 2 ^ q.toInt.toNat) : Int) = 128 * (pp.toInt + 1) + 2 ^ (pp.toInt + 1).toNat - 1 by rw [h2]; omega]
                  exact hI0.2
                refine ih x4 x5 ls1 H1 locs1 ws1 (by omega) (by omega) (by omega) (by omega) hls1 hWo1 (hB.tr hB1 (by decide)) (by rw [hb2]; exact hI0) (by rw [hb2]; exact hJ0) ?_
                rw [hb2, show x4.toInt = least.toInt by omega]
                refine ⟨hT0.1, fun h1 h2 => ?_⟩
                by_cases hpq : pp.toInt < q.toInt
                · exact hT0.2 h1 hpq
                · have := hch h1 (by omega)
                  omega
              rcases List.mem_cons.mp ha with rfl | ha
              · skip
                obtain ⟨ad0, ha0, x1, e1, x2, e2, x3, e3, x4, e4, x5, e5, hls1⟩ := xh_locs hlv 6 (by decide)
                replace ha0 : (List.map Prod.fst _)[(102 : Nat)]? = some ad0 := ha0
                have e1 : x1.toInt = (0 : Int) + (1 * ρ 0 + 0) := e1
                have e2 : x2.toInt = (0 : Int) + (1 * ρ 1 + 0) := e2
                have e3 : x3.toInt = (0 : Int) + (1 * ρ 2 + 0) := e3
                have e4 : x4.toInt = (0 : Int) + (1 * ρ 11 + 0) := e4
                have e5 : x5.toInt = (1 : Int) + (1 * ρ 4 + 0) := e5
                have hvst := hsk.nil
                subst hvst
                obtain ⟨q1, q2, q3, q4, q5, -⟩ := hrel
                have q1 := q1 rfl
                replace q1 : _ = (0 : Int) + (1 * ρ 0 + 0) := q1
                have q2 := q2 rfl
                replace q2 : _ = (0 : Int) + (1 * ρ 1 + 0) := q2
                have q3 := q3 rfl
                replace q3 : _ = (0 : Int) + (1 * ρ 2 + 0) := q3
                have q4 := q4 rfl
                replace q4 : _ = (0 : Int) + (1 * ρ 3 + 0) := q4
                have q5 := q5 rfl
                replace q5 : _ = (0 : Int) + (1 * ρ 4 + 0) := q5
                obtain ⟨v0, v1, v2, v3, v4, v5, v6, v7, v8, v9, v10, v11, f0, f1, f2, f3, m0, m1, m2, r0, r1, r2, r3⟩ := sg_ld64_d4 hok1
                rw [had'] at ha0
                cases ha0
                have hb2 : xw_mu xs ws1 = xw_mu xs ws' := xo_B0 hB1
                have ex1 : x1 = nI := Int32.toInt_inj.mp (by omega)
                have ex2 : x2 = pp := Int32.toInt_inj.mp (by omega)
                have ex3 : x3 = used := Int32.toInt_inj.mp (by omega)
                rw [ex1, ex2, ex3] at hls1
                have hbit : used.toInt / 2 ^ q.toInt.toNat % 2 = ρ 6 := by rw [r2.2, show ρ 2 = used.toInt by omega, show ρ 4 = q.toInt by omega]
                have hpv : ρ 8 = 2 ^ q.toInt.toNat := by rw [r1.2]; congr 1; omega
                have hV : xo_N (xw_mu xs ws1) 120 (128 * (pp.toInt + 1) + (used.toInt + 2 ^ q.toInt.toNat)) = ρ 9 := by rw [← m1]; congr 1; omega
                have hg : xo_N (xw_mu xs ws1) 118 q.toInt = ρ 7 := by rw [← m2]; congr 1; omega
                have hcst : xo_cst (xw_mu xs ws1) pp.toInt (ρ 7) = 0 := by
                  unfold xo_cst
                  rw [if_pos (by omega)]
                have hch : used.toInt = 2 ^ pp.toInt.toNat - 1 → q.toInt = pp.toInt → ρ 9 ≤ 1890 * (n - (pp.toInt + 1)) := fun h1 h2 => by
                  rw [← hV, hb2, show (128 * (pp.toInt + 1) + (used.toInt + 2 ^ q.toInt.toNat) : Int) = 128 * (pp.toInt + 1) + 2 ^ (pp.toInt + 1).toNat - 1 by rw [h2]; omega]
                  exact hI0.2
                have hpv2 : ρ 10 = 2 ^ q.toInt.toNat := by rw [r0.2]; congr 1; omega
                have hV2 : ρ 11 = ρ 9 := by rw [← hV, ← m0]; congr 1; omega
                refine ih x4 x5 ls1 H1 locs1 ws1 (by omega) (by omega) (by omega) (by omega) hls1 hWo1 (hB.tr hB1 (by decide)) (by rw [hb2]; exact hI0) (by rw [hb2]; exact hJ0) ?_
                refine ⟨Or.inr ⟨q.toInt, hq0, by omega, by omega, by rw [hbit]; omega, ?_⟩, fun h1 h2 => ?_⟩
                · rw [hg, hcst, hV]; omega
                · by_cases hpq : pp.toInt < q.toInt
                  · have := hT0.2 h1 hpq
                    omega
                  · have := hch h1 (by omega)
                    omega
              rcases List.mem_cons.mp ha with rfl | ha
              · skip
                obtain ⟨ad0, ha0, x1, e1, x2, e2, x3, e3, x4, e4, x5, e5, hls1⟩ := xh_locs hlv 6 (by decide)
                replace ha0 : (List.map Prod.fst _)[(102 : Nat)]? = some ad0 := ha0
                have e1 : x1.toInt = (0 : Int) + (1 * ρ 0 + 0) := e1
                have e2 : x2.toInt = (0 : Int) + (1 * ρ 1 + 0) := e2
                have e3 : x3.toInt = (0 : Int) + (1 * ρ 2 + 0) := e3
                have e4 : x4.toInt = (0 : Int) + (1 * ρ 3 + 0) := e4
                have e5 : x5.toInt = (1 : Int) + (1 * ρ 4 + 0) := e5
                have hvst := hsk.nil
                subst hvst
                obtain ⟨q1, q2, q3, q4, q5, -⟩ := hrel
                have q1 := q1 rfl
                replace q1 : _ = (0 : Int) + (1 * ρ 0 + 0) := q1
                have q2 := q2 rfl
                replace q2 : _ = (0 : Int) + (1 * ρ 1 + 0) := q2
                have q3 := q3 rfl
                replace q3 : _ = (0 : Int) + (1 * ρ 2 + 0) := q3
                have q4 := q4 rfl
                replace q4 : _ = (0 : Int) + (1 * ρ 3 + 0) := q4
                have q5 := q5 rfl
                replace q5 : _ = (0 : Int) + (1 * ρ 4 + 0) := q5
                obtain ⟨v0, v1, v2, v3, v4, v5, v6, f0, r0, r1⟩ := sg_ld64_d5 hok1
                rw [had'] at ha0
                cases ha0
                have hb2 : xw_mu xs ws1 = xw_mu xs ws' := xo_B0 hB1
                have ex1 : x1 = nI := Int32.toInt_inj.mp (by omega)
                have ex2 : x2 = pp := Int32.toInt_inj.mp (by omega)
                have ex3 : x3 = used := Int32.toInt_inj.mp (by omega)
                rw [ex1, ex2, ex3] at hls1
                have hbit : used.toInt / 2 ^ q.toInt.toNat % 2 = ρ 6 := by rw [r0.2, show ρ 2 = used.toInt by omega, show ρ 4 = q.toInt by omega]
                refine ih x4 x5 ls1 H1 locs1 ws1 (by omega) (by omega) (by omega) (by omega) hls1 hWo1 (hB.tr hB1 (by decide)) (by rw [hb2]; exact hI0) (by rw [hb2]; exact hJ0) ?_
                rw [hb2, show x4.toInt = least.toInt by omega]
                refine ⟨hT0.1, fun h1 h2 => ?_⟩
                by_cases hpq : pp.toInt < q.toInt
                · exact hT0.2 h1 hpq
                · exfalso
                  have epq : q.toInt = pp.toInt := by omega
                  rw [epq, h1, xo_bit0 (by omega) (by omega)] at hbit
                  omega
              cases ha
          refine xh_seg2 (vl := [.ref ad, .int nI, .int pp, .int used]) (vk := []) sg_ld49 C (hCG _ rfl) hR hCS hnm xz_nar hfull (by decide) rfl hWo ⟨Or.inr (Or.inr (Or.inl ⟨rfl, ad, had', rfl⟩)), Or.inl ⟨rfl, nI, rfl, by show (0 : Int) ≤ _; omega, by show _ ≤ (7 : Int); omega⟩, Or.inl ⟨rfl, pp, rfl, by show (0 : Int) ≤ _; omega, by show _ ≤ (6 : Int); omega⟩, Or.inl ⟨rfl, used, rfl, by show (0 : Int) ≤ _; omega, by show _ ≤ (128 : Int); omega⟩, True.intro⟩ (fun _ h => by cases h) hls ?_
          intro a ha ρ n' ls1 vst H1 locs1 ws1 hWo1 hB1 hlv hsk hrel hok1
          rcases List.mem_cons.mp ha with rfl | ha
          · skip
            have hvst := hsk.nil
            subst hvst
            obtain ⟨q1, q2, q3, -⟩ := hrel
            have q1 := q1 rfl
            replace q1 : _ = (0 : Int) + (1 * ρ 0 + 0) := q1
            have q2 := q2 rfl
            replace q2 : _ = (0 : Int) + (1 * ρ 1 + 0) := q2
            have q3 := q3 rfl
            replace q3 : _ = (0 : Int) + (1 * ρ 2 + 0) := q3
            obtain ⟨v0, v1, v2, v3, f0, r0⟩ := sg_ld49_d0 hok1
            have e2 : (2 : Int) ^ (ρ 0).toNat = 2 ^ n.toNat := by rw [show ρ 0 = n by omega]
            omega
          rcases List.mem_cons.mp ha with rfl | ha
          · skip
            obtain ⟨ad0, ha0, x1, e1, x2, e2, x3, e3, x4, e4, x5, e5, hls1⟩ := xh_locs hlv 6 (by decide)
            replace ha0 : (List.map Prod.fst _)[(102 : Nat)]? = some ad0 := ha0
            have e1 : x1.toInt = (0 : Int) + (1 * ρ 0 + 0) := e1
            have e2 : x2.toInt = (0 : Int) + (1 * ρ 1 + 0) := e2
            have e3 : x3.toInt = (0 : Int) + (1 * ρ 2 + 0) := e3
            have e4 : x4.toInt = (100000000 : Int) + 0 := e4
            have e5 : x5.toInt = (0 : Int) + 0 := e5
            have hvst := hsk.nil
            subst hvst
            obtain ⟨q1, q2, q3, -⟩ := hrel
            have q1 := q1 rfl
            replace q1 : _ = (0 : Int) + (1 * ρ 0 + 0) := q1
            have q2 := q2 rfl
            replace q2 : _ = (0 : Int) + (1 * ρ 1 + 0) := q2
            have q3 := q3 rfl
            replace q3 : _ = (0 : Int) + (1 * ρ 2 + 0) := q3
            obtain ⟨v0, v1, v2, v3, f0, r0⟩ := sg_ld49_d1 hok1
            rw [had'] at ha0
            cases ha0
            have ex1 : x1 = nI := Int32.toInt_inj.mp (by omega)
            have ex2 : x2 = pp := Int32.toInt_inj.mp (by omega)
            have ex3 : x3 = used := Int32.toInt_inj.mp (by omega)
            rw [ex1, ex2, ex3] at hls1
            exact k64 n.toNat x4 x5 ls1 H1 locs1 ws1 (by omega) (by omega) (by omega) (by omega) hls1 hWo1 (hB.tr hB1 (by decide)) (by rw [xo_B0 hB1]; exact hI0) (by rw [xo_B0 hB1]; exact hJ0) ⟨Or.inl (by omega), fun _ h => by omega⟩
          cases ha
      have had' : (ws'.map Prod.fst)[102]? = some ad := by rw [hB.2.2]; exact had
      refine xh_seg2 (vl := [.ref ad, .int nI, .int pp]) (vk := []) sg_ld43 C (hCG _ rfl) hR hCS hnm xz_nar hfull (by decide) rfl hWo ⟨Or.inr (Or.inr (Or.inl ⟨rfl, ad, had', rfl⟩)), Or.inl ⟨rfl, nI, rfl, by show (0 : Int) ≤ _; omega, by show _ ≤ (7 : Int); omega⟩, Or.inl ⟨rfl, pp, rfl, by show ((-1) : Int) ≤ _; omega, by show _ ≤ (6 : Int); omega⟩, True.intro⟩ (fun _ h => by cases h) hls ?_
      intro a ha ρ n' ls1 vst H1 locs1 ws1 hWo1 hB1 hlv hsk hrel hok1
      rcases List.mem_cons.mp ha with rfl | ha
      · skip
        have hvst := hsk.nil
        subst hvst
        obtain ⟨q1, q2, -⟩ := hrel
        have q1 := q1 rfl
        replace q1 : _ = (0 : Int) + (1 * ρ 0 + 0) := q1
        have q2 := q2 rfl
        replace q2 : _ = (0 : Int) + (1 * ρ 1 + 0) := q2
        obtain ⟨v0, v1⟩ := sg_ld43_d0 hok1
        omega
      rcases List.mem_cons.mp ha with rfl | ha
      · skip
        obtain ⟨ad0, ha0, x1, e1, x2, e2, x3, e3, hls1⟩ := xh_locs hlv 4 (by decide)
        replace ha0 : (List.map Prod.fst _)[(102 : Nat)]? = some ad0 := ha0
        have e1 : x1.toInt = (0 : Int) + (1 * ρ 0 + 0) := e1
        have e2 : x2.toInt = (0 : Int) + (1 * ρ 1 + 0) := e2
        have e3 : x3.toInt = (0 : Int) + 0 := e3
        have hvst := hsk.nil
        subst hvst
        obtain ⟨q1, q2, -⟩ := hrel
        have q1 := q1 rfl
        replace q1 : _ = (0 : Int) + (1 * ρ 0 + 0) := q1
        have q2 := q2 rfl
        replace q2 : _ = (0 : Int) + (1 * ρ 1 + 0) := q2
        obtain ⟨v0, v1⟩ := sg_ld43_d1 hok1
        rw [had'] at ha0
        cases ha0
        have ex1 : x1 = nI := Int32.toInt_inj.mp (by omega)
        have ex2 : x2 = pp := Int32.toInt_inj.mp (by omega)
        rw [ex1, ex2] at hls1
        exact k49 (2 ^ n.toNat : Int).toNat x3 ls1 H1 locs1 ws1 (by omega) (by omega) hls1 hWo1 (hB.tr hB1 (by decide)) (by rw [xo_B0 hB1]; exact hI0) ⟨fun u h1 h2 => by omega, fun h => by omega⟩
      cases ha
  -- the last row
  have k13 : ∀ (nI : Int32), nI.toInt = n → ∀ (N : Nat) (uu : Int32) (ls : Array Slot) (H : Heap) (locs : List Loc) (ws' : va_W), uu.toInt + (N : Int) = 128 → 0 ≤ uu.toInt → lv_has ls 6 (lv_args 0 [.ref ad, .int nI, .int uu]) → xh_Wo D t (va_A ws sz) s.heap xz_hl xz_G X xs H locs ws' → xh_B xs xd_dd ws ws' → (∀ u : Int, 0 ≤ u → u < uu.toInt → xo_N (xw_mu xs ws') 120 (128 * n + u) = 0) →
      W p l e R s m args below meth c H locs 0 0 Q (F0 m 13 ls []) := by
    intro nI hnI N
    induction N with
    | zero =>
      intro uu ls H locs ws' hN hu0 hls hWo hB hZ
      have had' : (ws'.map Prod.fst)[102]? = some ad := by rw [hB.2.2]; exact had
      refine xh_seg2 (vl := [.ref ad, .int nI, .int uu]) (vk := []) sg_ld13 C (hCG _ rfl) hR hCS hnm xz_nar hfull (by decide) rfl hWo ⟨Or.inr (Or.inr (Or.inl ⟨rfl, ad, had', rfl⟩)), Or.inl ⟨rfl, nI, rfl, by show (0 : Int) ≤ _; omega, by show _ ≤ (7 : Int); omega⟩, Or.inl ⟨rfl, uu, rfl, by show (0 : Int) ≤ _; omega, by show _ ≤ (128 : Int); omega⟩, True.intro⟩ (fun _ h => by cases h) hls ?_
      intro a ha ρ n' ls1 vst H1 locs1 ws1 hWo1 hB1 hlv hsk hrel hok1
      rcases List.mem_cons.mp ha with rfl | ha
      · skip
        obtain ⟨ad0, ha0, x1, e1, x2, e2, hls1⟩ := xh_locs hlv 3 (by decide)
        replace ha0 : (List.map Prod.fst _)[(102 : Nat)]? = some ad0 := ha0
        have e1 : x1.toInt = (0 : Int) + (1 * ρ 0 + 0) := e1
        have e2 : x2.toInt = ((-1) : Int) + (1 * ρ 0 + 0) := e2
        have hvst := hsk.nil
        subst hvst
        obtain ⟨q1, q2, -⟩ := hrel
        have q1 := q1 rfl
        replace q1 : _ = (0 : Int) + (1 * ρ 0 + 0) := q1
        have q2 := q2 rfl
        replace q2 : _ = (0 : Int) + (1 * ρ 1 + 0) := q2
        obtain ⟨v0, v1⟩ := sg_ld13_d0 hok1
        rw [had'] at ha0
        cases ha0
        have ex1 : x1 = nI := Int32.toInt_inj.mp (by omega)
        rw [ex1] at hls1
        refine k43 nI hnI n.toNat x2 ls1 H1 locs1 ws1 (by omega) (by omega) hls1 hWo1 (hB.tr hB1 (by decide)) ?_
        rw [xo_B0 hB1, show x2.toInt = n - 1 by omega]
        refine ⟨fun p' u h1 h2 => by omega, ?_⟩
        rw [show n - 1 + 1 = n by omega, show (128 * n + 2 ^ n.toNat - 1 : Int) = 128 * n + (2 ^ n.toNat - 1) by omega, hZ _ (by omega) (by omega)]
        omega
      rcases List.mem_cons.mp ha with rfl | ha
      · skip
        obtain ⟨y0, z0, y1, z1, ak2, hk2, hvst⟩ := xh_stk hsk (by decide)
        have z0 : y0.toInt = (0 : Int) + 0 := z0
        have z1 : y1.toInt = (0 : Int) + (128 * ρ 0 + (1 * ρ 1 + 0)) := z1
        replace hk2 : (List.map Prod.fst _)[(120 : Nat)]? = some ak2 := hk2
        subst hvst
        obtain ⟨q1, q2, -⟩ := hrel
        have q1 := q1 rfl
        replace q1 : _ = (0 : Int) + (1 * ρ 0 + 0) := q1
        have q2 := q2 rfl
        replace q2 : _ = (0 : Int) + (1 * ρ 1 + 0) := q2
        obtain ⟨v0, v1⟩ := sg_ld13_d1 hok1
        omega
      cases ha
    | succ N ih =>
      intro uu ls H locs ws' hN hu0 hls hWo hB hZ
      have had' : (ws'.map Prod.fst)[102]? = some ad := by rw [hB.2.2]; exact had
      refine xh_seg2 (vl := [.ref ad, .int nI, .int uu]) (vk := []) sg_ld13 C (hCG _ rfl) hR hCS hnm xz_nar hfull (by decide) rfl hWo ⟨Or.inr (Or.inr (Or.inl ⟨rfl, ad, had', rfl⟩)), Or.inl ⟨rfl, nI, rfl, by show (0 : Int) ≤ _; omega, by show _ ≤ (7 : Int); omega⟩, Or.inl ⟨rfl, uu, rfl, by show (0 : Int) ≤ _; omega, by show _ ≤ (128 : Int); omega⟩, True.intro⟩ (fun _ h => by cases h) hls ?_
      intro a ha ρ n' ls1 vst H1 locs1 ws1 hWo1 hB1 hlv hsk hrel hok1
      rcases List.mem_cons.mp ha with rfl | ha
      · skip
        have hvst := hsk.nil
        subst hvst
        obtain ⟨q1, q2, -⟩ := hrel
        have q1 := q1 rfl
        replace q1 : _ = (0 : Int) + (1 * ρ 0 + 0) := q1
        have q2 := q2 rfl
        replace q2 : _ = (0 : Int) + (1 * ρ 1 + 0) := q2
        obtain ⟨v0, v1⟩ := sg_ld13_d0 hok1
        omega
      rcases List.mem_cons.mp ha with rfl | ha
      · skip
        obtain ⟨ad0, ha0, x1, e1, x2, e2, hls1⟩ := xh_locs hlv 3 (by decide)
        replace ha0 : (List.map Prod.fst _)[(102 : Nat)]? = some ad0 := ha0
        have e1 : x1.toInt = (0 : Int) + (1 * ρ 0 + 0) := e1
        have e2 : x2.toInt = (0 : Int) + (1 * ρ 1 + 0) := e2
        obtain ⟨y0, z0, y1, z1, ak2, hk2, hvst⟩ := xh_stk hsk (by decide)
        have z0 : y0.toInt = (0 : Int) + 0 := z0
        have z1 : y1.toInt = (0 : Int) + (128 * ρ 0 + (1 * ρ 1 + 0)) := z1
        replace hk2 : (List.map Prod.fst _)[(120 : Nat)]? = some ak2 := hk2
        subst hvst
        obtain ⟨q1, q2, -⟩ := hrel
        have q1 := q1 rfl
        replace q1 : _ = (0 : Int) + (1 * ρ 0 + 0) := q1
        have q2 := q2 rfl
        replace q2 : _ = (0 : Int) + (1 * ρ 1 + 0) := q2
        obtain ⟨v0, v1⟩ := sg_ld13_d1 hok1
        rw [had'] at ha0
        cases ha0
        have hb2 : xw_mu xs ws1 = xw_mu xs ws' := xo_B0 hB1
        have ex1 : x1 = nI := Int32.toInt_inj.mp (by omega)
        have ex2 : x2 = uu := Int32.toInt_inj.mp (by omega)
        rw [ex1, ex2] at hls1
        have ey0 : y0.toInt = 0 := by omega
        refine xh_ist (r := 120) (cl := (1, 1024, 1, [[(0, 0, 100000000)]])) C (xh_dec hfull 20 (e := (32, .iastore, 1, 0, 0, 0, 0)) rfl) hWo1 rfl rfl (by decide) (by rw [hB1.2.2]; exact hk2) (by omega) (by show _ < 1024; omega) (fun u hu => xd_ti (by omega) (by omega) hu) ?_
        intro H2 locs2 ws2 hWo2 hone hB2
        have ho : xd_one (xw_mu xs ws') (xw_mu xs ws2) (128 * n + uu.toInt) := by rw [← hb2]; exact xd_wr hone (by omega)
        have hv : xo_N (xw_mu xs ws2) 120 (128 * n + uu.toInt) = 0 := by rw [xd_wv hone (by omega) (by omega)]; exact ey0
        have hB3 := (hB.tr hB1 (by decide)).tr hB2 (by decide)
        have had2 : (ws2.map Prod.fst)[102]? = some ad := by rw [hB3.2.2]; exact had
        have hu7 : uu.toInt ≤ 127 := by omega
        refine xh_seg2 (vl := [.ref ad, .int nI, .int uu]) (vk := []) sg_ld33 C (hCG _ rfl) hR hCS hnm xz_nar hfull (by decide) rfl hWo2 ⟨Or.inr (Or.inr (Or.inl ⟨rfl, ad, had2, rfl⟩)), Or.inl ⟨rfl, nI, rfl, by show (0 : Int) ≤ _; omega, by show _ ≤ (7 : Int); omega⟩, Or.inl ⟨rfl, uu, rfl, by show (0 : Int) ≤ _; omega, by show _ ≤ (127 : Int); omega⟩, True.intro⟩ (fun _ h => by cases h) hls1 ?_
        clear hok1 hlv hsk ha hls1
        clear q1 q2 v0 v1 e1 e2 z0 z1
        intro a ha ρ n' ls3 vst H3 locs3 ws3 hWo3 hB4 hlv hsk hrel hok1
        rcases List.mem_cons.mp ha with rfl | ha
        · skip
          obtain ⟨ad0, ha0, w1, e1, w2, e2, hls1⟩ := xh_locs hlv 3 (by decide)
          replace ha0 : (List.map Prod.fst _)[(102 : Nat)]? = some ad0 := ha0
          have e1 : w1.toInt = (0 : Int) + (1 * ρ 0 + 0) := e1
          have e2 : w2.toInt = (1 : Int) + (1 * ρ 1 + 0) := e2
          have hvst := hsk.nil
          subst hvst
          obtain ⟨q1, q2, -⟩ := hrel
          have q1 := q1 rfl
          replace q1 : _ = (0 : Int) + (1 * ρ 0 + 0) := q1
          have q2 := q2 rfl
          replace q2 : _ = (0 : Int) + (1 * ρ 1 + 0) := q2
          obtain ⟨v0, v1⟩ := sg_ld33_d0 hok1
          rw [had2] at ha0
          cases ha0
          have ew1 : w1 = nI := Int32.toInt_inj.mp (by omega)
          rw [ew1] at hls1
          refine ih w2 ls3 H3 locs3 ws3 (by omega) (by omega) hls1 hWo3 (hB3.tr hB4 (by decide)) (fun u h1 h2 => ?_)
          rw [xo_B0 hB4]
          by_cases hu : u = uu.toInt
          · rw [hu]; exact hv
          · rw [ho.2 _ (by omega) (by omega)]; exact hZ u h1 (by omega)
        cases ha
      cases ha
  refine xh_seg2 (vl := [.ref ad]) (vk := []) sg_ld0 C hCG0 hR hCS hnm xz_nar hfull (by decide) rfl hWo ⟨Or.inr (Or.inr (Or.inl ⟨rfl, ad, had, rfl⟩)), True.intro⟩ (fun _ h => by cases h) hls ?_
  intro a ha ρ n' ls1 vst H1 locs1 ws1 hWo1 hB1 hlv hsk hrel hok1
  rcases List.mem_cons.mp ha with rfl | ha
  · skip
    obtain ⟨ad0, ha0, x1, e1, x2, e2, hls1⟩ := xh_locs hlv 3 (by decide)
    replace ha0 : (List.map Prod.fst _)[(102 : Nat)]? = some ad0 := ha0
    have e1 : x1.toInt = (0 : Int) + (1 * ρ 0 + 0) := e1
    have e2 : x2.toInt = (0 : Int) + 0 := e2
    have hvst := hsk.nil
    subst hvst
    obtain ⟨v0, m0⟩ := sg_ld0_d0 hok1
    rw [had] at ha0
    cases ha0
    have hBd : xh_B xs xd_dd ws ws1 := xh_B.rf.tr hB1 (by decide)
    refine k13 x1 ?_ 128 x2 ls1 H1 locs1 ws1 (by omega) (by omega) hls1 hWo1 hBd (fun u h1 h2 => by omega)
    have := hn9 ws1 hBd
    omega
  cases ha
