/-! dealOf, dealt, by hand -/
def sg_do0_a0 : xh_Ar := (2, [(2, (102, [])), (0, (0, [(0, 1)])), (0, (0, [(1, 1)])), (0, (0, [])), (9, (0, [])), (9, (0, []))], [], [(0, 0, 6), (1, 0, 127)], [], [], [], [])
def sg_do0_r : List xh_Ar := [sg_do0_a0]
def sg_do0_s : List (Nat × Int × Int) := [(2, 102, 0), (0, 0, 6), (0, 0, 127)]
def sg_do0_p : List xw_T := []
def sg_do0_v : List xw_V := [(2, (102, [])), (0, (0, [(0, 1)])), (0, (0, [(1, 1)]))]
def sg_do0_k : List xw_V := []
def sg_do0_q : xw_Q := ([], [], [])
set_option maxRecDepth 100000 in
set_option maxHeartbeats 4000000 in
theorem sg_do0 : xh_chk xz_hl xz_G (xw_calls xz_hl xz_G xt_M xz_HS xz_CT 5000 [] sg_do0_q 2) 286 [2] sg_do0_r xt_286 5000 6 0 sg_do0_s sg_do0_p sg_do0_v sg_do0_k = true := by decide +kernel
theorem sg_do0_d0 {ρ : Nat → Int} {μ : Nat → Nat → Value} (h : xh_ok ρ μ sg_do0_a0) : (0 ≤ ρ 0 ∧ ρ 0 ≤ 6) ∧ (0 ≤ ρ 1 ∧ ρ 1 ≤ 127) := by
  obtain ⟨⟨h0, h1, -⟩, -, -, -⟩ := h
  exact ⟨h0, h1⟩
def sg_do2_a0 : xh_Ar := (114, [(2, (102, [])), (0, (0, [(0, 1)])), (0, (0, [(1, 1)])), (0, (0, [(2, 1)])), (9, (0, [])), (9, (0, []))], [(0, ((-1), []))], [(0, 0, 6), (1, 0, 127), (2, 9, 9)], [], [], [], [])
def sg_do2_a1 : xh_Ar := (24, [(2, (102, [])), (0, (0, [(0, 1)])), (0, (0, [(1, 1)])), (0, (0, [(2, 1)])), (0, (0, [(2, 1)])), (0, (0, []))], [], [(0, 0, 6), (1, 0, 127), (2, 0, 7)], [], [], [], [])
def sg_do2_a2 : xh_Ar := (24, [(2, (102, [])), (0, (0, [(0, 1)])), (0, (0, [(1, 1)])), (0, (0, [(2, 1)])), (0, ((-1), [])), (0, (0, []))], [], [(0, 0, 6), (1, 0, 127), (2, 8, 8)], [], [], [], [])
def sg_do2_r : List xh_Ar := [sg_do2_a0, sg_do2_a1, sg_do2_a2]
def sg_do2_s : List (Nat × Int × Int) := [(2, 102, 0), (0, 0, 6), (0, 0, 127), (0, 0, 9)]
def sg_do2_p : List xw_T := []
def sg_do2_v : List xw_V := [(2, (102, [])), (0, (0, [(0, 1)])), (0, (0, [(1, 1)])), (0, (0, [(2, 1)]))]
def sg_do2_k : List xw_V := []
def sg_do2_q : xw_Q := ([], [], [])
set_option maxRecDepth 100000 in
set_option maxHeartbeats 4000000 in
theorem sg_do2 : xh_chk xz_hl xz_G (xw_calls xz_hl xz_G xt_M xz_HS xz_CT 5000 [] sg_do2_q 2) 286 [24, 114] sg_do2_r xt_286 5000 6 2 sg_do2_s sg_do2_p sg_do2_v sg_do2_k = true := by decide +kernel
theorem sg_do2_d0 {ρ : Nat → Int} {μ : Nat → Nat → Value} (h : xh_ok ρ μ sg_do2_a0) : (0 ≤ ρ 0 ∧ ρ 0 ≤ 6) ∧ (0 ≤ ρ 1 ∧ ρ 1 ≤ 127) ∧ (9 ≤ ρ 2 ∧ ρ 2 ≤ 9) := by
  obtain ⟨⟨h0, h1, h2, -⟩, -, -, -⟩ := h
  exact ⟨h0, h1, h2⟩
theorem sg_do2_d1 {ρ : Nat → Int} {μ : Nat → Nat → Value} (h : xh_ok ρ μ sg_do2_a1) : (0 ≤ ρ 0 ∧ ρ 0 ≤ 6) ∧ (0 ≤ ρ 1 ∧ ρ 1 ≤ 127) ∧ (0 ≤ ρ 2 ∧ ρ 2 ≤ 7) := by
  obtain ⟨⟨h0, h1, h2, -⟩, -, -, -⟩ := h
  exact ⟨h0, h1, h2⟩
theorem sg_do2_d2 {ρ : Nat → Int} {μ : Nat → Nat → Value} (h : xh_ok ρ μ sg_do2_a2) : (0 ≤ ρ 0 ∧ ρ 0 ≤ 6) ∧ (0 ≤ ρ 1 ∧ ρ 1 ≤ 127) ∧ (8 ≤ ρ 2 ∧ ρ 2 ≤ 8) := by
  obtain ⟨⟨h0, h1, h2, -⟩, -, -, -⟩ := h
  exact ⟨h0, h1, h2⟩
def sg_do24_a0 : xh_Ar := (2, [(2, (102, [])), (0, (0, [(0, 1)])), (0, (0, [(1, 1)])), (0, (1, [(2, 1)])), (0, (0, [(3, 1)])), (0, (0, [(4, 1)]))], [], [(0, 0, 6), (1, 0, 127), (2, 0, 8), (3, (-1), 7), (4, 0, 7), (5, 0, 7)], [(0, [(4, 1), (5, (-1))])], [(109, (4, []), (0, (0, [(5, 1)])))], [], [])
def sg_do24_a1 : xh_Ar := (24, [(2, (102, [])), (0, (0, [(0, 1)])), (0, (0, [(1, 1)])), (0, (0, [(2, 1)])), (0, (0, [(3, 1)])), (0, (1, [(4, 1)]))], [], [(0, 0, 6), (1, 0, 127), (2, 0, 8), (3, (-1), 7), (4, 0, 6), (5, 1, 7), (6, 0, 127), (7, 0, 0), (8, (-1), 7)], [((-1), [(4, (-1)), (5, 1)])], [(118, (0, [(4, 1)]), (0, (0, [(8, 1)]))), (109, (4, []), (0, (0, [(5, 1)])))], [(7, 0, (0, [(3, (-1)), (8, 1)]), (0, [(3, (-1)), (8, 1)])), (2, 7, (0, [(1, 1)]), (0, [(4, 1)])), (1, 6, (0, [(1, 1)]), (0, [(4, 1)]))], [])
def sg_do24_a2 : xh_Ar := (24, [(2, (102, [])), (0, (0, [(0, 1)])), (0, (0, [(1, 1)])), (0, (0, [(2, 1)])), (0, (0, [(3, 1)])), (0, (1, [(4, 1)]))], [], [(0, 0, 6), (1, 0, 126), (2, 0, 8), (3, 0, 7), (4, 0, 6), (5, 1, 7), (6, 0, 127), (7, 0, 0), (8, (-1), 7), (9, 0, 99), (10, 0, 9), (11, 0, 891), (12, 0, 999), (13, 1, 64), (14, 0, 100000000), (15, 0, 100000000)], [(127, [(1, (-1)), (13, (-1))]), (0, [(3, 1), (8, (-1))]), (0, [(3, (-1)), (8, 1)]), ((-1), [(4, (-1)), (5, 1)])], [(120, (0, [(0, 128), (1, 1)]), (0, (0, [(15, 1)]))), (120, (128, [(0, 128), (1, 1), (13, 1)]), (0, (0, [(14, 1)]))), (111, (4, [(0, 12), (3, 1)]), (0, (0, [(12, 1)]))), (111, (3, [(0, 12)]), (0, (0, [(10, 1)]))), (110, (0, [(3, 1)]), (0, (0, [(9, 1)]))), (118, (0, [(4, 1)]), (0, (0, [(8, 1)]))), (109, (4, []), (0, (0, [(5, 1)])))], [(7, 0, (0, [(11, 1), (12, 1), (14, 1), (15, (-1))]), (0, [(11, 1), (12, 1), (14, 1), (15, (-1))])), (0, 13, (0, [(4, 1)]), (0, [(4, 1)])), (3, 11, (0, [(9, 1)]), (0, [(10, 1)])), (2, 7, (0, [(1, 1)]), (0, [(4, 1)])), (1, 6, (0, [(1, 1)]), (0, [(4, 1)]))], [])
def sg_do24_a3 : xh_Ar := (100, [(2, (102, [])), (0, (0, [(0, 1)])), (0, (0, [(1, 1)])), (0, (0, [(2, 1)])), (0, (0, [(3, 1)])), (0, (0, [(4, 1)]))], [(0, (0, [(4, 1)]))], [(0, 0, 6), (1, 0, 126), (2, 0, 8), (3, 0, 7), (4, 0, 6), (5, 1, 7), (6, 0, 127), (7, 0, 0), (8, (-1), 7), (9, 0, 99), (10, 0, 9), (11, 0, 891), (12, 0, 999), (13, 1, 64), (14, 0, 100000000), (15, 0, 100000000)], [(0, [(11, (-1)), (12, (-1)), (14, (-1)), (15, 1)]), (0, [(11, 1), (12, 1), (14, 1), (15, (-1))]), (127, [(1, (-1)), (13, (-1))]), (0, [(3, 1), (8, (-1))]), (0, [(3, (-1)), (8, 1)]), ((-1), [(4, (-1)), (5, 1)])], [(120, (0, [(0, 128), (1, 1)]), (0, (0, [(15, 1)]))), (120, (128, [(0, 128), (1, 1), (13, 1)]), (0, (0, [(14, 1)]))), (111, (4, [(0, 12), (3, 1)]), (0, (0, [(12, 1)]))), (111, (3, [(0, 12)]), (0, (0, [(10, 1)]))), (110, (0, [(3, 1)]), (0, (0, [(9, 1)]))), (118, (0, [(4, 1)]), (0, (0, [(8, 1)]))), (109, (4, []), (0, (0, [(5, 1)])))], [(0, 13, (0, [(4, 1)]), (0, [(4, 1)])), (3, 11, (0, [(9, 1)]), (0, [(10, 1)])), (2, 7, (0, [(1, 1)]), (0, [(4, 1)])), (1, 6, (0, [(1, 1)]), (0, [(4, 1)]))], [])
def sg_do24_a4 : xh_Ar := (24, [(2, (102, [])), (0, (0, [(0, 1)])), (0, (0, [(1, 1)])), (0, (0, [(2, 1)])), (0, (0, [(3, 1)])), (0, (1, [(4, 1)]))], [], [(0, 0, 6), (1, 0, 126), (2, 0, 8), (3, (-1), (-1)), (4, 0, 6), (5, 1, 7), (6, 0, 127), (7, 0, 0), (8, (-1), 7), (9, 1, 64), (10, 0, 100000000), (11, 0, 100000000)], [(127, [(1, (-1)), (9, (-1))]), (0, [(3, 1), (8, (-1))]), (0, [(3, (-1)), (8, 1)]), ((-1), [(4, (-1)), (5, 1)])], [(120, (0, [(0, 128), (1, 1)]), (0, (0, [(11, 1)]))), (120, (128, [(0, 128), (1, 1), (9, 1)]), (0, (0, [(10, 1)]))), (118, (0, [(4, 1)]), (0, (0, [(8, 1)]))), (109, (4, []), (0, (0, [(5, 1)])))], [(7, 0, (0, [(10, 1), (11, (-1))]), (0, [(10, 1), (11, (-1))])), (0, 9, (0, [(4, 1)]), (0, [(4, 1)])), (2, 7, (0, [(1, 1)]), (0, [(4, 1)])), (1, 6, (0, [(1, 1)]), (0, [(4, 1)]))], [])
def sg_do24_a5 : xh_Ar := (100, [(2, (102, [])), (0, (0, [(0, 1)])), (0, (0, [(1, 1)])), (0, (0, [(2, 1)])), (0, (0, [(3, 1)])), (0, (0, [(4, 1)]))], [(0, (0, [(4, 1)]))], [(0, 0, 6), (1, 0, 126), (2, 0, 8), (3, (-1), (-1)), (4, 0, 6), (5, 1, 7), (6, 0, 127), (7, 0, 0), (8, (-1), 7), (9, 1, 64), (10, 0, 100000000), (11, 0, 100000000)], [(0, [(10, (-1)), (11, 1)]), (0, [(10, 1), (11, (-1))]), (127, [(1, (-1)), (9, (-1))]), (0, [(3, 1), (8, (-1))]), (0, [(3, (-1)), (8, 1)]), ((-1), [(4, (-1)), (5, 1)])], [(120, (0, [(0, 128), (1, 1)]), (0, (0, [(11, 1)]))), (120, (128, [(0, 128), (1, 1), (9, 1)]), (0, (0, [(10, 1)]))), (118, (0, [(4, 1)]), (0, (0, [(8, 1)]))), (109, (4, []), (0, (0, [(5, 1)])))], [(0, 9, (0, [(4, 1)]), (0, [(4, 1)])), (2, 7, (0, [(1, 1)]), (0, [(4, 1)])), (1, 6, (0, [(1, 1)]), (0, [(4, 1)]))], [])
def sg_do24_a6 : xh_Ar := (24, [(2, (102, [])), (0, (0, [(0, 1)])), (0, (0, [(1, 1)])), (0, (0, [(2, 1)])), (0, (0, [(3, 1)])), (0, (1, [(4, 1)]))], [], [(0, 0, 6), (1, 0, 127), (2, 0, 8), (3, (-1), 7), (4, 0, 6), (5, 1, 7), (6, 0, 127), (7, 1, 1)], [((-1), [(4, (-1)), (5, 1)])], [(109, (4, []), (0, (0, [(5, 1)])))], [(2, 7, (0, [(1, 1)]), (0, [(4, 1)])), (1, 6, (0, [(1, 1)]), (0, [(4, 1)]))], [])
def sg_do24_r : List xh_Ar := [sg_do24_a0, sg_do24_a1, sg_do24_a2, sg_do24_a3, sg_do24_a4, sg_do24_a5, sg_do24_a6]
def sg_do24_s : List (Nat × Int × Int) := [(2, 102, 0), (0, 0, 6), (0, 0, 127), (0, 0, 8), (0, (-1), 7), (0, 0, 7)]
def sg_do24_p : List xw_T := []
def sg_do24_v : List xw_V := [(2, (102, [])), (0, (0, [(0, 1)])), (0, (0, [(1, 1)])), (0, (0, [(2, 1)])), (0, (0, [(3, 1)])), (0, (0, [(4, 1)]))]
def sg_do24_k : List xw_V := []
def sg_do24_q : xw_Q := ([], [], [])
set_option maxRecDepth 100000 in
set_option maxHeartbeats 4000000 in
theorem sg_do24 : xh_chk xz_hl xz_G (xw_calls xz_hl xz_G xt_M xz_HS xz_CT 5000 [] sg_do24_q 2) 286 [24, 2, 100] sg_do24_r xt_286 5000 6 24 sg_do24_s sg_do24_p sg_do24_v sg_do24_k = true := by decide +kernel
theorem sg_do24_d0 {ρ : Nat → Int} {μ : Nat → Nat → Value} (h : xh_ok ρ μ sg_do24_a0) : (0 ≤ ρ 0 ∧ ρ 0 ≤ 6) ∧ (0 ≤ ρ 1 ∧ ρ 1 ≤ 127) ∧ (0 ≤ ρ 2 ∧ ρ 2 ≤ 8) ∧ ((-1) ≤ ρ 3 ∧ ρ 3 ≤ 7) ∧ (0 ≤ ρ 4 ∧ ρ 4 ≤ 7) ∧ (0 ≤ ρ 5 ∧ ρ 5 ≤ 7) ∧ 0 ≤ ρ 4 + (-1) * ρ 5 ∧ xo_N μ 109 (4) = ρ 5 := by
  obtain ⟨⟨h0, h1, h2, h3, h4, h5, -⟩, ⟨g0, -⟩, ⟨k0, -⟩, -⟩ := h
  have g0 : 0 ≤ (0 : Int) + (1 * ρ 4 + ((-1) * ρ 5 + 0)) := g0
  have k0 : xw_n0 (μ 109 ((4 : Int) + 0).toNat) = (0 : Int) + (1 * ρ 5 + 0) := k0.2
  have k0 : xo_N μ 109 (4) = ρ 5 := by
    rw [show (4 : Int) = (4 : Int) + 0 by omega]
    exact k0.trans (by omega)
  exact ⟨h0, h1, h2, h3, h4, h5, (by omega), k0⟩
theorem sg_do24_d1 {ρ : Nat → Int} {μ : Nat → Nat → Value} (h : xh_ok ρ μ sg_do24_a1) : (0 ≤ ρ 0 ∧ ρ 0 ≤ 6) ∧ (0 ≤ ρ 1 ∧ ρ 1 ≤ 127) ∧ (0 ≤ ρ 2 ∧ ρ 2 ≤ 8) ∧ ((-1) ≤ ρ 3 ∧ ρ 3 ≤ 7) ∧ (0 ≤ ρ 4 ∧ ρ 4 ≤ 6) ∧ (1 ≤ ρ 5 ∧ ρ 5 ≤ 7) ∧ (0 ≤ ρ 6 ∧ ρ 6 ≤ 127) ∧ (0 ≤ ρ 7 ∧ ρ 7 ≤ 0) ∧ ((-1) ≤ ρ 8 ∧ ρ 8 ≤ 7) ∧ 0 ≤ (-1) + (-1) * ρ 4 + ρ 5 ∧ xo_N μ 118 (ρ 4) = ρ 8 ∧ xo_N μ 109 (4) = ρ 5 ∧ (-1) * ρ 3 + ρ 8 ≠ 0 ∧ (0 ≤ ρ 4 ∧ ρ 7 = (ρ 1) / 2 ^ (ρ 4).toNat % 2) ∧ ρ 6 = (ρ 1) / 2 ^ (ρ 4).toNat := by
  obtain ⟨⟨h0, h1, h2, h3, h4, h5, h6, h7, h8, -⟩, ⟨g0, -⟩, ⟨k0, k1, -⟩, ⟨w0, w1, w2, -⟩⟩ := h
  have g0 : 0 ≤ ((-1) : Int) + ((-1) * ρ 4 + (1 * ρ 5 + 0)) := g0
  have k0 : xw_n0 (μ 118 ((0 : Int) + (1 * ρ 4 + 0)).toNat) = (0 : Int) + (1 * ρ 8 + 0) := k0.2
  have k0 : xo_N μ 118 (ρ 4) = ρ 8 := by
    rw [show (ρ 4 : Int) = (0 : Int) + (1 * ρ 4 + 0) by omega]
    exact k0.trans (by omega)
  have k1 : xw_n0 (μ 109 ((4 : Int) + 0).toNat) = (0 : Int) + (1 * ρ 5 + 0) := k1.2
  have k1 : xo_N μ 109 (4) = ρ 5 := by
    rw [show (4 : Int) = (4 : Int) + 0 by omega]
    exact k1.trans (by omega)
  have w0 : (0 : Int) + ((-1) * ρ 3 + (1 * ρ 8 + 0)) ≠ 0 := w0
  rw [show ((0 : Int) + ((-1) * ρ 3 + (1 * ρ 8 + 0)) : Int) = (-1) * ρ 3 + ρ 8 by omega] at w0
  have w1 : 0 ≤ (0 : Int) + (1 * ρ 4 + 0) ∧ ρ 7 = ((0 : Int) + (1 * ρ 1 + 0)) / 2 ^ ((0 : Int) + (1 * ρ 4 + 0)).toNat % 2 := w1
  rw [show ((0 : Int) + (1 * ρ 1 + 0) : Int) = ρ 1 by omega, show ((0 : Int) + (1 * ρ 4 + 0) : Int) = ρ 4 by omega] at w1
  have w2 : ρ 6 = ((0 : Int) + (1 * ρ 1 + 0)) / 2 ^ ((0 : Int) + (1 * ρ 4 + 0)).toNat := w2
  rw [show ((0 : Int) + (1 * ρ 1 + 0) : Int) = ρ 1 by omega, show ((0 : Int) + (1 * ρ 4 + 0) : Int) = ρ 4 by omega] at w2
  exact ⟨h0, h1, h2, h3, h4, h5, h6, h7, h8, (by omega), k0, k1, w0, w1, w2⟩
theorem sg_do24_d2 {ρ : Nat → Int} {μ : Nat → Nat → Value} (h : xh_ok ρ μ sg_do24_a2) : (0 ≤ ρ 0 ∧ ρ 0 ≤ 6) ∧ (0 ≤ ρ 1 ∧ ρ 1 ≤ 126) ∧ (0 ≤ ρ 2 ∧ ρ 2 ≤ 8) ∧ (0 ≤ ρ 3 ∧ ρ 3 ≤ 7) ∧ (0 ≤ ρ 4 ∧ ρ 4 ≤ 6) ∧ (1 ≤ ρ 5 ∧ ρ 5 ≤ 7) ∧ (0 ≤ ρ 6 ∧ ρ 6 ≤ 127) ∧ (0 ≤ ρ 7 ∧ ρ 7 ≤ 0) ∧ ((-1) ≤ ρ 8 ∧ ρ 8 ≤ 7) ∧ (0 ≤ ρ 9 ∧ ρ 9 ≤ 99) ∧ (0 ≤ ρ 10 ∧ ρ 10 ≤ 9) ∧ (0 ≤ ρ 11 ∧ ρ 11 ≤ 891) ∧ (0 ≤ ρ 12 ∧ ρ 12 ≤ 999) ∧ (1 ≤ ρ 13 ∧ ρ 13 ≤ 64) ∧ (0 ≤ ρ 14 ∧ ρ 14 ≤ 100000000) ∧ (0 ≤ ρ 15 ∧ ρ 15 ≤ 100000000) ∧ 0 ≤ 127 + (-1) * ρ 1 + (-1) * ρ 13 ∧ 0 ≤ ρ 3 + (-1) * ρ 8 ∧ 0 ≤ (-1) * ρ 3 + ρ 8 ∧ 0 ≤ (-1) + (-1) * ρ 4 + ρ 5 ∧ xo_N μ 120 (128 * ρ 0 + ρ 1) = ρ 15 ∧ xo_N μ 120 (128 + 128 * ρ 0 + ρ 1 + ρ 13) = ρ 14 ∧ xo_N μ 111 (4 + 12 * ρ 0 + ρ 3) = ρ 12 ∧ xo_N μ 111 (3 + 12 * ρ 0) = ρ 10 ∧ xo_N μ 110 (ρ 3) = ρ 9 ∧ xo_N μ 118 (ρ 4) = ρ 8 ∧ xo_N μ 109 (4) = ρ 5 ∧ ρ 11 + ρ 12 + ρ 14 + (-1) * ρ 15 ≠ 0 ∧ (0 ≤ ρ 4 ∧ ρ 13 = 2 ^ (ρ 4).toNat) ∧ ρ 11 = (ρ 9) * (ρ 10) ∧ (0 ≤ ρ 4 ∧ ρ 7 = (ρ 1) / 2 ^ (ρ 4).toNat % 2) ∧ ρ 6 = (ρ 1) / 2 ^ (ρ 4).toNat := by
  obtain ⟨⟨h0, h1, h2, h3, h4, h5, h6, h7, h8, h9, h10, h11, h12, h13, h14, h15, -⟩, ⟨g0, g1, g2, g3, -⟩, ⟨k0, k1, k2, k3, k4, k5, k6, -⟩, ⟨w0, w1, w2, w3, w4, -⟩⟩ := h
  have g0 : 0 ≤ (127 : Int) + ((-1) * ρ 1 + ((-1) * ρ 13 + 0)) := g0
  have g1 : 0 ≤ (0 : Int) + (1 * ρ 3 + ((-1) * ρ 8 + 0)) := g1
  have g2 : 0 ≤ (0 : Int) + ((-1) * ρ 3 + (1 * ρ 8 + 0)) := g2
  have g3 : 0 ≤ ((-1) : Int) + ((-1) * ρ 4 + (1 * ρ 5 + 0)) := g3
  have k0 : xw_n0 (μ 120 ((0 : Int) + (128 * ρ 0 + (1 * ρ 1 + 0))).toNat) = (0 : Int) + (1 * ρ 15 + 0) := k0.2
  have k0 : xo_N μ 120 (128 * ρ 0 + ρ 1) = ρ 15 := by
    rw [show (128 * ρ 0 + ρ 1 : Int) = (0 : Int) + (128 * ρ 0 + (1 * ρ 1 + 0)) by omega]
    exact k0.trans (by omega)
  have k1 : xw_n0 (μ 120 ((128 : Int) + (128 * ρ 0 + (1 * ρ 1 + (1 * ρ 13 + 0)))).toNat) = (0 : Int) + (1 * ρ 14 + 0) := k1.2
  have k1 : xo_N μ 120 (128 + 128 * ρ 0 + ρ 1 + ρ 13) = ρ 14 := by
    rw [show (128 + 128 * ρ 0 + ρ 1 + ρ 13 : Int) = (128 : Int) + (128 * ρ 0 + (1 * ρ 1 + (1 * ρ 13 + 0))) by omega]
    exact k1.trans (by omega)
  have k2 : xw_n0 (μ 111 ((4 : Int) + (12 * ρ 0 + (1 * ρ 3 + 0))).toNat) = (0 : Int) + (1 * ρ 12 + 0) := k2.2
  have k2 : xo_N μ 111 (4 + 12 * ρ 0 + ρ 3) = ρ 12 := by
    rw [show (4 + 12 * ρ 0 + ρ 3 : Int) = (4 : Int) + (12 * ρ 0 + (1 * ρ 3 + 0)) by omega]
    exact k2.trans (by omega)
  have k3 : xw_n0 (μ 111 ((3 : Int) + (12 * ρ 0 + 0)).toNat) = (0 : Int) + (1 * ρ 10 + 0) := k3.2
  have k3 : xo_N μ 111 (3 + 12 * ρ 0) = ρ 10 := by
    rw [show (3 + 12 * ρ 0 : Int) = (3 : Int) + (12 * ρ 0 + 0) by omega]
    exact k3.trans (by omega)
  have k4 : xw_n0 (μ 110 ((0 : Int) + (1 * ρ 3 + 0)).toNat) = (0 : Int) + (1 * ρ 9 + 0) := k4.2
  have k4 : xo_N μ 110 (ρ 3) = ρ 9 := by
    rw [show (ρ 3 : Int) = (0 : Int) + (1 * ρ 3 + 0) by omega]
    exact k4.trans (by omega)
  have k5 : xw_n0 (μ 118 ((0 : Int) + (1 * ρ 4 + 0)).toNat) = (0 : Int) + (1 * ρ 8 + 0) := k5.2
  have k5 : xo_N μ 118 (ρ 4) = ρ 8 := by
    rw [show (ρ 4 : Int) = (0 : Int) + (1 * ρ 4 + 0) by omega]
    exact k5.trans (by omega)
  have k6 : xw_n0 (μ 109 ((4 : Int) + 0).toNat) = (0 : Int) + (1 * ρ 5 + 0) := k6.2
  have k6 : xo_N μ 109 (4) = ρ 5 := by
    rw [show (4 : Int) = (4 : Int) + 0 by omega]
    exact k6.trans (by omega)
  have w0 : (0 : Int) + (1 * ρ 11 + (1 * ρ 12 + (1 * ρ 14 + ((-1) * ρ 15 + 0)))) ≠ 0 := w0
  rw [show ((0 : Int) + (1 * ρ 11 + (1 * ρ 12 + (1 * ρ 14 + ((-1) * ρ 15 + 0)))) : Int) = ρ 11 + ρ 12 + ρ 14 + (-1) * ρ 15 by omega] at w0
  have w1 : 0 ≤ (0 : Int) + (1 * ρ 4 + 0) ∧ ρ 13 = 2 ^ ((0 : Int) + (1 * ρ 4 + 0)).toNat := w1
  rw [show ((0 : Int) + (1 * ρ 4 + 0) : Int) = ρ 4 by omega] at w1
  have w2 : ρ 11 = ((0 : Int) + (1 * ρ 9 + 0)) * ((0 : Int) + (1 * ρ 10 + 0)) := w2
  rw [show ((0 : Int) + (1 * ρ 9 + 0) : Int) = ρ 9 by omega, show ((0 : Int) + (1 * ρ 10 + 0) : Int) = ρ 10 by omega] at w2
  have w3 : 0 ≤ (0 : Int) + (1 * ρ 4 + 0) ∧ ρ 7 = ((0 : Int) + (1 * ρ 1 + 0)) / 2 ^ ((0 : Int) + (1 * ρ 4 + 0)).toNat % 2 := w3
  rw [show ((0 : Int) + (1 * ρ 1 + 0) : Int) = ρ 1 by omega, show ((0 : Int) + (1 * ρ 4 + 0) : Int) = ρ 4 by omega] at w3
  have w4 : ρ 6 = ((0 : Int) + (1 * ρ 1 + 0)) / 2 ^ ((0 : Int) + (1 * ρ 4 + 0)).toNat := w4
  rw [show ((0 : Int) + (1 * ρ 1 + 0) : Int) = ρ 1 by omega, show ((0 : Int) + (1 * ρ 4 + 0) : Int) = ρ 4 by omega] at w4
  exact ⟨h0, h1, h2, h3, h4, h5, h6, h7, h8, h9, h10, h11, h12, h13, h14, h15, (by omega), (by omega), (by omega), (by omega), k0, k1, k2, k3, k4, k5, k6, w0, w1, w2, w3, w4⟩
theorem sg_do24_d3 {ρ : Nat → Int} {μ : Nat → Nat → Value} (h : xh_ok ρ μ sg_do24_a3) : (0 ≤ ρ 0 ∧ ρ 0 ≤ 6) ∧ (0 ≤ ρ 1 ∧ ρ 1 ≤ 126) ∧ (0 ≤ ρ 2 ∧ ρ 2 ≤ 8) ∧ (0 ≤ ρ 3 ∧ ρ 3 ≤ 7) ∧ (0 ≤ ρ 4 ∧ ρ 4 ≤ 6) ∧ (1 ≤ ρ 5 ∧ ρ 5 ≤ 7) ∧ (0 ≤ ρ 6 ∧ ρ 6 ≤ 127) ∧ (0 ≤ ρ 7 ∧ ρ 7 ≤ 0) ∧ ((-1) ≤ ρ 8 ∧ ρ 8 ≤ 7) ∧ (0 ≤ ρ 9 ∧ ρ 9 ≤ 99) ∧ (0 ≤ ρ 10 ∧ ρ 10 ≤ 9) ∧ (0 ≤ ρ 11 ∧ ρ 11 ≤ 891) ∧ (0 ≤ ρ 12 ∧ ρ 12 ≤ 999) ∧ (1 ≤ ρ 13 ∧ ρ 13 ≤ 64) ∧ (0 ≤ ρ 14 ∧ ρ 14 ≤ 100000000) ∧ (0 ≤ ρ 15 ∧ ρ 15 ≤ 100000000) ∧ 0 ≤ (-1) * ρ 11 + (-1) * ρ 12 + (-1) * ρ 14 + ρ 15 ∧ 0 ≤ ρ 11 + ρ 12 + ρ 14 + (-1) * ρ 15 ∧ 0 ≤ 127 + (-1) * ρ 1 + (-1) * ρ 13 ∧ 0 ≤ ρ 3 + (-1) * ρ 8 ∧ 0 ≤ (-1) * ρ 3 + ρ 8 ∧ 0 ≤ (-1) + (-1) * ρ 4 + ρ 5 ∧ xo_N μ 120 (128 * ρ 0 + ρ 1) = ρ 15 ∧ xo_N μ 120 (128 + 128 * ρ 0 + ρ 1 + ρ 13) = ρ 14 ∧ xo_N μ 111 (4 + 12 * ρ 0 + ρ 3) = ρ 12 ∧ xo_N μ 111 (3 + 12 * ρ 0) = ρ 10 ∧ xo_N μ 110 (ρ 3) = ρ 9 ∧ xo_N μ 118 (ρ 4) = ρ 8 ∧ xo_N μ 109 (4) = ρ 5 ∧ (0 ≤ ρ 4 ∧ ρ 13 = 2 ^ (ρ 4).toNat) ∧ ρ 11 = (ρ 9) * (ρ 10) ∧ (0 ≤ ρ 4 ∧ ρ 7 = (ρ 1) / 2 ^ (ρ 4).toNat % 2) ∧ ρ 6 = (ρ 1) / 2 ^ (ρ 4).toNat := by
  obtain ⟨⟨h0, h1, h2, h3, h4, h5, h6, h7, h8, h9, h10, h11, h12, h13, h14, h15, -⟩, ⟨g0, g1, g2, g3, g4, g5, -⟩, ⟨k0, k1, k2, k3, k4, k5, k6, -⟩, ⟨w0, w1, w2, w3, -⟩⟩ := h
  have g0 : 0 ≤ (0 : Int) + ((-1) * ρ 11 + ((-1) * ρ 12 + ((-1) * ρ 14 + (1 * ρ 15 + 0)))) := g0
  have g1 : 0 ≤ (0 : Int) + (1 * ρ 11 + (1 * ρ 12 + (1 * ρ 14 + ((-1) * ρ 15 + 0)))) := g1
  have g2 : 0 ≤ (127 : Int) + ((-1) * ρ 1 + ((-1) * ρ 13 + 0)) := g2
  have g3 : 0 ≤ (0 : Int) + (1 * ρ 3 + ((-1) * ρ 8 + 0)) := g3
  have g4 : 0 ≤ (0 : Int) + ((-1) * ρ 3 + (1 * ρ 8 + 0)) := g4
  have g5 : 0 ≤ ((-1) : Int) + ((-1) * ρ 4 + (1 * ρ 5 + 0)) := g5
  have k0 : xw_n0 (μ 120 ((0 : Int) + (128 * ρ 0 + (1 * ρ 1 + 0))).toNat) = (0 : Int) + (1 * ρ 15 + 0) := k0.2
  have k0 : xo_N μ 120 (128 * ρ 0 + ρ 1) = ρ 15 := by
    rw [show (128 * ρ 0 + ρ 1 : Int) = (0 : Int) + (128 * ρ 0 + (1 * ρ 1 + 0)) by omega]
    exact k0.trans (by omega)
  have k1 : xw_n0 (μ 120 ((128 : Int) + (128 * ρ 0 + (1 * ρ 1 + (1 * ρ 13 + 0)))).toNat) = (0 : Int) + (1 * ρ 14 + 0) := k1.2
  have k1 : xo_N μ 120 (128 + 128 * ρ 0 + ρ 1 + ρ 13) = ρ 14 := by
    rw [show (128 + 128 * ρ 0 + ρ 1 + ρ 13 : Int) = (128 : Int) + (128 * ρ 0 + (1 * ρ 1 + (1 * ρ 13 + 0))) by omega]
    exact k1.trans (by omega)
  have k2 : xw_n0 (μ 111 ((4 : Int) + (12 * ρ 0 + (1 * ρ 3 + 0))).toNat) = (0 : Int) + (1 * ρ 12 + 0) := k2.2
  have k2 : xo_N μ 111 (4 + 12 * ρ 0 + ρ 3) = ρ 12 := by
    rw [show (4 + 12 * ρ 0 + ρ 3 : Int) = (4 : Int) + (12 * ρ 0 + (1 * ρ 3 + 0)) by omega]
    exact k2.trans (by omega)
  have k3 : xw_n0 (μ 111 ((3 : Int) + (12 * ρ 0 + 0)).toNat) = (0 : Int) + (1 * ρ 10 + 0) := k3.2
  have k3 : xo_N μ 111 (3 + 12 * ρ 0) = ρ 10 := by
    rw [show (3 + 12 * ρ 0 : Int) = (3 : Int) + (12 * ρ 0 + 0) by omega]
    exact k3.trans (by omega)
  have k4 : xw_n0 (μ 110 ((0 : Int) + (1 * ρ 3 + 0)).toNat) = (0 : Int) + (1 * ρ 9 + 0) := k4.2
  have k4 : xo_N μ 110 (ρ 3) = ρ 9 := by
    rw [show (ρ 3 : Int) = (0 : Int) + (1 * ρ 3 + 0) by omega]
    exact k4.trans (by omega)
  have k5 : xw_n0 (μ 118 ((0 : Int) + (1 * ρ 4 + 0)).toNat) = (0 : Int) + (1 * ρ 8 + 0) := k5.2
  have k5 : xo_N μ 118 (ρ 4) = ρ 8 := by
    rw [show (ρ 4 : Int) = (0 : Int) + (1 * ρ 4 + 0) by omega]
    exact k5.trans (by omega)
  have k6 : xw_n0 (μ 109 ((4 : Int) + 0).toNat) = (0 : Int) + (1 * ρ 5 + 0) := k6.2
  have k6 : xo_N μ 109 (4) = ρ 5 := by
    rw [show (4 : Int) = (4 : Int) + 0 by omega]
    exact k6.trans (by omega)
  have w0 : 0 ≤ (0 : Int) + (1 * ρ 4 + 0) ∧ ρ 13 = 2 ^ ((0 : Int) + (1 * ρ 4 + 0)).toNat := w0
  rw [show ((0 : Int) + (1 * ρ 4 + 0) : Int) = ρ 4 by omega] at w0
  have w1 : ρ 11 = ((0 : Int) + (1 * ρ 9 + 0)) * ((0 : Int) + (1 * ρ 10 + 0)) := w1
  rw [show ((0 : Int) + (1 * ρ 9 + 0) : Int) = ρ 9 by omega, show ((0 : Int) + (1 * ρ 10 + 0) : Int) = ρ 10 by omega] at w1
  have w2 : 0 ≤ (0 : Int) + (1 * ρ 4 + 0) ∧ ρ 7 = ((0 : Int) + (1 * ρ 1 + 0)) / 2 ^ ((0 : Int) + (1 * ρ 4 + 0)).toNat % 2 := w2
  rw [show ((0 : Int) + (1 * ρ 1 + 0) : Int) = ρ 1 by omega, show ((0 : Int) + (1 * ρ 4 + 0) : Int) = ρ 4 by omega] at w2
  have w3 : ρ 6 = ((0 : Int) + (1 * ρ 1 + 0)) / 2 ^ ((0 : Int) + (1 * ρ 4 + 0)).toNat := w3
  rw [show ((0 : Int) + (1 * ρ 1 + 0) : Int) = ρ 1 by omega, show ((0 : Int) + (1 * ρ 4 + 0) : Int) = ρ 4 by omega] at w3
  exact ⟨h0, h1, h2, h3, h4, h5, h6, h7, h8, h9, h10, h11, h12, h13, h14, h15, (by omega), (by omega), (by omega), (by omega), (by omega), (by omega), k0, k1, k2, k3, k4, k5, k6, w0, w1, w2, w3⟩
theorem sg_do24_d4 {ρ : Nat → Int} {μ : Nat → Nat → Value} (h : xh_ok ρ μ sg_do24_a4) : (0 ≤ ρ 0 ∧ ρ 0 ≤ 6) ∧ (0 ≤ ρ 1 ∧ ρ 1 ≤ 126) ∧ (0 ≤ ρ 2 ∧ ρ 2 ≤ 8) ∧ ((-1) ≤ ρ 3 ∧ ρ 3 ≤ (-1)) ∧ (0 ≤ ρ 4 ∧ ρ 4 ≤ 6) ∧ (1 ≤ ρ 5 ∧ ρ 5 ≤ 7) ∧ (0 ≤ ρ 6 ∧ ρ 6 ≤ 127) ∧ (0 ≤ ρ 7 ∧ ρ 7 ≤ 0) ∧ ((-1) ≤ ρ 8 ∧ ρ 8 ≤ 7) ∧ (1 ≤ ρ 9 ∧ ρ 9 ≤ 64) ∧ (0 ≤ ρ 10 ∧ ρ 10 ≤ 100000000) ∧ (0 ≤ ρ 11 ∧ ρ 11 ≤ 100000000) ∧ 0 ≤ 127 + (-1) * ρ 1 + (-1) * ρ 9 ∧ 0 ≤ ρ 3 + (-1) * ρ 8 ∧ 0 ≤ (-1) * ρ 3 + ρ 8 ∧ 0 ≤ (-1) + (-1) * ρ 4 + ρ 5 ∧ xo_N μ 120 (128 * ρ 0 + ρ 1) = ρ 11 ∧ xo_N μ 120 (128 + 128 * ρ 0 + ρ 1 + ρ 9) = ρ 10 ∧ xo_N μ 118 (ρ 4) = ρ 8 ∧ xo_N μ 109 (4) = ρ 5 ∧ ρ 10 + (-1) * ρ 11 ≠ 0 ∧ (0 ≤ ρ 4 ∧ ρ 9 = 2 ^ (ρ 4).toNat) ∧ (0 ≤ ρ 4 ∧ ρ 7 = (ρ 1) / 2 ^ (ρ 4).toNat % 2) ∧ ρ 6 = (ρ 1) / 2 ^ (ρ 4).toNat := by
  obtain ⟨⟨h0, h1, h2, h3, h4, h5, h6, h7, h8, h9, h10, h11, -⟩, ⟨g0, g1, g2, g3, -⟩, ⟨k0, k1, k2, k3, -⟩, ⟨w0, w1, w2, w3, -⟩⟩ := h
  have g0 : 0 ≤ (127 : Int) + ((-1) * ρ 1 + ((-1) * ρ 9 + 0)) := g0
  have g1 : 0 ≤ (0 : Int) + (1 * ρ 3 + ((-1) * ρ 8 + 0)) := g1
  have g2 : 0 ≤ (0 : Int) + ((-1) * ρ 3 + (1 * ρ 8 + 0)) := g2
  have g3 : 0 ≤ ((-1) : Int) + ((-1) * ρ 4 + (1 * ρ 5 + 0)) := g3
  have k0 : xw_n0 (μ 120 ((0 : Int) + (128 * ρ 0 + (1 * ρ 1 + 0))).toNat) = (0 : Int) + (1 * ρ 11 + 0) := k0.2
  have k0 : xo_N μ 120 (128 * ρ 0 + ρ 1) = ρ 11 := by
    rw [show (128 * ρ 0 + ρ 1 : Int) = (0 : Int) + (128 * ρ 0 + (1 * ρ 1 + 0)) by omega]
    exact k0.trans (by omega)
  have k1 : xw_n0 (μ 120 ((128 : Int) + (128 * ρ 0 + (1 * ρ 1 + (1 * ρ 9 + 0)))).toNat) = (0 : Int) + (1 * ρ 10 + 0) := k1.2
  have k1 : xo_N μ 120 (128 + 128 * ρ 0 + ρ 1 + ρ 9) = ρ 10 := by
    rw [show (128 + 128 * ρ 0 + ρ 1 + ρ 9 : Int) = (128 : Int) + (128 * ρ 0 + (1 * ρ 1 + (1 * ρ 9 + 0))) by omega]
    exact k1.trans (by omega)
  have k2 : xw_n0 (μ 118 ((0 : Int) + (1 * ρ 4 + 0)).toNat) = (0 : Int) + (1 * ρ 8 + 0) := k2.2
  have k2 : xo_N μ 118 (ρ 4) = ρ 8 := by
    rw [show (ρ 4 : Int) = (0 : Int) + (1 * ρ 4 + 0) by omega]
    exact k2.trans (by omega)
  have k3 : xw_n0 (μ 109 ((4 : Int) + 0).toNat) = (0 : Int) + (1 * ρ 5 + 0) := k3.2
  have k3 : xo_N μ 109 (4) = ρ 5 := by
    rw [show (4 : Int) = (4 : Int) + 0 by omega]
    exact k3.trans (by omega)
  have w0 : (0 : Int) + (1 * ρ 10 + ((-1) * ρ 11 + 0)) ≠ 0 := w0
  rw [show ((0 : Int) + (1 * ρ 10 + ((-1) * ρ 11 + 0)) : Int) = ρ 10 + (-1) * ρ 11 by omega] at w0
  have w1 : 0 ≤ (0 : Int) + (1 * ρ 4 + 0) ∧ ρ 9 = 2 ^ ((0 : Int) + (1 * ρ 4 + 0)).toNat := w1
  rw [show ((0 : Int) + (1 * ρ 4 + 0) : Int) = ρ 4 by omega] at w1
  have w2 : 0 ≤ (0 : Int) + (1 * ρ 4 + 0) ∧ ρ 7 = ((0 : Int) + (1 * ρ 1 + 0)) / 2 ^ ((0 : Int) + (1 * ρ 4 + 0)).toNat % 2 := w2
  rw [show ((0 : Int) + (1 * ρ 1 + 0) : Int) = ρ 1 by omega, show ((0 : Int) + (1 * ρ 4 + 0) : Int) = ρ 4 by omega] at w2
  have w3 : ρ 6 = ((0 : Int) + (1 * ρ 1 + 0)) / 2 ^ ((0 : Int) + (1 * ρ 4 + 0)).toNat := w3
  rw [show ((0 : Int) + (1 * ρ 1 + 0) : Int) = ρ 1 by omega, show ((0 : Int) + (1 * ρ 4 + 0) : Int) = ρ 4 by omega] at w3
  exact ⟨h0, h1, h2, h3, h4, h5, h6, h7, h8, h9, h10, h11, (by omega), (by omega), (by omega), (by omega), k0, k1, k2, k3, w0, w1, w2, w3⟩
theorem sg_do24_d5 {ρ : Nat → Int} {μ : Nat → Nat → Value} (h : xh_ok ρ μ sg_do24_a5) : (0 ≤ ρ 0 ∧ ρ 0 ≤ 6) ∧ (0 ≤ ρ 1 ∧ ρ 1 ≤ 126) ∧ (0 ≤ ρ 2 ∧ ρ 2 ≤ 8) ∧ ((-1) ≤ ρ 3 ∧ ρ 3 ≤ (-1)) ∧ (0 ≤ ρ 4 ∧ ρ 4 ≤ 6) ∧ (1 ≤ ρ 5 ∧ ρ 5 ≤ 7) ∧ (0 ≤ ρ 6 ∧ ρ 6 ≤ 127) ∧ (0 ≤ ρ 7 ∧ ρ 7 ≤ 0) ∧ ((-1) ≤ ρ 8 ∧ ρ 8 ≤ 7) ∧ (1 ≤ ρ 9 ∧ ρ 9 ≤ 64) ∧ (0 ≤ ρ 10 ∧ ρ 10 ≤ 100000000) ∧ (0 ≤ ρ 11 ∧ ρ 11 ≤ 100000000) ∧ 0 ≤ (-1) * ρ 10 + ρ 11 ∧ 0 ≤ ρ 10 + (-1) * ρ 11 ∧ 0 ≤ 127 + (-1) * ρ 1 + (-1) * ρ 9 ∧ 0 ≤ ρ 3 + (-1) * ρ 8 ∧ 0 ≤ (-1) * ρ 3 + ρ 8 ∧ 0 ≤ (-1) + (-1) * ρ 4 + ρ 5 ∧ xo_N μ 120 (128 * ρ 0 + ρ 1) = ρ 11 ∧ xo_N μ 120 (128 + 128 * ρ 0 + ρ 1 + ρ 9) = ρ 10 ∧ xo_N μ 118 (ρ 4) = ρ 8 ∧ xo_N μ 109 (4) = ρ 5 ∧ (0 ≤ ρ 4 ∧ ρ 9 = 2 ^ (ρ 4).toNat) ∧ (0 ≤ ρ 4 ∧ ρ 7 = (ρ 1) / 2 ^ (ρ 4).toNat % 2) ∧ ρ 6 = (ρ 1) / 2 ^ (ρ 4).toNat := by
  obtain ⟨⟨h0, h1, h2, h3, h4, h5, h6, h7, h8, h9, h10, h11, -⟩, ⟨g0, g1, g2, g3, g4, g5, -⟩, ⟨k0, k1, k2, k3, -⟩, ⟨w0, w1, w2, -⟩⟩ := h
  have g0 : 0 ≤ (0 : Int) + ((-1) * ρ 10 + (1 * ρ 11 + 0)) := g0
  have g1 : 0 ≤ (0 : Int) + (1 * ρ 10 + ((-1) * ρ 11 + 0)) := g1
  have g2 : 0 ≤ (127 : Int) + ((-1) * ρ 1 + ((-1) * ρ 9 + 0)) := g2
  have g3 : 0 ≤ (0 : Int) + (1 * ρ 3 + ((-1) * ρ 8 + 0)) := g3
  have g4 : 0 ≤ (0 : Int) + ((-1) * ρ 3 + (1 * ρ 8 + 0)) := g4
  have g5 : 0 ≤ ((-1) : Int) + ((-1) * ρ 4 + (1 * ρ 5 + 0)) := g5
  have k0 : xw_n0 (μ 120 ((0 : Int) + (128 * ρ 0 + (1 * ρ 1 + 0))).toNat) = (0 : Int) + (1 * ρ 11 + 0) := k0.2
  have k0 : xo_N μ 120 (128 * ρ 0 + ρ 1) = ρ 11 := by
    rw [show (128 * ρ 0 + ρ 1 : Int) = (0 : Int) + (128 * ρ 0 + (1 * ρ 1 + 0)) by omega]
    exact k0.trans (by omega)
  have k1 : xw_n0 (μ 120 ((128 : Int) + (128 * ρ 0 + (1 * ρ 1 + (1 * ρ 9 + 0)))).toNat) = (0 : Int) + (1 * ρ 10 + 0) := k1.2
  have k1 : xo_N μ 120 (128 + 128 * ρ 0 + ρ 1 + ρ 9) = ρ 10 := by
    rw [show (128 + 128 * ρ 0 + ρ 1 + ρ 9 : Int) = (128 : Int) + (128 * ρ 0 + (1 * ρ 1 + (1 * ρ 9 + 0))) by omega]
    exact k1.trans (by omega)
  have k2 : xw_n0 (μ 118 ((0 : Int) + (1 * ρ 4 + 0)).toNat) = (0 : Int) + (1 * ρ 8 + 0) := k2.2
  have k2 : xo_N μ 118 (ρ 4) = ρ 8 := by
    rw [show (ρ 4 : Int) = (0 : Int) + (1 * ρ 4 + 0) by omega]
    exact k2.trans (by omega)
  have k3 : xw_n0 (μ 109 ((4 : Int) + 0).toNat) = (0 : Int) + (1 * ρ 5 + 0) := k3.2
  have k3 : xo_N μ 109 (4) = ρ 5 := by
    rw [show (4 : Int) = (4 : Int) + 0 by omega]
    exact k3.trans (by omega)
  have w0 : 0 ≤ (0 : Int) + (1 * ρ 4 + 0) ∧ ρ 9 = 2 ^ ((0 : Int) + (1 * ρ 4 + 0)).toNat := w0
  rw [show ((0 : Int) + (1 * ρ 4 + 0) : Int) = ρ 4 by omega] at w0
  have w1 : 0 ≤ (0 : Int) + (1 * ρ 4 + 0) ∧ ρ 7 = ((0 : Int) + (1 * ρ 1 + 0)) / 2 ^ ((0 : Int) + (1 * ρ 4 + 0)).toNat % 2 := w1
  rw [show ((0 : Int) + (1 * ρ 1 + 0) : Int) = ρ 1 by omega, show ((0 : Int) + (1 * ρ 4 + 0) : Int) = ρ 4 by omega] at w1
  have w2 : ρ 6 = ((0 : Int) + (1 * ρ 1 + 0)) / 2 ^ ((0 : Int) + (1 * ρ 4 + 0)).toNat := w2
  rw [show ((0 : Int) + (1 * ρ 1 + 0) : Int) = ρ 1 by omega, show ((0 : Int) + (1 * ρ 4 + 0) : Int) = ρ 4 by omega] at w2
  exact ⟨h0, h1, h2, h3, h4, h5, h6, h7, h8, h9, h10, h11, (by omega), (by omega), (by omega), (by omega), (by omega), (by omega), k0, k1, k2, k3, w0, w1, w2⟩
theorem sg_do24_d6 {ρ : Nat → Int} {μ : Nat → Nat → Value} (h : xh_ok ρ μ sg_do24_a6) : (0 ≤ ρ 0 ∧ ρ 0 ≤ 6) ∧ (0 ≤ ρ 1 ∧ ρ 1 ≤ 127) ∧ (0 ≤ ρ 2 ∧ ρ 2 ≤ 8) ∧ ((-1) ≤ ρ 3 ∧ ρ 3 ≤ 7) ∧ (0 ≤ ρ 4 ∧ ρ 4 ≤ 6) ∧ (1 ≤ ρ 5 ∧ ρ 5 ≤ 7) ∧ (0 ≤ ρ 6 ∧ ρ 6 ≤ 127) ∧ (1 ≤ ρ 7 ∧ ρ 7 ≤ 1) ∧ 0 ≤ (-1) + (-1) * ρ 4 + ρ 5 ∧ xo_N μ 109 (4) = ρ 5 ∧ (0 ≤ ρ 4 ∧ ρ 7 = (ρ 1) / 2 ^ (ρ 4).toNat % 2) ∧ ρ 6 = (ρ 1) / 2 ^ (ρ 4).toNat := by
  obtain ⟨⟨h0, h1, h2, h3, h4, h5, h6, h7, -⟩, ⟨g0, -⟩, ⟨k0, -⟩, ⟨w0, w1, -⟩⟩ := h
  have g0 : 0 ≤ ((-1) : Int) + ((-1) * ρ 4 + (1 * ρ 5 + 0)) := g0
  have k0 : xw_n0 (μ 109 ((4 : Int) + 0).toNat) = (0 : Int) + (1 * ρ 5 + 0) := k0.2
  have k0 : xo_N μ 109 (4) = ρ 5 := by
    rw [show (4 : Int) = (4 : Int) + 0 by omega]
    exact k0.trans (by omega)
  have w0 : 0 ≤ (0 : Int) + (1 * ρ 4 + 0) ∧ ρ 7 = ((0 : Int) + (1 * ρ 1 + 0)) / 2 ^ ((0 : Int) + (1 * ρ 4 + 0)).toNat % 2 := w0
  rw [show ((0 : Int) + (1 * ρ 1 + 0) : Int) = ρ 1 by omega, show ((0 : Int) + (1 * ρ 4 + 0) : Int) = ρ 4 by omega] at w0
  have w1 : ρ 6 = ((0 : Int) + (1 * ρ 1 + 0)) / 2 ^ ((0 : Int) + (1 * ρ 4 + 0)).toNat := w1
  rw [show ((0 : Int) + (1 * ρ 1 + 0) : Int) = ρ 1 by omega, show ((0 : Int) + (1 * ρ 4 + 0) : Int) = ρ 4 by omega] at w1
  exact ⟨h0, h1, h2, h3, h4, h5, h6, h7, (by omega), k0, w0, w1⟩
def sg_dt0_a0 : xh_Ar := (16, [(2, (102, [])), (0, (0, [(0, 1)])), (9, (0, [])), (9, (0, []))], [(0, ((-2), []))], [(0, (-2147483648), (-1)), (1, 0, 7)], [], [(109, (4, []), (0, (0, [(1, 1)]))), (102, (0, []), (0, (0, [])))], [], [(102, 1)])
def sg_dt0_a1 : xh_Ar := (16, [(2, (102, [])), (0, (0, [(0, 1)])), (9, (0, [])), (9, (0, []))], [(0, ((-2), []))], [(0, 0, 2147483647), (1, 0, 7)], [(0, [(0, 1), (1, (-1))])], [(109, (4, []), (0, (0, [(1, 1)]))), (102, (0, []), (0, (0, [])))], [], [(102, 1)])
def sg_dt0_a2 : xh_Ar := (18, [(2, (102, [])), (0, (0, [(0, 1)])), (9, (0, [])), (9, (0, []))], [(2, (102, []))], [(0, 0, 6), (1, 1, 7)], [((-1), [(0, (-1)), (1, 1)])], [(109, (4, []), (0, (0, [(1, 1)]))), (102, (0, []), (0, (0, [])))], [], [(102, 1)])
def sg_dt0_r : List xh_Ar := [sg_dt0_a0, sg_dt0_a1, sg_dt0_a2]
def sg_dt0_s : List (Nat × Int × Int) := [(2, 102, 0), (0, (-2147483648), 2147483647)]
def sg_dt0_p : List xw_T := []
def sg_dt0_v : List xw_V := [(2, (102, [])), (0, (0, [(0, 1)]))]
def sg_dt0_k : List xw_V := []
def sg_dt0_q : xw_Q := ([], [], [])
set_option maxRecDepth 100000 in
set_option maxHeartbeats 4000000 in
theorem sg_dt0 : xh_chk xz_hl xz_G (xw_calls xz_hl xz_G xt_M xz_HS xz_CT 5000 [] sg_dt0_q 2) 287 [18, 16] sg_dt0_r xt_287 5000 4 0 sg_dt0_s sg_dt0_p sg_dt0_v sg_dt0_k = true := by decide +kernel
theorem sg_dt0_d0 {ρ : Nat → Int} {μ : Nat → Nat → Value} (h : xh_ok ρ μ sg_dt0_a0) : ((-2147483648) ≤ ρ 0 ∧ ρ 0 ≤ (-1)) ∧ (0 ≤ ρ 1 ∧ ρ 1 ≤ 7) ∧ xo_N μ 109 (4) = ρ 1 ∧ xo_N μ 102 (0) = 0 := by
  obtain ⟨⟨h0, h1, -⟩, -, ⟨k0, k1, -⟩, -⟩ := h
  have k0 : xw_n0 (μ 109 ((4 : Int) + 0).toNat) = (0 : Int) + (1 * ρ 1 + 0) := k0.2
  have k0 : xo_N μ 109 (4) = ρ 1 := by
    rw [show (4 : Int) = (4 : Int) + 0 by omega]
    exact k0.trans (by omega)
  have k1 : xw_n0 (μ 102 ((0 : Int) + 0).toNat) = (0 : Int) + 0 := k1.2
  have k1 : xo_N μ 102 (0) = 0 := by
    rw [show (0 : Int) = (0 : Int) + 0 by omega]
    exact k1.trans (by omega)
  exact ⟨h0, h1, k0, k1⟩
theorem sg_dt0_d1 {ρ : Nat → Int} {μ : Nat → Nat → Value} (h : xh_ok ρ μ sg_dt0_a1) : (0 ≤ ρ 0 ∧ ρ 0 ≤ 2147483647) ∧ (0 ≤ ρ 1 ∧ ρ 1 ≤ 7) ∧ 0 ≤ ρ 0 + (-1) * ρ 1 ∧ xo_N μ 109 (4) = ρ 1 ∧ xo_N μ 102 (0) = 0 := by
  obtain ⟨⟨h0, h1, -⟩, ⟨g0, -⟩, ⟨k0, k1, -⟩, -⟩ := h
  have g0 : 0 ≤ (0 : Int) + (1 * ρ 0 + ((-1) * ρ 1 + 0)) := g0
  have k0 : xw_n0 (μ 109 ((4 : Int) + 0).toNat) = (0 : Int) + (1 * ρ 1 + 0) := k0.2
  have k0 : xo_N μ 109 (4) = ρ 1 := by
    rw [show (4 : Int) = (4 : Int) + 0 by omega]
    exact k0.trans (by omega)
  have k1 : xw_n0 (μ 102 ((0 : Int) + 0).toNat) = (0 : Int) + 0 := k1.2
  have k1 : xo_N μ 102 (0) = 0 := by
    rw [show (0 : Int) = (0 : Int) + 0 by omega]
    exact k1.trans (by omega)
  exact ⟨h0, h1, (by omega), k0, k1⟩
theorem sg_dt0_d2 {ρ : Nat → Int} {μ : Nat → Nat → Value} (h : xh_ok ρ μ sg_dt0_a2) : (0 ≤ ρ 0 ∧ ρ 0 ≤ 6) ∧ (1 ≤ ρ 1 ∧ ρ 1 ≤ 7) ∧ 0 ≤ (-1) + (-1) * ρ 0 + ρ 1 ∧ xo_N μ 109 (4) = ρ 1 ∧ xo_N μ 102 (0) = 0 := by
  obtain ⟨⟨h0, h1, -⟩, ⟨g0, -⟩, ⟨k0, k1, -⟩, -⟩ := h
  have g0 : 0 ≤ ((-1) : Int) + ((-1) * ρ 0 + (1 * ρ 1 + 0)) := g0
  have k0 : xw_n0 (μ 109 ((4 : Int) + 0).toNat) = (0 : Int) + (1 * ρ 1 + 0) := k0.2
  have k0 : xo_N μ 109 (4) = ρ 1 := by
    rw [show (4 : Int) = (4 : Int) + 0 by omega]
    exact k0.trans (by omega)
  have k1 : xw_n0 (μ 102 ((0 : Int) + 0).toNat) = (0 : Int) + 0 := k1.2
  have k1 : xo_N μ 102 (0) = 0 := by
    rw [show (0 : Int) = (0 : Int) + 0 by omega]
    exact k1.trans (by omega)
  exact ⟨h0, h1, (by omega), k0, k1⟩
def sg_dt21_a0 : xh_Ar := (25, [(2, (102, [])), (0, (0, [(0, 1)])), (0, (0, [])), (0, (0, []))], [], [(0, 0, 6)], [], [], [], [])
def sg_dt21_r : List xh_Ar := [sg_dt21_a0]
def sg_dt21_s : List (Nat × Int × Int) := [(2, 102, 0), (0, 0, 6)]
def sg_dt21_p : List xw_T := []
def sg_dt21_v : List xw_V := [(2, (102, [])), (0, (0, [(0, 1)]))]
def sg_dt21_k : List xw_V := []
def sg_dt21_q : xw_Q := ([], [], [])
set_option maxRecDepth 100000 in
set_option maxHeartbeats 4000000 in
theorem sg_dt21 : xh_chk xz_hl xz_G (xw_calls xz_hl xz_G xt_M xz_HS xz_CT 5000 [] sg_dt21_q 2) 287 [25] sg_dt21_r xt_287 5000 4 21 sg_dt21_s sg_dt21_p sg_dt21_v sg_dt21_k = true := by decide +kernel
theorem sg_dt21_d0 {ρ : Nat → Int} {μ : Nat → Nat → Value} (h : xh_ok ρ μ sg_dt21_a0) : (0 ≤ ρ 0 ∧ ρ 0 ≤ 6) := by
  obtain ⟨⟨h0, -⟩, -, -, -⟩ := h
  exact h0
def sg_dt25_a0 : xh_Ar := (54, [(2, (102, [])), (0, (0, [(0, 1)])), (0, (0, [(1, 1)])), (0, (0, [(2, 1)]))], [(0, (0, [(1, 1)])), (0, (0, [(0, 1)])), (2, (102, [])), (2, (118, []))], [(0, 0, 6), (1, 0, 127), (2, 0, 7)], [(0, [(0, (-1)), (2, 1)])], [], [], [])
def sg_dt25_a1 : xh_Ar := (35, [(2, (102, [])), (0, (0, [(0, 1)])), (0, (0, [(1, 1)])), (0, (0, [(2, 1)]))], [(0, (0, [(1, 1)])), (0, (0, [(2, 1)])), (2, (102, [])), (0, (1, [])), (0, (0, [(1, 1)]))], [(0, 1, 6), (1, 0, 127), (2, 0, 5)], [((-1), [(0, 1), (2, (-1))])], [], [], [])
def sg_dt25_r : List xh_Ar := [sg_dt25_a0, sg_dt25_a1]
def sg_dt25_s : List (Nat × Int × Int) := [(2, 102, 0), (0, 0, 6), (0, 0, 127), (0, 0, 7)]
def sg_dt25_p : List xw_T := []
def sg_dt25_v : List xw_V := [(2, (102, [])), (0, (0, [(0, 1)])), (0, (0, [(1, 1)])), (0, (0, [(2, 1)]))]
def sg_dt25_k : List xw_V := []
def sg_dt25_q : xw_Q := ([], [], [])
set_option maxRecDepth 100000 in
set_option maxHeartbeats 4000000 in
theorem sg_dt25 : xh_chk xz_hl xz_G (xw_calls xz_hl xz_G xt_M xz_HS xz_CT 5000 [] sg_dt25_q 2) 287 [35, 54] sg_dt25_r xt_287 5000 4 25 sg_dt25_s sg_dt25_p sg_dt25_v sg_dt25_k = true := by decide +kernel
theorem sg_dt25_d0 {ρ : Nat → Int} {μ : Nat → Nat → Value} (h : xh_ok ρ μ sg_dt25_a0) : (0 ≤ ρ 0 ∧ ρ 0 ≤ 6) ∧ (0 ≤ ρ 1 ∧ ρ 1 ≤ 127) ∧ (0 ≤ ρ 2 ∧ ρ 2 ≤ 7) ∧ 0 ≤ (-1) * ρ 0 + ρ 2 := by
  obtain ⟨⟨h0, h1, h2, -⟩, ⟨g0, -⟩, -, -⟩ := h
  have g0 : 0 ≤ (0 : Int) + ((-1) * ρ 0 + (1 * ρ 2 + 0)) := g0
  exact ⟨h0, h1, h2, (by omega)⟩
theorem sg_dt25_d1 {ρ : Nat → Int} {μ : Nat → Nat → Value} (h : xh_ok ρ μ sg_dt25_a1) : (1 ≤ ρ 0 ∧ ρ 0 ≤ 6) ∧ (0 ≤ ρ 1 ∧ ρ 1 ≤ 127) ∧ (0 ≤ ρ 2 ∧ ρ 2 ≤ 5) ∧ 0 ≤ (-1) + ρ 0 + (-1) * ρ 2 := by
  obtain ⟨⟨h0, h1, h2, -⟩, ⟨g0, -⟩, -, -⟩ := h
  have g0 : 0 ≤ ((-1) : Int) + (1 * ρ 0 + ((-1) * ρ 2 + 0)) := g0
  exact ⟨h0, h1, h2, (by omega)⟩
def sg_dt38_a0 : xh_Ar := (25, [(2, (102, [])), (0, (0, [(0, 1)])), (0, (0, [(6, 1)])), (0, (1, [(2, 1)]))], [], [(0, 0, 6), (1, 0, 127), (2, 0, 6), (3, 0, 6), (4, 0, 127), (5, 1, 64), (6, 1, 127)], [], [], [(5, 6, (0, [(4, 1)]), (0, [(5, 1)])), (0, 5, (0, [(3, 1)]), (0, [(3, 1)]))], [])
def sg_dt38_r : List xh_Ar := [sg_dt38_a0]
def sg_dt38_s : List (Nat × Int × Int) := [(2, 102, 0), (0, 0, 6), (0, 0, 127), (0, 0, 6), (0, 0, 6), (0, 1, 1), (0, 0, 127)]
def sg_dt38_p : List xw_T := []
def sg_dt38_v : List xw_V := [(2, (102, [])), (0, (0, [(0, 1)])), (0, (0, [(1, 1)])), (0, (0, [(2, 1)]))]
def sg_dt38_k : List xw_V := [(0, (0, [(3, 1)])), (0, (1, [])), (0, (0, [(4, 1)]))]
def sg_dt38_q : xw_Q := ([], [], [])
set_option maxRecDepth 100000 in
set_option maxHeartbeats 4000000 in
theorem sg_dt38 : xh_chk xz_hl xz_G (xw_calls xz_hl xz_G xt_M xz_HS xz_CT 5000 [] sg_dt38_q 2) 287 [25] sg_dt38_r xt_287 5000 4 38 sg_dt38_s sg_dt38_p sg_dt38_v sg_dt38_k = true := by decide +kernel
theorem sg_dt38_d0 {ρ : Nat → Int} {μ : Nat → Nat → Value} (h : xh_ok ρ μ sg_dt38_a0) : (0 ≤ ρ 0 ∧ ρ 0 ≤ 6) ∧ (0 ≤ ρ 1 ∧ ρ 1 ≤ 127) ∧ (0 ≤ ρ 2 ∧ ρ 2 ≤ 6) ∧ (0 ≤ ρ 3 ∧ ρ 3 ≤ 6) ∧ (0 ≤ ρ 4 ∧ ρ 4 ≤ 127) ∧ (1 ≤ ρ 5 ∧ ρ 5 ≤ 64) ∧ (1 ≤ ρ 6 ∧ ρ 6 ≤ 127) ∧ (∃ a b : Int32, a.toInt = ρ 4 ∧ b.toInt = ρ 5 ∧ ρ 6 = (a ||| b).toInt) ∧ (0 ≤ ρ 3 ∧ ρ 5 = 2 ^ (ρ 3).toNat) := by
  obtain ⟨⟨h0, h1, h2, h3, h4, h5, h6, -⟩, -, -, ⟨w0, w1, -⟩⟩ := h
  have w0 : ∃ a b : Int32, a.toInt = (0 : Int) + (1 * ρ 4 + 0) ∧ b.toInt = (0 : Int) + (1 * ρ 5 + 0) ∧ ρ 6 = (a ||| b).toInt := w0
  rw [show ((0 : Int) + (1 * ρ 4 + 0) : Int) = ρ 4 by omega, show ((0 : Int) + (1 * ρ 5 + 0) : Int) = ρ 5 by omega] at w0
  have w1 : 0 ≤ (0 : Int) + (1 * ρ 3 + 0) ∧ ρ 5 = 2 ^ ((0 : Int) + (1 * ρ 3 + 0)).toNat := w1
  rw [show ((0 : Int) + (1 * ρ 3 + 0) : Int) = ρ 3 by omega] at w1
  exact ⟨h0, h1, h2, h3, h4, h5, h6, w0, w1⟩
def sg_dt57_a0 : xh_Ar := (58, [(2, (102, [])), (0, (0, [(0, 1)])), (0, (0, [(1, 1)])), (0, (0, [(2, 1)]))], [(0, (0, [(4, 1)]))], [(0, 0, 6), (1, 0, 127), (2, 0, 6), (3, 0, 6), (4, (-1), 7)], [], [(118, (0, [(3, 1)]), (0, (0, [(4, 1)])))], [], [])
def sg_dt57_r : List xh_Ar := [sg_dt57_a0]
def sg_dt57_s : List (Nat × Int × Int) := [(2, 102, 0), (0, 0, 6), (0, 0, 127), (0, 0, 6), (0, 0, 6), (2, 118, 0)]
def sg_dt57_p : List xw_T := []
def sg_dt57_v : List xw_V := [(2, (102, [])), (0, (0, [(0, 1)])), (0, (0, [(1, 1)])), (0, (0, [(2, 1)]))]
def sg_dt57_k : List xw_V := [(0, (0, [(3, 1)])), (2, (118, []))]
def sg_dt57_q : xw_Q := ([], [], [])
set_option maxRecDepth 100000 in
set_option maxHeartbeats 4000000 in
theorem sg_dt57 : xh_chk xz_hl xz_G (xw_calls xz_hl xz_G xt_M xz_HS xz_CT 5000 [] sg_dt57_q 2) 287 [58] sg_dt57_r xt_287 5000 4 57 sg_dt57_s sg_dt57_p sg_dt57_v sg_dt57_k = true := by decide +kernel
theorem sg_dt57_d0 {ρ : Nat → Int} {μ : Nat → Nat → Value} (h : xh_ok ρ μ sg_dt57_a0) : (0 ≤ ρ 0 ∧ ρ 0 ≤ 6) ∧ (0 ≤ ρ 1 ∧ ρ 1 ≤ 127) ∧ (0 ≤ ρ 2 ∧ ρ 2 ≤ 6) ∧ (0 ≤ ρ 3 ∧ ρ 3 ≤ 6) ∧ ((-1) ≤ ρ 4 ∧ ρ 4 ≤ 7) ∧ xo_N μ 118 (ρ 3) = ρ 4 := by
  obtain ⟨⟨h0, h1, h2, h3, h4, -⟩, -, ⟨k0, -⟩, -⟩ := h
  have k0 : xw_n0 (μ 118 ((0 : Int) + (1 * ρ 3 + 0)).toNat) = (0 : Int) + (1 * ρ 4 + 0) := k0.2
  have k0 : xo_N μ 118 (ρ 3) = ρ 4 := by
    rw [show (ρ 3 : Int) = (0 : Int) + (1 * ρ 3 + 0) by omega]
    exact k0.trans (by omega)
  exact ⟨h0, h1, h2, h3, h4, k0⟩
theorem xd_G {hl : Nat × Int} {t : Nat → ClassId} {X : xw_X} {xs : Nat → Int32} {ws : va_W} (hWd : xw_Wd hl xz_G t X (xw_mu xs ws) ws) {j : Int} (h0 : 0 ≤ j) (h1 : j < 7) : -1 ≤ xo_N (xw_mu xs ws) 118 j ∧ xo_N (xw_mu xs ws) 118 j ≤ 7 := by
  have h := xw_ty_ok (r := 118) (i := j.toNat) (c := (1, 7, 1, [[(0, -1, 7)]])) (u := (0, -1, 7)) hWd.1 rfl (by decide) (by show j.toNat < 7; omega) (by show xv_get 8 _ (j.toNat % 1) = _; rw [Nat.mod_one]; rfl)
  obtain ⟨i, e, h1, h2⟩ := h.1 rfl
  have e2 : xw_mu xs ws 118 j.toNat = .int i := by rw [← e]; exact hWd.2.2 118 _ rfl j.toNat
  unfold xo_N
  rw [e2]
  exact ⟨h1, h2⟩
theorem xd_orlt {a b : Int32} {n : Nat} (ha : 0 ≤ a.toInt) (hb : 0 ≤ b.toInt) (h1 : a.toInt < 2 ^ n) (h2 : b.toInt < 2 ^ n) : (a ||| b).toInt < 2 ^ n := by
  obtain ⟨a1, a2⟩ := xw_nn ha
  obtain ⟨b1, b2⟩ := xw_nn hb
  have eo : (a ||| b).toBitVec.toNat = a.toBitVec.toNat ||| b.toBitVec.toNat := by rw [Int32.toBitVec_or, BitVec.toNat_or]
  have en : (((2 : Nat) ^ n : Nat) : Int) = (2 : Int) ^ n := by simp
  have l1 : a.toBitVec.toNat < 2 ^ n := Int.ofNat_lt.mp (by rw [en, ← a1]; exact h1)
  have l2 : b.toBitVec.toNat < 2 ^ n := Int.ofNat_lt.mp (by rw [en, ← b1]; exact h2)
  have l3 := Nat.or_lt_two_pow l1 l2
  have lo : (a ||| b).toBitVec.toNat < 2 ^ 31 := by rw [eo]; exact Nat.or_lt_two_pow a2 b2
  rw [xw_bn (n := (a ||| b).toBitVec.toNat) rfl (by omega), eo, ← en]
  exact Int.ofNat_lt.mpr l3
set_option maxHeartbeats 40000000 in
theorem xd_dealOf {l : Launch} {I : Nat → Option xv_I} (hM : xw_MOK xt_M I) : ∃ i : xv_I, I 286 = some i ∧ ∀ d, 3 ≤ d → ∀ (D : va_G) (t : Nat → ClassId) (X : xw_X) (xs : Nat → Int32) (ws : va_W) (sz ad : Nat) (pI used : Int32), xw_Inv X → xw_Wd xz_hl xz_G t X (xw_mu xs ws) ws → va_D (fun _ => True) ws → (ws.map Prod.fst)[102]? = some ad → 0 ≤ pI.toInt → pI.toInt ≤ 6 → 0 ≤ used.toInt → used.toInt ≤ 127 → xd_A (xw_mu xs ws) (xo_N (xw_mu xs ws) 109 4) pI.toInt used.toInt → xo_N (xw_mu xs ws) 120 (128 * pI.toInt + used.toInt) < 100000000 →
    Met l i.1 (Cond.code i.1 i.2.1 i.2.2.1 i.2.2.2 :: xv_tb) { frames := d, cells := 0, slots := 0, locals := 60 * d } (xw_Pr D t X xs ws [.ref ad, .int pI, .int used] sz) (xh_Q D t xz_hl xz_G X xs ws sz [] (fun _ rv => ∃ q : Int32, rv = some (.int q) ∧ xd_w (xw_mu xs ws) (xo_N (xw_mu xs ws) 109 4) pI.toInt used.toInt q.toInt (xo_N (xw_mu xs ws) 120 (128 * pI.toInt + used.toInt)))) 0 0 (va_A ws sz) := by
  obtain ⟨⟨y, cc, mL, ret⟩, hi, hok⟩ := hM 286 (xt_286, 6) rfl
  refine ⟨_, hi, fun d hd D t X xs ws sz ad pI used hI hWd hD0 had hp0 hp6 hu0 hu7 hA0 hV0 => ?_⟩
  obtain ⟨d, rfl⟩ : ∃ d', d = d' + 1 := ⟨d - 1, by omega⟩
  obtain ⟨e1, hmL, hpn, hfull⟩ := id hok
  have e1 : 6 = mL := e1
  subst e1
  refine xh_meth xz_9 hok hI hWd hD0 (by show 3 ≤ 6; decide) ?_
  intro p e s m args below meth c R Q hR hCS C hnm hiret hvret ls hls hWo
  dsimp only at C hnm hls hfull hiret hvret
  have hCG : ∀ Qd : xw_Q, Qd.2.2 = [] → xw_CG l d I xz_hl xz_G [] (xw_calls xz_hl xz_G xt_M xz_HS xz_CT 5000 [] Qd 2) := fun Qd hq => xo_cg (l := l) hM (show 2 ≤ d by omega) Qd hq
  have hrt : ∀ {n : Nat} {pc b p4 : Nat} {v : Int}, xt_286[n]? = some (pc, .ireturn, 1, 0, b, p4, v) → ret = some .int := fun {n pc b p4 v} h => by
    rcases xh_lk hfull n h with ⟨-, er⟩ | ⟨er, -⟩
    · exact er
    · cases er
  have hn := xo_N4 hWd
  generalize hnn : xo_N (xw_mu xs ws) 109 4 = n at hn hA0 hiret
  obtain ⟨q0, hq0⟩ : ∃ q0, xd_w (xw_mu xs ws) n pI.toInt used.toInt q0 (xo_N (xw_mu xs ws) 120 (128 * pI.toInt + used.toInt)) := by
    rcases hA0 with w | w
    · omega
    · exact w
  have hg0 := xd_G hWd (j := q0) hq0.1 (by have := hq0.2.1; omega)
  have hqb : 0 ≤ q0 ∧ q0 ≤ 6 ∧ q0 < n := ⟨hq0.1, hq0.2.1, hq0.2.2.1⟩
  -- k0: where the penance is come to
  obtain ⟨k0, hk0⟩ : ∃ k0 : Int, (xo_N (xw_mu xs ws) 118 q0 = -1 ∧ k0 = 8) ∨ (xo_N (xw_mu xs ws) 118 q0 = k0 ∧ 0 ≤ k0 ∧ k0 ≤ 7) := by
    by_cases h : xo_N (xw_mu xs ws) 118 q0 = -1
    · exact ⟨8, Or.inl ⟨h, rfl⟩⟩
    · exact ⟨_, Or.inr ⟨rfl, by omega, by omega⟩⟩
  have k2 : ∀ (N : Nat) (kI : Int32) (ls : Array Slot) (H : Heap) (locs : List Loc) (ws' : va_W), kI.toInt + (N : Int) = k0 → 0 ≤ kI.toInt → lv_has ls 6 (lv_args 0 [.ref ad, .int pI, .int used, .int kI]) → xh_Wo D t (va_A ws sz) s.heap xz_hl xz_G X xs H locs ws' → xh_B xs [] ws ws' →
      W p l e R s m args below meth c H locs 0 0 Q (F0 m 2 ls []) := by
    intro N
    induction N with
    | zero =>
      intro kI ls H locs ws' hN hk hls hWo hB
      have ihN : kI.toInt < k0 → ∀ (kI' : Int32) (ls : Array Slot) (H : Heap) (locs : List Loc) (ws' : va_W), kI'.toInt = kI.toInt + 1 → lv_has ls 6 (lv_args 0 [.ref ad, .int pI, .int used, .int kI']) → xh_Wo D t (va_A ws sz) s.heap xz_hl xz_G X xs H locs ws' → xh_B xs [] ws ws' → W p l e R s m args below meth c H locs 0 0 Q (F0 m 2 ls []) := fun h => by omega
      have had' : (ws'.map Prod.fst)[102]? = some ad := by rw [hB.2.2]; exact had
      have k24 : ∀ (penI : Int32), (kI.toInt = 8 ∧ penI.toInt = -1) ∨ (kI.toInt ≤ 7 ∧ penI.toInt = kI.toInt) → ∀ (M : Nat) (qI : Int32) (ls : Array Slot) (H : Heap) (locs : List Loc) (ws' : va_W), qI.toInt + (M : Int) = n → 0 ≤ qI.toInt → (kI.toInt = k0 → qI.toInt ≤ q0) → lv_has ls 6 (lv_args 0 [.ref ad, .int pI, .int used, .int kI, .int penI, .int qI]) → xh_Wo D t (va_A ws sz) s.heap xz_hl xz_G X xs H locs ws' → xh_B xs [] ws ws' →
          W p l e R s m args below meth c H locs 0 0 Q (F0 m 24 ls []) := by
        clear hls hWo hB had'
        intro penI hpen M
        induction M with
        | zero =>
          intro qI ls H locs ws' hM hq hqk hls hWo hB
          have had' : (ws'.map Prod.fst)[102]? = some ad := by rw [hB.2.2]; exact had
          refine xh_seg2 (vl := [.ref ad, .int pI, .int used, .int kI, .int penI, .int qI]) (vk := []) sg_do24 C (hCG _ rfl) hR hCS hnm xz_nar hfull (by decide) rfl hWo ⟨Or.inr (Or.inr (Or.inl ⟨rfl, ad, had', rfl⟩)), Or.inl ⟨rfl, pI, rfl, by show (0 : Int) ≤ _; omega, by show _ ≤ (6 : Int); omega⟩, Or.inl ⟨rfl, used, rfl, by show (0 : Int) ≤ _; omega, by show _ ≤ (127 : Int); omega⟩, Or.inl ⟨rfl, kI, rfl, by show (0 : Int) ≤ _; omega, by show _ ≤ (8 : Int); omega⟩, Or.inl ⟨rfl, penI, rfl, by show ((-1) : Int) ≤ _; omega, by show _ ≤ (7 : Int); omega⟩, Or.inl ⟨rfl, qI, rfl, by show (0 : Int) ≤ _; omega, by show _ ≤ (7 : Int); omega⟩, True.intro⟩ (fun _ h => by cases h) hls ?_
          intro a ha ρ n' ls1 vst H1 locs1 ws1 hWo1 hB1 hlv hsk hrel hok1
          rw [(by decide : ∀ a ∈ sg_do24_r, a.2.2.2.2.2.2.2 = []) a ha] at hB1
          rw [xo_B0 hB1, xo_B0 hB] at hok1
          rcases List.mem_cons.mp ha with rfl | ha
          · skip
            obtain ⟨ad0, ha0, x1, e1, x2, e2, x3, e3, hls1⟩ := xh_locs hlv 4 (by decide)
            replace ha0 : (List.map Prod.fst _)[(102 : Nat)]? = some ad0 := ha0
            have e1 : x1.toInt = (0 : Int) + (1 * ρ 0 + 0) := e1
            have e2 : x2.toInt = (0 : Int) + (1 * ρ 1 + 0) := e2
            have e3 : x3.toInt = (1 : Int) + (1 * ρ 2 + 0) := e3
            have hvst := hsk.nil
            subst hvst
            obtain ⟨q1, q2, q3, q4, q5, -⟩ := hrel
            have q1 := q1 rfl
            replace q1 : _ = (0 : Int) + (1 * ρ 0 + 0) := q1
            have q2 := q2 rfl
            replace q2 : _ = (0 : Int) + (1 * ρ 1 + 0) := q2
            have q3 := q3 rfl
            replace q3 : _ = (0 : Int) + (1 * ρ 2 + 0) := q3
            have q4 := q4 rfl
            replace q4 : _ = (0 : Int) + (1 * ρ 3 + 0) := q4
            have q5 := q5 rfl
            replace q5 : _ = (0 : Int) + (1 * ρ 4 + 0) := q5
            obtain ⟨v0, v1, v2, v3, v4, v5, f0, m0⟩ := sg_do24_d0 hok1
            rw [had'] at ha0
            cases ha0
            have ex1 : x1 = pI := Int32.toInt_inj.mp (by omega)
            have ex2 : x2 = used := Int32.toInt_inj.mp (by omega)
            rw [ex1, ex2] at hls1
            exact ihN (by omega) x3 ls1 H1 locs1 ws1 (by omega) hls1 hWo1 (hB.tr hB1 (by decide))
          rcases List.mem_cons.mp ha with rfl | ha
          · skip
            have hvst := hsk.nil
            subst hvst
            obtain ⟨q1, q2, q3, q4, q5, -⟩ := hrel
            have q1 := q1 rfl
            replace q1 : _ = (0 : Int) + (1 * ρ 0 + 0) := q1
            have q2 := q2 rfl
            replace q2 : _ = (0 : Int) + (1 * ρ 1 + 0) := q2
            have q3 := q3 rfl
            replace q3 : _ = (0 : Int) + (1 * ρ 2 + 0) := q3
            have q4 := q4 rfl
            replace q4 : _ = (0 : Int) + (1 * ρ 3 + 0) := q4
            have q5 := q5 rfl
            replace q5 : _ = (0 : Int) + (1 * ρ 4 + 0) := q5
            obtain ⟨v0, v1, v2, v3, v4, v5, v6, v7, v8, f0, m0, m1, r0, r1, r2⟩ := sg_do24_d1 hok1
            omega
          rcases List.mem_cons.mp ha with rfl | ha
          · skip
            have hvst := hsk.nil
            subst hvst
            obtain ⟨q1, q2, q3, q4, q5, -⟩ := hrel
            have q1 := q1 rfl
            replace q1 : _ = (0 : Int) + (1 * ρ 0 + 0) := q1
            have q2 := q2 rfl
            replace q2 : _ = (0 : Int) + (1 * ρ 1 + 0) := q2
            have q3 := q3 rfl
            replace q3 : _ = (0 : Int) + (1 * ρ 2 + 0) := q3
            have q4 := q4 rfl
            replace q4 : _ = (0 : Int) + (1 * ρ 3 + 0) := q4
            have q5 := q5 rfl
            replace q5 : _ = (0 : Int) + (1 * ρ 4 + 0) := q5
            obtain ⟨v0, v1, v2, v3, v4, v5, v6, v7, v8, v9, v10, v11, v12, v13, v14, v15, f0, f1, f2, f3, m0, m1, m2, m3, m4, m5, m6, r0, r1, r2, r3, r4⟩ := sg_do24_d2 hok1
            omega
          rcases List.mem_cons.mp ha with rfl | ha
          · skip
            obtain ⟨y0, z0, hvst⟩ := xh_stk hsk (by decide)
            have z0 : y0.toInt = (0 : Int) + (1 * ρ 4 + 0) := z0
            subst hvst
            obtain ⟨q1, q2, q3, q4, q5, -⟩ := hrel
            have q1 := q1 rfl
            replace q1 : _ = (0 : Int) + (1 * ρ 0 + 0) := q1
            have q2 := q2 rfl
            replace q2 : _ = (0 : Int) + (1 * ρ 1 + 0) := q2
            have q3 := q3 rfl
            replace q3 : _ = (0 : Int) + (1 * ρ 2 + 0) := q3
            have q4 := q4 rfl
            replace q4 : _ = (0 : Int) + (1 * ρ 3 + 0) := q4
            have q5 := q5 rfl
            replace q5 : _ = (0 : Int) + (1 * ρ 4 + 0) := q5
            obtain ⟨v0, v1, v2, v3, v4, v5, v6, v7, v8, v9, v10, v11, v12, v13, v14, v15, f0, f1, f2, f3, f4, f5, m0, m1, m2, m3, m4, m5, m6, r0, r1, r2, r3⟩ := sg_do24_d3 hok1
            omega
          rcases List.mem_cons.mp ha with rfl | ha
          · skip
            have hvst := hsk.nil
            subst hvst
            obtain ⟨q1, q2, q3, q4, q5, -⟩ := hrel
            have q1 := q1 rfl
            replace q1 : _ = (0 : Int) + (1 * ρ 0 + 0) := q1
            have q2 := q2 rfl
            replace q2 : _ = (0 : Int) + (1 * ρ 1 + 0) := q2
            have q3 := q3 rfl
            replace q3 : _ = (0 : Int) + (1 * ρ 2 + 0) := q3
            have q4 := q4 rfl
            replace q4 : _ = (0 : Int) + (1 * ρ 3 + 0) := q4
            have q5 := q5 rfl
            replace q5 : _ = (0 : Int) + (1 * ρ 4 + 0) := q5
            obtain ⟨v0, v1, v2, v3, v4, v5, v6, v7, v8, v9, v10, v11, f0, f1, f2, f3, m0, m1, m2, m3, r0, r1, r2, r3⟩ := sg_do24_d4 hok1
            omega
          rcases List.mem_cons.mp ha with rfl | ha
          · skip
            obtain ⟨y0, z0, hvst⟩ := xh_stk hsk (by decide)
            have z0 : y0.toInt = (0 : Int) + (1 * ρ 4 + 0) := z0
            subst hvst
            obtain ⟨q1, q2, q3, q4, q5, -⟩ := hrel
            have q1 := q1 rfl
            replace q1 : _ = (0 : Int) + (1 * ρ 0 + 0) := q1
            have q2 := q2 rfl
            replace q2 : _ = (0 : Int) + (1 * ρ 1 + 0) := q2
            have q3 := q3 rfl
            replace q3 : _ = (0 : Int) + (1 * ρ 2 + 0) := q3
            have q4 := q4 rfl
            replace q4 : _ = (0 : Int) + (1 * ρ 3 + 0) := q4
            have q5 := q5 rfl
            replace q5 : _ = (0 : Int) + (1 * ρ 4 + 0) := q5
            obtain ⟨v0, v1, v2, v3, v4, v5, v6, v7, v8, v9, v10, v11, f0, f1, f2, f3, f4, f5, m0, m1, m2, m3, r0, r1, r2⟩ := sg_do24_d5 hok1
            omega
          rcases List.mem_cons.mp ha with rfl | ha
          · skip
            have hvst := hsk.nil
            subst hvst
            obtain ⟨q1, q2, q3, q4, q5, -⟩ := hrel
            have q1 := q1 rfl
            replace q1 : _ = (0 : Int) + (1 * ρ 0 + 0) := q1
            have q2 := q2 rfl
            replace q2 : _ = (0 : Int) + (1 * ρ 1 + 0) := q2
            have q3 := q3 rfl
            replace q3 : _ = (0 : Int) + (1 * ρ 2 + 0) := q3
            have q4 := q4 rfl
            replace q4 : _ = (0 : Int) + (1 * ρ 3 + 0) := q4
            have q5 := q5 rfl
            replace q5 : _ = (0 : Int) + (1 * ρ 4 + 0) := q5
            obtain ⟨v0, v1, v2, v3, v4, v5, v6, v7, f0, m0, r0, r1⟩ := sg_do24_d6 hok1
            omega
          cases ha
        | succ M ihM =>
          intro qI ls H locs ws' hM hq hqk hls hWo hB
          have had' : (ws'.map Prod.fst)[102]? = some ad := by rw [hB.2.2]; exact had
          refine xh_seg2 (vl := [.ref ad, .int pI, .int used, .int kI, .int penI, .int qI]) (vk := []) sg_do24 C (hCG _ rfl) hR hCS hnm xz_nar hfull (by decide) rfl hWo ⟨Or.inr (Or.inr (Or.inl ⟨rfl, ad, had', rfl⟩)), Or.inl ⟨rfl, pI, rfl, by show (0 : Int) ≤ _; omega, by show _ ≤ (6 : Int); omega⟩, Or.inl ⟨rfl, used, rfl, by show (0 : Int) ≤ _; omega, by show _ ≤ (127 : Int); omega⟩, Or.inl ⟨rfl, kI, rfl, by show (0 : Int) ≤ _; omega, by show _ ≤ (8 : Int); omega⟩, Or.inl ⟨rfl, penI, rfl, by show ((-1) : Int) ≤ _; omega, by show _ ≤ (7 : Int); omega⟩, Or.inl ⟨rfl, qI, rfl, by show (0 : Int) ≤ _; omega, by show _ ≤ (7 : Int); omega⟩, True.intro⟩ (fun _ h => by cases h) hls ?_
          intro a ha ρ n' ls1 vst H1 locs1 ws1 hWo1 hB1 hlv hsk hrel hok1
          rw [(by decide : ∀ a ∈ sg_do24_r, a.2.2.2.2.2.2.2 = []) a ha] at hB1
          rw [xo_B0 hB1, xo_B0 hB] at hok1
          rcases List.mem_cons.mp ha with rfl | ha
          · skip
            have hvst := hsk.nil
            subst hvst
            obtain ⟨q1, q2, q3, q4, q5, -⟩ := hrel
            have q1 := q1 rfl
            replace q1 : _ = (0 : Int) + (1 * ρ 0 + 0) := q1
            have q2 := q2 rfl
            replace q2 : _ = (0 : Int) + (1 * ρ 1 + 0) := q2
            have q3 := q3 rfl
            replace q3 : _ = (0 : Int) + (1 * ρ 2 + 0) := q3
            have q4 := q4 rfl
            replace q4 : _ = (0 : Int) + (1 * ρ 3 + 0) := q4
            have q5 := q5 rfl
            replace q5 : _ = (0 : Int) + (1 * ρ 4 + 0) := q5
            obtain ⟨v0, v1, v2, v3, v4, v5, f0, m0⟩ := sg_do24_d0 hok1
            omega
          rcases List.mem_cons.mp ha with rfl | ha
          · skip
            obtain ⟨ad0, ha0, x1, e1, x2, e2, x3, e3, x4, e4, x5, e5, hls1⟩ := xh_locs hlv 6 (by decide)
            replace ha0 : (List.map Prod.fst _)[(102 : Nat)]? = some ad0 := ha0
            have e1 : x1.toInt = (0 : Int) + (1 * ρ 0 + 0) := e1
            have e2 : x2.toInt = (0 : Int) + (1 * ρ 1 + 0) := e2
            have e3 : x3.toInt = (0 : Int) + (1 * ρ 2 + 0) := e3
            have e4 : x4.toInt = (0 : Int) + (1 * ρ 3 + 0) := e4
            have e5 : x5.toInt = (1 : Int) + (1 * ρ 4 + 0) := e5
            have hvst := hsk.nil
            subst hvst
            obtain ⟨q1, q2, q3, q4, q5, -⟩ := hrel
            have q1 := q1 rfl
            replace q1 : _ = (0 : Int) + (1 * ρ 0 + 0) := q1
            have q2 := q2 rfl
            replace q2 : _ = (0 : Int) + (1 * ρ 1 + 0) := q2
            have q3 := q3 rfl
            replace q3 : _ = (0 : Int) + (1 * ρ 2 + 0) := q3
            have q4 := q4 rfl
            replace q4 : _ = (0 : Int) + (1 * ρ 3 + 0) := q4
            have q5 := q5 rfl
            replace q5 : _ = (0 : Int) + (1 * ρ 4 + 0) := q5
            obtain ⟨v0, v1, v2, v3, v4, v5, v6, v7, v8, f0, m0, m1, r0, r1, r2⟩ := sg_do24_d1 hok1
            rw [had'] at ha0
            cases ha0
            have ex1 : x1 = pI := Int32.toInt_inj.mp (by omega)
            have ex2 : x2 = used := Int32.toInt_inj.mp (by omega)
            have ex3 : x3 = kI := Int32.toInt_inj.mp (by omega)
            have ex4 : x4 = penI := Int32.toInt_inj.mp (by omega)
            rw [ex1, ex2, ex3, ex4] at hls1
            have hbit : used.toInt / 2 ^ qI.toInt.toNat % 2 = ρ 7 := by rw [r1.2, show ρ 1 = used.toInt by omega, show ρ 4 = qI.toInt by omega]
            have hg : xo_N (xw_mu xs ws) 118 qI.toInt = ρ 8 := by rw [← m0]; congr 1; omega
            refine ihM x5 ls1 H1 locs1 ws1 (by omega) (by omega) (fun hkk => ?_) hls1 hWo1 (hB.tr hB1 (by decide))
            have hle := hqk hkk
            by_cases hqq : qI.toInt = q0
            · exfalso
              rw [hqq] at hg
              exact r0 (by omega)
            · omega
          rcases List.mem_cons.mp ha with rfl | ha
          · skip
            obtain ⟨ad0, ha0, x1, e1, x2, e2, x3, e3, x4, e4, x5, e5, hls1⟩ := xh_locs hlv 6 (by decide)
            replace ha0 : (List.map Prod.fst _)[(102 : Nat)]? = some ad0 := ha0
            have e1 : x1.toInt = (0 : Int) + (1 * ρ 0 + 0) := e1
            have e2 : x2.toInt = (0 : Int) + (1 * ρ 1 + 0) := e2
            have e3 : x3.toInt = (0 : Int) + (1 * ρ 2 + 0) := e3
            have e4 : x4.toInt = (0 : Int) + (1 * ρ 3 + 0) := e4
            have e5 : x5.toInt = (1 : Int) + (1 * ρ 4 + 0) := e5
            have hvst := hsk.nil
            subst hvst
            obtain ⟨q1, q2, q3, q4, q5, -⟩ := hrel
            have q1 := q1 rfl
            replace q1 : _ = (0 : Int) + (1 * ρ 0 + 0) := q1
            have q2 := q2 rfl
            replace q2 : _ = (0 : Int) + (1 * ρ 1 + 0) := q2
            have q3 := q3 rfl
            replace q3 : _ = (0 : Int) + (1 * ρ 2 + 0) := q3
            have q4 := q4 rfl
            replace q4 : _ = (0 : Int) + (1 * ρ 3 + 0) := q4
            have q5 := q5 rfl
            replace q5 : _ = (0 : Int) + (1 * ρ 4 + 0) := q5
            obtain ⟨v0, v1, v2, v3, v4, v5, v6, v7, v8, v9, v10, v11, v12, v13, v14, v15, f0, f1, f2, f3, m0, m1, m2, m3, m4, m5, m6, r0, r1, r2, r3, r4⟩ := sg_do24_d2 hok1
            rw [had'] at ha0
            cases ha0
            have ex1 : x1 = pI := Int32.toInt_inj.mp (by omega)
            have ex2 : x2 = used := Int32.toInt_inj.mp (by omega)
            have ex3 : x3 = kI := Int32.toInt_inj.mp (by omega)
            have ex4 : x4 = penI := Int32.toInt_inj.mp (by omega)
            rw [ex1, ex2, ex3, ex4] at hls1
            have hbit : used.toInt / 2 ^ qI.toInt.toNat % 2 = ρ 7 := by rw [r3.2, show ρ 1 = used.toInt by omega, show ρ 4 = qI.toInt by omega]
            have hg : xo_N (xw_mu xs ws) 118 qI.toInt = ρ 8 := by rw [← m5]; congr 1; omega
            have hpv : ρ 13 = 2 ^ qI.toInt.toNat := by rw [r1.2]; congr 1; omega
            have hV : xo_N (xw_mu xs ws) 120 (128 * (pI.toInt + 1) + (used.toInt + 2 ^ qI.toInt.toNat)) = ρ 14 := by rw [← m1]; congr 1; omega
            have hU : xo_N (xw_mu xs ws) 120 (128 * pI.toInt + used.toInt) = ρ 15 := by rw [← m0]; congr 1; omega
            have hcst : xo_cst (xw_mu xs ws) pI.toInt (ρ 3) = ρ 11 + ρ 12 := by
              unfold xo_cst
              rw [if_neg (by omega), show (12 * pI.toInt + 3 : Int) = 3 + 12 * ρ 0 by omega, show (12 * pI.toInt + 4 + ρ 3 : Int) = 4 + 12 * ρ 0 + ρ 3 by omega, m4, m3, m2, r2]
            have hg3 : xo_N (xw_mu xs ws) 118 qI.toInt = ρ 3 := by rw [hg]; omega
            refine ihM x5 ls1 H1 locs1 ws1 (by omega) (by omega) (fun hkk => ?_) hls1 hWo1 (hB.tr hB1 (by decide))
            have hle := hqk hkk
            by_cases hqq : qI.toInt = q0
            · exfalso
              obtain ⟨-, -, -, -, hqe⟩ := hq0
              rw [← hqq, hg3, hcst, hV, hU] at hqe
              exact r0 (by omega)
            · omega
          rcases List.mem_cons.mp ha with rfl | ha
          · skip
            obtain ⟨y0, z0, hvst⟩ := xh_stk hsk (by decide)
            have z0 : y0.toInt = (0 : Int) + (1 * ρ 4 + 0) := z0
            subst hvst
            obtain ⟨q1, q2, q3, q4, q5, -⟩ := hrel
            have q1 := q1 rfl
            replace q1 : _ = (0 : Int) + (1 * ρ 0 + 0) := q1
            have q2 := q2 rfl
            replace q2 : _ = (0 : Int) + (1 * ρ 1 + 0) := q2
            have q3 := q3 rfl
            replace q3 : _ = (0 : Int) + (1 * ρ 2 + 0) := q3
            have q4 := q4 rfl
            replace q4 : _ = (0 : Int) + (1 * ρ 3 + 0) := q4
            have q5 := q5 rfl
            replace q5 : _ = (0 : Int) + (1 * ρ 4 + 0) := q5
            obtain ⟨v0, v1, v2, v3, v4, v5, v6, v7, v8, v9, v10, v11, v12, v13, v14, v15, f0, f1, f2, f3, f4, f5, m0, m1, m2, m3, m4, m5, m6, r0, r1, r2, r3⟩ := sg_do24_d3 hok1
            have hbit : used.toInt / 2 ^ qI.toInt.toNat % 2 = ρ 7 := by rw [r2.2, show ρ 1 = used.toInt by omega, show ρ 4 = qI.toInt by omega]
            have hg : xo_N (xw_mu xs ws) 118 qI.toInt = ρ 8 := by rw [← m5]; congr 1; omega
            have hpv : ρ 13 = 2 ^ qI.toInt.toNat := by rw [r0.2]; congr 1; omega
            have hV : xo_N (xw_mu xs ws) 120 (128 * (pI.toInt + 1) + (used.toInt + 2 ^ qI.toInt.toNat)) = ρ 14 := by rw [← m1]; congr 1; omega
            have hU : xo_N (xw_mu xs ws) 120 (128 * pI.toInt + used.toInt) = ρ 15 := by rw [← m0]; congr 1; omega
            have hcst : xo_cst (xw_mu xs ws) pI.toInt (ρ 3) = ρ 11 + ρ 12 := by
              unfold xo_cst
              rw [if_neg (by omega), show (12 * pI.toInt + 3 : Int) = 3 + 12 * ρ 0 by omega, show (12 * pI.toInt + 4 + ρ 3 : Int) = 4 + 12 * ρ 0 + ρ 3 by omega, m4, m3, m2, r1]
            have hg3 : xo_N (xw_mu xs ws) 118 qI.toInt = ρ 3 := by rw [hg]; omega
            refine hiret 100 _ _ _ _ _ (hrt (n := 59) rfl) (xh_dec hfull 59 (e := (100, .ireturn, 1, 0, 0, 0, 0)) rfl) hWo1 (hB.tr hB1 (by decide)) ⟨y0, rfl, ?_⟩
            rw [show y0.toInt = qI.toInt by omega]
            refine ⟨by omega, by omega, by omega, by rw [hbit]; omega, ?_⟩
            rw [hg3, hcst, hV, hU]; omega
          rcases List.mem_cons.mp ha with rfl | ha
          · skip
            obtain ⟨ad0, ha0, x1, e1, x2, e2, x3, e3, x4, e4, x5, e5, hls1⟩ := xh_locs hlv 6 (by decide)
            replace ha0 : (List.map Prod.fst _)[(102 : Nat)]? = some ad0 := ha0
            have e1 : x1.toInt = (0 : Int) + (1 * ρ 0 + 0) := e1
            have e2 : x2.toInt = (0 : Int) + (1 * ρ 1 + 0) := e2
            have e3 : x3.toInt = (0 : Int) + (1 * ρ 2 + 0) := e3
            have e4 : x4.toInt = (0 : Int) + (1 * ρ 3 + 0) := e4
            have e5 : x5.toInt = (1 : Int) + (1 * ρ 4 + 0) := e5
            have hvst := hsk.nil
            subst hvst
            obtain ⟨q1, q2, q3, q4, q5, -⟩ := hrel
            have q1 := q1 rfl
            replace q1 : _ = (0 : Int) + (1 * ρ 0 + 0) := q1
            have q2 := q2 rfl
            replace q2 : _ = (0 : Int) + (1 * ρ 1 + 0) := q2
            have q3 := q3 rfl
            replace q3 : _ = (0 : Int) + (1 * ρ 2 + 0) := q3
            have q4 := q4 rfl
            replace q4 : _ = (0 : Int) + (1 * ρ 3 + 0) := q4
            have q5 := q5 rfl
            replace q5 : _ = (0 : Int) + (1 * ρ 4 + 0) := q5
            obtain ⟨v0, v1, v2, v3, v4, v5, v6, v7, v8, v9, v10, v11, f0, f1, f2, f3, m0, m1, m2, m3, r0, r1, r2, r3⟩ := sg_do24_d4 hok1
            rw [had'] at ha0
            cases ha0
            have ex1 : x1 = pI := Int32.toInt_inj.mp (by omega)
            have ex2 : x2 = used := Int32.toInt_inj.mp (by omega)
            have ex3 : x3 = kI := Int32.toInt_inj.mp (by omega)
            have ex4 : x4 = penI := Int32.toInt_inj.mp (by omega)
            rw [ex1, ex2, ex3, ex4] at hls1
            have hbit : used.toInt / 2 ^ qI.toInt.toNat % 2 = ρ 7 := by rw [r2.2, show ρ 1 = used.toInt by omega, show ρ 4 = qI.toInt by omega]
            have hg : xo_N (xw_mu xs ws) 118 qI.toInt = ρ 8 := by rw [← m2]; congr 1; omega
            have hpv : ρ 9 = 2 ^ qI.toInt.toNat := by rw [r1.2]; congr 1; omega
            have hV : xo_N (xw_mu xs ws) 120 (128 * (pI.toInt + 1) + (used.toInt + 2 ^ qI.toInt.toNat)) = ρ 10 := by rw [← m1]; congr 1; omega
            have hU : xo_N (xw_mu xs ws) 120 (128 * pI.toInt + used.toInt) = ρ 11 := by rw [← m0]; congr 1; omega
            have hcst : xo_cst (xw_mu xs ws) pI.toInt (ρ 3) = 0 := by
              unfold xo_cst
              rw [if_pos (by omega)]
            have hg3 : xo_N (xw_mu xs ws) 118 qI.toInt = ρ 3 := by rw [hg]; omega
            refine ihM x5 ls1 H1 locs1 ws1 (by omega) (by omega) (fun hkk => ?_) hls1 hWo1 (hB.tr hB1 (by decide))
            have hle := hqk hkk
            by_cases hqq : qI.toInt = q0
            · exfalso
              obtain ⟨-, -, -, -, hqe⟩ := hq0
              rw [← hqq, hg3, hcst, hV, hU] at hqe
              exact r0 (by omega)
            · omega
          rcases List.mem_cons.mp ha with rfl | ha
          · skip
            obtain ⟨y0, z0, hvst⟩ := xh_stk hsk (by decide)
            have z0 : y0.toInt = (0 : Int) + (1 * ρ 4 + 0) := z0
            subst hvst
            obtain ⟨q1, q2, q3, q4, q5, -⟩ := hrel
            have q1 := q1 rfl
            replace q1 : _ = (0 : Int) + (1 * ρ 0 + 0) := q1
            have q2 := q2 rfl
            replace q2 : _ = (0 : Int) + (1 * ρ 1 + 0) := q2
            have q3 := q3 rfl
            replace q3 : _ = (0 : Int) + (1 * ρ 2 + 0) := q3
            have q4 := q4 rfl
            replace q4 : _ = (0 : Int) + (1 * ρ 3 + 0) := q4
            have q5 := q5 rfl
            replace q5 : _ = (0 : Int) + (1 * ρ 4 + 0) := q5
            obtain ⟨v0, v1, v2, v3, v4, v5, v6, v7, v8, v9, v10, v11, f0, f1, f2, f3, f4, f5, m0, m1, m2, m3, r0, r1, r2⟩ := sg_do24_d5 hok1
            have hbit : used.toInt / 2 ^ qI.toInt.toNat % 2 = ρ 7 := by rw [r1.2, show ρ 1 = used.toInt by omega, show ρ 4 = qI.toInt by omega]
            have hg : xo_N (xw_mu xs ws) 118 qI.toInt = ρ 8 := by rw [← m2]; congr 1; omega
            have hpv : ρ 9 = 2 ^ qI.toInt.toNat := by rw [r0.2]; congr 1; omega
            have hV : xo_N (xw_mu xs ws) 120 (128 * (pI.toInt + 1) + (used.toInt + 2 ^ qI.toInt.toNat)) = ρ 10 := by rw [← m1]; congr 1; omega
            have hU : xo_N (xw_mu xs ws) 120 (128 * pI.toInt + used.toInt) = ρ 11 := by rw [← m0]; congr 1; omega
            have hcst : xo_cst (xw_mu xs ws) pI.toInt (ρ 3) = 0 := by
              unfold xo_cst
              rw [if_pos (by omega)]
            have hg3 : xo_N (xw_mu xs ws) 118 qI.toInt = ρ 3 := by rw [hg]; omega
            refine hiret 100 _ _ _ _ _ (hrt (n := 59) rfl) (xh_dec hfull 59 (e := (100, .ireturn, 1, 0, 0, 0, 0)) rfl) hWo1 (hB.tr hB1 (by decide)) ⟨y0, rfl, ?_⟩
            rw [show y0.toInt = qI.toInt by omega]
            refine ⟨by omega, by omega, by omega, by rw [hbit]; omega, ?_⟩
            rw [hg3, hcst, hV, hU]; omega
          rcases List.mem_cons.mp ha with rfl | ha
          · skip
            obtain ⟨ad0, ha0, x1, e1, x2, e2, x3, e3, x4, e4, x5, e5, hls1⟩ := xh_locs hlv 6 (by decide)
            replace ha0 : (List.map Prod.fst _)[(102 : Nat)]? = some ad0 := ha0
            have e1 : x1.toInt = (0 : Int) + (1 * ρ 0 + 0) := e1
            have e2 : x2.toInt = (0 : Int) + (1 * ρ 1 + 0) := e2
            have e3 : x3.toInt = (0 : Int) + (1 * ρ 2 + 0) := e3
            have e4 : x4.toInt = (0 : Int) + (1 * ρ 3 + 0) := e4
            have e5 : x5.toInt = (1 : Int) + (1 * ρ 4 + 0) := e5
            have hvst := hsk.nil
            subst hvst
            obtain ⟨q1, q2, q3, q4, q5, -⟩ := hrel
            have q1 := q1 rfl
            replace q1 : _ = (0 : Int) + (1 * ρ 0 + 0) := q1
            have q2 := q2 rfl
            replace q2 : _ = (0 : Int) + (1 * ρ 1 + 0) := q2
            have q3 := q3 rfl
            replace q3 : _ = (0 : Int) + (1 * ρ 2 + 0) := q3
            have q4 := q4 rfl
            replace q4 : _ = (0 : Int) + (1 * ρ 3 + 0) := q4
            have q5 := q5 rfl
            replace q5 : _ = (0 : Int) + (1 * ρ 4 + 0) := q5
            obtain ⟨v0, v1, v2, v3, v4, v5, v6, v7, f0, m0, r0, r1⟩ := sg_do24_d6 hok1
            rw [had'] at ha0
            cases ha0
            have ex1 : x1 = pI := Int32.toInt_inj.mp (by omega)
            have ex2 : x2 = used := Int32.toInt_inj.mp (by omega)
            have ex3 : x3 = kI := Int32.toInt_inj.mp (by omega)
            have ex4 : x4 = penI := Int32.toInt_inj.mp (by omega)
            rw [ex1, ex2, ex3, ex4] at hls1
            have hbit : used.toInt / 2 ^ qI.toInt.toNat % 2 = ρ 7 := by rw [r0.2, show ρ 1 = used.toInt by omega, show ρ 4 = qI.toInt by omega]
            refine ihM x5 ls1 H1 locs1 ws1 (by omega) (by omega) (fun hkk => ?_) hls1 hWo1 (hB.tr hB1 (by decide))
            have hle := hqk hkk
            by_cases hqq : qI.toInt = q0
            · exfalso
              obtain ⟨-, -, -, hc, -⟩ := hq0
              rw [← hqq, hbit] at hc
              omega
            · omega
          cases ha
      refine xh_seg2 (vl := [.ref ad, .int pI, .int used, .int kI]) (vk := []) sg_do2 C (hCG _ rfl) hR hCS hnm xz_nar hfull (by decide) rfl hWo ⟨Or.inr (Or.inr (Or.inl ⟨rfl, ad, had', rfl⟩)), Or.inl ⟨rfl, pI, rfl, by show (0 : Int) ≤ _; omega, by show _ ≤ (6 : Int); omega⟩, Or.inl ⟨rfl, used, rfl, by show (0 : Int) ≤ _; omega, by show _ ≤ (127 : Int); omega⟩, Or.inl ⟨rfl, kI, rfl, by show (0 : Int) ≤ _; omega, by show _ ≤ (9 : Int); omega⟩, True.intro⟩ (fun _ h => by cases h) hls ?_
      intro a ha ρ n' ls1 vst H1 locs1 ws1 hWo1 hB1 hlv hsk hrel hok1
      rcases List.mem_cons.mp ha with rfl | ha
      · skip
        obtain ⟨y0, z0, hvst⟩ := xh_stk hsk (by decide)
        have z0 : y0.toInt = ((-1) : Int) + 0 := z0
        subst hvst
        obtain ⟨q1, q2, q3, -⟩ := hrel
        have q1 := q1 rfl
        replace q1 : _ = (0 : Int) + (1 * ρ 0 + 0) := q1
        have q2 := q2 rfl
        replace q2 : _ = (0 : Int) + (1 * ρ 1 + 0) := q2
        have q3 := q3 rfl
        replace q3 : _ = (0 : Int) + (1 * ρ 2 + 0) := q3
        obtain ⟨v0, v1, v2⟩ := sg_do2_d0 hok1
        omega
      rcases List.mem_cons.mp ha with rfl | ha
      · skip
        obtain ⟨ad0, ha0, x1, e1, x2, e2, x3, e3, x4, e4, x5, e5, hls1⟩ := xh_locs hlv 6 (by decide)
        replace ha0 : (List.map Prod.fst _)[(102 : Nat)]? = some ad0 := ha0
        have e1 : x1.toInt = (0 : Int) + (1 * ρ 0 + 0) := e1
        have e2 : x2.toInt = (0 : Int) + (1 * ρ 1 + 0) := e2
        have e3 : x3.toInt = (0 : Int) + (1 * ρ 2 + 0) := e3
        have e4 : x4.toInt = (0 : Int) + (1 * ρ 2 + 0) := e4
        have e5 : x5.toInt = (0 : Int) + 0 := e5
        have hvst := hsk.nil
        subst hvst
        obtain ⟨q1, q2, q3, -⟩ := hrel
        have q1 := q1 rfl
        replace q1 : _ = (0 : Int) + (1 * ρ 0 + 0) := q1
        have q2 := q2 rfl
        replace q2 : _ = (0 : Int) + (1 * ρ 1 + 0) := q2
        have q3 := q3 rfl
        replace q3 : _ = (0 : Int) + (1 * ρ 2 + 0) := q3
        obtain ⟨v0, v1, v2⟩ := sg_do2_d1 hok1
        rw [had'] at ha0
        cases ha0
        have ex1 : x1 = pI := Int32.toInt_inj.mp (by omega)
        have ex2 : x2 = used := Int32.toInt_inj.mp (by omega)
        have ex3 : x3 = kI := Int32.toInt_inj.mp (by omega)
        rw [ex1, ex2, ex3] at hls1
        exact k24 x4 (Or.inr ⟨by omega, by omega⟩) n.toNat x5 ls1 H1 locs1 ws1 (by omega) (by omega) (fun _ => by omega) hls1 hWo1 (hB.tr hB1 (by decide))
      rcases List.mem_cons.mp ha with rfl | ha
      · skip
        obtain ⟨ad0, ha0, x1, e1, x2, e2, x3, e3, x4, e4, x5, e5, hls1⟩ := xh_locs hlv 6 (by decide)
        replace ha0 : (List.map Prod.fst _)[(102 : Nat)]? = some ad0 := ha0
        have e1 : x1.toInt = (0 : Int) + (1 * ρ 0 + 0) := e1
        have e2 : x2.toInt = (0 : Int) + (1 * ρ 1 + 0) := e2
        have e3 : x3.toInt = (0 : Int) + (1 * ρ 2 + 0) := e3
        have e4 : x4.toInt = ((-1) : Int) + 0 := e4
        have e5 : x5.toInt = (0 : Int) + 0 := e5
        have hvst := hsk.nil
        subst hvst
        obtain ⟨q1, q2, q3, -⟩ := hrel
        have q1 := q1 rfl
        replace q1 : _ = (0 : Int) + (1 * ρ 0 + 0) := q1
        have q2 := q2 rfl
        replace q2 : _ = (0 : Int) + (1 * ρ 1 + 0) := q2
        have q3 := q3 rfl
        replace q3 : _ = (0 : Int) + (1 * ρ 2 + 0) := q3
        obtain ⟨v0, v1, v2⟩ := sg_do2_d2 hok1
        rw [had'] at ha0
        cases ha0
        have ex1 : x1 = pI := Int32.toInt_inj.mp (by omega)
        have ex2 : x2 = used := Int32.toInt_inj.mp (by omega)
        have ex3 : x3 = kI := Int32.toInt_inj.mp (by omega)
        rw [ex1, ex2, ex3] at hls1
        exact k24 x4 (Or.inl ⟨by omega, by omega⟩) n.toNat x5 ls1 H1 locs1 ws1 (by omega) (by omega) (fun _ => by omega) hls1 hWo1 (hB.tr hB1 (by decide))
      cases ha
    | succ N ih =>
      intro kI ls H locs ws' hN hk hls hWo hB
      have ihN : kI.toInt < k0 → ∀ (kI' : Int32) (ls : Array Slot) (H : Heap) (locs : List Loc) (ws' : va_W), kI'.toInt = kI.toInt + 1 → lv_has ls 6 (lv_args 0 [.ref ad, .int pI, .int used, .int kI']) → xh_Wo D t (va_A ws sz) s.heap xz_hl xz_G X xs H locs ws' → xh_B xs [] ws ws' → W p l e R s m args below meth c H locs 0 0 Q (F0 m 2 ls []) := fun h kI' ls H locs ws' h1 h2 h3 h4 => ih kI' ls H locs ws' (by omega) (by omega) h2 h3 h4
      have had' : (ws'.map Prod.fst)[102]? = some ad := by rw [hB.2.2]; exact had
      have k24 : ∀ (penI : Int32), (kI.toInt = 8 ∧ penI.toInt = -1) ∨ (kI.toInt ≤ 7 ∧ penI.toInt = kI.toInt) → ∀ (M : Nat) (qI : Int32) (ls : Array Slot) (H : Heap) (locs : List Loc) (ws' : va_W), qI.toInt + (M : Int) = n → 0 ≤ qI.toInt → (kI.toInt = k0 → qI.toInt ≤ q0) → lv_has ls 6 (lv_args 0 [.ref ad, .int pI, .int used, .int kI, .int penI, .int qI]) → xh_Wo D t (va_A ws sz) s.heap xz_hl xz_G X xs H locs ws' → xh_B xs [] ws ws' →
          W p l e R s m args below meth c H locs 0 0 Q (F0 m 24 ls []) := by
        clear hls hWo hB had'
        intro penI hpen M
        induction M with
        | zero =>
          intro qI ls H locs ws' hM hq hqk hls hWo hB
          have had' : (ws'.map Prod.fst)[102]? = some ad := by rw [hB.2.2]; exact had
          refine xh_seg2 (vl := [.ref ad, .int pI, .int used, .int kI, .int penI, .int qI]) (vk := []) sg_do24 C (hCG _ rfl) hR hCS hnm xz_nar hfull (by decide) rfl hWo ⟨Or.inr (Or.inr (Or.inl ⟨rfl, ad, had', rfl⟩)), Or.inl ⟨rfl, pI, rfl, by show (0 : Int) ≤ _; omega, by show _ ≤ (6 : Int); omega⟩, Or.inl ⟨rfl, used, rfl, by show (0 : Int) ≤ _; omega, by show _ ≤ (127 : Int); omega⟩, Or.inl ⟨rfl, kI, rfl, by show (0 : Int) ≤ _; omega, by show _ ≤ (8 : Int); omega⟩, Or.inl ⟨rfl, penI, rfl, by show ((-1) : Int) ≤ _; omega, by show _ ≤ (7 : Int); omega⟩, Or.inl ⟨rfl, qI, rfl, by show (0 : Int) ≤ _; omega, by show _ ≤ (7 : Int); omega⟩, True.intro⟩ (fun _ h => by cases h) hls ?_
          intro a ha ρ n' ls1 vst H1 locs1 ws1 hWo1 hB1 hlv hsk hrel hok1
          rw [(by decide : ∀ a ∈ sg_do24_r, a.2.2.2.2.2.2.2 = []) a ha] at hB1
          rw [xo_B0 hB1, xo_B0 hB] at hok1
          rcases List.mem_cons.mp ha with rfl | ha
          · skip
            obtain ⟨ad0, ha0, x1, e1, x2, e2, x3, e3, hls1⟩ := xh_locs hlv 4 (by decide)
            replace ha0 : (List.map Prod.fst _)[(102 : Nat)]? = some ad0 := ha0
            have e1 : x1.toInt = (0 : Int) + (1 * ρ 0 + 0) := e1
            have e2 : x2.toInt = (0 : Int) + (1 * ρ 1 + 0) := e2
            have e3 : x3.toInt = (1 : Int) + (1 * ρ 2 + 0) := e3
            have hvst := hsk.nil
            subst hvst
            obtain ⟨q1, q2, q3, q4, q5, -⟩ := hrel
            have q1 := q1 rfl
            replace q1 : _ = (0 : Int) + (1 * ρ 0 + 0) := q1
            have q2 := q2 rfl
            replace q2 : _ = (0 : Int) + (1 * ρ 1 + 0) := q2
            have q3 := q3 rfl
            replace q3 : _ = (0 : Int) + (1 * ρ 2 + 0) := q3
            have q4 := q4 rfl
            replace q4 : _ = (0 : Int) + (1 * ρ 3 + 0) := q4
            have q5 := q5 rfl
            replace q5 : _ = (0 : Int) + (1 * ρ 4 + 0) := q5
            obtain ⟨v0, v1, v2, v3, v4, v5, f0, m0⟩ := sg_do24_d0 hok1
            rw [had'] at ha0
            cases ha0
            have ex1 : x1 = pI := Int32.toInt_inj.mp (by omega)
            have ex2 : x2 = used := Int32.toInt_inj.mp (by omega)
            rw [ex1, ex2] at hls1
            exact ihN (by omega) x3 ls1 H1 locs1 ws1 (by omega) hls1 hWo1 (hB.tr hB1 (by decide))
          rcases List.mem_cons.mp ha with rfl | ha
          · skip
            have hvst := hsk.nil
            subst hvst
            obtain ⟨q1, q2, q3, q4, q5, -⟩ := hrel
            have q1 := q1 rfl
            replace q1 : _ = (0 : Int) + (1 * ρ 0 + 0) := q1
            have q2 := q2 rfl
            replace q2 : _ = (0 : Int) + (1 * ρ 1 + 0) := q2
            have q3 := q3 rfl
            replace q3 : _ = (0 : Int) + (1 * ρ 2 + 0) := q3
            have q4 := q4 rfl
            replace q4 : _ = (0 : Int) + (1 * ρ 3 + 0) := q4
            have q5 := q5 rfl
            replace q5 : _ = (0 : Int) + (1 * ρ 4 + 0) := q5
            obtain ⟨v0, v1, v2, v3, v4, v5, v6, v7, v8, f0, m0, m1, r0, r1, r2⟩ := sg_do24_d1 hok1
            omega
          rcases List.mem_cons.mp ha with rfl | ha
          · skip
            have hvst := hsk.nil
            subst hvst
            obtain ⟨q1, q2, q3, q4, q5, -⟩ := hrel
            have q1 := q1 rfl
            replace q1 : _ = (0 : Int) + (1 * ρ 0 + 0) := q1
            have q2 := q2 rfl
            replace q2 : _ = (0 : Int) + (1 * ρ 1 + 0) := q2
            have q3 := q3 rfl
            replace q3 : _ = (0 : Int) + (1 * ρ 2 + 0) := q3
            have q4 := q4 rfl
            replace q4 : _ = (0 : Int) + (1 * ρ 3 + 0) := q4
            have q5 := q5 rfl
            replace q5 : _ = (0 : Int) + (1 * ρ 4 + 0) := q5
            obtain ⟨v0, v1, v2, v3, v4, v5, v6, v7, v8, v9, v10, v11, v12, v13, v14, v15, f0, f1, f2, f3, m0, m1, m2, m3, m4, m5, m6, r0, r1, r2, r3, r4⟩ := sg_do24_d2 hok1
            omega
          rcases List.mem_cons.mp ha with rfl | ha
          · skip
            obtain ⟨y0, z0, hvst⟩ := xh_stk hsk (by decide)
            have z0 : y0.toInt = (0 : Int) + (1 * ρ 4 + 0) := z0
            subst hvst
            obtain ⟨q1, q2, q3, q4, q5, -⟩ := hrel
            have q1 := q1 rfl
            replace q1 : _ = (0 : Int) + (1 * ρ 0 + 0) := q1
            have q2 := q2 rfl
            replace q2 : _ = (0 : Int) + (1 * ρ 1 + 0) := q2
            have q3 := q3 rfl
            replace q3 : _ = (0 : Int) + (1 * ρ 2 + 0) := q3
            have q4 := q4 rfl
            replace q4 : _ = (0 : Int) + (1 * ρ 3 + 0) := q4
            have q5 := q5 rfl
            replace q5 : _ = (0 : Int) + (1 * ρ 4 + 0) := q5
            obtain ⟨v0, v1, v2, v3, v4, v5, v6, v7, v8, v9, v10, v11, v12, v13, v14, v15, f0, f1, f2, f3, f4, f5, m0, m1, m2, m3, m4, m5, m6, r0, r1, r2, r3⟩ := sg_do24_d3 hok1
            omega
          rcases List.mem_cons.mp ha with rfl | ha
          · skip
            have hvst := hsk.nil
            subst hvst
            obtain ⟨q1, q2, q3, q4, q5, -⟩ := hrel
            have q1 := q1 rfl
            replace q1 : _ = (0 : Int) + (1 * ρ 0 + 0) := q1
            have q2 := q2 rfl
            replace q2 : _ = (0 : Int) + (1 * ρ 1 + 0) := q2
            have q3 := q3 rfl
            replace q3 : _ = (0 : Int) + (1 * ρ 2 + 0) := q3
            have q4 := q4 rfl
            replace q4 : _ = (0 : Int) + (1 * ρ 3 + 0) := q4
            have q5 := q5 rfl
            replace q5 : _ = (0 : Int) + (1 * ρ 4 + 0) := q5
            obtain ⟨v0, v1, v2, v3, v4, v5, v6, v7, v8, v9, v10, v11, f0, f1, f2, f3, m0, m1, m2, m3, r0, r1, r2, r3⟩ := sg_do24_d4 hok1
            omega
          rcases List.mem_cons.mp ha with rfl | ha
          · skip
            obtain ⟨y0, z0, hvst⟩ := xh_stk hsk (by decide)
            have z0 : y0.toInt = (0 : Int) + (1 * ρ 4 + 0) := z0
            subst hvst
            obtain ⟨q1, q2, q3, q4, q5, -⟩ := hrel
            have q1 := q1 rfl
            replace q1 : _ = (0 : Int) + (1 * ρ 0 + 0) := q1
            have q2 := q2 rfl
            replace q2 : _ = (0 : Int) + (1 * ρ 1 + 0) := q2
            have q3 := q3 rfl
            replace q3 : _ = (0 : Int) + (1 * ρ 2 + 0) := q3
            have q4 := q4 rfl
            replace q4 : _ = (0 : Int) + (1 * ρ 3 + 0) := q4
            have q5 := q5 rfl
            replace q5 : _ = (0 : Int) + (1 * ρ 4 + 0) := q5
            obtain ⟨v0, v1, v2, v3, v4, v5, v6, v7, v8, v9, v10, v11, f0, f1, f2, f3, f4, f5, m0, m1, m2, m3, r0, r1, r2⟩ := sg_do24_d5 hok1
            omega
          rcases List.mem_cons.mp ha with rfl | ha
          · skip
            have hvst := hsk.nil
            subst hvst
            obtain ⟨q1, q2, q3, q4, q5, -⟩ := hrel
            have q1 := q1 rfl
            replace q1 : _ = (0 : Int) + (1 * ρ 0 + 0) := q1
            have q2 := q2 rfl
            replace q2 : _ = (0 : Int) + (1 * ρ 1 + 0) := q2
            have q3 := q3 rfl
            replace q3 : _ = (0 : Int) + (1 * ρ 2 + 0) := q3
            have q4 := q4 rfl
            replace q4 : _ = (0 : Int) + (1 * ρ 3 + 0) := q4
            have q5 := q5 rfl
            replace q5 : _ = (0 : Int) + (1 * ρ 4 + 0) := q5
            obtain ⟨v0, v1, v2, v3, v4, v5, v6, v7, f0, m0, r0, r1⟩ := sg_do24_d6 hok1
            omega
          cases ha
        | succ M ihM =>
          intro qI ls H locs ws' hM hq hqk hls hWo hB
          have had' : (ws'.map Prod.fst)[102]? = some ad := by rw [hB.2.2]; exact had
          refine xh_seg2 (vl := [.ref ad, .int pI, .int used, .int kI, .int penI, .int qI]) (vk := []) sg_do24 C (hCG _ rfl) hR hCS hnm xz_nar hfull (by decide) rfl hWo ⟨Or.inr (Or.inr (Or.inl ⟨rfl, ad, had', rfl⟩)), Or.inl ⟨rfl, pI, rfl, by show (0 : Int) ≤ _; omega, by show _ ≤ (6 : Int); omega⟩, Or.inl ⟨rfl, used, rfl, by show (0 : Int) ≤ _; omega, by show _ ≤ (127 : Int); omega⟩, Or.inl ⟨rfl, kI, rfl, by show (0 : Int) ≤ _; omega, by show _ ≤ (8 : Int); omega⟩, Or.inl ⟨rfl, penI, rfl, by show ((-1) : Int) ≤ _; omega, by show _ ≤ (7 : Int); omega⟩, Or.inl ⟨rfl, qI, rfl, by show (0 : Int) ≤ _; omega, by show _ ≤ (7 : Int); omega⟩, True.intro⟩ (fun _ h => by cases h) hls ?_
          intro a ha ρ n' ls1 vst H1 locs1 ws1 hWo1 hB1 hlv hsk hrel hok1
          rw [(by decide : ∀ a ∈ sg_do24_r, a.2.2.2.2.2.2.2 = []) a ha] at hB1
          rw [xo_B0 hB1, xo_B0 hB] at hok1
          rcases List.mem_cons.mp ha with rfl | ha
          · skip
            have hvst := hsk.nil
            subst hvst
            obtain ⟨q1, q2, q3, q4, q5, -⟩ := hrel
            have q1 := q1 rfl
            replace q1 : _ = (0 : Int) + (1 * ρ 0 + 0) := q1
            have q2 := q2 rfl
            replace q2 : _ = (0 : Int) + (1 * ρ 1 + 0) := q2
            have q3 := q3 rfl
            replace q3 : _ = (0 : Int) + (1 * ρ 2 + 0) := q3
            have q4 := q4 rfl
            replace q4 : _ = (0 : Int) + (1 * ρ 3 + 0) := q4
            have q5 := q5 rfl
            replace q5 : _ = (0 : Int) + (1 * ρ 4 + 0) := q5
            obtain ⟨v0, v1, v2, v3, v4, v5, f0, m0⟩ := sg_do24_d0 hok1
            omega
          rcases List.mem_cons.mp ha with rfl | ha
          · skip
            obtain ⟨ad0, ha0, x1, e1, x2, e2, x3, e3, x4, e4, x5, e5, hls1⟩ := xh_locs hlv 6 (by decide)
            replace ha0 : (List.map Prod.fst _)[(102 : Nat)]? = some ad0 := ha0
            have e1 : x1.toInt = (0 : Int) + (1 * ρ 0 + 0) := e1
            have e2 : x2.toInt = (0 : Int) + (1 * ρ 1 + 0) := e2
            have e3 : x3.toInt = (0 : Int) + (1 * ρ 2 + 0) := e3
            have e4 : x4.toInt = (0 : Int) + (1 * ρ 3 + 0) := e4
            have e5 : x5.toInt = (1 : Int) + (1 * ρ 4 + 0) := e5
            have hvst := hsk.nil
            subst hvst
            obtain ⟨q1, q2, q3, q4, q5, -⟩ := hrel
            have q1 := q1 rfl
            replace q1 : _ = (0 : Int) + (1 * ρ 0 + 0) := q1
            have q2 := q2 rfl
            replace q2 : _ = (0 : Int) + (1 * ρ 1 + 0) := q2
            have q3 := q3 rfl
            replace q3 : _ = (0 : Int) + (1 * ρ 2 + 0) := q3
            have q4 := q4 rfl
            replace q4 : _ = (0 : Int) + (1 * ρ 3 + 0) := q4
            have q5 := q5 rfl
            replace q5 : _ = (0 : Int) + (1 * ρ 4 + 0) := q5
            obtain ⟨v0, v1, v2, v3, v4, v5, v6, v7, v8, f0, m0, m1, r0, r1, r2⟩ := sg_do24_d1 hok1
            rw [had'] at ha0
            cases ha0
            have ex1 : x1 = pI := Int32.toInt_inj.mp (by omega)
            have ex2 : x2 = used := Int32.toInt_inj.mp (by omega)
            have ex3 : x3 = kI := Int32.toInt_inj.mp (by omega)
            have ex4 : x4 = penI := Int32.toInt_inj.mp (by omega)
            rw [ex1, ex2, ex3, ex4] at hls1
            have hbit : used.toInt / 2 ^ qI.toInt.toNat % 2 = ρ 7 := by rw [r1.2, show ρ 1 = used.toInt by omega, show ρ 4 = qI.toInt by omega]
            have hg : xo_N (xw_mu xs ws) 118 qI.toInt = ρ 8 := by rw [← m0]; congr 1; omega
            refine ihM x5 ls1 H1 locs1 ws1 (by omega) (by omega) (fun hkk => ?_) hls1 hWo1 (hB.tr hB1 (by decide))
            have hle := hqk hkk
            by_cases hqq : qI.toInt = q0
            · exfalso
              rw [hqq] at hg
              exact r0 (by omega)
            · omega
          rcases List.mem_cons.mp ha with rfl | ha
          · skip
            obtain ⟨ad0, ha0, x1, e1, x2, e2, x3, e3, x4, e4, x5, e5, hls1⟩ := xh_locs hlv 6 (by decide)
            replace ha0 : (List.map Prod.fst _)[(102 : Nat)]? = some ad0 := ha0
            have e1 : x1.toInt = (0 : Int) + (1 * ρ 0 + 0) := e1
            have e2 : x2.toInt = (0 : Int) + (1 * ρ 1 + 0) := e2
            have e3 : x3.toInt = (0 : Int) + (1 * ρ 2 + 0) := e3
            have e4 : x4.toInt = (0 : Int) + (1 * ρ 3 + 0) := e4
            have e5 : x5.toInt = (1 : Int) + (1 * ρ 4 + 0) := e5
            have hvst := hsk.nil
            subst hvst
            obtain ⟨q1, q2, q3, q4, q5, -⟩ := hrel
            have q1 := q1 rfl
            replace q1 : _ = (0 : Int) + (1 * ρ 0 + 0) := q1
            have q2 := q2 rfl
            replace q2 : _ = (0 : Int) + (1 * ρ 1 + 0) := q2
            have q3 := q3 rfl
            replace q3 : _ = (0 : Int) + (1 * ρ 2 + 0) := q3
            have q4 := q4 rfl
            replace q4 : _ = (0 : Int) + (1 * ρ 3 + 0) := q4
            have q5 := q5 rfl
            replace q5 : _ = (0 : Int) + (1 * ρ 4 + 0) := q5
            obtain ⟨v0, v1, v2, v3, v4, v5, v6, v7, v8, v9, v10, v11, v12, v13, v14, v15, f0, f1, f2, f3, m0, m1, m2, m3, m4, m5, m6, r0, r1, r2, r3, r4⟩ := sg_do24_d2 hok1
            rw [had'] at ha0
            cases ha0
            have ex1 : x1 = pI := Int32.toInt_inj.mp (by omega)
            have ex2 : x2 = used := Int32.toInt_inj.mp (by omega)
            have ex3 : x3 = kI := Int32.toInt_inj.mp (by omega)
            have ex4 : x4 = penI := Int32.toInt_inj.mp (by omega)
            rw [ex1, ex2, ex3, ex4] at hls1
            have hbit : used.toInt / 2 ^ qI.toInt.toNat % 2 = ρ 7 := by rw [r3.2, show ρ 1 = used.toInt by omega, show ρ 4 = qI.toInt by omega]
            have hg : xo_N (xw_mu xs ws) 118 qI.toInt = ρ 8 := by rw [← m5]; congr 1; omega
            have hpv : ρ 13 = 2 ^ qI.toInt.toNat := by rw [r1.2]; congr 1; omega
            have hV : xo_N (xw_mu xs ws) 120 (128 * (pI.toInt + 1) + (used.toInt + 2 ^ qI.toInt.toNat)) = ρ 14 := by rw [← m1]; congr 1; omega
            have hU : xo_N (xw_mu xs ws) 120 (128 * pI.toInt + used.toInt) = ρ 15 := by rw [← m0]; congr 1; omega
            have hcst : xo_cst (xw_mu xs ws) pI.toInt (ρ 3) = ρ 11 + ρ 12 := by
              unfold xo_cst
              rw [if_neg (by omega), show (12 * pI.toInt + 3 : Int) = 3 + 12 * ρ 0 by omega, show (12 * pI.toInt + 4 + ρ 3 : Int) = 4 + 12 * ρ 0 + ρ 3 by omega, m4, m3, m2, r2]
            have hg3 : xo_N (xw_mu xs ws) 118 qI.toInt = ρ 3 := by rw [hg]; omega
            refine ihM x5 ls1 H1 locs1 ws1 (by omega) (by omega) (fun hkk => ?_) hls1 hWo1 (hB.tr hB1 (by decide))
            have hle := hqk hkk
            by_cases hqq : qI.toInt = q0
            · exfalso
              obtain ⟨-, -, -, -, hqe⟩ := hq0
              rw [← hqq, hg3, hcst, hV, hU] at hqe
              exact r0 (by omega)
            · omega
          rcases List.mem_cons.mp ha with rfl | ha
          · skip
            obtain ⟨y0, z0, hvst⟩ := xh_stk hsk (by decide)
            have z0 : y0.toInt = (0 : Int) + (1 * ρ 4 + 0) := z0
            subst hvst
            obtain ⟨q1, q2, q3, q4, q5, -⟩ := hrel
            have q1 := q1 rfl
            replace q1 : _ = (0 : Int) + (1 * ρ 0 + 0) := q1
            have q2 := q2 rfl
            replace q2 : _ = (0 : Int) + (1 * ρ 1 + 0) := q2
            have q3 := q3 rfl
            replace q3 : _ = (0 : Int) + (1 * ρ 2 + 0) := q3
            have q4 := q4 rfl
            replace q4 : _ = (0 : Int) + (1 * ρ 3 + 0) := q4
            have q5 := q5 rfl
            replace q5 : _ = (0 : Int) + (1 * ρ 4 + 0) := q5
            obtain ⟨v0, v1, v2, v3, v4, v5, v6, v7, v8, v9, v10, v11, v12, v13, v14, v15, f0, f1, f2, f3, f4, f5, m0, m1, m2, m3, m4, m5, m6, r0, r1, r2, r3⟩ := sg_do24_d3 hok1
            have hbit : used.toInt / 2 ^ qI.toInt.toNat % 2 = ρ 7 := by rw [r2.2, show ρ 1 = used.toInt by omega, show ρ 4 = qI.toInt by omega]
            have hg : xo_N (xw_mu xs ws) 118 qI.toInt = ρ 8 := by rw [← m5]; congr 1; omega
            have hpv : ρ 13 = 2 ^ qI.toInt.toNat := by rw [r0.2]; congr 1; omega
            have hV : xo_N (xw_mu xs ws) 120 (128 * (pI.toInt + 1) + (used.toInt + 2 ^ qI.toInt.toNat)) = ρ 14 := by rw [← m1]; congr 1; omega
            have hU : xo_N (xw_mu xs ws) 120 (128 * pI.toInt + used.toInt) = ρ 15 := by rw [← m0]; congr 1; omega
            have hcst : xo_cst (xw_mu xs ws) pI.toInt (ρ 3) = ρ 11 + ρ 12 := by
              unfold xo_cst
              rw [if_neg (by omega), show (12 * pI.toInt + 3 : Int) = 3 + 12 * ρ 0 by omega, show (12 * pI.toInt + 4 + ρ 3 : Int) = 4 + 12 * ρ 0 + ρ 3 by omega, m4, m3, m2, r1]
            have hg3 : xo_N (xw_mu xs ws) 118 qI.toInt = ρ 3 := by rw [hg]; omega
            refine hiret 100 _ _ _ _ _ (hrt (n := 59) rfl) (xh_dec hfull 59 (e := (100, .ireturn, 1, 0, 0, 0, 0)) rfl) hWo1 (hB.tr hB1 (by decide)) ⟨y0, rfl, ?_⟩
            rw [show y0.toInt = qI.toInt by omega]
            refine ⟨by omega, by omega, by omega, by rw [hbit]; omega, ?_⟩
            rw [hg3, hcst, hV, hU]; omega
          rcases List.mem_cons.mp ha with rfl | ha
          · skip
            obtain ⟨ad0, ha0, x1, e1, x2, e2, x3, e3, x4, e4, x5, e5, hls1⟩ := xh_locs hlv 6 (by decide)
            replace ha0 : (List.map Prod.fst _)[(102 : Nat)]? = some ad0 := ha0
            have e1 : x1.toInt = (0 : Int) + (1 * ρ 0 + 0) := e1
            have e2 : x2.toInt = (0 : Int) + (1 * ρ 1 + 0) := e2
            have e3 : x3.toInt = (0 : Int) + (1 * ρ 2 + 0) := e3
            have e4 : x4.toInt = (0 : Int) + (1 * ρ 3 + 0) := e4
            have e5 : x5.toInt = (1 : Int) + (1 * ρ 4 + 0) := e5
            have hvst := hsk.nil
            subst hvst
            obtain ⟨q1, q2, q3, q4, q5, -⟩ := hrel
            have q1 := q1 rfl
            replace q1 : _ = (0 : Int) + (1 * ρ 0 + 0) := q1
            have q2 := q2 rfl
            replace q2 : _ = (0 : Int) + (1 * ρ 1 + 0) := q2
            have q3 := q3 rfl
            replace q3 : _ = (0 : Int) + (1 * ρ 2 + 0) := q3
            have q4 := q4 rfl
            replace q4 : _ = (0 : Int) + (1 * ρ 3 + 0) := q4
            have q5 := q5 rfl
            replace q5 : _ = (0 : Int) + (1 * ρ 4 + 0) := q5
            obtain ⟨v0, v1, v2, v3, v4, v5, v6, v7, v8, v9, v10, v11, f0, f1, f2, f3, m0, m1, m2, m3, r0, r1, r2, r3⟩ := sg_do24_d4 hok1
            rw [had'] at ha0
            cases ha0
            have ex1 : x1 = pI := Int32.toInt_inj.mp (by omega)
            have ex2 : x2 = used := Int32.toInt_inj.mp (by omega)
            have ex3 : x3 = kI := Int32.toInt_inj.mp (by omega)
            have ex4 : x4 = penI := Int32.toInt_inj.mp (by omega)
            rw [ex1, ex2, ex3, ex4] at hls1
            have hbit : used.toInt / 2 ^ qI.toInt.toNat % 2 = ρ 7 := by rw [r2.2, show ρ 1 = used.toInt by omega, show ρ 4 = qI.toInt by omega]
            have hg : xo_N (xw_mu xs ws) 118 qI.toInt = ρ 8 := by rw [← m2]; congr 1; omega
            have hpv : ρ 9 = 2 ^ qI.toInt.toNat := by rw [r1.2]; congr 1; omega
            have hV : xo_N (xw_mu xs ws) 120 (128 * (pI.toInt + 1) + (used.toInt + 2 ^ qI.toInt.toNat)) = ρ 10 := by rw [← m1]; congr 1; omega
            have hU : xo_N (xw_mu xs ws) 120 (128 * pI.toInt + used.toInt) = ρ 11 := by rw [← m0]; congr 1; omega
            have hcst : xo_cst (xw_mu xs ws) pI.toInt (ρ 3) = 0 := by
              unfold xo_cst
              rw [if_pos (by omega)]
            have hg3 : xo_N (xw_mu xs ws) 118 qI.toInt = ρ 3 := by rw [hg]; omega
            refine ihM x5 ls1 H1 locs1 ws1 (by omega) (by omega) (fun hkk => ?_) hls1 hWo1 (hB.tr hB1 (by decide))
            have hle := hqk hkk
            by_cases hqq : qI.toInt = q0
            · exfalso
              obtain ⟨-, -, -, -, hqe⟩ := hq0
              rw [← hqq, hg3, hcst, hV, hU] at hqe
              exact r0 (by omega)
            · omega
          rcases List.mem_cons.mp ha with rfl | ha
          · skip
            obtain ⟨y0, z0, hvst⟩ := xh_stk hsk (by decide)
            have z0 : y0.toInt = (0 : Int) + (1 * ρ 4 + 0) := z0
            subst hvst
            obtain ⟨q1, q2, q3, q4, q5, -⟩ := hrel
            have q1 := q1 rfl
            replace q1 : _ = (0 : Int) + (1 * ρ 0 + 0) := q1
            have q2 := q2 rfl
            replace q2 : _ = (0 : Int) + (1 * ρ 1 + 0) := q2
            have q3 := q3 rfl
            replace q3 : _ = (0 : Int) + (1 * ρ 2 + 0) := q3
            have q4 := q4 rfl
            replace q4 : _ = (0 : Int) + (1 * ρ 3 + 0) := q4
            have q5 := q5 rfl
            replace q5 : _ = (0 : Int) + (1 * ρ 4 + 0) := q5
            obtain ⟨v0, v1, v2, v3, v4, v5, v6, v7, v8, v9, v10, v11, f0, f1, f2, f3, f4, f5, m0, m1, m2, m3, r0, r1, r2⟩ := sg_do24_d5 hok1
            have hbit : used.toInt / 2 ^ qI.toInt.toNat % 2 = ρ 7 := by rw [r1.2, show ρ 1 = used.toInt by omega, show ρ 4 = qI.toInt by omega]
            have hg : xo_N (xw_mu xs ws) 118 qI.toInt = ρ 8 := by rw [← m2]; congr 1; omega
            have hpv : ρ 9 = 2 ^ qI.toInt.toNat := by rw [r0.2]; congr 1; omega
            have hV : xo_N (xw_mu xs ws) 120 (128 * (pI.toInt + 1) + (used.toInt + 2 ^ qI.toInt.toNat)) = ρ 10 := by rw [← m1]; congr 1; omega
            have hU : xo_N (xw_mu xs ws) 120 (128 * pI.toInt + used.toInt) = ρ 11 := by rw [← m0]; congr 1; omega
            have hcst : xo_cst (xw_mu xs ws) pI.toInt (ρ 3) = 0 := by
              unfold xo_cst
              rw [if_pos (by omega)]
            have hg3 : xo_N (xw_mu xs ws) 118 qI.toInt = ρ 3 := by rw [hg]; omega
            refine hiret 100 _ _ _ _ _ (hrt (n := 59) rfl) (xh_dec hfull 59 (e := (100, .ireturn, 1, 0, 0, 0, 0)) rfl) hWo1 (hB.tr hB1 (by decide)) ⟨y0, rfl, ?_⟩
            rw [show y0.toInt = qI.toInt by omega]
            refine ⟨by omega, by omega, by omega, by rw [hbit]; omega, ?_⟩
            rw [hg3, hcst, hV, hU]; omega
          rcases List.mem_cons.mp ha with rfl | ha
          · skip
            obtain ⟨ad0, ha0, x1, e1, x2, e2, x3, e3, x4, e4, x5, e5, hls1⟩ := xh_locs hlv 6 (by decide)
            replace ha0 : (List.map Prod.fst _)[(102 : Nat)]? = some ad0 := ha0
            have e1 : x1.toInt = (0 : Int) + (1 * ρ 0 + 0) := e1
            have e2 : x2.toInt = (0 : Int) + (1 * ρ 1 + 0) := e2
            have e3 : x3.toInt = (0 : Int) + (1 * ρ 2 + 0) := e3
            have e4 : x4.toInt = (0 : Int) + (1 * ρ 3 + 0) := e4
            have e5 : x5.toInt = (1 : Int) + (1 * ρ 4 + 0) := e5
            have hvst := hsk.nil
            subst hvst
            obtain ⟨q1, q2, q3, q4, q5, -⟩ := hrel
            have q1 := q1 rfl
            replace q1 : _ = (0 : Int) + (1 * ρ 0 + 0) := q1
            have q2 := q2 rfl
            replace q2 : _ = (0 : Int) + (1 * ρ 1 + 0) := q2
            have q3 := q3 rfl
            replace q3 : _ = (0 : Int) + (1 * ρ 2 + 0) := q3
            have q4 := q4 rfl
            replace q4 : _ = (0 : Int) + (1 * ρ 3 + 0) := q4
            have q5 := q5 rfl
            replace q5 : _ = (0 : Int) + (1 * ρ 4 + 0) := q5
            obtain ⟨v0, v1, v2, v3, v4, v5, v6, v7, f0, m0, r0, r1⟩ := sg_do24_d6 hok1
            rw [had'] at ha0
            cases ha0
            have ex1 : x1 = pI := Int32.toInt_inj.mp (by omega)
            have ex2 : x2 = used := Int32.toInt_inj.mp (by omega)
            have ex3 : x3 = kI := Int32.toInt_inj.mp (by omega)
            have ex4 : x4 = penI := Int32.toInt_inj.mp (by omega)
            rw [ex1, ex2, ex3, ex4] at hls1
            have hbit : used.toInt / 2 ^ qI.toInt.toNat % 2 = ρ 7 := by rw [r0.2, show ρ 1 = used.toInt by omega, show ρ 4 = qI.toInt by omega]
            refine ihM x5 ls1 H1 locs1 ws1 (by omega) (by omega) (fun hkk => ?_) hls1 hWo1 (hB.tr hB1 (by decide))
            have hle := hqk hkk
            by_cases hqq : qI.toInt = q0
            · exfalso
              obtain ⟨-, -, -, hc, -⟩ := hq0
              rw [← hqq, hbit] at hc
              omega
            · omega
          cases ha
      refine xh_seg2 (vl := [.ref ad, .int pI, .int used, .int kI]) (vk := []) sg_do2 C (hCG _ rfl) hR hCS hnm xz_nar hfull (by decide) rfl hWo ⟨Or.inr (Or.inr (Or.inl ⟨rfl, ad, had', rfl⟩)), Or.inl ⟨rfl, pI, rfl, by show (0 : Int) ≤ _; omega, by show _ ≤ (6 : Int); omega⟩, Or.inl ⟨rfl, used, rfl, by show (0 : Int) ≤ _; omega, by show _ ≤ (127 : Int); omega⟩, Or.inl ⟨rfl, kI, rfl, by show (0 : Int) ≤ _; omega, by show _ ≤ (9 : Int); omega⟩, True.intro⟩ (fun _ h => by cases h) hls ?_
      intro a ha ρ n' ls1 vst H1 locs1 ws1 hWo1 hB1 hlv hsk hrel hok1
      rcases List.mem_cons.mp ha with rfl | ha
      · skip
        obtain ⟨y0, z0, hvst⟩ := xh_stk hsk (by decide)
        have z0 : y0.toInt = ((-1) : Int) + 0 := z0
        subst hvst
        obtain ⟨q1, q2, q3, -⟩ := hrel
        have q1 := q1 rfl
        replace q1 : _ = (0 : Int) + (1 * ρ 0 + 0) := q1
        have q2 := q2 rfl
        replace q2 : _ = (0 : Int) + (1 * ρ 1 + 0) := q2
        have q3 := q3 rfl
        replace q3 : _ = (0 : Int) + (1 * ρ 2 + 0) := q3
        obtain ⟨v0, v1, v2⟩ := sg_do2_d0 hok1
        omega
      rcases List.mem_cons.mp ha with rfl | ha
      · skip
        obtain ⟨ad0, ha0, x1, e1, x2, e2, x3, e3, x4, e4, x5, e5, hls1⟩ := xh_locs hlv 6 (by decide)
        replace ha0 : (List.map Prod.fst _)[(102 : Nat)]? = some ad0 := ha0
        have e1 : x1.toInt = (0 : Int) + (1 * ρ 0 + 0) := e1
        have e2 : x2.toInt = (0 : Int) + (1 * ρ 1 + 0) := e2
        have e3 : x3.toInt = (0 : Int) + (1 * ρ 2 + 0) := e3
        have e4 : x4.toInt = (0 : Int) + (1 * ρ 2 + 0) := e4
        have e5 : x5.toInt = (0 : Int) + 0 := e5
        have hvst := hsk.nil
        subst hvst
        obtain ⟨q1, q2, q3, -⟩ := hrel
        have q1 := q1 rfl
        replace q1 : _ = (0 : Int) + (1 * ρ 0 + 0) := q1
        have q2 := q2 rfl
        replace q2 : _ = (0 : Int) + (1 * ρ 1 + 0) := q2
        have q3 := q3 rfl
        replace q3 : _ = (0 : Int) + (1 * ρ 2 + 0) := q3
        obtain ⟨v0, v1, v2⟩ := sg_do2_d1 hok1
        rw [had'] at ha0
        cases ha0
        have ex1 : x1 = pI := Int32.toInt_inj.mp (by omega)
        have ex2 : x2 = used := Int32.toInt_inj.mp (by omega)
        have ex3 : x3 = kI := Int32.toInt_inj.mp (by omega)
        rw [ex1, ex2, ex3] at hls1
        exact k24 x4 (Or.inr ⟨by omega, by omega⟩) n.toNat x5 ls1 H1 locs1 ws1 (by omega) (by omega) (fun _ => by omega) hls1 hWo1 (hB.tr hB1 (by decide))
      rcases List.mem_cons.mp ha with rfl | ha
      · skip
        obtain ⟨ad0, ha0, x1, e1, x2, e2, x3, e3, x4, e4, x5, e5, hls1⟩ := xh_locs hlv 6 (by decide)
        replace ha0 : (List.map Prod.fst _)[(102 : Nat)]? = some ad0 := ha0
        have e1 : x1.toInt = (0 : Int) + (1 * ρ 0 + 0) := e1
        have e2 : x2.toInt = (0 : Int) + (1 * ρ 1 + 0) := e2
        have e3 : x3.toInt = (0 : Int) + (1 * ρ 2 + 0) := e3
        have e4 : x4.toInt = ((-1) : Int) + 0 := e4
        have e5 : x5.toInt = (0 : Int) + 0 := e5
        have hvst := hsk.nil
        subst hvst
        obtain ⟨q1, q2, q3, -⟩ := hrel
        have q1 := q1 rfl
        replace q1 : _ = (0 : Int) + (1 * ρ 0 + 0) := q1
        have q2 := q2 rfl
        replace q2 : _ = (0 : Int) + (1 * ρ 1 + 0) := q2
        have q3 := q3 rfl
        replace q3 : _ = (0 : Int) + (1 * ρ 2 + 0) := q3
        obtain ⟨v0, v1, v2⟩ := sg_do2_d2 hok1
        rw [had'] at ha0
        cases ha0
        have ex1 : x1 = pI := Int32.toInt_inj.mp (by omega)
        have ex2 : x2 = used := Int32.toInt_inj.mp (by omega)
        have ex3 : x3 = kI := Int32.toInt_inj.mp (by omega)
        rw [ex1, ex2, ex3] at hls1
        exact k24 x4 (Or.inl ⟨by omega, by omega⟩) n.toNat x5 ls1 H1 locs1 ws1 (by omega) (by omega) (fun _ => by omega) hls1 hWo1 (hB.tr hB1 (by decide))
      cases ha
  refine xh_seg2 (vl := [.ref ad, .int pI, .int used]) (vk := []) sg_do0 C (hCG _ rfl) hR hCS hnm xz_nar hfull (by decide) rfl hWo ⟨Or.inr (Or.inr (Or.inl ⟨rfl, ad, had, rfl⟩)), Or.inl ⟨rfl, pI, rfl, by show (0 : Int) ≤ _; omega, by show _ ≤ (6 : Int); omega⟩, Or.inl ⟨rfl, used, rfl, by show (0 : Int) ≤ _; omega, by show _ ≤ (127 : Int); omega⟩, True.intro⟩ (fun _ h => by cases h) hls ?_
  intro a ha ρ n' ls1 vst H1 locs1 ws1 hWo1 hB1 hlv hsk hrel hok1
  rcases List.mem_cons.mp ha with rfl | ha
  · skip
    obtain ⟨ad0, ha0, x1, e1, x2, e2, x3, e3, hls1⟩ := xh_locs hlv 4 (by decide)
    replace ha0 : (List.map Prod.fst _)[(102 : Nat)]? = some ad0 := ha0
    have e1 : x1.toInt = (0 : Int) + (1 * ρ 0 + 0) := e1
    have e2 : x2.toInt = (0 : Int) + (1 * ρ 1 + 0) := e2
    have e3 : x3.toInt = (0 : Int) + 0 := e3
    have hvst := hsk.nil
    subst hvst
    obtain ⟨q1, q2, -⟩ := hrel
    have q1 := q1 rfl
    replace q1 : _ = (0 : Int) + (1 * ρ 0 + 0) := q1
    have q2 := q2 rfl
    replace q2 : _ = (0 : Int) + (1 * ρ 1 + 0) := q2
    obtain ⟨v0, v1⟩ := sg_do0_d0 hok1
    rw [had] at ha0
    cases ha0
    have ex1 : x1 = pI := Int32.toInt_inj.mp (by omega)
    have ex2 : x2 = used := Int32.toInt_inj.mp (by omega)
    rw [ex1, ex2] at hls1
    exact k2 k0.toNat x3 ls1 H1 locs1 ws1 (by omega) (by omega) hls1 hWo1 hB1
  cases ha

theorem xd_ty {hl : Nat × Int} {t : Nat → ClassId} {X : xw_X} {xs : Nat → Int32} {ws : va_W} (hWd : xw_Wd hl xz_G t X (xw_mu xs ws) ws) {r i : Nat} {c : xv_C} {u : xv_V} (hc : xv_get 14 xz_G r = some c) (h6 : c.1 ≤ 6) (hi : i < xw_len c) (hu : xv_get 8 c.2.2.2 (i % c.2.2.1) = some u) (h0 : u.1 = 0) : u.2.1 ≤ xw_n0 (xw_mu xs ws r i) ∧ xw_n0 (xw_mu xs ws r i) ≤ u.2.2 := by
  have h := xw_ty_ok hWd.1 hc h6 hi hu
  obtain ⟨x, e, h1, h2⟩ := h.1 h0
  rw [hWd.2.2 r c hc i, e]
  exact ⟨h1, h2⟩
theorem xd_c0 {hl : Nat × Int} {t : Nat → ClassId} {X : xw_X} {xs : Nat → Int32} {ws : va_W} (hWd : xw_Wd hl xz_G t X (xw_mu xs ws) ws) {p pen : Int} (h0 : 0 ≤ p) (h6 : p ≤ 6) (hp : -1 ≤ pen ∧ pen ≤ 7) : 0 ≤ xo_cst (xw_mu xs ws) p pen := by
  unfold xo_cst
  by_cases hq : pen = -1
  · rw [if_pos hq]; exact Int.le_refl 0
  · rw [if_neg hq]
    have a := xd_ty hWd (r := 110) (i := pen.toNat) (c := (1, 40, 1, [[(0, 0, 99)]])) (u := (0, 0, 99)) rfl (by decide) (by show pen.toNat < 40; omega) (by show xv_get 8 _ (pen.toNat % 1) = _; rw [Nat.mod_one]; rfl) rfl
    have b := xd_ty hWd (r := 111) (i := (12 * p + 3).toNat) (c := (1, 420, 12, [[(0, 0, 7), (0, 0, 11), (0, 0, 2), (0, 0, 9), (0, 0, 999), (0, 0, 999), (0, 0, 999), (0, 0, 999)], [(0, 0, 999), (0, 0, 999), (0, 0, 999), (0, 0, 999)]])) (u := (0, 0, 9)) rfl (by decide) (by show (12 * p + 3).toNat < 420; omega) (by show xv_get 8 _ ((12 * p + 3).toNat % 12) = _; rw [show (12 * p + 3).toNat % 12 = 3 by omega]; rfl) rfl
    have hpen : pen = 0 ∨ pen = 1 ∨ pen = 2 ∨ pen = 3 ∨ pen = 4 ∨ pen = 5 ∨ pen = 6 ∨ pen = 7 := by omega
    have cc : (0 : Int) ≤ xw_n0 (xw_mu xs ws 111 (12 * p + 4 + pen).toNat) := by
      have key : xv_get 8 ([[(0, 0, 7), (0, 0, 11), (0, 0, 2), (0, 0, 9), (0, 0, 999), (0, 0, 999), (0, 0, 999), (0, 0, 999)], [(0, 0, 999), (0, 0, 999), (0, 0, 999), (0, 0, 999)]] : List (List xv_V)) ((12 * p + 4 + pen).toNat % 12) = some (0, 0, 999) := by
        rcases hpen with w | w | w | w | w | w | w | w
        · rw [show (12 * p + 4 + pen).toNat % 12 = 4 by omega]; rfl
        · rw [show (12 * p + 4 + pen).toNat % 12 = 5 by omega]; rfl
        · rw [show (12 * p + 4 + pen).toNat % 12 = 6 by omega]; rfl
        · rw [show (12 * p + 4 + pen).toNat % 12 = 7 by omega]; rfl
        · rw [show (12 * p + 4 + pen).toNat % 12 = 8 by omega]; rfl
        · rw [show (12 * p + 4 + pen).toNat % 12 = 9 by omega]; rfl
        · rw [show (12 * p + 4 + pen).toNat % 12 = 10 by omega]; rfl
        · rw [show (12 * p + 4 + pen).toNat % 12 = 11 by omega]; rfl
      exact (xd_ty hWd (r := 111) (i := (12 * p + 4 + pen).toNat) (c := (1, 420, 12, [[(0, 0, 7), (0, 0, 11), (0, 0, 2), (0, 0, 9), (0, 0, 999), (0, 0, 999), (0, 0, 999), (0, 0, 999)], [(0, 0, 999), (0, 0, 999), (0, 0, 999), (0, 0, 999)]])) (u := (0, 0, 999)) rfl (by decide) (by show (12 * p + 4 + pen).toNat < 420; omega) key rfl).1
    have ab : 0 ≤ xo_N (xw_mu xs ws) 110 pen * xo_N (xw_mu xs ws) 111 (12 * p + 3) := Int.mul_nonneg a.1 b.1
    have cc' : 0 ≤ xo_N (xw_mu xs ws) 111 (12 * p + 4 + pen) := cc
    omega

set_option maxHeartbeats 40000000 in
theorem xd_dealt {l : Launch} {I : Nat → Option xv_I} (hJI : I = xv_JI xt_J) (hM : xw_MOK xt_M I) : ∃ i : xv_I, I 287 = some i ∧ ∀ d, 8 ≤ d → ∀ (D : va_G) (t : Nat → ClassId) (X : xw_X) (xs : Nat → Int32) (ws : va_W) (sz ad : Nat) (pI : Int32), xw_Inv X → xw_Wd xz_hl xz_G t X (xw_mu xs ws) ws → va_D (fun _ => True) ws → (ws.map Prod.fst)[102]? = some ad →
    Met l i.1 (Cond.code i.1 i.2.1 i.2.2.1 i.2.2.2 :: xv_tb) { frames := d, cells := 0, slots := 0, locals := 60 * d } (xw_Pr D t X xs ws [.ref ad, .int pI] sz) (xh_Q D t xz_hl xz_G X xs ws sz ((102, 1) :: xd_dd) (fun _ rv => ∃ a : Int32, rv = some (.int a) ∧ -2 ≤ a.toInt ∧ a.toInt ≤ 7)) 0 0 (va_A ws sz) := by
  obtain ⟨⟨y, cc, mL, ret⟩, hi, hok⟩ := hM 287 (xt_287, 4) rfl
  refine ⟨_, hi, fun d hd D t X xs ws sz ad pI hI hWd hD0 had => ?_⟩
  obtain ⟨d, rfl⟩ : ∃ d', d = d' + 1 := ⟨d - 1, by omega⟩
  obtain ⟨e1, hmL, hpn, hfull⟩ := id hok
  have e1 : 4 = mL := e1
  subst e1
  refine xh_meth xz_9 hok hI hWd hD0 (by show 2 ≤ 4; decide) ?_
  intro p e s m args below meth c R Q hR hCS C hnm hiret hvret ls hls hWo
  dsimp only at C hnm hls hfull hiret hvret
  have hCG : ∀ Qd : xw_Q, Qd.2.2 = [] → xw_CG l d I xz_hl xz_G [] (xw_calls xz_hl xz_G xt_M xz_HS xz_CT 5000 [] Qd 2) := fun Qd hq => xo_cg (l := l) hM (show 2 ≤ d by omega) Qd hq
  have hrt : ∀ {n : Nat} {pc b p4 : Nat} {v : Int}, xt_287[n]? = some (pc, .ireturn, 1, 0, b, p4, v) → ret = some .int := fun {n pc b p4 v} h => by
    rcases xh_lk hfull n h with ⟨-, er⟩ | ⟨er, -⟩
    · exact er
    · cases er
  obtain ⟨ild, hild, hld⟩ := xd_lays (l := l) hJI hM
  obtain ⟨ido, hido, hdo⟩ := xd_dealOf (l := l) hM
  have k25 : ∀ (wsB : va_W), xh_B xs ((102, 1) :: xd_dd) ws wsB → xd_P (xw_mu xs wsB) → pI.toInt < xo_N (xw_mu xs wsB) 109 4 → 0 ≤ pI.toInt → pI.toInt ≤ 6 → ∀ (N : Nat) (used kI : Int32) (ls : Array Slot) (H : Heap) (locs : List Loc) (ws' : va_W), kI.toInt + (N : Int) = pI.toInt → 0 ≤ kI.toInt → 0 ≤ used.toInt → used.toInt < 2 ^ (xo_N (xw_mu xs wsB) 109 4).toNat → used.toInt ≤ 127 → xo_N (xw_mu xs wsB) 120 (128 * kI.toInt + used.toInt) < 100000000 → lv_has ls 4 (lv_args 0 [.ref ad, .int pI, .int used, .int kI]) → xh_Wo D t (va_A ws sz) s.heap xz_hl xz_G X xs H locs ws' → xh_B xs [] wsB ws' →
      W p l e R s m args below meth c H locs 0 0 Q (F0 m 25 ls []) := by
    intro wsB hBB hPB hpn hp0 hp6 N
    generalize hnn : xo_N (xw_mu xs wsB) 109 4 = n at hpn
    induction N with
    | zero =>
      intro used kI ls H locs ws' hN hk0 hu0 hun hu7 hV hls hWo hB
      have has : ws'.map Prod.fst = ws.map Prod.fst := hB.2.2.trans hBB.2.2
      have had' : (ws'.map Prod.fst)[102]? = some ad := by rw [has]; exact had
      refine xh_seg2 (vl := [.ref ad, .int pI, .int used, .int kI]) (vk := []) sg_dt25 C (hCG _ rfl) hR hCS hnm xz_nar hfull (by decide) rfl hWo ⟨Or.inr (Or.inr (Or.inl ⟨rfl, ad, had', rfl⟩)), Or.inl ⟨rfl, pI, rfl, by show (0 : Int) ≤ _; omega, by show _ ≤ (6 : Int); omega⟩, Or.inl ⟨rfl, used, rfl, by show (0 : Int) ≤ _; omega, by show _ ≤ (127 : Int); omega⟩, Or.inl ⟨rfl, kI, rfl, by show (0 : Int) ≤ _; omega, by show _ ≤ (7 : Int); omega⟩, True.intro⟩ (fun _ h => by cases h) hls ?_
      intro a ha ρ n' ls1 vst H1 locs1 ws1 hWo1 hB1 hlv hsk hrel hok1
      rcases List.mem_cons.mp ha with rfl | ha
      · skip
        obtain ⟨ad0, ha0, x1, e1, x2, e2, x3, e3, hls1⟩ := xh_locs hlv 4 (by decide)
        replace ha0 : (List.map Prod.fst _)[(102 : Nat)]? = some ad0 := ha0
        have e1 : x1.toInt = (0 : Int) + (1 * ρ 0 + 0) := e1
        have e2 : x2.toInt = (0 : Int) + (1 * ρ 1 + 0) := e2
        have e3 : x3.toInt = (0 : Int) + (1 * ρ 2 + 0) := e3
        obtain ⟨y0, z0, y1, z1, ak2, hk2, ak3, hk3, hvst⟩ := xh_stk hsk (by decide)
        have z0 : y0.toInt = (0 : Int) + (1 * ρ 1 + 0) := z0
        have z1 : y1.toInt = (0 : Int) + (1 * ρ 0 + 0) := z1
        replace hk2 : (List.map Prod.fst _)[(102 : Nat)]? = some ak2 := hk2
        replace hk3 : (List.map Prod.fst _)[(118 : Nat)]? = some ak3 := hk3
        subst hvst
        obtain ⟨q1, q2, q3, -⟩ := hrel
        have q1 := q1 rfl
        replace q1 : _ = (0 : Int) + (1 * ρ 0 + 0) := q1
        have q2 := q2 rfl
        replace q2 : _ = (0 : Int) + (1 * ρ 1 + 0) := q2
        have q3 := q3 rfl
        replace q3 : _ = (0 : Int) + (1 * ρ 2 + 0) := q3
        obtain ⟨v0, v1, v2, f0⟩ := sg_dt25_d0 hok1
        rw [had'] at ha0
        cases ha0
        rw [had'] at hk2
        cases hk2
        have ex1 : x1 = pI := Int32.toInt_inj.mp (by omega)
        have ex2 : x2 = used := Int32.toInt_inj.mp (by omega)
        have ex3 : x3 = kI := Int32.toInt_inj.mp (by omega)
        have ey0 : y0 = used := Int32.toInt_inj.mp (by omega)
        have ey1 : y1 = pI := Int32.toInt_inj.mp (by omega)
        rw [ex1, ex2, ex3] at hls1
        subst ey0 ey1
        have hB2 : xh_B xs [] wsB ws1 := hB.tr hB1 (by decide)
        have hm1 : xw_mu xs ws1 = xw_mu xs wsB := xo_B0 hB2
        have had1 : (ws1.map Prod.fst)[102]? = some ad := by rw [hB1.2.2]; exact had'
        have hk3' : (ws1.map Prod.fst)[118]? = some ak3 := by rw [hB1.2.2]; exact hk3
        have hlk := xh_lk hfull 35 (e := (54, .invokevirtual 359, 3, 286, 2, 1892, 12)) rfl
        refine xh_callV (P := [.int y0, .int y1]) (r := 102) (cl := (0, 12, 42, [[(0, (-2147483648), 2147483647), (2, 103, 0), (2, 104, 0), (2, 105, 0), (2, 106, 0), (2, 107, 0), (0, 0, 1200), (0, 0, 1200)], [(0, 0, 4), (0, 0, 1200), (0, (-2147483648), 2147483647), (1, (-9223372036854775808), 9223372036854775807), (0, 0, 3), (0, (-2147483648), 2147483647), (0, (-2147483648), 2147483647), (0, (-2147483648), 2147483647)], [(2, 108, 0), (2, 109, 0), (2, 110, 0), (2, 111, 0), (2, 112, 0), (2, 113, 0), (2, 114, 0), (2, 115, 0)], [(0, (-2147483648), 2147483647), (0, (-2147483648), 2147483647), (2, 116, 0), (2, 117, 0), (2, 118, 0), (2, 119, 0), (0, (-2147483648), 2147483647), (2, 120, 0)], [(2, 121, 0), (2, 122, 0), (2, 123, 0), (2, 124, 0), (0, (-2147483648), 2147483647), (0, (-2147483648), 2147483647), (0, (-2147483648), 2147483647), (1, (-9223372036854775808), 9223372036854775807)], [(2, 125, 0), (2, 126, 0)]])) (vr := [.ref ak3]) C (xh_dec hfull 35 (e := (54, .invokevirtual 359, 3, 286, 2, 1892, 12)) rfl) hR hCS (hlk ido hido) hWo1 rfl rfl rfl had1 hls1.1 rfl (Nat.le_of_ble_eq_true rfl) (hdo d (by omega) D t X xs ws1 H1.size ad y1 y0 hI hWo1.2.2.2 (hWo1.2.1.weaken fun _ _ _ _ => trivial) had1 hp0 hp6 hu0 hu7 (by rw [hm1, hnn]; exact hnn ▸ hPB.1 _ _ hp0 (by omega) hu0 (by rw [hnn]; exact hun)) (by rw [hm1, show y1.toInt = kI.toInt by omega]; exact hV)) ?_
        intro rv H2 locs2 ws2 hWo2 hB3 hrv
        obtain ⟨qI, rfl, hq⟩ := hrv
        have hqb : 0 ≤ qI.toInt ∧ qI.toInt ≤ 6 := ⟨hq.1, hq.2.1⟩
        have hB4 : xh_B xs [] wsB ws2 := hB2.tr hB3 (by decide)
        have had2 : (ws2.map Prod.fst)[102]? = some ad := by rw [hB3.2.2]; exact had1
        have hk32 : (ws2.map Prod.fst)[118]? = some ak3 := by rw [hB3.2.2]; exact hk3'
        refine xh_seg2 (vl := [.ref ad, .int y1, .int y0, .int kI]) (vk := [.int qI, .ref ak3]) sg_dt57 C (hCG _ rfl) hR hCS hnm xz_nar hfull (by decide) rfl hWo2 ⟨Or.inr (Or.inr (Or.inl ⟨rfl, ad, had2, rfl⟩)), Or.inl ⟨rfl, y1, rfl, by show (0 : Int) ≤ _; omega, by show _ ≤ (6 : Int); omega⟩, Or.inl ⟨rfl, y0, rfl, by show (0 : Int) ≤ _; omega, by show _ ≤ (127 : Int); omega⟩, Or.inl ⟨rfl, kI, rfl, by show (0 : Int) ≤ _; omega, by show _ ≤ (6 : Int); omega⟩, Or.inl ⟨rfl, qI, rfl, by show (0 : Int) ≤ _; omega, by show _ ≤ (6 : Int); omega⟩, Or.inr (Or.inr (Or.inl ⟨rfl, ak3, hk32, rfl⟩)), True.intro⟩ (fun _ h => by cases h) hls1 ?_
        clear hok1 hlv hsk ha hls1
        clear q1 q2 q3 v0 v1 v2 f0 e1 e2 e3 z0 z1
        intro a ha ρ n' ls3 vst H3 locs3 ws3 hWo3 hB5 hlv hsk hrel hok1
        rcases List.mem_cons.mp ha with rfl | ha
        · skip
          obtain ⟨u0, z0, hvst⟩ := xh_stk hsk (by decide)
          have z0 : u0.toInt = (0 : Int) + (1 * ρ 4 + 0) := z0
          subst hvst
          obtain ⟨q1, q2, q3, q4, -⟩ := hrel
          have q1 := q1 rfl
          replace q1 : _ = (0 : Int) + (1 * ρ 0 + 0) := q1
          have q2 := q2 rfl
          replace q2 : _ = (0 : Int) + (1 * ρ 1 + 0) := q2
          have q3 := q3 rfl
          replace q3 : _ = (0 : Int) + (1 * ρ 2 + 0) := q3
          have q4 := q4 rfl
          replace q4 : _ = (0 : Int) + (1 * ρ 3 + 0) := q4
          obtain ⟨v0, v1, v2, v3, v4, m0⟩ := sg_dt57_d0 hok1
          exact hiret 58 _ _ _ _ _ (hrt (n := 37) rfl) (xh_dec hfull 37 (e := (58, .ireturn, 1, 0, 0, 0, 0)) rfl) hWo3 ((hBB.tr hB4 (by decide)).tr hB5 (by decide)) ⟨u0, rfl, by omega, by omega⟩
        cases ha
      rcases List.mem_cons.mp ha with rfl | ha
      · skip
        obtain ⟨y0, z0, y1, z1, ak2, hk2, y3, z3, y4, z4, hvst⟩ := xh_stk hsk (by decide)
        have z0 : y0.toInt = (0 : Int) + (1 * ρ 1 + 0) := z0
        have z1 : y1.toInt = (0 : Int) + (1 * ρ 2 + 0) := z1
        replace hk2 : (List.map Prod.fst _)[(102 : Nat)]? = some ak2 := hk2
        have z3 : y3.toInt = (1 : Int) + 0 := z3
        have z4 : y4.toInt = (0 : Int) + (1 * ρ 1 + 0) := z4
        subst hvst
        obtain ⟨q1, q2, q3, -⟩ := hrel
        have q1 := q1 rfl
        replace q1 : _ = (0 : Int) + (1 * ρ 0 + 0) := q1
        have q2 := q2 rfl
        replace q2 : _ = (0 : Int) + (1 * ρ 1 + 0) := q2
        have q3 := q3 rfl
        replace q3 : _ = (0 : Int) + (1 * ρ 2 + 0) := q3
        obtain ⟨v0, v1, v2, f0⟩ := sg_dt25_d1 hok1
        omega
      cases ha
    | succ N ih =>
      intro used kI ls H locs ws' hN hk0 hu0 hun hu7 hV hls hWo hB
      have has : ws'.map Prod.fst = ws.map Prod.fst := hB.2.2.trans hBB.2.2
      have had' : (ws'.map Prod.fst)[102]? = some ad := by rw [has]; exact had
      refine xh_seg2 (vl := [.ref ad, .int pI, .int used, .int kI]) (vk := []) sg_dt25 C (hCG _ rfl) hR hCS hnm xz_nar hfull (by decide) rfl hWo ⟨Or.inr (Or.inr (Or.inl ⟨rfl, ad, had', rfl⟩)), Or.inl ⟨rfl, pI, rfl, by show (0 : Int) ≤ _; omega, by show _ ≤ (6 : Int); omega⟩, Or.inl ⟨rfl, used, rfl, by show (0 : Int) ≤ _; omega, by show _ ≤ (127 : Int); omega⟩, Or.inl ⟨rfl, kI, rfl, by show (0 : Int) ≤ _; omega, by show _ ≤ (7 : Int); omega⟩, True.intro⟩ (fun _ h => by cases h) hls ?_
      intro a ha ρ n' ls1 vst H1 locs1 ws1 hWo1 hB1 hlv hsk hrel hok1
      rcases List.mem_cons.mp ha with rfl | ha
      · skip
        obtain ⟨y0, z0, y1, z1, ak2, hk2, ak3, hk3, hvst⟩ := xh_stk hsk (by decide)
        have z0 : y0.toInt = (0 : Int) + (1 * ρ 1 + 0) := z0
        have z1 : y1.toInt = (0 : Int) + (1 * ρ 0 + 0) := z1
        replace hk2 : (List.map Prod.fst _)[(102 : Nat)]? = some ak2 := hk2
        replace hk3 : (List.map Prod.fst _)[(118 : Nat)]? = some ak3 := hk3
        subst hvst
        obtain ⟨q1, q2, q3, -⟩ := hrel
        have q1 := q1 rfl
        replace q1 : _ = (0 : Int) + (1 * ρ 0 + 0) := q1
        have q2 := q2 rfl
        replace q2 : _ = (0 : Int) + (1 * ρ 1 + 0) := q2
        have q3 := q3 rfl
        replace q3 : _ = (0 : Int) + (1 * ρ 2 + 0) := q3
        obtain ⟨v0, v1, v2, f0⟩ := sg_dt25_d0 hok1
        omega
      rcases List.mem_cons.mp ha with rfl | ha
      · skip
        obtain ⟨ad0, ha0, x1, e1, x2, e2, x3, e3, hls1⟩ := xh_locs hlv 4 (by decide)
        replace ha0 : (List.map Prod.fst _)[(102 : Nat)]? = some ad0 := ha0
        have e1 : x1.toInt = (0 : Int) + (1 * ρ 0 + 0) := e1
        have e2 : x2.toInt = (0 : Int) + (1 * ρ 1 + 0) := e2
        have e3 : x3.toInt = (0 : Int) + (1 * ρ 2 + 0) := e3
        obtain ⟨y0, z0, y1, z1, ak2, hk2, y3, z3, y4, z4, hvst⟩ := xh_stk hsk (by decide)
        have z0 : y0.toInt = (0 : Int) + (1 * ρ 1 + 0) := z0
        have z1 : y1.toInt = (0 : Int) + (1 * ρ 2 + 0) := z1
        replace hk2 : (List.map Prod.fst _)[(102 : Nat)]? = some ak2 := hk2
        have z3 : y3.toInt = (1 : Int) + 0 := z3
        have z4 : y4.toInt = (0 : Int) + (1 * ρ 1 + 0) := z4
        subst hvst
        obtain ⟨q1, q2, q3, -⟩ := hrel
        have q1 := q1 rfl
        replace q1 : _ = (0 : Int) + (1 * ρ 0 + 0) := q1
        have q2 := q2 rfl
        replace q2 : _ = (0 : Int) + (1 * ρ 1 + 0) := q2
        have q3 := q3 rfl
        replace q3 : _ = (0 : Int) + (1 * ρ 2 + 0) := q3
        obtain ⟨v0, v1, v2, f0⟩ := sg_dt25_d1 hok1
        rw [had'] at ha0
        cases ha0
        rw [had'] at hk2
        cases hk2
        have ex1 : x1 = pI := Int32.toInt_inj.mp (by omega)
        have ex2 : x2 = used := Int32.toInt_inj.mp (by omega)
        have ex3 : x3 = kI := Int32.toInt_inj.mp (by omega)
        have ey0 : y0 = used := Int32.toInt_inj.mp (by omega)
        have ey1 : y1 = kI := Int32.toInt_inj.mp (by omega)
        have ey3 : y3 = 1 := Int32.toInt_inj.mp (by rw [z3]; rfl)
        have ey4 : y4 = used := Int32.toInt_inj.mp (by omega)
        rw [ex1, ex2, ex3] at hls1
        subst ey0 ey1 ey3 ey4
        have hB2 : xh_B xs [] wsB ws1 := hB.tr hB1 (by decide)
        have hm1 : xw_mu xs ws1 = xw_mu xs wsB := xo_B0 hB2
        have had1 : (ws1.map Prod.fst)[102]? = some ad := by rw [hB1.2.2]; exact had'
        have hy16 : y1.toInt ≤ 6 := by omega
        have hlk := xh_lk hfull 24 (e := (35, .invokevirtual 359, 3, 286, 2, 1892, 12)) rfl
        refine xh_callV (P := [.int y4, .int y1]) (r := 102) (cl := (0, 12, 42, [[(0, (-2147483648), 2147483647), (2, 103, 0), (2, 104, 0), (2, 105, 0), (2, 106, 0), (2, 107, 0), (0, 0, 1200), (0, 0, 1200)], [(0, 0, 4), (0, 0, 1200), (0, (-2147483648), 2147483647), (1, (-9223372036854775808), 9223372036854775807), (0, 0, 3), (0, (-2147483648), 2147483647), (0, (-2147483648), 2147483647), (0, (-2147483648), 2147483647)], [(2, 108, 0), (2, 109, 0), (2, 110, 0), (2, 111, 0), (2, 112, 0), (2, 113, 0), (2, 114, 0), (2, 115, 0)], [(0, (-2147483648), 2147483647), (0, (-2147483648), 2147483647), (2, 116, 0), (2, 117, 0), (2, 118, 0), (2, 119, 0), (0, (-2147483648), 2147483647), (2, 120, 0)], [(2, 121, 0), (2, 122, 0), (2, 123, 0), (2, 124, 0), (0, (-2147483648), 2147483647), (0, (-2147483648), 2147483647), (0, (-2147483648), 2147483647), (1, (-9223372036854775808), 9223372036854775807)], [(2, 125, 0), (2, 126, 0)]])) (vr := [.int 1, .int y4]) C (xh_dec hfull 24 (e := (35, .invokevirtual 359, 3, 286, 2, 1892, 12)) rfl) hR hCS (hlk ido hido) hWo1 rfl rfl rfl had1 hls1.1 rfl (Nat.le_of_ble_eq_true rfl) (hdo d (by omega) D t X xs ws1 H1.size ad y1 y4 hI hWo1.2.2.2 (hWo1.2.1.weaken fun _ _ _ _ => trivial) had1 hk0 hy16 hu0 hu7 (by rw [hm1, hnn]; exact hnn ▸ hPB.1 _ _ hk0 (by omega) hu0 (by rw [hnn]; exact hun)) (by rw [hm1]; exact hV)) ?_
        intro rv H2 locs2 ws2 hWo2 hB3 hrv
        obtain ⟨qI, rfl, hq⟩ := hrv
        rw [hm1, hnn] at hq
        have hqb : 0 ≤ qI.toInt ∧ qI.toInt ≤ 6 ∧ qI.toInt < n := ⟨hq.1, hq.2.1, hq.2.2.1⟩
        have hB4 : xh_B xs [] wsB ws2 := hB2.tr hB3 (by decide)
        have had2 : (ws2.map Prod.fst)[102]? = some ad := by rw [hB3.2.2]; exact had1
        refine xh_seg2 (vl := [.ref ad, .int pI, .int y4, .int y1]) (vk := [.int qI, .int 1, .int y4]) sg_dt38 C (hCG _ rfl) hR hCS hnm xz_nar hfull (by decide) rfl hWo2 ⟨Or.inr (Or.inr (Or.inl ⟨rfl, ad, had2, rfl⟩)), Or.inl ⟨rfl, pI, rfl, by show (0 : Int) ≤ _; omega, by show _ ≤ (6 : Int); omega⟩, Or.inl ⟨rfl, y4, rfl, by show (0 : Int) ≤ _; omega, by show _ ≤ (127 : Int); omega⟩, Or.inl ⟨rfl, y1, rfl, by show (0 : Int) ≤ _; omega, by show _ ≤ (6 : Int); omega⟩, Or.inl ⟨rfl, qI, rfl, by show (0 : Int) ≤ _; omega, by show _ ≤ (6 : Int); omega⟩, Or.inl ⟨rfl, 1, rfl, by decide, by decide⟩, Or.inl ⟨rfl, y4, rfl, by show (0 : Int) ≤ _; omega, by show _ ≤ (127 : Int); omega⟩, True.intro⟩ (fun _ h => by cases h) hls1 ?_
        clear hok1 hlv hsk ha hls1
        clear q1 q2 q3 v0 v1 v2 f0 e1 e2 e3 z0 z1 z3 z4
        intro a ha ρ n' ls3 vst H3 locs3 ws3 hWo3 hB5 hlv hsk hrel hok1
        rcases List.mem_cons.mp ha with rfl | ha
        · skip
          obtain ⟨ad0, ha0, w1, e1, w2, e2, w3, e3, hls1⟩ := xh_locs hlv 4 (by decide)
          replace ha0 : (List.map Prod.fst _)[(102 : Nat)]? = some ad0 := ha0
          have e1 : w1.toInt = (0 : Int) + (1 * ρ 0 + 0) := e1
          have e2 : w2.toInt = (0 : Int) + (1 * ρ 6 + 0) := e2
          have e3 : w3.toInt = (1 : Int) + (1 * ρ 2 + 0) := e3
          have hvst := hsk.nil
          subst hvst
          obtain ⟨q1, q2, q3, q4, q5, q6, -⟩ := hrel
          have q1 := q1 rfl
          replace q1 : _ = (0 : Int) + (1 * ρ 0 + 0) := q1
          have q2 := q2 rfl
          replace q2 : _ = (0 : Int) + (1 * ρ 1 + 0) := q2
          have q3 := q3 rfl
          replace q3 : _ = (0 : Int) + (1 * ρ 2 + 0) := q3
          have q4 := q4 rfl
          replace q4 : _ = (0 : Int) + (1 * ρ 3 + 0) := q4
          have q5 := q5 rfl
          replace q5 : _ = (1 : Int) + 0 := q5
          have q6 := q6 rfl
          replace q6 : _ = (0 : Int) + (1 * ρ 4 + 0) := q6
          obtain ⟨v0, v1, v2, v3, v4, v5, v6, r0, r1⟩ := sg_dt38_d0 hok1
          rw [had2] at ha0
          cases ha0
          have ew1 : w1 = pI := Int32.toInt_inj.mp (by omega)
          rw [ew1] at hls1
          obtain ⟨oa, ob, ho1, ho2, ho3⟩ := r0
          have hob : ob.toInt = 2 ^ qI.toInt.toNat := by rw [ho2, r1.2]; congr 1; omega
          have hoa : oa.toInt = y4.toInt := by omega
          have hadd := xw_orbit (x := oa) (y := qI.toInt.toNat) (by omega) hob (by rw [hoa]; exact hq.2.2.2.1)
          have hpq := xo_pos qI.toInt.toNat
          have hlt : (2 : Int) ^ qI.toInt.toNat < 2 ^ n.toNat := by
            have h1 := xd_p1 hqb.1
            have h2 := xd_pw (p := qI.toInt + 1) (n := n) (by omega) (by omega)
            omega
          have hor := xd_orlt (a := oa) (b := ob) (n := n.toNat) (by omega) (by omega) (by rw [hoa]; exact hun) (by rw [hob]; exact hlt)
          have hqe := hq.2.2.2.2
          have hc0 : 0 ≤ xo_cst (xw_mu xs wsB) y1.toInt (xo_N (xw_mu xs wsB) 118 qI.toInt) := by
            rw [← hm1]
            exact xd_c0 hWo1.2.2.2 hk0 hy16 (xd_G hWo1.2.2.2 hqb.1 (by omega))
          refine ih w2 w3 ls3 H3 locs3 ws3 (by omega) (by omega) (by omega) (by omega) (by omega) ?_ hls1 hWo3 (hB4.tr hB5 (by decide))
          rw [show (128 * w3.toInt + w2.toInt : Int) = 128 * (y1.toInt + 1) + (y4.toInt + 2 ^ qI.toInt.toNat) by omega]
          omega
        cases ha
      cases ha
  refine xh_seg2 (vl := [.ref ad, .int pI]) (vk := []) sg_dt0 C (hCG _ rfl) hR hCS hnm xz_nar hfull (by decide) rfl hWo ⟨Or.inr (Or.inr (Or.inl ⟨rfl, ad, had, rfl⟩)), Or.inl ⟨rfl, pI, rfl, xv_i32 pI⟩, True.intro⟩ (fun _ h => by cases h) hls ?_
  intro a ha ρ n' ls1 vst H1 locs1 ws1 hWo1 hB1 hlv hsk hrel hok1
  rcases List.mem_cons.mp ha with rfl | ha
  · skip
    obtain ⟨y0, z0, hvst⟩ := xh_stk hsk (by decide)
    have z0 : y0.toInt = ((-2) : Int) + 0 := z0
    subst hvst
    obtain ⟨q1, -⟩ := hrel
    have q1 := q1 rfl
    replace q1 : _ = (0 : Int) + (1 * ρ 0 + 0) := q1
    obtain ⟨v0, v1, m0, m1⟩ := sg_dt0_d0 hok1
    exact hiret 16 _ _ _ _ _ (hrt (n := 9) rfl) (xh_dec hfull 9 (e := (16, .ireturn, 1, 0, 0, 0, 0)) rfl) hWo1 (xh_B.rf.tr hB1 (by decide)) ⟨y0, rfl, by omega, by omega⟩
  rcases List.mem_cons.mp ha with rfl | ha
  · skip
    obtain ⟨y0, z0, hvst⟩ := xh_stk hsk (by decide)
    have z0 : y0.toInt = ((-2) : Int) + 0 := z0
    subst hvst
    obtain ⟨q1, -⟩ := hrel
    have q1 := q1 rfl
    replace q1 : _ = (0 : Int) + (1 * ρ 0 + 0) := q1
    obtain ⟨v0, v1, f0, m0, m1⟩ := sg_dt0_d1 hok1
    exact hiret 16 _ _ _ _ _ (hrt (n := 9) rfl) (xh_dec hfull 9 (e := (16, .ireturn, 1, 0, 0, 0, 0)) rfl) hWo1 (xh_B.rf.tr hB1 (by decide)) ⟨y0, rfl, by omega, by omega⟩
  rcases List.mem_cons.mp ha with rfl | ha
  · skip
    obtain ⟨ad0, ha0, x1, e1, hls1⟩ := xh_locs hlv 2 (by decide)
    replace ha0 : (List.map Prod.fst _)[(102 : Nat)]? = some ad0 := ha0
    have e1 : x1.toInt = (0 : Int) + (1 * ρ 0 + 0) := e1
    obtain ⟨ak0, hk0, hvst⟩ := xh_stk hsk (by decide)
    replace hk0 : (List.map Prod.fst _)[(102 : Nat)]? = some ak0 := hk0
    subst hvst
    obtain ⟨q1, -⟩ := hrel
    have q1 := q1 rfl
    replace q1 : _ = (0 : Int) + (1 * ρ 0 + 0) := q1
    obtain ⟨v0, v1, f0, m0, m1⟩ := sg_dt0_d2 hok1
    rw [had] at ha0
    cases ha0
    rw [had] at hk0
    cases hk0
    have ex1 : x1 = pI := Int32.toInt_inj.mp (by omega)
    rw [ex1] at hls1
    have hp0 : 0 ≤ pI.toInt ∧ pI.toInt ≤ 6 := by omega
    have hpn1 : pI.toInt < xo_N (xw_mu xs ws1) 109 4 := by omega
    have had1 : (ws1.map Prod.fst)[102]? = some ad := by rw [hB1.2.2]; exact had
    have hlk := xh_lk hfull 11 (e := (18, .invokevirtual 356, 3, 284, 0, 1884, 12)) rfl
    refine xh_callV (P := []) (r := 102) (cl := (0, 12, 42, [[(0, (-2147483648), 2147483647), (2, 103, 0), (2, 104, 0), (2, 105, 0), (2, 106, 0), (2, 107, 0), (0, 0, 1200), (0, 0, 1200)], [(0, 0, 4), (0, 0, 1200), (0, (-2147483648), 2147483647), (1, (-9223372036854775808), 9223372036854775807), (0, 0, 3), (0, (-2147483648), 2147483647), (0, (-2147483648), 2147483647), (0, (-2147483648), 2147483647)], [(2, 108, 0), (2, 109, 0), (2, 110, 0), (2, 111, 0), (2, 112, 0), (2, 113, 0), (2, 114, 0), (2, 115, 0)], [(0, (-2147483648), 2147483647), (0, (-2147483648), 2147483647), (2, 116, 0), (2, 117, 0), (2, 118, 0), (2, 119, 0), (0, (-2147483648), 2147483647), (2, 120, 0)], [(2, 121, 0), (2, 122, 0), (2, 123, 0), (2, 124, 0), (0, (-2147483648), 2147483647), (0, (-2147483648), 2147483647), (0, (-2147483648), 2147483647), (1, (-9223372036854775808), 9223372036854775807)], [(2, 125, 0), (2, 126, 0)]])) (vr := []) C (xh_dec hfull 11 (e := (18, .invokevirtual 356, 3, 284, 0, 1884, 12)) rfl) hR hCS (hlk ild hild) hWo1 rfl rfl rfl had1 hls1.1 rfl (Nat.le_of_ble_eq_true rfl) (hld d (by omega) D t X xs ws1 H1.size ad hI hWo1.2.2.2 (hWo1.2.1.weaken fun _ _ _ _ => trivial) had1) ?_
    intro rv H2 locs2 ws2 hWo2 hB2 hrv
    obtain ⟨rfl, hP⟩ := hrv
    have hpn2 : pI.toInt < xo_N (xw_mu xs ws2) 109 4 := by rw [xd_N9 hB2]; exact hpn1
    have hB3 : xh_B xs ((102, 1) :: xd_dd) ws ws2 := (xh_B.rf.tr hB1 (by decide)).tr hB2 (by decide)
    have had2 : (ws2.map Prod.fst)[102]? = some ad := by rw [hB3.2.2]; exact had
    refine xh_seg2 (vl := [.ref ad, .int pI]) (vk := []) sg_dt21 C (hCG _ rfl) hR hCS hnm xz_nar hfull (by decide) rfl hWo2 ⟨Or.inr (Or.inr (Or.inl ⟨rfl, ad, had2, rfl⟩)), Or.inl ⟨rfl, pI, rfl, by show (0 : Int) ≤ _; omega, by show _ ≤ (6 : Int); omega⟩, True.intro⟩ (fun _ h => by cases h) hls1 ?_
    clear hok1 hlv hsk ha hls1
    clear q1 v0 v1 e1 f0 m0 m1
    intro a ha ρ n' ls3 vst H3 locs3 ws3 hWo3 hB4 hlv hsk hrel hok1
    rcases List.mem_cons.mp ha with rfl | ha
    · skip
      obtain ⟨ad0, ha0, w1, e1, w2, e2, w3, e3, hls1⟩ := xh_locs hlv 4 (by decide)
      replace ha0 : (List.map Prod.fst _)[(102 : Nat)]? = some ad0 := ha0
      have e1 : w1.toInt = (0 : Int) + (1 * ρ 0 + 0) := e1
      have e2 : w2.toInt = (0 : Int) + 0 := e2
      have e3 : w3.toInt = (0 : Int) + 0 := e3
      have hvst := hsk.nil
      subst hvst
      obtain ⟨q1, -⟩ := hrel
      have q1 := q1 rfl
      replace q1 : _ = (0 : Int) + (1 * ρ 0 + 0) := q1
      have v0 := sg_dt21_d0 hok1
      rw [had2] at ha0
      cases ha0
      have ew1 : w1 = pI := Int32.toInt_inj.mp (by omega)
      rw [ew1] at hls1
      have hp2 := xo_pos (xo_N (xw_mu xs ws2) 109 4).toNat
      have hP2 := hP.2
      refine k25 ws2 hB3 hP hpn2 hp0.1 hp0.2 pI.toInt.toNat w2 w3 ls3 H3 locs3 ws3 (by omega) (by omega) (by omega) (by omega) (by omega) ?_ hls1 hWo3 hB4
      rw [show (128 * w3.toInt + w2.toInt : Int) = 0 by omega]
      omega
    cases ha
  cases ha
