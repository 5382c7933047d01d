/-! of, by hand -/
def sg_of0_a0 : xh_Ar := (4, [(2, (102, [])), (0, (0, [(0, 1)])), (0, (0, [])), (0, (0, []))], [], [(0, (-2147483648), 2147483647)], [], [], [], [])
def sg_of0_r : List xh_Ar := [sg_of0_a0]
def sg_of0_s : List (Nat × Int × Int) := [(2, 102, 0), (0, (-2147483648), 2147483647)]
def sg_of0_p : List xw_T := []
def sg_of0_v : List xw_V := [(2, (102, [])), (0, (0, [(0, 1)]))]
def sg_of0_k : List xw_V := []
def sg_of0_q : xw_Q := ([], [], [])
set_option maxRecDepth 100000 in
set_option maxHeartbeats 4000000 in
theorem sg_of0 : xh_chk xz_hl xz_G (xw_calls xz_hl xz_G xt_M xz_HS xz_CT 5000 [] sg_of0_q 1) 230 [4] sg_of0_r xt_230 5000 4 0 sg_of0_s sg_of0_p sg_of0_v sg_of0_k = true := by decide +kernel
theorem sg_of0_d0 {ρ : Nat → Int} {μ : Nat → Nat → Value} (h : xh_ok ρ μ sg_of0_a0) : ((-2147483648) ≤ ρ 0 ∧ ρ 0 ≤ 2147483647) := by
  obtain ⟨⟨h0, -⟩, -, -, -⟩ := h
  exact h0
def sg_of4_a0 : xh_Ar := (40, [(2, (102, [])), (0, (0, [(0, 1)])), (0, (0, [(1, 1)])), (0, (0, [(2, 1)]))], [(0, (0, [(1, 1)]))], [(0, (-2147483648), 2147483647), (1, 0, 127), (2, 0, 7), (3, 0, 7)], [(0, [(2, 1), (3, (-1))])], [(109, (4, []), (0, (0, [(3, 1)])))], [], [])
def sg_of4_a1 : xh_Ar := (4, [(2, (102, [])), (0, (0, [(0, 1)])), (0, (0, [(5, 1)])), (0, (1, [(2, 1)]))], [], [(0, (-2147483648), 2147483647), (1, 0, 127), (2, 0, 6), (3, 1, 7), (4, 0, 2), (5, 0, 127)], [((-1), [(2, (-1)), (3, 1)])], [(111, (2, [(2, 12)]), (0, (0, [(4, 1)]))), (109, (4, []), (0, (0, [(3, 1)])))], [(5, 5, (0, [(1, 1)]), (0, [])), (7, 0, (0, [(0, (-1)), (4, 1)]), (0, [(0, (-1)), (4, 1)]))], [])
def sg_of4_a2 : xh_Ar := (4, [(2, (102, [])), (0, (0, [(0, 1)])), (0, (0, [(6, 1)])), (0, (1, [(2, 1)]))], [], [(0, 0, 2), (1, 0, 127), (2, 0, 6), (3, 1, 7), (4, 0, 2), (5, 1, 64), (6, 1, 127)], [(0, [(0, 1), (4, (-1))]), (0, [(0, (-1)), (4, 1)]), ((-1), [(2, (-1)), (3, 1)])], [(111, (2, [(2, 12)]), (0, (0, [(4, 1)]))), (109, (4, []), (0, (0, [(3, 1)])))], [(5, 6, (0, [(1, 1)]), (0, [(5, 1)])), (0, 5, (0, [(2, 1)]), (0, [(2, 1)]))], [])
def sg_of4_r : List xh_Ar := [sg_of4_a0, sg_of4_a1, sg_of4_a2]
def sg_of4_s : List (Nat × Int × Int) := [(2, 102, 0), (0, (-2147483648), 2147483647), (0, 0, 127), (0, 0, 7)]
def sg_of4_p : List xw_T := []
def sg_of4_v : List xw_V := [(2, (102, [])), (0, (0, [(0, 1)])), (0, (0, [(1, 1)])), (0, (0, [(2, 1)]))]
def sg_of4_k : List xw_V := []
def sg_of4_q : xw_Q := ([], [], [])
set_option maxRecDepth 100000 in
set_option maxHeartbeats 4000000 in
theorem sg_of4 : xh_chk xz_hl xz_G (xw_calls xz_hl xz_G xt_M xz_HS xz_CT 5000 [] sg_of4_q 1) 230 [4, 40] sg_of4_r xt_230 5000 4 4 sg_of4_s sg_of4_p sg_of4_v sg_of4_k = true := by decide +kernel
theorem sg_of4_d0 {ρ : Nat → Int} {μ : Nat → Nat → Value} (h : xh_ok ρ μ sg_of4_a0) : ((-2147483648) ≤ ρ 0 ∧ ρ 0 ≤ 2147483647) ∧ (0 ≤ ρ 1 ∧ ρ 1 ≤ 127) ∧ (0 ≤ ρ 2 ∧ ρ 2 ≤ 7) ∧ (0 ≤ ρ 3 ∧ ρ 3 ≤ 7) ∧ 0 ≤ ρ 2 + (-1) * ρ 3 ∧ xo_N μ 109 (4) = ρ 3 := by
  obtain ⟨⟨h0, h1, h2, h3, -⟩, ⟨g0, -⟩, ⟨k0, -⟩, -⟩ := h
  have g0 : 0 ≤ (0 : Int) + (1 * ρ 2 + ((-1) * ρ 3 + 0)) := g0
  have k0 : xw_n0 (μ 109 ((4 : Int) + 0).toNat) = (0 : Int) + (1 * ρ 3 + 0) := k0.2
  have k0 : xo_N μ 109 (4) = ρ 3 := by
    rw [show (4 : Int) = (4 : Int) + 0 by omega]
    exact k0.trans (by omega)
  exact ⟨h0, h1, h2, h3, (by omega), k0⟩
theorem sg_of4_d1 {ρ : Nat → Int} {μ : Nat → Nat → Value} (h : xh_ok ρ μ sg_of4_a1) : ((-2147483648) ≤ ρ 0 ∧ ρ 0 ≤ 2147483647) ∧ (0 ≤ ρ 1 ∧ ρ 1 ≤ 127) ∧ (0 ≤ ρ 2 ∧ ρ 2 ≤ 6) ∧ (1 ≤ ρ 3 ∧ ρ 3 ≤ 7) ∧ (0 ≤ ρ 4 ∧ ρ 4 ≤ 2) ∧ (0 ≤ ρ 5 ∧ ρ 5 ≤ 127) ∧ 0 ≤ (-1) + (-1) * ρ 2 + ρ 3 ∧ xo_N μ 111 (2 + 12 * ρ 2) = ρ 4 ∧ xo_N μ 109 (4) = ρ 3 ∧ (∃ a b : Int32, a.toInt = ρ 1 ∧ b.toInt = 0 ∧ ρ 5 = (a ||| b).toInt) ∧ (-1) * ρ 0 + ρ 4 ≠ 0 := by
  obtain ⟨⟨h0, h1, h2, h3, h4, h5, -⟩, ⟨g0, -⟩, ⟨k0, k1, -⟩, ⟨w0, w1, -⟩⟩ := h
  have g0 : 0 ≤ ((-1) : Int) + ((-1) * ρ 2 + (1 * ρ 3 + 0)) := g0
  have k0 : xw_n0 (μ 111 ((2 : Int) + (12 * ρ 2 + 0)).toNat) = (0 : Int) + (1 * ρ 4 + 0) := k0.2
  have k0 : xo_N μ 111 (2 + 12 * ρ 2) = ρ 4 := by
    rw [show (2 + 12 * ρ 2 : Int) = (2 : Int) + (12 * ρ 2 + 0) by omega]
    exact k0.trans (by omega)
  have k1 : xw_n0 (μ 109 ((4 : Int) + 0).toNat) = (0 : Int) + (1 * ρ 3 + 0) := k1.2
  have k1 : xo_N μ 109 (4) = ρ 3 := by
    rw [show (4 : Int) = (4 : Int) + 0 by omega]
    exact k1.trans (by omega)
  have w0 : ∃ a b : Int32, a.toInt = (0 : Int) + (1 * ρ 1 + 0) ∧ b.toInt = (0 : Int) + 0 ∧ ρ 5 = (a ||| b).toInt := w0
  rw [show ((0 : Int) + (1 * ρ 1 + 0) : Int) = ρ 1 by omega, show ((0 : Int) + 0 : Int) = 0 by omega] at w0
  have w1 : (0 : Int) + ((-1) * ρ 0 + (1 * ρ 4 + 0)) ≠ 0 := w1
  rw [show ((0 : Int) + ((-1) * ρ 0 + (1 * ρ 4 + 0)) : Int) = (-1) * ρ 0 + ρ 4 by omega] at w1
  exact ⟨h0, h1, h2, h3, h4, h5, (by omega), k0, k1, w0, w1⟩
theorem sg_of4_d2 {ρ : Nat → Int} {μ : Nat → Nat → Value} (h : xh_ok ρ μ sg_of4_a2) : (0 ≤ ρ 0 ∧ ρ 0 ≤ 2) ∧ (0 ≤ ρ 1 ∧ ρ 1 ≤ 127) ∧ (0 ≤ ρ 2 ∧ ρ 2 ≤ 6) ∧ (1 ≤ ρ 3 ∧ ρ 3 ≤ 7) ∧ (0 ≤ ρ 4 ∧ ρ 4 ≤ 2) ∧ (1 ≤ ρ 5 ∧ ρ 5 ≤ 64) ∧ (1 ≤ ρ 6 ∧ ρ 6 ≤ 127) ∧ 0 ≤ ρ 0 + (-1) * ρ 4 ∧ 0 ≤ (-1) * ρ 0 + ρ 4 ∧ 0 ≤ (-1) + (-1) * ρ 2 + ρ 3 ∧ xo_N μ 111 (2 + 12 * ρ 2) = ρ 4 ∧ xo_N μ 109 (4) = ρ 3 ∧ (∃ a b : Int32, a.toInt = ρ 1 ∧ b.toInt = ρ 5 ∧ ρ 6 = (a ||| b).toInt) ∧ (0 ≤ ρ 2 ∧ ρ 5 = 2 ^ (ρ 2).toNat) := by
  obtain ⟨⟨h0, h1, h2, h3, h4, h5, h6, -⟩, ⟨g0, g1, g2, -⟩, ⟨k0, k1, -⟩, ⟨w0, w1, -⟩⟩ := h
  have g0 : 0 ≤ (0 : Int) + (1 * ρ 0 + ((-1) * ρ 4 + 0)) := g0
  have g1 : 0 ≤ (0 : Int) + ((-1) * ρ 0 + (1 * ρ 4 + 0)) := g1
  have g2 : 0 ≤ ((-1) : Int) + ((-1) * ρ 2 + (1 * ρ 3 + 0)) := g2
  have k0 : xw_n0 (μ 111 ((2 : Int) + (12 * ρ 2 + 0)).toNat) = (0 : Int) + (1 * ρ 4 + 0) := k0.2
  have k0 : xo_N μ 111 (2 + 12 * ρ 2) = ρ 4 := by
    rw [show (2 + 12 * ρ 2 : Int) = (2 : Int) + (12 * ρ 2 + 0) by omega]
    exact k0.trans (by omega)
  have k1 : xw_n0 (μ 109 ((4 : Int) + 0).toNat) = (0 : Int) + (1 * ρ 3 + 0) := k1.2
  have k1 : xo_N μ 109 (4) = ρ 3 := by
    rw [show (4 : Int) = (4 : Int) + 0 by omega]
    exact k1.trans (by omega)
  have w0 : ∃ a b : Int32, a.toInt = (0 : Int) + (1 * ρ 1 + 0) ∧ b.toInt = (0 : Int) + (1 * ρ 5 + 0) ∧ ρ 6 = (a ||| b).toInt := w0
  rw [show ((0 : Int) + (1 * ρ 1 + 0) : Int) = ρ 1 by omega, show ((0 : Int) + (1 * ρ 5 + 0) : Int) = ρ 5 by omega] at w0
  have w1 : 0 ≤ (0 : Int) + (1 * ρ 2 + 0) ∧ ρ 5 = 2 ^ ((0 : Int) + (1 * ρ 2 + 0)).toNat := w1
  rw [show ((0 : Int) + (1 * ρ 2 + 0) : Int) = ρ 2 by omega] at w1
  exact ⟨h0, h1, h2, h3, h4, h5, h6, (by omega), (by omega), (by omega), k0, k1, w0, w1⟩
/-! calls of a stretch, places of a table -/
theorem xo_cg {l : Launch} {I : Nat → Option xv_I} (hM : xw_MOK xt_M I) {d0 dF : Nat} (h : d0 ≤ dF) (Qd : xw_Q) (hq : Qd.2.2 = []) : xw_CG l dF I xz_hl xz_G [] (xw_calls xz_hl xz_G xt_M xz_HS xz_CT 5000 [] Qd d0) := xy_calls xz_9 xz_nar hM (fun caller pc cs hf => by rw [hq] at hf; cases hf) d0 dF h
theorem xh_dec {cc : ByteArray} {own name : String} {ret : Option FieldType} {I : Nat → Option xv_I} {full : List xv_E} (hfull : xw_okM cc own name ret I full) (n : Nat) {e : xv_E} (h : full[n]? = some e) : decode cc e.1 = .ok (e.2.1, e.2.2.1) := (hfull e (List.mem_of_getElem? h)).1.1
theorem xh_lk {cc : ByteArray} {own name : String} {ret : Option FieldType} {I : Nat → Option xv_I} {full : List xv_E} (hfull : xw_okM cc own name ret I full) (n : Nat) {e : xv_E} (h : full[n]? = some e) : xv_lk own name ret I e.2.1 e.2.2.2.1 e.2.2.2.2.1 e.2.2.2.2.2.2 := (hfull e (List.mem_of_getElem? h)).1.2.2
theorem xo_p7 {p : Int} (h0 : 0 ≤ p) (h : p ≤ 7) : (2 : Int) ^ p.toNat ≤ 128 := by
  have : p = 0 ∨ p = 1 ∨ p = 2 ∨ p = 3 ∨ p = 4 ∨ p = 5 ∨ p = 6 ∨ p = 7 := by omega
  rcases this with rfl | rfl | rfl | rfl | rfl | rfl | rfl | rfl <;> decide
theorem xo_N4 {hl : Nat × Int} {t : Nat → ClassId} {X : xw_X} {xs : Nat → Int32} {ws : va_W} (hWd : xw_Wd hl xz_G t X (xw_mu xs ws) ws) : 0 ≤ xo_N (xw_mu xs ws) 109 4 ∧ xo_N (xw_mu xs ws) 109 4 ≤ 7 := by
  have h := xw_ty_ok (r := 109) (i := 4) (c := (1, 30, 6, [[(0, 0, 12), (0, 0, 3), (0, 0, 100), (0, 0, 8), (0, 0, 7), (0, 0, 40)]])) (u := (0, 0, 7)) hWd.1 rfl (by decide) (by decide) rfl
  obtain ⟨i, e, h1, h2⟩ := h.1 rfl
  have e2 : xw_mu xs ws 109 4 = .int i := by rw [← e]; exact hWd.2.2 109 _ rfl 4
  unfold xo_N
  rw [show (4 : Int).toNat = 4 from rfl, e2]
  exact ⟨h1, h2⟩
theorem xo_B0 {xs : Nat → Int32} {ws ws' : va_W} (h : xh_B xs [] ws ws') : xw_mu xs ws' = xw_mu xs ws := by
  funext r j
  exact h.1 r j rfl
set_option maxHeartbeats 4000000 in
theorem xo_of_met {l : Launch} {I : Nat → Option xv_I} (hM : xw_MOK xt_M I) : ∃ i : xv_I, I 230 = some i ∧ ∀ d, 2 ≤ d → ∀ (D : va_G) (t : Nat → ClassId) (X : xw_X) (xs : Nat → Int32) (ws : va_W) (sz ad : Nat) (box : Int32), xw_Inv X → xw_Wd xz_hl xz_G t X (xw_mu xs ws) ws → va_D (fun _ => True) ws → (ws.map Prod.fst)[102]? = some ad →
    Met l i.1 (Cond.code i.1 i.2.1 i.2.2.1 i.2.2.2 :: xv_tb) { frames := d, cells := 0, slots := 0, locals := 60 * d } (xw_Pr D t X xs ws [.ref ad, .int box] sz) (xh_Q D t xz_hl xz_G X xs ws sz [] (fun _ rv => ∃ a : Int32, rv = some (.int a) ∧ a.toInt = xo_of (xw_mu xs ws) box.toInt (xo_N (xw_mu xs ws) 109 4).toNat)) 0 0 (va_A ws sz) := by
  obtain ⟨⟨y, cc, mL, ret⟩, hi, hok⟩ := hM 230 (xt_230, 4) rfl
  refine ⟨_, hi, fun d hd D t X xs ws sz ad box hI hWd hD0 had => ?_⟩
  obtain ⟨d, rfl⟩ : ∃ d', d = d' + 1 := ⟨d - 1, by omega⟩
  obtain ⟨e1, hmL, hpn, hfull⟩ := id hok
  have e1 : 4 = mL := e1
  subst e1
  refine xh_meth xz_9 hok hI hWd hD0 (by show 2 ≤ 4; decide) ?_
  intro p e s m args below meth c R Q hR hCS C hnm hiret hvret ls hls hWo
  dsimp only at C hnm hls hfull hiret hvret
  have hn := xo_N4 hWd
  have hCG := xo_cg (l := l) hM (show 1 ≤ d by omega) sg_of4_q rfl
  have hCG0 := xo_cg (l := l) hM (show 1 ≤ d by omega) sg_of0_q rfl
  have key : ∀ (N : Nat) (bits pp : Int32) (ls : Array Slot) (H : Heap) (locs : List Loc) (ws' : va_W), pp.toInt + (N : Int) = xo_N (xw_mu xs ws) 109 4 → 0 ≤ pp.toInt → bits.toInt = xo_of (xw_mu xs ws) box.toInt pp.toInt.toNat → lv_has ls 4 (lv_args 0 [.ref ad, .int box, .int bits, .int pp]) → xh_Wo D t (va_A ws sz) s.heap xz_hl xz_G X xs H locs ws' → xh_B xs [] ws ws' →
      W p l e R s m args below meth c H locs 0 0 Q (F0 m 4 ls []) := by
    intro N
    induction N with
    | zero =>
      intro bits pp ls H locs ws' hN hp0 hb hls hWo hB
      have hbb := xo_of_b (xw_mu xs ws) box.toInt pp.toInt.toNat
      have h7 := xo_p7 hp0 (by omega)
      have hmu := xo_B0 hB
      refine xh_seg2 (vl := [.ref ad, .int box, .int bits, .int pp]) (vk := []) sg_of4 C hCG hR hCS hnm xz_nar hfull (by decide) rfl hWo ⟨Or.inr (Or.inr (Or.inl ⟨rfl, ad, by rw [hB.2.2]; exact had, rfl⟩)), Or.inl ⟨rfl, box, rfl, xv_i32 box⟩, Or.inl ⟨rfl, bits, rfl, by show (0 : Int) ≤ _; omega, by show _ ≤ (127 : Int); omega⟩, Or.inl ⟨rfl, pp, rfl, by show (0 : Int) ≤ _; omega, by show _ ≤ (7 : Int); omega⟩, True.intro⟩ (fun _ h => by cases h) hls ?_
      intro a ha ρ n ls1 vst H1 locs1 ws1 hWo1 hB1 hlv hsk hrel hok1
      rw [(by decide : ∀ a ∈ sg_of4_r, a.2.2.2.2.2.2.2 = []) a ha] at hB1
      rw [xo_B0 hB1, hmu] at hok1
      rcases List.mem_cons.mp ha with rfl | ha
      · skip
        obtain ⟨y0, z0, hvst⟩ := xh_stk hsk (by decide)
        have z0 : y0.toInt = (0 : Int) + (1 * ρ 1 + 0) := z0
        subst hvst
        obtain ⟨q1, q2, q3, -⟩ := hrel
        have q1 := q1 rfl
        replace q1 : _ = (0 : Int) + (1 * ρ 0 + 0) := q1
        have q2 := q2 rfl
        replace q2 : _ = (0 : Int) + (1 * ρ 1 + 0) := q2
        have q3 := q3 rfl
        replace q3 : _ = (0 : Int) + (1 * ρ 2 + 0) := q3
        obtain ⟨v0, v1, v2, v3, f0, m0⟩ := sg_of4_d0 hok1
        have er := xh_lk hfull 26 (e := (40, .ireturn, 1, 0, 0, 0, 0)) rfl
        rcases er with ⟨-, er⟩ | ⟨er, -⟩
        · refine hiret 40 _ _ _ _ _ er (xh_dec hfull 26 (e := (40, .ireturn, 1, 0, 0, 0, 0)) rfl) hWo1 (hB.tr hB1 rfl) ⟨y0, rfl, ?_⟩
          rw [show y0.toInt = bits.toInt by omega, hb, show pp.toInt = xo_N (xw_mu xs ws) 109 4 by omega]
        · cases er
      rcases List.mem_cons.mp ha with rfl | ha
      · skip
        have hvst := hsk.nil
        subst hvst
        obtain ⟨q1, q2, q3, -⟩ := hrel
        have q1 := q1 rfl
        replace q1 : _ = (0 : Int) + (1 * ρ 0 + 0) := q1
        have q2 := q2 rfl
        replace q2 : _ = (0 : Int) + (1 * ρ 1 + 0) := q2
        have q3 := q3 rfl
        replace q3 : _ = (0 : Int) + (1 * ρ 2 + 0) := q3
        obtain ⟨v0, v1, v2, v3, v4, v5, f0, m0, m1, r0, r1⟩ := sg_of4_d1 hok1
        omega
      rcases List.mem_cons.mp ha with rfl | ha
      · skip
        have hvst := hsk.nil
        subst hvst
        obtain ⟨q1, q2, q3, -⟩ := hrel
        have q1 := q1 rfl
        replace q1 : _ = (0 : Int) + (1 * ρ 0 + 0) := q1
        have q2 := q2 rfl
        replace q2 : _ = (0 : Int) + (1 * ρ 1 + 0) := q2
        have q3 := q3 rfl
        replace q3 : _ = (0 : Int) + (1 * ρ 2 + 0) := q3
        obtain ⟨v0, v1, v2, v3, v4, v5, v6, f0, f1, f2, m0, m1, r0, r1⟩ := sg_of4_d2 hok1
        omega
      cases ha
    | succ N ih =>
      intro bits pp ls H locs ws' hN hp0 hb hls hWo hB
      have hbb := xo_of_b (xw_mu xs ws) box.toInt pp.toInt.toNat
      have h7 := xo_p7 hp0 (by omega)
      have hmu := xo_B0 hB
      refine xh_seg2 (vl := [.ref ad, .int box, .int bits, .int pp]) (vk := []) sg_of4 C hCG hR hCS hnm xz_nar hfull (by decide) rfl hWo ⟨Or.inr (Or.inr (Or.inl ⟨rfl, ad, by rw [hB.2.2]; exact had, rfl⟩)), Or.inl ⟨rfl, box, rfl, xv_i32 box⟩, Or.inl ⟨rfl, bits, rfl, by show (0 : Int) ≤ _; omega, by show _ ≤ (127 : Int); omega⟩, Or.inl ⟨rfl, pp, rfl, by show (0 : Int) ≤ _; omega, by show _ ≤ (7 : Int); omega⟩, True.intro⟩ (fun _ h => by cases h) hls ?_
      intro a ha ρ n ls1 vst H1 locs1 ws1 hWo1 hB1 hlv hsk hrel hok1
      rw [(by decide : ∀ a ∈ sg_of4_r, a.2.2.2.2.2.2.2 = []) a ha] at hB1
      rw [xo_B0 hB1, hmu] at hok1
      have has : ws'.map Prod.fst = ws.map Prod.fst := hB.2.2
      have es : xo_of (xw_mu xs ws) box.toInt (pp.toInt + 1).toNat = xo_of (xw_mu xs ws) box.toInt pp.toInt.toNat + if xo_N (xw_mu xs ws) 111 (2 + 12 * pp.toInt) = box.toInt then 2 ^ pp.toInt.toNat else 0 := by
        rw [show (pp.toInt + 1).toNat = pp.toInt.toNat + 1 by omega]
        show xo_of (xw_mu xs ws) box.toInt pp.toInt.toNat + _ = _
        unfold xo_N
        rw [show (2 + 12 * pp.toInt).toNat = 12 * pp.toInt.toNat + 2 by omega]
      rcases List.mem_cons.mp ha with rfl | ha
      · skip
        obtain ⟨y0, z0, hvst⟩ := xh_stk hsk (by decide)
        have z0 : y0.toInt = (0 : Int) + (1 * ρ 1 + 0) := z0
        subst hvst
        obtain ⟨q1, q2, q3, -⟩ := hrel
        have q1 := q1 rfl
        replace q1 : _ = (0 : Int) + (1 * ρ 0 + 0) := q1
        have q2 := q2 rfl
        replace q2 : _ = (0 : Int) + (1 * ρ 1 + 0) := q2
        have q3 := q3 rfl
        replace q3 : _ = (0 : Int) + (1 * ρ 2 + 0) := q3
        obtain ⟨v0, v1, v2, v3, f0, m0⟩ := sg_of4_d0 hok1
        omega
      rcases List.mem_cons.mp ha with rfl | ha
      · skip
        obtain ⟨ad0, ha0, x1, e1, x2, e2, x3, e3, hls1⟩ := xh_locs hlv 4 (by decide)
        replace ha0 : (List.map Prod.fst _)[(102 : Nat)]? = some ad0 := ha0
        have e1 : x1.toInt = (0 : Int) + (1 * ρ 0 + 0) := e1
        have e2 : x2.toInt = (0 : Int) + (1 * ρ 5 + 0) := e2
        have e3 : x3.toInt = (1 : Int) + (1 * ρ 2 + 0) := e3
        have hvst := hsk.nil
        subst hvst
        obtain ⟨q1, q2, q3, -⟩ := hrel
        have q1 := q1 rfl
        replace q1 : _ = (0 : Int) + (1 * ρ 0 + 0) := q1
        have q2 := q2 rfl
        replace q2 : _ = (0 : Int) + (1 * ρ 1 + 0) := q2
        have q3 := q3 rfl
        replace q3 : _ = (0 : Int) + (1 * ρ 2 + 0) := q3
        obtain ⟨v0, v1, v2, v3, v4, v5, f0, m0, m1, r0, r1⟩ := sg_of4_d1 hok1
        rw [has, had] at ha0
        cases ha0
        have ex1 : x1 = box := Int32.toInt_inj.mp (by omega)
        subst ex1
        obtain ⟨a5, b5, ea, eb, er5⟩ := r0
        rw [xo_or0 eb] at er5
        refine ih x2 x3 ls1 H1 locs1 ws1 (by omega) (by omega) ?_ hls1 hWo1 (hB.tr hB1 rfl)
        rw [show x3.toInt = pp.toInt + 1 by omega, es, if_neg (by rw [show (2 + 12 * pp.toInt : Int) = 2 + 12 * ρ 2 by omega, m0]; omega)]
        omega
      rcases List.mem_cons.mp ha with rfl | ha
      · skip
        obtain ⟨ad0, ha0, x1, e1, x2, e2, x3, e3, hls1⟩ := xh_locs hlv 4 (by decide)
        replace ha0 : (List.map Prod.fst _)[(102 : Nat)]? = some ad0 := ha0
        have e1 : x1.toInt = (0 : Int) + (1 * ρ 0 + 0) := e1
        have e2 : x2.toInt = (0 : Int) + (1 * ρ 6 + 0) := e2
        have e3 : x3.toInt = (1 : Int) + (1 * ρ 2 + 0) := e3
        have hvst := hsk.nil
        subst hvst
        obtain ⟨q1, q2, q3, -⟩ := hrel
        have q1 := q1 rfl
        replace q1 : _ = (0 : Int) + (1 * ρ 0 + 0) := q1
        have q2 := q2 rfl
        replace q2 : _ = (0 : Int) + (1 * ρ 1 + 0) := q2
        have q3 := q3 rfl
        replace q3 : _ = (0 : Int) + (1 * ρ 2 + 0) := q3
        obtain ⟨v0, v1, v2, v3, v4, v5, v6, f0, f1, f2, m0, m1, r0, r1⟩ := sg_of4_d2 hok1
        rw [has, had] at ha0
        cases ha0
        have ex1 : x1 = box := Int32.toInt_inj.mp (by omega)
        subst ex1
        obtain ⟨a5, b5, ea, eb, er5⟩ := r0
        have hbit := xo_bit0 hbb.1 hbb.2
        rw [xw_orbit (y := pp.toInt.toNat) (by omega) (by rw [eb, r1.2]; congr 1; omega) (by rw [ea, show ρ 1 = xo_of (xw_mu xs ws) x1.toInt pp.toInt.toNat by omega]; exact hbit)] at er5
        refine ih x2 x3 ls1 H1 locs1 ws1 (by omega) (by omega) ?_ hls1 hWo1 (hB.tr hB1 rfl)
        rw [show x3.toInt = pp.toInt + 1 by omega, es, if_pos (by rw [show (2 + 12 * pp.toInt : Int) = 2 + 12 * ρ 2 by omega, m0]; omega)]
        have e2p : ρ 5 = 2 ^ pp.toInt.toNat := by rw [r1.2]; congr 1; omega
        omega
      cases ha
  refine xh_seg2 (vl := [.ref ad, .int box]) (vk := []) sg_of0 C hCG0 hR hCS hnm xz_nar hfull (by decide) rfl hWo ⟨Or.inr (Or.inr (Or.inl ⟨rfl, ad, had, rfl⟩)), Or.inl ⟨rfl, box, rfl, xv_i32 box⟩, True.intro⟩ (fun _ h => by cases h) hls ?_
  intro a ha ρ n ls1 vst H1 locs1 ws1 hWo1 hB1 hlv hsk hrel hok1
  rcases List.mem_cons.mp ha with rfl | ha
  · skip
    obtain ⟨ad0, ha0, x1, e1, x2, e2, x3, e3, hls1⟩ := xh_locs hlv 4 (by decide)
    replace ha0 : (List.map Prod.fst _)[(102 : Nat)]? = some ad0 := ha0
    have e1 : x1.toInt = (0 : Int) + (1 * ρ 0 + 0) := e1
    have e2 : x2.toInt = (0 : Int) + 0 := e2
    have e3 : x3.toInt = (0 : Int) + 0 := e3
    have hvst := hsk.nil
    subst hvst
    obtain ⟨q1, -⟩ := hrel
    have q1 := q1 rfl
    replace q1 : _ = (0 : Int) + (1 * ρ 0 + 0) := q1
    have v0 := sg_of0_d0 hok1
    rw [had] at ha0
    cases ha0
    have ex1 : x1 = box := Int32.toInt_inj.mp (by omega)
    subst ex1
    refine key (xo_N (xw_mu xs ws) 109 4).toNat x2 x3 ls1 H1 locs1 ws1 (by omega) (by omega) ?_ hls1 hWo1 hB1
    rw [show x3.toInt = 0 by omega]
    show x2.toInt = 0
    omega
  cases ha
