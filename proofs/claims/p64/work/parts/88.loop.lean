/-! the law's loop -/
def xl_offs : Array Int := #[283, 346, 369, 382, 405, 428, 461, 494, 527, 550, 583, 606, 629, 662, 685, 708, 721, 734, 747, 770, 793, 816, 839, 862, 885, 918, 941, 964, 987, 1010, 1043, 1066, 1079, 1092, 1115, 1128, 1151, 1164, 1177, 1200, 1233, 1266, 1309, 1342, 1375, 1418, 1441, 1494, 1537, 1560, 1593, 1616, 1639, 1652, 1665, 1678, 1691, 1724, 1757, 1800, 1833, 1866, 1889, 1912, 1935, 1978, 2051]
theorem xd18 : decode code 18 = .ok (.iload_n 3, 1) := by decide +kernel
theorem xd19 : decode code 19 = .ok (.aload_n 0, 1) := by decide +kernel
theorem xd20 : decode code 20 = .ok (.arraylength, 1) := by decide +kernel
theorem xd21 : decode code 21 = .ok (.bipush 6, 2) := by decide +kernel
theorem xd23 : decode code 23 = .ok (.isub, 1) := by decide +kernel
theorem xd24 : decode code 24 = .ok (.if_icmp .gt 2129, 3) := by decide +kernel
theorem xd27 : decode code 27 = .ok (.aload_n 0, 1) := by decide +kernel
theorem xd28 : decode code 28 = .ok (.iload_n 3, 1) := by decide +kernel
theorem xd29 : decode code 29 = .ok (.iaload, 1) := by decide +kernel
theorem xd30 : decode code 30 = .ok (.bipush 127, 2) := by decide +kernel
theorem xd32 : decode code 32 = .ok (.iand, 1) := by decide +kernel
set_option maxRecDepth 100000 in
theorem xd33 : decode code 33 = .ok (.tableswitch 2114 0 66 xl_offs, 283) := by decide +kernel
theorem xd2147 : decode code 2147 = .ok (.iinc 3 6, 3) := by decide +kernel
theorem xd2150 : decode code 2150 = .ok (.goto (-2132), 3) := by decide +kernel
theorem xd2153 : decode code 2153 = .ok (.iconst 1, 1) := by decide +kernel
theorem xd1922 : decode code 1922 = .ok (.aload_n 1, 1) ∧ decode code 1931 = .ok (.aload_n 2, 1) ∧ decode code 1945 = .ok (.aload_n 1, 1) ∧ decode code 1954 = .ok (.pop, 1) ∧ decode code 1940 = .ok (.if_icmp .eq 207, 3) := by decide +kernel
def xl_D5 (pc : Nat) : Prop := decode code pc = .ok (.aload_n 0, 1) ∧ decode code (pc + 1) = .ok (.iload_n 3, 1) ∧ decode code (pc + 2) = .ok (.iconst 1, 1) ∧ decode code (pc + 3) = .ok (.iadd, 1) ∧ decode code (pc + 4) = .ok (.iaload, 1)
theorem xl_d1923 : xl_D5 1923 := by unfold xl_D5; decide +kernel
theorem xl_d1932 : xl_D5 1932 := by unfold xl_D5; decide +kernel
theorem xl_d1946 : xl_D5 1946 := by unfold xl_D5; decide +kernel
set_option maxRecDepth 100000 in
theorem xl_e1262 : xt_332[1262]? = some (1928, .invokevirtual 268, 3, 181, 1, 1283, 11) := rfl
set_option maxRecDepth 100000 in
theorem xl_e1269 : xt_332[1269]? = some (1937, .invokevirtual 271, 3, 325, 1, 2051, 12) := rfl
set_option maxRecDepth 100000 in
theorem xl_e1279 : xt_332[1279]? = some (1951, .invokevirtual 272, 3, 182, 1, 1309, 11) := rfl
set_option maxRecDepth 100000 in
theorem xl_r63 : xl_run xl_ct 1000 2147 (xt_332.drop 1281) 1955 [] = true := by decide +kernel
set_option maxRecDepth 100000 in
theorem xl_tgt : ∀ op, op < 67 → op ≠ 62 → op ≠ 63 → ∃ q ∈ xl_ops, xl_offs[op]? = some ((q.1 : Int) - 33) := by decide +kernel
theorem xl_tgt2 : xl_offs[62]? = some 1889 ∧ xl_offs[63]? = some 1912 := ⟨rfl, rfl⟩
theorem xl_and127 (x : Int32) : 0 ≤ (x &&& 127).toInt ∧ (x &&& 127).toInt ≤ 127 := by
  have h : (x &&& 127).toBitVec = x.toBitVec &&& 127#32 := rfl
  have h2 : (x.toBitVec &&& 127#32).toNat ≤ 127 := by
    rw [BitVec.toNat_and]; exact Nat.and_le_right
  have h3 : (x &&& 127).toInt = ((x.toBitVec &&& 127#32).toNat : Int) := by
    show (x &&& 127).toBitVec.toInt = _
    rw [h, BitVec.toInt_eq_toNat_of_lt (by omega)]
  omega
section XL4
variable {p : Program} {l : Launch} {e : Env} {R : Room} {s : State} {m : MethodId} {args : Array Value} {below : List Frame} {meth : Method} {c : Code}
variable {D : va_G} {t : Nat → ClassId} {A : Nat → Prop} {X : xw_X} {xs : Nat → Int32} {cs sl : Nat} {Q : State → Prop} {pc : Nat}
theorem xl_ld1 {i : Int32} {a0 a1 : Nat} {ls : Array Slot} {st : List Value} {H : Heap} {locs : List Loc} (C : xw_Cx p s m args c code RL 4 D t A X xs xz_G) (hXs : X.2.2.2.1) (hi0 : 0 ≤ i.toInt) (hi5 : i.toInt + 5 < (X.2.1 : Int)) (hls : lv_has ls 4 [(0, .ref X.1), (1, .ref a0), (2, .ref a1), (3, .int i)]) (hS : va_S A s.heap H locs) (d : xl_D5 pc) (kk : W p l e R s m args below meth c H locs cs sl Q (F0 m (pc + 5) ls (.int (xs (i.toInt + 1).toNat) :: st))) : W p l e R s m args below meth c H locs cs sl Q (F0 m pc ls st) := by
  obtain ⟨d0, d1, d2, d3, d4⟩ := d
  obtain ⟨hXX, hbl, hbA, hL31⟩ := C.2.2.2.2.2.2.2.2.1 hXs
  refine lv_aload_n C.1 C.2.1 d0 rfl (hls.2.2 (0, .ref X.1) (by simp)) ?_
  refine lv_iload_n C.1 C.2.1 d1 rfl (hls.2.2 (3, .int i) (by simp)) ?_
  refine lv_iconst (v := 1) C.1 C.2.1 d2 (by decide) ?_
  refine lv_iadd C.1 C.2.1 d3 ?_
  have e1 : (i + 1).toInt = i.toInt + 1 := by
    rw [Int32.toInt_add, show (1 : Int32).toInt = 1 by decide, Int.bmod_eq_of_le (by omega) (by omega)]
  obtain ⟨q1, q2, q3⟩ := xy_idx (x := i + 1) (n := X.2.1) (by omega) (by omega)
  refine va_sld C.1 C.2.1 hXX hbl hbA hS q1 d4 ?_
  rw [q2, e1]
  exact kk
theorem xl_imM {ad : Nat} {k : Int32} {gz : Nat → Int} {μ : Nat → Nat → Value} {rv : Option Value} {c0 : xw_C} (hc : xv_get 20 xz_CT 323 = some c0) (h : ∃ q ∈ c0.2.2.2.2.1, xw_Pv [.ref ad, .int k] gz μ q rv) : ∃ x : Int32, rv = some (.int x) ∧ (((k.toInt ≤ -1 ∨ 3 ≤ k.toInt) ∧ x.toInt = -2) ∨ (0 ≤ k.toInt ∧ k.toInt ≤ 2 ∧ x.toInt = 0)) := by
  have e : c0.2.2.2.2.1 = [(0, -2, -2, [(-1, [(-1, (0, 1, 0, []))])]), (0, -2, -2, [(-3, [(1, (0, 1, 0, []))])]), (0, 0, 0, [(0, [(1, (0, 1, 0, []))]), (2, [(-1, (0, 1, 0, []))])])] := by
    have := hc.symm.trans (rfl : xv_get 20 xz_CT 323 = some _)
    cases this
    rfl
  rw [e] at h
  obtain ⟨q, hq, hv, hf⟩ := h
  have num : ∀ {lo hi : Int}, q.1 = 0 → q.2.1 = lo → q.2.2.1 = hi → ∃ x : Int32, rv = some (.int x) ∧ lo ≤ x.toInt ∧ x.toInt ≤ hi := fun h0 h1 h2 => by
    rcases hv with ⟨w, -⟩ | ⟨-, x, e, e1, e2⟩ | ⟨w, -⟩
    · omega
    · exact ⟨x, e, by omega, by omega⟩
    · omega
  rcases List.mem_cons.mp hq with rfl | hq
  · obtain ⟨x, rfl, x1, x2⟩ := num (lo := -2) (hi := -2) rfl rfl rfl
    have f := hf _ List.mem_cons_self
    have f' : 0 ≤ -1 + ((-1) * k.toInt + 0) := f
    exact ⟨x, rfl, Or.inl ⟨by omega, by omega⟩⟩
  · rcases List.mem_cons.mp hq with rfl | hq
    · obtain ⟨x, rfl, x1, x2⟩ := num (lo := -2) (hi := -2) rfl rfl rfl
      have f := hf _ List.mem_cons_self
      have f' : 0 ≤ -3 + (1 * k.toInt + 0) := f
      exact ⟨x, rfl, Or.inl ⟨by omega, by omega⟩⟩
    · rcases List.mem_cons.mp hq with rfl | hq
      · obtain ⟨x, rfl, x1, x2⟩ := num (lo := 0) (hi := 0) rfl rfl rfl
        have f := hf _ List.mem_cons_self
        have f' : 0 ≤ 0 + (1 * k.toInt + 0) := f
        have g := hf _ (List.mem_cons_of_mem _ List.mem_cons_self)
        have g' : 0 ≤ 2 + ((-1) * k.toInt + 0) := g
        exact ⟨x, rfl, Or.inr ⟨by omega, by omega, by omega⟩⟩
      · cases hq
end XL4
