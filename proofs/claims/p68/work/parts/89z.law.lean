section XL5
variable {p : Program} {l : Launch} {e : Env} {R : Room} {s : State} {m : MethodId} {args : Array Value} {below : List Frame} {meth : Method} {c : Code}
variable {D : va_G} {t : Nat → ClassId} {A : Nat → Prop} {X : xw_X} {xs : Nat → Int32} {Q : State → Prop}
/-- from the loop's head on, the law ends with true -/
theorem xl_loop {a0 a1 c0 s0 : Nat} {as : List Nat} (C : xw_Cx p s m args c code RL 4 D t A X xs xz_G) (hXs : X.2.2.2.1) (hL : X.2.1 ≤ 3072) (hRm : 1000 + 1 ≤ R.frames ∧ 60 * 1000 + 60 ≤ R.locals) (hCS : c0 + 63 ≤ R.cells ∧ s0 + 1260 ≤ R.slots) (has0 : as[0]? = some a0) (has1 : as[102]? = some a1)
    (hend : ∀ (H : Heap) (locs : List Loc) (ls : Array Slot) (cs sl : Nat), va_S A s.heap H locs → cs ≤ R.cells → sl ≤ R.slots → W p l e R s m args below meth c H locs cs sl Q (F0 m 2154 ls [.int 1])) :
    ∀ (n : Nat) (i : Int32) (j : Nat) (ls : Array Slot) (H : Heap) (locs : List Loc) (ws wr : va_W), 0 ≤ i.toInt → (X.2.1 : Int) ≤ i.toInt + 6 * (n : Int) → i.toInt ≤ 3078 → j < 16 → lv_has ls 4 [(0, .ref X.1), (1, .ref a0), (2, .ref a1), (3, .int i)] → xl_S D t A s.heap X xs H locs j ws wr → ws.map Prod.fst = as → W p l e R s m args below meth c H locs (c0 + (xl_n j - 94)) (s0 + 20 * (xl_n j - 94)) Q (F0 m 18 ls []) := by
  intro n
  induction n with
  | zero =>
    intro i j ls H locs ws wr hi0 hn hi hj hls hS has
    obtain ⟨hXX, hbl, hbA, hL31⟩ := C.2.2.2.2.2.2.2.2.1 hXs
    have hSs := hS.1.1.1.2.2.1
    have hnm := xl_nmax j
    refine lv_iload_n C.1 C.2.1 xd18 rfl (hls.2.2 (3, .int i) (by simp)) ?_
    refine lv_aload_n C.1 C.2.1 xd19 rfl (hls.2.2 (0, .ref X.1) (by simp)) ?_
    refine va_slen C.1 C.2.1 hXX hbl hbA hSs xd20 ?_
    refine lv_bipush (v := 6) C.1 C.2.1 xd21 (by decide) ?_
    refine lv_isub C.1 C.2.1 xd23 ?_
    have eL : (Int32.ofNat X.2.1).toInt = (X.2.1 : Int) := by
      exact Int32.toInt_ofNat_of_lt (by omega)
    have eS : (Int32.ofNat X.2.1 - 6).toInt = (X.2.1 : Int) - 6 := by
      rw [Int32.toInt_sub, eL, show (6 : Int32).toInt = 6 by decide, Int.bmod_eq_of_le (by omega) (by omega)]
    refine lv_icmp_gt (tgt := 2153) C.1 C.2.1 xd24 (by decide) (fun _ => ?_) (fun hn2 => ?_)
    · refine lv_iconst (v := 1) C.1 C.2.1 xd2153 (by decide) ?_
      exact hend _ _ _ _ _ hSs (by omega) (by omega)
    · refine absurd ?_ hn2
      rw [Int32.lt_iff_toInt_lt]
      omega
  | succ n ih =>
    intro i j ls H locs ws wr hi0 hn hi hj hls hS has
    obtain ⟨hXX, hbl, hbA, hL31⟩ := C.2.2.2.2.2.2.2.2.1 hXs
    have hSs := hS.1.1.1.2.2.1
    have hnm := xl_nmax j
    have hn2 := xl_n94 j
    refine lv_iload_n C.1 C.2.1 xd18 rfl (hls.2.2 (3, .int i) (by simp)) ?_
    refine lv_aload_n C.1 C.2.1 xd19 rfl (hls.2.2 (0, .ref X.1) (by simp)) ?_
    refine va_slen C.1 C.2.1 hXX hbl hbA hSs xd20 ?_
    refine lv_bipush (v := 6) C.1 C.2.1 xd21 (by decide) ?_
    refine lv_isub C.1 C.2.1 xd23 ?_
    have eL : (Int32.ofNat X.2.1).toInt = (X.2.1 : Int) := by
      exact Int32.toInt_ofNat_of_lt (by omega)
    have eS : (Int32.ofNat X.2.1 - 6).toInt = (X.2.1 : Int) - 6 := by
      rw [Int32.toInt_sub, eL, show (6 : Int32).toInt = 6 by decide, Int.bmod_eq_of_le (by omega) (by omega)]
    refine lv_icmp_gt (tgt := 2153) C.1 C.2.1 xd24 (by decide) (fun _ => ?_) (fun hlt => ?_)
    · refine lv_iconst (v := 1) C.1 C.2.1 xd2153 (by decide) ?_
      exact hend _ _ _ _ _ hSs (by omega) (by omega)
    have hi5 : i.toInt + 5 < (X.2.1 : Int) := by
      rw [Int32.lt_iff_toInt_lt, eS] at hlt
      omega
    -- the next round
    have next : ∀ (j' : Nat) (H' : Heap) (locs' : List Loc) (ws' wr' : va_W), j' < 16 → xl_S D t A s.heap X xs H' locs' j' ws' wr' → ws'.map Prod.fst = as → W p l e R s m args below meth c H' locs' (c0 + (xl_n j' - 94)) (s0 + 20 * (xl_n j' - 94)) Q (F0 m 2147 ls []) := fun j' H' locs' ws' wr' hj' hS' has' => by
      have e6 : (i + Int32.ofInt 6).toInt = i.toInt + 6 := by
        rw [Int32.toInt_add, show (Int32.ofInt 6).toInt = 6 by decide, Int.bmod_eq_of_le (by omega) (by omega)]
      refine lv_iinc (nL := 4) (k := 3) (v := i + Int32.ofInt 6) C.1 C.2.1 (lv' := [(3, .int (i + Int32.ofInt 6)), (0, .ref X.1), (1, .ref a0), (2, .ref a1)]) xd2147 hls rfl rfl (by decide) rfl (fun ls' hls' => ?_)
      refine lv_goto (tgt := 18) C.1 C.2.1 xd2150 (by decide) ?_
      refine ih (i + Int32.ofInt 6) j' ls' H' locs' ws' wr' (by omega) (by omega) (by omega) hj' ⟨hls'.1, hls'.2.1, fun q hq => hls'.2.2 q ?_⟩ hS' has'
      simp only [List.mem_cons, List.not_mem_nil, or_false] at hq ⊢
      rcases hq with h | h | h | h <;> simp [h]
    have cS : c0 + (xl_n j - 94) ≤ R.cells ∧ s0 + 20 * (xl_n j - 94) ≤ R.slots := ⟨by omega, by omega⟩
    have hV : ∀ n, n < 422 → ∀ c, xv_get 20 xz_CT n = some c → xw_CV l (xv_JI xt_J) xz_hl xz_G c := xz_allc l
    refine lv_aload_n C.1 C.2.1 xd27 rfl (hls.2.2 (0, .ref X.1) (by simp)) ?_
    refine lv_iload_n C.1 C.2.1 xd28 rfl (hls.2.2 (3, .int i) (by simp)) ?_
    obtain ⟨q1, -, -⟩ := xy_idx (x := i) (n := X.2.1) hi0 (by omega)
    refine va_sld C.1 C.2.1 hXX hbl hbA hSs q1 xd29 ?_
    refine lv_bipush (v := 127) C.1 C.2.1 xd30 (by decide) ?_
    refine lv_iand C.1 C.2.1 xd32 ?_
    obtain ⟨x0, x1⟩ := xl_and127 (xs i.toNatClampNeg)
    generalize xs i.toNatClampNeg &&& 127 = x at x0 x1
    by_cases hx : 66 < x.toInt
    · exact lv_tableOut (tgt := 2147) C.1 C.2.1 xd33 (Or.inr hx) (by decide) (next j H locs ws wr hj hS has)
    obtain ⟨op, hop⟩ : ∃ op : Nat, x.toInt = (op : Int) := ⟨x.toInt.toNat, by omega⟩
    have eop : (x.toInt - 0).toNat = op := by omega
    have hLk : ∀ {n : Nat} {en : xv_E}, xt_332[n]? = some en → xv_okE code RL "law" (some .boolean) (xv_JI xt_J) en := fun h => xt_law _ (List.mem_of_getElem? h)
    by_cases h62 : op = 62
    · refine lv_tableIn (off := 1889) (tgt := 1922) C.1 C.2.1 xd33 (by omega) hx (by rw [eop, h62]; exact xl_tg62) (by decide) ?_
      exact xl_op62 ⟨C, hXs, hRm, hCS, has0, has1, hi0, hi5, hls, next⟩ hj hS has
    by_cases h63 : op = 63
    · refine lv_tableIn (off := 1912) (tgt := 1945) C.1 C.2.1 xd33 (by omega) hx (by rw [eop, h63]; exact xl_tg63) (by decide) ?_
      exact xl_op63 ⟨C, hXs, hRm, hCS, has0, has1, hi0, hi5, hls, next⟩ hj hS has
    by_cases h64 : op = 64
    · refine lv_tableIn (off := 1935) (tgt := 1968) C.1 C.2.1 xd33 (by omega) hx (by rw [eop, h64]; exact xl_tg64) (by decide) ?_
      exact xl_op64 ⟨C, hXs, hRm, hCS, has0, has1, hi0, hi5, hls, next⟩ hj hS has
    by_cases h66 : op = 66
    · refine lv_tableIn (off := 2051) (tgt := 2084) C.1 C.2.1 xd33 (by omega) hx (by rw [eop, h66]; exact xl_tg66) (by decide) ?_
      exact xl_op66 ⟨C, hXs, hRm, hCS, has0, has1, hi0, hi5, hls, next⟩ hj hS has
    obtain ⟨q, hq, hoff⟩ := xl_tgt op (by omega) h62 h63 h64 h66
    refine lv_tableIn (off := (q.1 : Int) - 33) (tgt := q.1) C.1 C.2.1 xd33 (by omega) hx (by rw [eop]; exact hoff) (by omega) ?_
    exact xl_ok (name := "law") (ret := some .boolean) (I := xv_JI xt_J) (ct := xl_ct) (dF := 1000) (stop := 2147) (sst := []) (hz := 0) (e9 := fun g => ws[g]?) (wr := wr) C hV hRm cS hXs hi0 hi5 hls has0 has1 (fun vst H2 locs2 ws2 hW2 has2 hg2 hsk => by
      have ev := hsk.nil
      subst ev
      exact next j H2 locs2 ws2 wr hj (xl_stay hj hS hW2 (has2.trans has.symm) hg2) has2) (xt_332.drop q.2) (fun y hy => xt_law y (List.mem_of_mem_drop hy)) q.1 [] (List.all_eq_true.mp xl_opsok q hq) [] H locs ws hS.1.1 has (fun _ _ => rfl) True.intro
end XL5
