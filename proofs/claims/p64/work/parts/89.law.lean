def xl_c323 : xw_C := (325, [(2, 102, 0), (0, (-2147483648), 2147483647)], [], [], [(0, (-2), (-2), [((-1), [((-1), (0, 1, 0, []))])]), (0, (-2), (-2), [((-3), [(1, (0, 1, 0, []))])]), (0, 0, 0, [(0, [(1, (0, 1, 0, []))]), (2, [((-1), (0, 1, 0, []))])])], [(102, 1), (108, 0), (109, 0), (110, 0), (111, 0), (112, 0), (113, 0), (114, 0)], 3)
theorem xl_c323e : xv_get 20 xz_CT 323 = some xl_c323 := rfl
section XL5
variable {p : Program} {l : Launch} {e : Env} {R : Room} {s : State} {m : MethodId} {args : Array Value} {below : List Frame} {meth : Method} {c : Code}
variable {D : va_G} {t : Nat → ClassId} {A : Nat → Prop} {X : xw_X} {xs : Nat → Int32} {Q : State → Prop}
theorem xl_nmax (j : Nat) : xl_n j ≤ 165 := by
  unfold xl_n
  split <;> decide
/-- from the loop's head on, the law ends with true -/
theorem xl_loop {a0 a1 c0 s0 : Nat} {as : List Nat} (C : xw_Cx p s m args c code RL 4 D t A X xs xz_G) (hXs : X.2.2.2.1) (hL : X.2.1 ≤ 3072) (hRm : 1000 + 1 ≤ R.frames ∧ 60 * 1000 + 60 ≤ R.locals) (hCS : c0 + 63 ≤ R.cells ∧ s0 + 1260 ≤ R.slots) (has0 : as[0]? = some a0) (has1 : as[102]? = some a1)
    (hend : ∀ (H : Heap) (locs : List Loc) (ls : Array Slot) (cs sl : Nat), va_S A s.heap H locs → cs ≤ R.cells → sl ≤ R.slots → W p l e R s m args below meth c H locs cs sl Q (F0 m 2154 ls [.int 1])) :
    ∀ (n : Nat) (i : Int32) (j : Nat) (ls : Array Slot) (H : Heap) (locs : List Loc) (ws wr : va_W), 0 ≤ i.toInt → (X.2.1 : Int) ≤ i.toInt + 6 * (n : Int) → i.toInt ≤ 3078 → j < 16 → lv_has ls 4 [(0, .ref X.1), (1, .ref a0), (2, .ref a1), (3, .int i)] → xl_S D t A s.heap X xs H locs j ws wr → ws.map Prod.fst = as → W p l e R s m args below meth c H locs (c0 + (xl_n j - 102)) (s0 + 20 * (xl_n j - 102)) Q (F0 m 18 ls []) := by
  intro n
  induction n with
  | zero =>
    intro i j ls H locs ws wr hi0 hn hi hj hls hS has
    obtain ⟨hXX, hbl, hbA, hL31⟩ := C.2.2.2.2.2.2.2.2.1 hXs
    have hSs := hS.1.1.2.2.1
    have hnm := xl_nmax j
    refine lv_iload_n C.1 C.2.1 xd18 rfl (hls.2.2 (3, .int i) (by simp)) ?_
    refine lv_aload_n C.1 C.2.1 xd19 rfl (hls.2.2 (0, .ref X.1) (by simp)) ?_
    refine va_slen C.1 C.2.1 hXX hbl hbA hSs xd20 ?_
    refine lv_bipush (v := 6) C.1 C.2.1 xd21 (by decide) ?_
    refine lv_isub C.1 C.2.1 xd23 ?_
    have eL : (Int32.ofNat X.2.1).toInt = (X.2.1 : Int) := by
      exact Int32.toInt_ofNat_of_lt (by omega)
    have eS : (Int32.ofNat X.2.1 - 6).toInt = (X.2.1 : Int) - 6 := by
      rw [Int32.toInt_sub, eL, show (6 : Int32).toInt = 6 by decide, Int.bmod_eq_of_le (by omega) (by omega)]
    refine lv_icmp_gt (tgt := 2153) C.1 C.2.1 xd24 (by decide) (fun _ => ?_) (fun hn2 => ?_)
    · refine lv_iconst (v := 1) C.1 C.2.1 xd2153 (by decide) ?_
      exact hend _ _ _ _ _ hSs (by omega) (by omega)
    · refine absurd ?_ hn2
      rw [Int32.lt_iff_toInt_lt]
      omega
  | succ n ih =>
    intro i j ls H locs ws wr hi0 hn hi hj hls hS has
    obtain ⟨hXX, hbl, hbA, hL31⟩ := C.2.2.2.2.2.2.2.2.1 hXs
    have hSs := hS.1.1.2.2.1
    have hnm := xl_nmax j
    have hn2 := xl_n102 j
    refine lv_iload_n C.1 C.2.1 xd18 rfl (hls.2.2 (3, .int i) (by simp)) ?_
    refine lv_aload_n C.1 C.2.1 xd19 rfl (hls.2.2 (0, .ref X.1) (by simp)) ?_
    refine va_slen C.1 C.2.1 hXX hbl hbA hSs xd20 ?_
    refine lv_bipush (v := 6) C.1 C.2.1 xd21 (by decide) ?_
    refine lv_isub C.1 C.2.1 xd23 ?_
    have eL : (Int32.ofNat X.2.1).toInt = (X.2.1 : Int) := by
      exact Int32.toInt_ofNat_of_lt (by omega)
    have eS : (Int32.ofNat X.2.1 - 6).toInt = (X.2.1 : Int) - 6 := by
      rw [Int32.toInt_sub, eL, show (6 : Int32).toInt = 6 by decide, Int.bmod_eq_of_le (by omega) (by omega)]
    refine lv_icmp_gt (tgt := 2153) C.1 C.2.1 xd24 (by decide) (fun _ => ?_) (fun hlt => ?_)
    · refine lv_iconst (v := 1) C.1 C.2.1 xd2153 (by decide) ?_
      exact hend _ _ _ _ _ hSs (by omega) (by omega)
    have hi5 : i.toInt + 5 < (X.2.1 : Int) := by
      rw [Int32.lt_iff_toInt_lt, eS] at hlt
      omega
    -- the next round
    have next : ∀ (j' : Nat) (H' : Heap) (locs' : List Loc) (ws' wr' : va_W), j' < 16 → xl_S D t A s.heap X xs H' locs' j' ws' wr' → ws'.map Prod.fst = as → W p l e R s m args below meth c H' locs' (c0 + (xl_n j' - 102)) (s0 + 20 * (xl_n j' - 102)) Q (F0 m 2147 ls []) := fun j' H' locs' ws' wr' hj' hS' has' => by
      have e6 : (i + Int32.ofInt 6).toInt = i.toInt + 6 := by
        rw [Int32.toInt_add, show (Int32.ofInt 6).toInt = 6 by decide, Int.bmod_eq_of_le (by omega) (by omega)]
      refine lv_iinc (nL := 4) (k := 3) (v := i + Int32.ofInt 6) C.1 C.2.1 (lv' := [(3, .int (i + Int32.ofInt 6)), (0, .ref X.1), (1, .ref a0), (2, .ref a1)]) xd2147 hls rfl rfl (by decide) rfl (fun ls' hls' => ?_)
      refine lv_goto (tgt := 18) C.1 C.2.1 xd2150 (by decide) ?_
      refine ih (i + Int32.ofInt 6) j' ls' H' locs' ws' wr' (by omega) (by omega) (by omega) hj' ⟨hls'.1, hls'.2.1, fun q hq => hls'.2.2 q ?_⟩ hS' has'
      simp only [List.mem_cons, List.not_mem_nil, or_false] at hq ⊢
      rcases hq with h | h | h | h <;> simp [h]
    have cS : c0 + (xl_n j - 102) ≤ R.cells ∧ s0 + 20 * (xl_n j - 102) ≤ R.slots := ⟨by omega, by omega⟩
    have hV : ∀ n, n < 419 → ∀ c, xv_get 20 xz_CT n = some c → xw_CV l (xv_JI xt_J) xz_hl xz_G c := xz_allc l
    refine lv_aload_n C.1 C.2.1 xd27 rfl (hls.2.2 (0, .ref X.1) (by simp)) ?_
    refine lv_iload_n C.1 C.2.1 xd28 rfl (hls.2.2 (3, .int i) (by simp)) ?_
    obtain ⟨q1, -, -⟩ := xy_idx (x := i) (n := X.2.1) hi0 (by omega)
    refine va_sld C.1 C.2.1 hXX hbl hbA hSs q1 xd29 ?_
    refine lv_bipush (v := 127) C.1 C.2.1 xd30 (by decide) ?_
    refine lv_iand C.1 C.2.1 xd32 ?_
    obtain ⟨x0, x1⟩ := xl_and127 (xs i.toNatClampNeg)
    generalize xs i.toNatClampNeg &&& 127 = x at x0 x1
    by_cases hx : 66 < x.toInt
    · exact lv_tableOut (tgt := 2147) C.1 C.2.1 xd33 (Or.inr hx) (by decide) (next j H locs ws wr hj hS has)
    obtain ⟨op, hop⟩ : ∃ op : Nat, x.toInt = (op : Int) := ⟨x.toInt.toNat, by omega⟩
    have eop : (x.toInt - 0).toNat = op := by omega
    have hLk : ∀ {n : Nat} {en : xv_E}, xt_332[n]? = some en → xv_okE code RL "law" (some .boolean) (xv_JI xt_J) en := fun h => xt_law _ (List.mem_of_getElem? h)
    by_cases h62 : op = 62
    · refine lv_tableIn (off := 1889) (tgt := 1922) C.1 C.2.1 xd33 (by omega) hx (by rw [eop, h62]; exact xl_tgt2.1) (by decide) ?_
      refine lv_aload_n C.1 C.2.1 xd1922.1 rfl (hls.2.2 (1, .ref a0) (by simp)) ?_
      refine xl_ld1 C hXs hi0 hi5 hls hSs xl_d1923 ?_
      obtain ⟨j', v, hRr, hv⟩ := xl_Rim j hj (xs (i.toInt + 1).toNat)
      obtain ⟨kv, -, -, -, hj', hnn, -⟩ := id hRr
      have hnm' := xl_nmax j'
      obtain ⟨hd1, -, hlk1⟩ := hLk xl_e1262
      have ecs : c0 + (xl_n j - 102) + (xl_n j' - xl_n j) = c0 + (xl_n j' - 102) := by omega
      have esl : s0 + 20 * (xl_n j - 102) + 20 * (xl_n j' - xl_n j) = s0 + 20 * (xl_n j' - 102) := by omega
      refine xl_callI (vr := []) C hj hRr hd1 ⟨by omega, by omega⟩ ⟨by omega, by omega⟩ hlk1 hS (by rw [has]; exact has0) hls.1 (by decide) (fun x' H' locs' ws' wr' hx' hS' has' => ?_)
      rw [ecs, esl]
      have hSs' := hS'.1.1.2.2.1
      refine lv_aload_n C.1 C.2.1 xd1922.2.1 rfl (hls.2.2 (2, .ref a1) (by simp)) ?_
      refine xl_ld1 C hXs hi0 hi5 hls hSs' xl_d1932 ?_
      obtain ⟨hd2, -, hlk2⟩ := hLk xl_e1269
      have had1 : (ws'.map Prod.fst)[102]? = some a1 := by rw [has', has]; exact has1
      refine xl_call (P := [.int (xs (i.toInt + 1).toNat)]) (vr := [.int x']) (I := xv_JI xt_J) (n := 1) (ci := 12) (r := 102) (c0 := xl_c323) (dF := 1000) C (hV 323 (by decide) _ xl_c323e) (by decide) rfl hd2 hRm ⟨by omega, by omega⟩ hlk2 hS'.1 rfl rfl rfl had1 hls.1 rfl (Nat.le_of_ble_eq_true rfl) ⟨Or.inr (Or.inr (Or.inl ⟨rfl, a1, had1, rfl⟩)), Or.inl ⟨rfl, _, rfl, (xv_i32 _).1, (xv_i32 _).2⟩, True.intro⟩ (fun rv H2 locs2 ws2 hW2 hB2 hpo => ?_)
      obtain ⟨y, rfl, hy⟩ := xl_imM xl_c323e hpo
      have h101 : ws2[101]? = ws'[101]? := hB2.2.1 101 (fun cx hcx => by
        have hall : xl_c323.2.2.2.2.2.1.all (fun q => !Nat.beq q.1 101) = true := by decide
        have := List.all_eq_true.mp hall _ hcx
        exact absurd this (by show ¬ ((!Nat.beq 101 101) = true); decide))
      refine lv_icmp_eq (tgt := 2147) C.1 C.2.1 xd1922.2.2.2.2 (by decide) (fun _ => next j' H2 locs2 ws2 wr' hj' (xl_stay hj' hS' hW2 hB2.2.2 h101) (hB2.2.2.trans (has'.trans has))) (fun hne => absurd ?_ hne)
      apply Int32.toInt_inj.mp
      omega
    by_cases h63 : op = 63
    · refine lv_tableIn (off := 1912) (tgt := 1945) C.1 C.2.1 xd33 (by omega) hx (by rw [eop, h63]; exact xl_tgt2.2) (by decide) ?_
      refine lv_aload_n C.1 C.2.1 xd1922.2.2.1 rfl (hls.2.2 (1, .ref a0) (by simp)) ?_
      refine xl_ld1 C hXs hi0 hi5 hls hSs xl_d1946 ?_
      obtain ⟨j', v, hRr, hv⟩ := xl_Ra j hj (xs (i.toInt + 1).toNat)
      obtain ⟨kv, -, -, -, hj', hnn, -⟩ := id hRr
      have hnm' := xl_nmax j'
      obtain ⟨hd1, -, hlk1⟩ := hLk xl_e1279
      have ecs : c0 + (xl_n j - 102) + (xl_n j' - xl_n j) = c0 + (xl_n j' - 102) := by omega
      have esl : s0 + 20 * (xl_n j - 102) + 20 * (xl_n j' - xl_n j) = s0 + 20 * (xl_n j' - 102) := by omega
      refine xl_callI (vr := []) C hj hRr hd1 ⟨by omega, by omega⟩ ⟨by omega, by omega⟩ hlk1 hS (by rw [has]; exact has0) hls.1 (by decide) (fun x' H' locs' ws' wr' hx' hS' has' => ?_)
      rw [ecs, esl]
      refine lv_pop C.1 C.2.1 xd1922.2.2.2.1 rfl ?_
      exact xl_ok (name := "law") (ret := some .boolean) (I := xv_JI xt_J) (ct := xl_ct) (stop := 2147) (dF := 1000) (e9 := ws'[101]?) (wr := wr') C hV hRm ⟨by omega, by omega⟩ hXs hi0 hi5 hls has0 has1 (fun vst H2 locs2 ws2 hW2 has2 h101 hsk => by
        have ev := hsk.nil
        subst ev
        exact next j' H2 locs2 ws2 wr' hj' (xl_stay hj' hS' hW2 (has2.trans (has'.trans has).symm) h101) has2) (xt_332.drop 1281) (fun y hy => xt_law y (List.mem_of_mem_drop hy)) 1955 [] xl_r63 [] H' locs' ws' hS'.1 (has'.trans has) rfl True.intro
    · obtain ⟨q, hq, hoff⟩ := xl_tgt op (by omega) h62 h63
      refine lv_tableIn (off := (q.1 : Int) - 33) (tgt := q.1) C.1 C.2.1 xd33 (by omega) hx (by rw [eop]; exact hoff) (by omega) ?_
      exact xl_ok (name := "law") (ret := some .boolean) (I := xv_JI xt_J) (ct := xl_ct) (stop := 2147) (dF := 1000) (e9 := ws[101]?) (wr := wr) C hV hRm cS hXs hi0 hi5 hls has0 has1 (fun vst H2 locs2 ws2 hW2 has2 h101 hsk => by
        have ev := hsk.nil
        subst ev
        exact next j H2 locs2 ws2 wr hj (xl_stay hj hS hW2 (has2.trans has.symm) h101) has2) (xt_332.drop q.2) (fun y hy => xt_law y (List.mem_of_mem_drop hy)) q.1 [] (List.all_eq_true.mp xl_opsok q hq) [] H locs ws hS.1 has rfl True.intro
end XL5
