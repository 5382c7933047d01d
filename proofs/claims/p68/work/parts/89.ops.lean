/-! the cases by hand -/
theorem xl_Knew {j : Nat} {k : Int} {ws ws' : va_W} (hj : j < 16) (hK : xl_KK j ws) (h0 : 0 ≤ k) (h2 : k ≤ 2) (h : ∀ q : Nat, q < 3 → (k = q → xw_n0 (xw_ct ws' 114 q) = 1) ∧ (k ≠ q → xw_n0 (xw_ct ws' 114 q) = xw_n0 (xw_ct ws 114 q))) : xl_KK (xl_nx j k.toNat) ws' := fun q hq => by
  rw [(xl_hnx j hj k.toNat (by omega)).2 q hq]
  by_cases e : k = q
  · rw [(h q hq).1 e]
    have e2 : k.toNat = q := by omega
    rw [e2, show Nat.beq q q = true from Nat.beq_refl q]
    rfl
  · rw [(h q hq).2 e, hK q hq]
    cases hb : Nat.beq q k.toNat with
    | true => have := xv_beq hb; omega
    | false => rfl
theorem xl_Qnew {ws ws' : va_W} {s w n : Int} (hQ : xl_QQ ws) (h1 : ∀ q : Nat, q < 4 → ((0 ≤ s ∧ s ≤ 3 ∧ 0 ≤ w ∧ w ≤ 3 ∧ n ≤ 60) ∧ 0 ≤ n ∧ s = q → xw_n0 (xw_ct ws' 59 q) = w ∧ xw_n0 (xw_ct ws' 60 q) = n) ∧ (¬ ((0 ≤ s ∧ s ≤ 3 ∧ 0 ≤ w ∧ w ≤ 3 ∧ n ≤ 60) ∧ 0 ≤ n ∧ s = q) → xw_n0 (xw_ct ws' 59 q) = xw_n0 (xw_ct ws 59 q) ∧ xw_n0 (xw_ct ws' 60 q) = xw_n0 (xw_ct ws 60 q)))
    (h2 : ∀ q : Nat, q < 4 → ((0 ≤ s ∧ s ≤ 3 ∧ 0 ≤ w ∧ w ≤ 3 ∧ n ≤ 60) ∧ 0 ≤ n ∧ s = q → xw_n0 (xw_ct ws' 103 q) = w ∧ xw_n0 (xw_ct ws' 104 q) = n) ∧ (¬ ((0 ≤ s ∧ s ≤ 3 ∧ 0 ≤ w ∧ w ≤ 3 ∧ n ≤ 60) ∧ 0 ≤ n ∧ s = q) → xw_n0 (xw_ct ws' 103 q) = xw_n0 (xw_ct ws 103 q) ∧ xw_n0 (xw_ct ws' 104 q) = xw_n0 (xw_ct ws 104 q))) : xl_QQ ws' := fun q hq => by
  have hQ := hQ q hq
  have h1 := h1 q hq
  have h2 := h2 q hq
  by_cases e : (0 ≤ s ∧ s ≤ 3 ∧ 0 ≤ w ∧ w ≤ 3 ∧ n ≤ 60) ∧ 0 ≤ n ∧ s = q
  · obtain ⟨a1, a2⟩ := h1.1 e
    obtain ⟨b1, b2⟩ := h2.1 e
    exact Or.inr ⟨by omega, by omega, by omega, by omega⟩
  · obtain ⟨a1, a2⟩ := h1.2 e
    obtain ⟨b1, b2⟩ := h2.2 e
    rw [a1, a2, b1, b2]; exact hQ
section XL5
variable {p : Program} {l : Launch} {e : Env} {R : Room} {s : State} {m : MethodId} {args : Array Value} {below : List Frame} {meth : Method} {c : Code}
variable {D : va_G} {t : Nat → ClassId} {A : Nat → Prop} {X : xw_X} {xs : Nat → Int32} {Q : State → Prop}
/-- what a case by hand is given: the script, the locals, the state, the next round -/
def xl_In (p : Program) (l : Launch) (e : Env) (R : Room) (s : State) (m : MethodId) (args : Array Value) (below : List Frame) (meth : Method) (c : Code) (D : va_G) (t : Nat → ClassId) (A : Nat → Prop) (X : xw_X) (xs : Nat → Int32) (Q : State → Prop) (c0 s0 a0 a1 : Nat) (as : List Nat) (i : Int32) (ls : Array Slot) : Prop := xw_Cx p s m args c code RL 4 D t A X xs xz_G ∧ X.2.2.2.1 ∧ (1000 + 1 ≤ R.frames ∧ 60 * 1000 + 60 ≤ R.locals) ∧ (c0 + 63 ≤ R.cells ∧ s0 + 1260 ≤ R.slots) ∧ as[0]? = some a0 ∧ as[102]? = some a1 ∧ 0 ≤ i.toInt ∧ i.toInt + 5 < (X.2.1 : Int) ∧ lv_has ls 4 [(0, .ref X.1), (1, .ref a0), (2, .ref a1), (3, .int i)] ∧ ∀ (j' : Nat) (H' : Heap) (locs' : List Loc) (ws' wr' : va_W), j' < 16 → xl_S D t A s.heap X xs H' locs' j' ws' wr' → ws'.map Prod.fst = as → W p l e R s m args below meth c H' locs' (c0 + (xl_n j' - 94)) (s0 + 20 * (xl_n j' - 94)) Q (F0 m 2147 ls [])

theorem xl_op62 {c0 s0 a0 a1 : Nat} {as : List Nat} {i : Int32} {j : Nat} {ls : Array Slot} {H : Heap} {locs : List Loc} {ws wr : va_W} (hIn : xl_In p l e R s m args below meth c D t A X xs Q c0 s0 a0 a1 as i ls) (hj : j < 16) (hS : xl_S D t A s.heap X xs H locs j ws wr) (has : ws.map Prod.fst = as) : W p l e R s m args below meth c H locs (c0 + (xl_n j - 94)) (s0 + 20 * (xl_n j - 94)) Q (F0 m 1922 ls []) := by
  obtain ⟨C, hXs, hRm, hCS, has0, has1, hi0, hi5, hls, next⟩ := hIn
  have hV : ∀ n, n < 422 → ∀ c, xv_get 20 xz_CT n = some c → xw_CV l (xv_JI xt_J) xz_hl xz_G c := xz_allc l
  have hLk : ∀ {n : Nat} {en : xv_E}, xt_332[n]? = some en → xv_okE code RL "law" (some .boolean) (xv_JI xt_J) en := fun h => xt_law _ (List.mem_of_getElem? h)
  have hnm := xl_nmax j
  have hnn := xl_n94 j
  refine xl_ok (name := "law") (ret := some .boolean) (I := xv_JI xt_J) (ct := xl_ct) (dF := 1000) (stop := 1928) (sst := [(6, 1), (2, 0)]) (hz := 0) (e9 := fun g => ws[g]?) (wr := wr) C hV hRm ⟨by omega, by omega⟩ hXs hi0 hi5 hls has0 has1 (fun vst H1 locs1 ws1 hW1 hm1 hg1 hsk => ?_) (xt_332.drop 1256) (fun y hy => xt_law y (List.mem_of_mem_drop hy)) 1922 [] xl_A62 [] H locs ws hS.1.1 has (fun _ _ => rfl) True.intro
  have hS1 := xl_stay hj hS hW1 (hm1.trans has.symm) hg1
  obtain ⟨ua0, usa0, rfl, hua0, hska0⟩ := hsk.un
  have eua0 := hua0.2.2.2.2.2.2.1 rfl
  subst eua0
  obtain ⟨ua1, usa1, rfl, hua1, hska1⟩ := hska0.un
  obtain ⟨ada1, hada1, rfl⟩ := hua1.2.2.1 rfl
  have hada1 := hada1.symm.trans has0
  cases hada1
  have eva := hska1.nil
  subst eva
  have had : (ws1.map Prod.fst)[0]? = some a0 := by rw [hm1]; exact has0
  obtain ⟨hd1, -, hlk1⟩ := hLk xl_eX62
  obtain ⟨j', v, hRr, hv⟩ := xl_Ri j hj (xs (i.toInt + ((1 : Nat) : Int)).toNat)
  obtain ⟨kv, -, -, -, hj', hnn', -⟩ := id hRr
  have hnm' := xl_nmax j'
  have ecs : c0 + (xl_n j - 94) + (xl_n j' - xl_n j) = c0 + (xl_n j' - 94) := by omega
  have esl : s0 + 20 * (xl_n j - 94) + 20 * (xl_n j' - xl_n j) = s0 + 20 * (xl_n j' - 94) := by omega
  refine xl_callI (vr := []) C hj hRr hd1 ⟨by omega, by omega⟩ ⟨by omega, by omega⟩ hlk1 hS1.1 had hls.1 (by decide) (fun x' H2 locs2 ws2 wr2 hx' hS2 hm2 hk2 => ?_)
  rw [ecs, esl]
  have hK2 : xl_KK j ws2 := xl_Kst (hk2 114 (by omega)) hS1.2.1
  have hQ2 : xl_QQ ws2 := xl_Qst (hk2 59 (by omega)) (hk2 60 (by omega)) (hk2 103 (by omega)) (hk2 104 (by omega)) hS1.2.2
  have hm20 : ws2.map Prod.fst = as := hm2.trans hm1
  refine xl_ok (name := "law") (ret := some .boolean) (I := xv_JI xt_J) (ct := xl_ct) (dF := 1000) (stop := 1938) (sst := [(6, 1), (2, 102)]) (hz := x') (e9 := fun g => ws2[g]?) (wr := wr2) C hV hRm ⟨by omega, by omega⟩ hXs hi0 hi5 hls has0 has1 (fun vst H3 locs3 ws3 hW3 hm3 hg3 hsk => ?_) (xt_332.drop 1263) (fun y hy => xt_law y (List.mem_of_mem_drop hy)) 1931 [(7, 0)] xl_B62 [.int x'] H2 locs2 ws2 hS2.1 hm20 (fun _ _ => rfl) ⟨xl_hv.h, True.intro⟩
  have hm32 : ws3.map Prod.fst = ws2.map Prod.fst := hm3.trans hm20.symm
  have hS3 := xl_stay0 hj' hS2 hW3 hm32 (hg3 101 (by decide))
  have hK3 : xl_KK j ws3 := xl_Kst (hg3 114 (by decide)) hK2
  have hQ3 : xl_QQ ws3 := xl_Qst (hg3 59 (by decide)) (hg3 60 (by decide)) (hg3 103 (by decide)) (hg3 104 (by decide)) hQ2
  obtain ⟨ub0, usb0, rfl, hub0, hskb0⟩ := hsk.un
  have eub0 := hub0.2.2.2.2.2.2.1 rfl
  subst eub0
  obtain ⟨ub1, usb1, rfl, hub1, hskb1⟩ := hskb0.un
  obtain ⟨adb1, hadb1, rfl⟩ := hub1.2.2.1 rfl
  have hadb1 := hadb1.symm.trans has1
  cases hadb1
  have evb := hskb1.nil
  subst evb
  have had : (ws3.map Prod.fst)[102]? = some a1 := by rw [hm3]; exact has1
  obtain ⟨hd2, -, hlk2⟩ := hLk xl_eM62
  refine xl_call (P := [.int (xs (i.toInt + ((1 : Nat) : Int)).toNat)]) (vr := []) (I := xv_JI xt_J) (n := 1) (ci := 12) (r := 102) (c0 := xl_cMi) (dF := 1000) C (hV 326 (by decide) _ xl_nMi) (by decide) rfl hd2 hRm ⟨by omega, by omega⟩ hlk2 hS3.1 rfl rfl rfl had hls.1 rfl (Nat.le_of_ble_eq_true rfl) ⟨Or.inr (Or.inr (Or.inl ⟨rfl, a1, had, rfl⟩)), Or.inl ⟨rfl, _, rfl, (xv_i32 _).1, (xv_i32 _).2⟩, True.intro⟩ (fun rv H4 locs4 ws4 hW4 hB4 hpo => ?_)
  obtain ⟨y, rfl, hy⟩ := xl_pMi hpo
  have hk4 : ∀ g ∈ [59, 60, 101, 103, 104], ws4[g]? = ws3[g]? := fun g hg => hB4.2.1 g (xl_gMi g hg)
  have hm43 : ws4.map Prod.fst = ws3.map Prod.fst := hB4.2.2
  have hm4 : ws4.map Prod.fst = as := hm43.trans hm3
  have hS4 := xl_stay0 hj' hS3 hW4 hm43 (hk4 101 (by decide))
  have hK4 : xl_KK j' ws4 := by
    rcases hv with ⟨h1, -, ej⟩ | ⟨h1, h2, -, ej⟩
    · rw [ej]
      intro q hq
      rw [(hy.2 q hq).2 (by omega)]; exact hK3 q hq
    · rw [ej]; exact xl_Knew hj hK3 h1 h2 hy.2
  have hQ4 : xl_QQ ws4 := xl_Qst (hk4 59 (by decide)) (hk4 60 (by decide)) (hk4 103 (by decide)) (hk4 104 (by decide)) hQ3
  have hS5 : xl_S D t A s.heap X xs H4 locs4 j' ws4 wr2 := ⟨hS4, hK4, hQ4⟩
  refine xl_ok (name := "law") (ret := some .boolean) (I := xv_JI xt_J) (ct := xl_ct) (dF := 1000) (stop := 2147) (sst := []) (hz := y) (e9 := fun g => ws4[g]?) (wr := wr2) C hV hRm ⟨by omega, by omega⟩ hXs hi0 hi5 hls has0 has1 (fun vst H5 locs5 ws5 hW5 hm5 hg5 hsk => ?_) (xt_332.drop 1271) (fun y hy => xt_law y (List.mem_of_mem_drop hy)) 1941 [(7, 0)] xl_C62 [.int y] H4 locs4 ws4 hW4 hm4 (fun _ _ => rfl) ⟨xl_hv.h, True.intro⟩
  have ev := hsk.nil
  subst ev
  exact next j' H5 locs5 ws5 wr2 hj' (xl_stay hj' hS5 hW5 (hm5.trans hm4.symm) hg5) hm5

theorem xl_op63 {c0 s0 a0 a1 : Nat} {as : List Nat} {i : Int32} {j : Nat} {ls : Array Slot} {H : Heap} {locs : List Loc} {ws wr : va_W} (hIn : xl_In p l e R s m args below meth c D t A X xs Q c0 s0 a0 a1 as i ls) (hj : j < 16) (hS : xl_S D t A s.heap X xs H locs j ws wr) (has : ws.map Prod.fst = as) : W p l e R s m args below meth c H locs (c0 + (xl_n j - 94)) (s0 + 20 * (xl_n j - 94)) Q (F0 m 1945 ls []) := by
  obtain ⟨C, hXs, hRm, hCS, has0, has1, hi0, hi5, hls, next⟩ := hIn
  have hV : ∀ n, n < 422 → ∀ c, xv_get 20 xz_CT n = some c → xw_CV l (xv_JI xt_J) xz_hl xz_G c := xz_allc l
  have hLk : ∀ {n : Nat} {en : xv_E}, xt_332[n]? = some en → xv_okE code RL "law" (some .boolean) (xv_JI xt_J) en := fun h => xt_law _ (List.mem_of_getElem? h)
  have hnm := xl_nmax j
  have hnn := xl_n94 j
  refine xl_ok (name := "law") (ret := some .boolean) (I := xv_JI xt_J) (ct := xl_ct) (dF := 1000) (stop := 1951) (sst := [(6, 1), (2, 0)]) (hz := 0) (e9 := fun g => ws[g]?) (wr := wr) C hV hRm ⟨by omega, by omega⟩ hXs hi0 hi5 hls has0 has1 (fun vst H1 locs1 ws1 hW1 hm1 hg1 hsk => ?_) (xt_332.drop 1273) (fun y hy => xt_law y (List.mem_of_mem_drop hy)) 1945 [] xl_A63 [] H locs ws hS.1.1 has (fun _ _ => rfl) True.intro
  have hS1 := xl_stay hj hS hW1 (hm1.trans has.symm) hg1
  obtain ⟨ua0, usa0, rfl, hua0, hska0⟩ := hsk.un
  have eua0 := hua0.2.2.2.2.2.2.1 rfl
  subst eua0
  obtain ⟨ua1, usa1, rfl, hua1, hska1⟩ := hska0.un
  obtain ⟨ada1, hada1, rfl⟩ := hua1.2.2.1 rfl
  have hada1 := hada1.symm.trans has0
  cases hada1
  have eva := hska1.nil
  subst eva
  have had : (ws1.map Prod.fst)[0]? = some a0 := by rw [hm1]; exact has0
  obtain ⟨hd1, -, hlk1⟩ := hLk xl_eX63
  obtain ⟨j', v, hRr, hv⟩ := xl_Ra j hj (xs (i.toInt + ((1 : Nat) : Int)).toNat)
  obtain ⟨kv, -, -, -, hj', hnn', -⟩ := id hRr
  have hnm' := xl_nmax j'
  have ecs : c0 + (xl_n j - 94) + (xl_n j' - xl_n j) = c0 + (xl_n j' - 94) := by omega
  have esl : s0 + 20 * (xl_n j - 94) + 20 * (xl_n j' - xl_n j) = s0 + 20 * (xl_n j' - 94) := by omega
  refine xl_callI (vr := []) C hj hRr hd1 ⟨by omega, by omega⟩ ⟨by omega, by omega⟩ hlk1 hS1.1 had hls.1 (by decide) (fun x' H2 locs2 ws2 wr2 hx' hS2 hm2 hk2 => ?_)
  rw [ecs, esl]
  have hK2 : xl_KK j ws2 := xl_Kst (hk2 114 (by omega)) hS1.2.1
  have hQ2 : xl_QQ ws2 := xl_Qst (hk2 59 (by omega)) (hk2 60 (by omega)) (hk2 103 (by omega)) (hk2 104 (by omega)) hS1.2.2
  have hm20 : ws2.map Prod.fst = as := hm2.trans hm1
  refine xl_ok (name := "law") (ret := some .boolean) (I := xv_JI xt_J) (ct := xl_ct) (dF := 1000) (stop := 1961) (sst := [(6, 1), (2, 102)]) (hz := x') (e9 := fun g => ws2[g]?) (wr := wr2) C hV hRm ⟨by omega, by omega⟩ hXs hi0 hi5 hls has0 has1 (fun vst H3 locs3 ws3 hW3 hm3 hg3 hsk => ?_) (xt_332.drop 1280) (fun y hy => xt_law y (List.mem_of_mem_drop hy)) 1954 [(7, 0)] xl_B63 [.int x'] H2 locs2 ws2 hS2.1 hm20 (fun _ _ => rfl) ⟨xl_hv.h, True.intro⟩
  have hm32 : ws3.map Prod.fst = ws2.map Prod.fst := hm3.trans hm20.symm
  have hS3 := xl_stay0 hj' hS2 hW3 hm32 (hg3 101 (by decide))
  have hK3 : xl_KK j ws3 := xl_Kst (hg3 114 (by decide)) hK2
  have hQ3 : xl_QQ ws3 := xl_Qst (hg3 59 (by decide)) (hg3 60 (by decide)) (hg3 103 (by decide)) (hg3 104 (by decide)) hQ2
  obtain ⟨ub0, usb0, rfl, hub0, hskb0⟩ := hsk.un
  have eub0 := hub0.2.2.2.2.2.2.1 rfl
  subst eub0
  obtain ⟨ub1, usb1, rfl, hub1, hskb1⟩ := hskb0.un
  obtain ⟨adb1, hadb1, rfl⟩ := hub1.2.2.1 rfl
  have hadb1 := hadb1.symm.trans has1
  cases hadb1
  have evb := hskb1.nil
  subst evb
  have had : (ws3.map Prod.fst)[102]? = some a1 := by rw [hm3]; exact has1
  obtain ⟨hd2, -, hlk2⟩ := hLk xl_eM63
  refine xl_call (P := [.int (xs (i.toInt + ((1 : Nat) : Int)).toNat)]) (vr := []) (I := xv_JI xt_J) (n := 1) (ci := 12) (r := 102) (c0 := xl_cMa) (dF := 1000) C (hV 141 (by decide) _ xl_nMa) (by decide) rfl hd2 hRm ⟨by omega, by omega⟩ hlk2 hS3.1 rfl rfl rfl had hls.1 rfl (Nat.le_of_ble_eq_true rfl) ⟨Or.inr (Or.inr (Or.inl ⟨rfl, a1, had, rfl⟩)), Or.inl ⟨rfl, _, rfl, (xv_i32 _).1, (xv_i32 _).2⟩, True.intro⟩ (fun rv H4 locs4 ws4 hW4 hB4 hpo => ?_)
  obtain ⟨y, rfl, hy⟩ := xl_pMa hpo
  have hk4 : ∀ g ∈ [59, 60, 101, 103, 104, 114], ws4[g]? = ws3[g]? := fun g hg => hB4.2.1 g (xl_gMa g hg)
  have hm43 : ws4.map Prod.fst = ws3.map Prod.fst := hB4.2.2
  have hm4 : ws4.map Prod.fst = as := hm43.trans hm3
  have hS4 := xl_stay0 hj' hS3 hW4 hm43 (hk4 101 (by decide))
  have ej : j' = j := by rcases hv with ⟨-, -, ej⟩ | ⟨-, -, -, ej⟩ <;> exact ej
  have hK4 : xl_KK j' ws4 := by rw [ej]; exact xl_Kst (hk4 114 (by decide)) hK3
  have hQ4 : xl_QQ ws4 := xl_Qst (hk4 59 (by decide)) (hk4 60 (by decide)) (hk4 103 (by decide)) (hk4 104 (by decide)) hQ3
  have hS5 : xl_S D t A s.heap X xs H4 locs4 j' ws4 wr2 := ⟨hS4, hK4, hQ4⟩
  refine xl_ok (name := "law") (ret := some .boolean) (I := xv_JI xt_J) (ct := xl_ct) (dF := 1000) (stop := 2147) (sst := []) (hz := y) (e9 := fun g => ws4[g]?) (wr := wr2) C hV hRm ⟨by omega, by omega⟩ hXs hi0 hi5 hls has0 has1 (fun vst H5 locs5 ws5 hW5 hm5 hg5 hsk => ?_) (xt_332.drop 1288) (fun y hy => xt_law y (List.mem_of_mem_drop hy)) 1964 [(7, 0)] xl_C63 [.int y] H4 locs4 ws4 hW4 hm4 (fun _ _ => rfl) ⟨xl_hv.h, True.intro⟩
  have ev := hsk.nil
  subst ev
  exact next j' H5 locs5 ws5 wr2 hj' (xl_stay hj' hS5 hW5 (hm5.trans hm4.symm) hg5) hm5

theorem xl_op64 {c0 s0 a0 a1 : Nat} {as : List Nat} {i : Int32} {j : Nat} {ls : Array Slot} {H : Heap} {locs : List Loc} {ws wr : va_W} (hIn : xl_In p l e R s m args below meth c D t A X xs Q c0 s0 a0 a1 as i ls) (hj : j < 16) (hS : xl_S D t A s.heap X xs H locs j ws wr) (has : ws.map Prod.fst = as) : W p l e R s m args below meth c H locs (c0 + (xl_n j - 94)) (s0 + 20 * (xl_n j - 94)) Q (F0 m 1968 ls []) := by
  obtain ⟨C, hXs, hRm, hCS, has0, has1, hi0, hi5, hls, next⟩ := hIn
  have hV : ∀ n, n < 422 → ∀ c, xv_get 20 xz_CT n = some c → xw_CV l (xv_JI xt_J) xz_hl xz_G c := xz_allc l
  have hLk : ∀ {n : Nat} {en : xv_E}, xt_332[n]? = some en → xv_okE code RL "law" (some .boolean) (xv_JI xt_J) en := fun h => xt_law _ (List.mem_of_getElem? h)
  have hnm := xl_nmax j
  have hnn := xl_n94 j
  refine xl_ok (name := "law") (ret := some .boolean) (I := xv_JI xt_J) (ct := xl_ct) (dF := 1000) (stop := 1984) (sst := [(6, 3), (6, 2), (6, 1), (2, 0)]) (hz := 0) (e9 := fun g => ws[g]?) (wr := wr) C hV hRm ⟨by omega, by omega⟩ hXs hi0 hi5 hls has0 has1 (fun vst H1 locs1 ws1 hW1 hm1 hg1 hsk => ?_) (xt_332.drop 1290) (fun y hy => xt_law y (List.mem_of_mem_drop hy)) 1968 [] xl_A64 [] H locs ws hS.1.1 has (fun _ _ => rfl) True.intro
  have hS1 := xl_stay hj hS hW1 (hm1.trans has.symm) hg1
  obtain ⟨ua0, usa0, rfl, hua0, hska0⟩ := hsk.un
  have eua0 := hua0.2.2.2.2.2.2.1 rfl
  subst eua0
  obtain ⟨ua1, usa1, rfl, hua1, hska1⟩ := hska0.un
  have eua1 := hua1.2.2.2.2.2.2.1 rfl
  subst eua1
  obtain ⟨ua2, usa2, rfl, hua2, hska2⟩ := hska1.un
  have eua2 := hua2.2.2.2.2.2.2.1 rfl
  subst eua2
  obtain ⟨ua3, usa3, rfl, hua3, hska3⟩ := hska2.un
  obtain ⟨ada3, hada3, rfl⟩ := hua3.2.2.1 rfl
  have hada3 := hada3.symm.trans has0
  cases hada3
  have eva := hska3.nil
  subst eva
  have had : (ws1.map Prod.fst)[0]? = some a0 := by rw [hm1]; exact has0
  obtain ⟨hd1, -, hlk1⟩ := hLk xl_eX64
  refine xl_call (P := [.int (xs (i.toInt + ((3 : Nat) : Int)).toNat), .int (xs (i.toInt + ((2 : Nat) : Int)).toNat), .int (xs (i.toInt + ((1 : Nat) : Int)).toNat)]) (vr := []) (I := xv_JI xt_J) (n := 3) (ci := 11) (r := 0) (c0 := xl_cXr) (dF := 1000) C (hV 110 (by decide) _ xl_nXr) (by decide) rfl hd1 hRm ⟨by omega, by omega⟩ hlk1 hS1.1.1 rfl rfl rfl had hls.1 rfl (by decide) ⟨Or.inr (Or.inr (Or.inl ⟨rfl, a0, had, rfl⟩)), Or.inl ⟨rfl, _, rfl, (xv_i32 _).1, (xv_i32 _).2⟩, Or.inl ⟨rfl, _, rfl, (xv_i32 _).1, (xv_i32 _).2⟩, Or.inl ⟨rfl, _, rfl, (xv_i32 _).1, (xv_i32 _).2⟩, True.intro⟩ (fun rv H2 locs2 ws2 hW2 hB2 hpo => ?_)
  obtain ⟨x', rfl, hx'⟩ := xl_pXr hpo
  have hk2 : ∀ g ∈ [101, 103, 104, 114], ws2[g]? = ws1[g]? := fun g hg => hB2.2.1 g (xl_gXr g hg)
  have hm2 : ws2.map Prod.fst = ws1.map Prod.fst := hB2.2.2
  have hS2 := xl_stay0 hj hS1.1 hW2 hm2 (hk2 101 (by decide))
  have hK2 : xl_KK j ws2 := xl_Kst (hk2 114 (by decide)) hS1.2.1
  have hm20 : ws2.map Prod.fst = as := hm2.trans hm1
  refine xl_ok (name := "law") (ret := some .boolean) (I := xv_JI xt_J) (ct := xl_ct) (dF := 1000) (stop := 2004) (sst := [(6, 3), (6, 2), (6, 1), (2, 102)]) (hz := x') (e9 := fun g => ws2[g]?) (wr := wr) C hV hRm ⟨by omega, by omega⟩ hXs hi0 hi5 hls has0 has1 (fun vst H3 locs3 ws3 hW3 hm3 hg3 hsk => ?_) (xt_332.drop 1307) (fun y hy => xt_law y (List.mem_of_mem_drop hy)) 1987 [(7, 0)] xl_B64 [.int x'] H2 locs2 ws2 hS2.1 hm20 (fun _ _ => rfl) ⟨xl_hv.h, True.intro⟩
  have hm32 : ws3.map Prod.fst = ws2.map Prod.fst := hm3.trans hm20.symm
  have hS3 := xl_stay0 hj hS2 hW3 hm32 (hg3 101 (by decide))
  have hK3 : xl_KK j ws3 := xl_Kst (hg3 114 (by decide)) hK2
  obtain ⟨ub0, usb0, rfl, hub0, hskb0⟩ := hsk.un
  have eub0 := hub0.2.2.2.2.2.2.1 rfl
  subst eub0
  obtain ⟨ub1, usb1, rfl, hub1, hskb1⟩ := hskb0.un
  have eub1 := hub1.2.2.2.2.2.2.1 rfl
  subst eub1
  obtain ⟨ub2, usb2, rfl, hub2, hskb2⟩ := hskb1.un
  have eub2 := hub2.2.2.2.2.2.2.1 rfl
  subst eub2
  obtain ⟨ub3, usb3, rfl, hub3, hskb3⟩ := hskb2.un
  obtain ⟨adb3, hadb3, rfl⟩ := hub3.2.2.1 rfl
  have hadb3 := hadb3.symm.trans has1
  cases hadb3
  have evb := hskb3.nil
  subst evb
  have had : (ws3.map Prod.fst)[102]? = some a1 := by rw [hm3]; exact has1
  obtain ⟨hd2, -, hlk2⟩ := hLk xl_eM64
  refine xl_call (P := [.int (xs (i.toInt + ((3 : Nat) : Int)).toNat), .int (xs (i.toInt + ((2 : Nat) : Int)).toNat), .int (xs (i.toInt + ((1 : Nat) : Int)).toNat)]) (vr := []) (I := xv_JI xt_J) (n := 3) (ci := 12) (r := 102) (c0 := xl_cMr) (dF := 1000) C (hV 392 (by decide) _ xl_nMr) (by decide) rfl hd2 hRm ⟨by omega, by omega⟩ hlk2 hS3.1 rfl rfl rfl had hls.1 rfl (Nat.le_of_ble_eq_true rfl) ⟨Or.inr (Or.inr (Or.inl ⟨rfl, a1, had, rfl⟩)), Or.inl ⟨rfl, _, rfl, (xv_i32 _).1, (xv_i32 _).2⟩, Or.inl ⟨rfl, _, rfl, (xv_i32 _).1, (xv_i32 _).2⟩, Or.inl ⟨rfl, _, rfl, (xv_i32 _).1, (xv_i32 _).2⟩, True.intro⟩ (fun rv H4 locs4 ws4 hW4 hB4 hpo => ?_)
  obtain ⟨y, rfl, hy⟩ := xl_pMr hpo
  have hk4 : ∀ g ∈ [59, 60, 101, 114], ws4[g]? = ws3[g]? := fun g hg => hB4.2.1 g (xl_gMr g hg)
  have hm43 : ws4.map Prod.fst = ws3.map Prod.fst := hB4.2.2
  have hm4 : ws4.map Prod.fst = as := hm43.trans hm3
  have hS4 := xl_stay0 hj hS3 hW4 hm43 (hk4 101 (by decide))
  have hK4 : xl_KK j ws4 := xl_Kst (hk4 114 (by decide)) hK3
  have hQ4 : xl_QQ ws4 := xl_Qnew hS1.2.2 (fun q hq => by
      have h := hx'.2 q hq
      rw [← xl_cte (hg3 59 (by decide)) q, ← xl_cte (hg3 60 (by decide)) q, ← xl_cte (hk4 59 (by decide)) q, ← xl_cte (hk4 60 (by decide)) q] at h
      exact h) (fun q hq => by
      have h := hy.2 q hq
      rw [xl_cte (hg3 103 (by decide)) q, xl_cte (hg3 104 (by decide)) q, xl_cte (hk2 103 (by decide)) q, xl_cte (hk2 104 (by decide)) q] at h
      exact h)
  have hS5 : xl_S D t A s.heap X xs H4 locs4 j ws4 wr := ⟨hS4, hK4, hQ4⟩
  refine xl_ok (name := "law") (ret := some .boolean) (I := xv_JI xt_J) (ct := xl_ct) (dF := 1000) (stop := 2147) (sst := []) (hz := y) (e9 := fun g => ws4[g]?) (wr := wr) C hV hRm ⟨by omega, by omega⟩ hXs hi0 hi5 hls has0 has1 (fun vst H5 locs5 ws5 hW5 hm5 hg5 hsk => ?_) (xt_332.drop 1325) (fun y hy => xt_law y (List.mem_of_mem_drop hy)) 2007 [(7, 0)] xl_C64 [.int y] H4 locs4 ws4 hW4 hm4 (fun _ _ => rfl) ⟨xl_hv.h, True.intro⟩
  have ev := hsk.nil
  subst ev
  exact next j H5 locs5 ws5 wr hj (xl_stay hj hS5 hW5 (hm5.trans hm4.symm) hg5) hm5

theorem xl_pas {s d i k n x y rw1 rw2 cl1 cl2 cw1 cw2 rl1 rl2 : Int} (hr : 0 ≤ s ∧ s ≤ 3 ∧ 0 ≤ d ∧ d ≤ 3) (h1 : (rw1 = -1 ∧ cl1 = -1) ∨ (0 ≤ rw1 ∧ cw1 = rw1 ∧ 0 ≤ cl1 ∧ rl1 = cl1)) (h2 : (rw2 = -1 ∧ cl2 = -1) ∨ (0 ≤ rw2 ∧ cw2 = rw2 ∧ 0 ≤ cl2 ∧ rl2 = cl2)) (hx : (¬ (0 ≤ s ∧ s ≤ 3 ∧ 0 ≤ d ∧ d ≤ 3) → x = -2) ∧ (0 ≤ s ∧ s ≤ 3 ∧ 0 ≤ d ∧ d ≤ 3 → (cl1 < 0 ∨ cl2 < 0) → x = -6) ∧ (0 ≤ s ∧ s ≤ 3 ∧ 0 ≤ d ∧ d ≤ 3 → ¬ (cl1 < 0 ∨ cl2 < 0) → cw1 ≠ cw2 → x = -8) ∧ (0 ≤ s ∧ s ≤ 3 ∧ 0 ≤ d ∧ d ≤ 3 → ¬ (cl1 < 0 ∨ cl2 < 0) → ¬ (cw1 ≠ cw2) → (i < 0 ∨ k < 0 ∨ n < 0 ∨ cl1 < i + n ∨ cl2 < k + n) → x = -7) ∧ (0 ≤ s ∧ s ≤ 3 ∧ 0 ≤ d ∧ d ≤ 3 → ¬ (cl1 < 0 ∨ cl2 < 0) → ¬ (cw1 ≠ cw2) → ¬ (i < 0 ∨ k < 0 ∨ n < 0 ∨ cl1 < i + n ∨ cl2 < k + n) → x = 0)) (hy : (¬ (0 ≤ s ∧ s ≤ 3 ∧ 0 ≤ d ∧ d ≤ 3) → y = -2) ∧ (0 ≤ s ∧ s ≤ 3 ∧ 0 ≤ d ∧ d ≤ 3 → (rw1 < 0 ∨ rw2 < 0) → y = -6) ∧ (0 ≤ s ∧ s ≤ 3 ∧ 0 ≤ d ∧ d ≤ 3 → ¬ (rw1 < 0 ∨ rw2 < 0) → rw1 ≠ rw2 → y = -8) ∧ (0 ≤ s ∧ s ≤ 3 ∧ 0 ≤ d ∧ d ≤ 3 → ¬ (rw1 < 0 ∨ rw2 < 0) → ¬ (rw1 ≠ rw2) → (i < 0 ∨ k < 0 ∨ n < 0 ∨ rl1 < i + n ∨ rl2 < k + n) → y = -7) ∧ (0 ≤ s ∧ s ≤ 3 ∧ 0 ≤ d ∧ d ≤ 3 → ¬ (rw1 < 0 ∨ rw2 < 0) → ¬ (rw1 ≠ rw2) → ¬ (i < 0 ∨ k < 0 ∨ n < 0 ∨ rl1 < i + n ∨ rl2 < k + n) → y = 0)) : x = y := by
  obtain ⟨-, x1, x2, x3, x4⟩ := hx
  obtain ⟨-, y1, y2, y3, y4⟩ := hy
  have x1 := x1 hr
  have x2 := x2 hr
  have x3 := x3 hr
  have x4 := x4 hr
  have y1 := y1 hr
  have y2 := y2 hr
  have y3 := y3 hr
  have y4 := y4 hr
  rcases h1 with ⟨a1, a2⟩ | ⟨a1, a2, a3, a4⟩
  · rw [x1 (by omega), y1 (by omega)]
  rcases h2 with ⟨b1, b2⟩ | ⟨b1, b2, b3, b4⟩
  · rw [x1 (by omega), y1 (by omega)]
  have nx : ¬ (cl1 < 0 ∨ cl2 < 0) := by omega
  have ny : ¬ (rw1 < 0 ∨ rw2 < 0) := by omega
  by_cases e : rw1 = rw2
  · have dx : ¬ (cw1 ≠ cw2) := by omega
    have dy : ¬ (rw1 ≠ rw2) := by omega
    by_cases g : i < 0 ∨ k < 0 ∨ n < 0 ∨ cl1 < i + n ∨ cl2 < k + n
    · rw [x3 nx dx g, y3 ny dy (by omega)]
    · rw [x4 nx dx g, y4 ny dy (by omega)]
  · rw [x2 nx (by omega), y2 ny e]

theorem xl_op66 {c0 s0 a0 a1 : Nat} {as : List Nat} {i : Int32} {j : Nat} {ls : Array Slot} {H : Heap} {locs : List Loc} {ws wr : va_W} (hIn : xl_In p l e R s m args below meth c D t A X xs Q c0 s0 a0 a1 as i ls) (hj : j < 16) (hS : xl_S D t A s.heap X xs H locs j ws wr) (has : ws.map Prod.fst = as) : W p l e R s m args below meth c H locs (c0 + (xl_n j - 94)) (s0 + 20 * (xl_n j - 94)) Q (F0 m 2084 ls []) := by
  obtain ⟨C, hXs, hRm, hCS, has0, has1, hi0, hi5, hls, next⟩ := hIn
  have hV : ∀ n, n < 422 → ∀ c, xv_get 20 xz_CT n = some c → xw_CV l (xv_JI xt_J) xz_hl xz_G c := xz_allc l
  have hLk : ∀ {n : Nat} {en : xv_E}, xt_332[n]? = some en → xv_okE code RL "law" (some .boolean) (xv_JI xt_J) en := fun h => xt_law _ (List.mem_of_getElem? h)
  have hnm := xl_nmax j
  have hnn := xl_n94 j
  refine xl_ok (name := "law") (ret := some .boolean) (I := xv_JI xt_J) (ct := xl_ct) (dF := 1000) (stop := 2110) (sst := [(6, 5), (6, 4), (6, 3), (6, 2), (6, 1), (2, 0)]) (hz := 0) (e9 := fun g => ws[g]?) (wr := wr) C hV hRm ⟨by omega, by omega⟩ hXs hi0 hi5 hls has0 has1 (fun vst H1 locs1 ws1 hW1 hm1 hg1 hsk => ?_) (xt_332.drop 1388) (fun y hy => xt_law y (List.mem_of_mem_drop hy)) 2084 [] xl_A66 [] H locs ws hS.1.1 has (fun _ _ => rfl) True.intro
  have hS1 := xl_stay hj hS hW1 (hm1.trans has.symm) hg1
  obtain ⟨ua0, usa0, rfl, hua0, hska0⟩ := hsk.un
  have eua0 := hua0.2.2.2.2.2.2.1 rfl
  subst eua0
  obtain ⟨ua1, usa1, rfl, hua1, hska1⟩ := hska0.un
  have eua1 := hua1.2.2.2.2.2.2.1 rfl
  subst eua1
  obtain ⟨ua2, usa2, rfl, hua2, hska2⟩ := hska1.un
  have eua2 := hua2.2.2.2.2.2.2.1 rfl
  subst eua2
  obtain ⟨ua3, usa3, rfl, hua3, hska3⟩ := hska2.un
  have eua3 := hua3.2.2.2.2.2.2.1 rfl
  subst eua3
  obtain ⟨ua4, usa4, rfl, hua4, hska4⟩ := hska3.un
  have eua4 := hua4.2.2.2.2.2.2.1 rfl
  subst eua4
  obtain ⟨ua5, usa5, rfl, hua5, hska5⟩ := hska4.un
  obtain ⟨ada5, hada5, rfl⟩ := hua5.2.2.1 rfl
  have hada5 := hada5.symm.trans has0
  cases hada5
  have eva := hska5.nil
  subst eva
  have had : (ws1.map Prod.fst)[0]? = some a0 := by rw [hm1]; exact has0
  obtain ⟨hd1, -, hlk1⟩ := hLk xl_eX66
  refine xl_call (P := [.int (xs (i.toInt + ((5 : Nat) : Int)).toNat), .int (xs (i.toInt + ((4 : Nat) : Int)).toNat), .int (xs (i.toInt + ((3 : Nat) : Int)).toNat), .int (xs (i.toInt + ((2 : Nat) : Int)).toNat), .int (xs (i.toInt + ((1 : Nat) : Int)).toNat)]) (vr := []) (I := xv_JI xt_J) (n := 5) (ci := 11) (r := 0) (c0 := xl_cXp) (dF := 1000) C (hV 102 (by decide) _ xl_nXp) (by decide) rfl hd1 hRm ⟨by omega, by omega⟩ hlk1 hS1.1.1 rfl rfl rfl had hls.1 rfl (by decide) ⟨Or.inr (Or.inr (Or.inl ⟨rfl, a0, had, rfl⟩)), Or.inl ⟨rfl, _, rfl, (xv_i32 _).1, (xv_i32 _).2⟩, Or.inl ⟨rfl, _, rfl, (xv_i32 _).1, (xv_i32 _).2⟩, Or.inl ⟨rfl, _, rfl, (xv_i32 _).1, (xv_i32 _).2⟩, Or.inl ⟨rfl, _, rfl, (xv_i32 _).1, (xv_i32 _).2⟩, Or.inl ⟨rfl, _, rfl, (xv_i32 _).1, (xv_i32 _).2⟩, True.intro⟩ (fun rv H2 locs2 ws2 hW2 hB2 hpo => ?_)
  obtain ⟨x', rfl, hx'⟩ := xl_pXp hpo
  have hk2 : ∀ g ∈ [59, 60, 101, 103, 104, 114], ws2[g]? = ws1[g]? := fun g hg => hB2.2.1 g (xl_gXp g hg)
  have hm2 : ws2.map Prod.fst = ws1.map Prod.fst := hB2.2.2
  have hS2 := xl_stay0 hj hS1.1 hW2 hm2 (hk2 101 (by decide))
  have hK2 : xl_KK j ws2 := xl_Kst (hk2 114 (by decide)) hS1.2.1
  have hQ2 : xl_QQ ws2 := xl_Qst (hk2 59 (by decide)) (hk2 60 (by decide)) (hk2 103 (by decide)) (hk2 104 (by decide)) hS1.2.2
  have hm20 : ws2.map Prod.fst = as := hm2.trans hm1
  refine xl_ok (name := "law") (ret := some .boolean) (I := xv_JI xt_J) (ct := xl_ct) (dF := 1000) (stop := 2139) (sst := [(6, 5), (6, 4), (6, 3), (6, 2), (6, 1), (2, 102), (7, 0)]) (hz := x') (e9 := fun g => ws2[g]?) (wr := wr) C hV hRm ⟨by omega, by omega⟩ hXs hi0 hi5 hls has0 has1 (fun vst H3 locs3 ws3 hW3 hm3 hg3 hsk => ?_) (xt_332.drop 1415) (fun y hy => xt_law y (List.mem_of_mem_drop hy)) 2113 [(7, 0)] xl_B66 [.int x'] H2 locs2 ws2 hS2.1 hm20 (fun _ _ => rfl) ⟨xl_hv.h, True.intro⟩
  have hm32 : ws3.map Prod.fst = ws2.map Prod.fst := hm3.trans hm20.symm
  have hS3 := xl_stay0 hj hS2 hW3 hm32 (hg3 101 (by decide))
  have hK3 : xl_KK j ws3 := xl_Kst (hg3 114 (by decide)) hK2
  have hQ3 : xl_QQ ws3 := xl_Qst (hg3 59 (by decide)) (hg3 60 (by decide)) (hg3 103 (by decide)) (hg3 104 (by decide)) hQ2
  obtain ⟨ub0, usb0, rfl, hub0, hskb0⟩ := hsk.un
  have eub0 := hub0.2.2.2.2.2.2.1 rfl
  subst eub0
  obtain ⟨ub1, usb1, rfl, hub1, hskb1⟩ := hskb0.un
  have eub1 := hub1.2.2.2.2.2.2.1 rfl
  subst eub1
  obtain ⟨ub2, usb2, rfl, hub2, hskb2⟩ := hskb1.un
  have eub2 := hub2.2.2.2.2.2.2.1 rfl
  subst eub2
  obtain ⟨ub3, usb3, rfl, hub3, hskb3⟩ := hskb2.un
  have eub3 := hub3.2.2.2.2.2.2.1 rfl
  subst eub3
  obtain ⟨ub4, usb4, rfl, hub4, hskb4⟩ := hskb3.un
  have eub4 := hub4.2.2.2.2.2.2.1 rfl
  subst eub4
  obtain ⟨ub5, usb5, rfl, hub5, hskb5⟩ := hskb4.un
  obtain ⟨adb5, hadb5, rfl⟩ := hub5.2.2.1 rfl
  have hadb5 := hadb5.symm.trans has1
  cases hadb5
  obtain ⟨ub6, usb6, rfl, hub6, hskb6⟩ := hskb5.un
  have eub6 := hub6.2.2.2.2.2.2.2 rfl
  subst eub6
  have evb := hskb6.nil
  subst evb
  have had : (ws3.map Prod.fst)[102]? = some a1 := by rw [hm3]; exact has1
  obtain ⟨hd2, -, hlk2⟩ := hLk xl_eM66
  refine xl_call (P := [.int (xs (i.toInt + ((5 : Nat) : Int)).toNat), .int (xs (i.toInt + ((4 : Nat) : Int)).toNat), .int (xs (i.toInt + ((3 : Nat) : Int)).toNat), .int (xs (i.toInt + ((2 : Nat) : Int)).toNat), .int (xs (i.toInt + ((1 : Nat) : Int)).toNat)]) (vr := [.int x']) (I := xv_JI xt_J) (n := 5) (ci := 12) (r := 102) (c0 := xl_cMp) (dF := 1000) C (hV 388 (by decide) _ xl_nMp) (by decide) rfl hd2 hRm ⟨by omega, by omega⟩ hlk2 hS3.1 rfl rfl rfl had hls.1 rfl (Nat.le_of_ble_eq_true rfl) ⟨Or.inr (Or.inr (Or.inl ⟨rfl, a1, had, rfl⟩)), Or.inl ⟨rfl, _, rfl, (xv_i32 _).1, (xv_i32 _).2⟩, Or.inl ⟨rfl, _, rfl, (xv_i32 _).1, (xv_i32 _).2⟩, Or.inl ⟨rfl, _, rfl, (xv_i32 _).1, (xv_i32 _).2⟩, Or.inl ⟨rfl, _, rfl, (xv_i32 _).1, (xv_i32 _).2⟩, Or.inl ⟨rfl, _, rfl, (xv_i32 _).1, (xv_i32 _).2⟩, True.intro⟩ (fun rv H4 locs4 ws4 hW4 hB4 hpo => ?_)
  obtain ⟨y, rfl, hy⟩ := xl_pMp hpo
  have hk4 : ∀ g ∈ [59, 60, 101, 103, 104, 114], ws4[g]? = ws3[g]? := fun g hg => hB4.2.1 g (xl_gMp g hg)
  have hm43 : ws4.map Prod.fst = ws3.map Prod.fst := hB4.2.2
  have hm4 : ws4.map Prod.fst = as := hm43.trans hm3
  have hS4 := xl_stay0 hj hS3 hW4 hm43 (hk4 101 (by decide))
  have hK4 : xl_KK j ws4 := xl_Kst (hk4 114 (by decide)) hK3
  have hQ4 : xl_QQ ws4 := xl_Qst (hk4 59 (by decide)) (hk4 60 (by decide)) (hk4 103 (by decide)) (hk4 104 (by decide)) hQ3
  have hS5 : xl_S D t A s.heap X xs H4 locs4 j ws4 wr := ⟨hS4, hK4, hQ4⟩
  refine lv_icmp_eq (tgt := 2147) C.1 C.2.1 xd2142 (by decide) (fun _ => next j H4 locs4 ws4 wr hj hS5 hm4) (fun hne => absurd ?_ hne)
  apply Int32.toInt_inj.mp
  have ez : (0 + 1 * (xs (i.toInt + ((1 : Nat) : Int)).toNat).toInt).toNat = (xs (i.toInt + ((1 : Nat) : Int)).toNat).toInt.toNat := by omega
  have eu : (0 + 1 * (xs (i.toInt + ((3 : Nat) : Int)).toNat).toInt).toNat = (xs (i.toInt + ((3 : Nat) : Int)).toNat).toInt.toNat := by omega
  have c59 : ∀ q, xw_ct ws2 59 q = xw_ct ws1 59 q := xl_cte (hk2 59 (by decide))
  have c60 : ∀ q, xw_ct ws2 60 q = xw_ct ws1 60 q := xl_cte (hk2 60 (by decide))
  have c103 : ∀ q, xw_ct ws4 103 q = xw_ct ws1 103 q := fun q => by rw [xl_cte (hk4 103 (by decide)), xl_cte (hg3 103 (by decide)), xl_cte (hk2 103 (by decide))]
  have c104 : ∀ q, xw_ct ws4 104 q = xw_ct ws1 104 q := fun q => by rw [xl_cte (hk4 104 (by decide)), xl_cte (hg3 104 (by decide)), xl_cte (hk2 104 (by decide))]
  rw [c60 (0 + 1 * (xs (i.toInt + ((1 : Nat) : Int)).toNat).toInt).toNat, c60 (0 + 1 * (xs (i.toInt + ((3 : Nat) : Int)).toNat).toInt).toNat, c59 (0 + 1 * (xs (i.toInt + ((1 : Nat) : Int)).toNat).toInt).toNat, c59 (0 + 1 * (xs (i.toInt + ((3 : Nat) : Int)).toNat).toInt).toNat, ez, eu] at hx'
  rw [c103 (0 + 1 * (xs (i.toInt + ((1 : Nat) : Int)).toNat).toInt).toNat, c103 (0 + 1 * (xs (i.toInt + ((3 : Nat) : Int)).toNat).toInt).toNat, c104 (0 + 1 * (xs (i.toInt + ((1 : Nat) : Int)).toNat).toInt).toNat, c104 (0 + 1 * (xs (i.toInt + ((3 : Nat) : Int)).toNat).toInt).toNat, ez, eu] at hy
  by_cases hr : 0 ≤ (xs (i.toInt + ((1 : Nat) : Int)).toNat).toInt ∧ (xs (i.toInt + ((1 : Nat) : Int)).toNat).toInt ≤ 3 ∧ 0 ≤ (xs (i.toInt + ((3 : Nat) : Int)).toNat).toInt ∧ (xs (i.toInt + ((3 : Nat) : Int)).toNat).toInt ≤ 3
  · have hq := hS1.2.2 (xs (i.toInt + ((1 : Nat) : Int)).toNat).toInt.toNat (by omega)
    have hw := hS1.2.2 (xs (i.toInt + ((3 : Nat) : Int)).toNat).toInt.toNat (by omega)
    have hfin := xl_pas hr hq hw hx' hy
    omega
  · have := hx'.1 hr
    have := hy.1 hr
    omega

end XL5
