/-! stores, numbers, jumps -/
section XY2
variable {p : Program} {l : Launch} {e : Env} {R : Room} {s : State} {m : MethodId} {args : Array Value} {below : List Frame} {meth : Method} {c : Code}
variable {e0 : (Nat → Int) × Nat} {cc : ByteArray} {own : String} {nL : Nat} {D : va_G} {t : Nat → ClassId} {A : Nat → Prop} {hl : Nat × Int} {Γ : xv_A} {X : xw_X} {xs : Nat → Int32} {ws0 : va_W} {gh : List xw_L} {gz : Nat → Int} {fh : Nat → Option xw_H} {cs sl : Nat} {Q : State → Prop} {act : List xw_A} {k : xw_K} {pc : Nat} {L st : List xw_V} {S : xw_S}
/-- a local is written -/
theorem xy_sto {i pc' : Nat} {v : xw_V} {rest : List xw_V} (hk : (∀ pc' L' st' S', k pc' L' st' S' = true → xw_Tj e0 D t A s.heap hl Γ X xs ws0 nL gh gz fh (fun pc ls vst H locs => W p l e R s m args below meth c H locs cs sl Q (F0 m pc ls vst)) act pc' L' st' S')) (h : k pc' (xw_st1 L i v) rest S = true) (hst : st = v :: rest) (hi : i + 1 ≤ L.length)
    (hs : ∀ (ρ : Nat → Int) (ls : Array Slot) (vst : List Value) (H : Heap) (locs : List Loc) (as : List Nat) (x : Value) (lv : List (Nat × Value)), xw_hv X as ρ S.2.1 v x → lv_has ls nL lv → i < nL → (∀ ls' : Array Slot, lv_has ls' nL ((i, x) :: lv.filter (fun q => !(q.1 == i) && !(q.1 + 1 == i && q.2.category == 2))) → W p l e R s m args below meth c H locs cs sl Q (F0 m pc' ls' vst)) → W p l e R s m args below meth c H locs cs sl Q (F0 m pc ls (x :: vst))) : xw_Tj e0 D t A s.heap hl Γ X xs ws0 nL gh gz fh (fun pc ls vst H locs => W p l e R s m args below meth c H locs cs sl Q (F0 m pc ls vst)) act pc L st S := by
  intro ρ ls vst H locs ws hR hG hH
  subst hst
  obtain ⟨⟨h0, lvs, h1, h2⟩, h3, h4, h5, h6⟩ := hR
  obtain ⟨x, vst, rfl, hx, htl⟩ := h3.un
  exact hs ρ ls vst H locs _ x lvs hx h1 (by omega) fun ls' hls' => xy_k hk h ⟨⟨by unfold xw_st1; rw [xv_put_eq, List.length_set, xw_cl1_len]; exact h0, _, hls', h2.st1 (by omega) hx⟩, htl, h4, h5, h6⟩ xw_Up.rf hG hH
theorem xy_istore {i pc' : Nat} (hk : (∀ pc' L' st' S', k pc' L' st' S' = true → xw_Tj e0 D t A s.heap hl Γ X xs ws0 nL gh gz fh (fun pc ls vst H locs => W p l e R s m args below meth c H locs cs sl Q (F0 m pc ls vst)) act pc' L' st' S')) (h : xw_sto 0 i L st (fun L' st' => k pc' L' st' S) = true)
    (hs : ∀ (ls : Array Slot) (vst : List Value) (H : Heap) (locs : List Loc) (x : Int32) (lv : List (Nat × Value)), lv_has ls nL lv → i < nL → (∀ ls' : Array Slot, lv_has ls' nL ((i, .int x) :: lv.filter (fun q => !(q.1 == i) && !(q.1 + 1 == i && q.2.category == 2))) → W p l e R s m args below meth c H locs cs sl Q (F0 m pc' ls' vst)) → W p l e R s m args below meth c H locs cs sl Q (F0 m pc ls (.int x :: vst))) : xw_Tj e0 D t A s.heap hl Γ X xs ws0 nL gh gz fh (fun pc ls vst H locs => W p l e R s m args below meth c H locs cs sl Q (F0 m pc ls vst)) act pc L st S := by
  unfold xw_sto at h
  match st, h with
  | [], h => cases h
  | v :: rest, h =>
    dsimp only at h
    cases hb : (Nat.beq v.1 0 && Nat.ble (i + 1) L.length) with
    | false => rw [hb] at h; cases h
    | true =>
      rw [hb] at h
      obtain ⟨b1, b2⟩ := xv_and_t hb
      refine xy_sto hk h rfl (xv_ble b2) fun ρ ls vst H locs as x lv hx hlv hi w => ?_
      obtain ⟨y, rfl, -⟩ := hx.1 (xv_beq b1)
      exact hs ls vst H locs y lv hlv hi w
theorem xy_astore_n {i : Fin 4} (C : xw_Cx p s m args c cc own nL D t A X xs Γ) (hk : (∀ pc' L' st' S', k pc' L' st' S' = true → xw_Tj e0 D t A s.heap hl Γ X xs ws0 nL gh gz fh (fun pc ls vst H locs => W p l e R s m args below meth c H locs cs sl Q (F0 m pc ls vst)) act pc' L' st' S')) (hd : decode cc pc = .ok (.astore_n i, 1)) (h : xw_stoa i.val L st (fun L' st' => k (pc + 1) L' st' S) = true) : xw_Tj e0 D t A s.heap hl Γ X xs ws0 nL gh gz fh (fun pc ls vst H locs => W p l e R s m args below meth c H locs cs sl Q (F0 m pc ls vst)) act pc L st S := by
  unfold xw_stoa at h
  match st, h with
  | [], h => cases h
  | v :: rest, h =>
    dsimp only at h
    cases hb : ((Nat.beq v.1 2 || Nat.beq v.1 3) && Nat.ble (i.val + 1) L.length) with
    | false => rw [hb] at h; cases h
    | true =>
      rw [hb] at h
      obtain ⟨b1, b2⟩ := xv_and_t hb
      refine xy_sto hk h rfl (xv_ble b2) fun ρ ls vst H locs as x lv hx hlv hi w => ?_
      rcases (Bool.or_eq_true _ _).mp b1 with b1 | b1
      · obtain ⟨q, -, rfl⟩ := hx.2.2.1 (xv_beq b1)
        exact lv_astore_n C.1 C.2.1 hd rfl hlv hi rfl w
      · have e := hx.2.2.2.1 (xv_beq b1)
        subst e
        exact lv_astore_nN C.1 C.2.1 hd rfl hlv hi rfl w
theorem xy_lstore {i pc' : Nat} (hk : (∀ pc' L' st' S', k pc' L' st' S' = true → xw_Tj e0 D t A s.heap hl Γ X xs ws0 nL gh gz fh (fun pc ls vst H locs => W p l e R s m args below meth c H locs cs sl Q (F0 m pc ls vst)) act pc' L' st' S')) (h : xw_stol i L st (fun L' st' => k pc' L' st' S) = true)
    (hs : ∀ (ls : Array Slot) (vst : List Value) (H : Heap) (locs : List Loc) (x : Int64) (lv : List (Nat × Value)), lv_has ls nL lv → i + 1 < nL → (∀ ls' : Array Slot, lv_has ls' nL ((i, .long x) :: lv.filter (fun q => !(q.1 == i) && (!(q.1 == i + 1) && !(q.1 + 1 == i && q.2.category == 2)))) → W p l e R s m args below meth c H locs cs sl Q (F0 m pc' ls' vst)) → W p l e R s m args below meth c H locs cs sl Q (F0 m pc ls (.long x :: vst))) : xw_Tj e0 D t A s.heap hl Γ X xs ws0 nL gh gz fh (fun pc ls vst H locs => W p l e R s m args below meth c H locs cs sl Q (F0 m pc ls vst)) act pc L st S := by
  unfold xw_stol at h
  match st, h with
  | [], h => cases h
  | v :: rest, h =>
    dsimp only at h
    cases hb : (Nat.beq v.1 1 && Nat.ble (i + 2) L.length) with
    | false => rw [hb] at h; cases h
    | true =>
      rw [hb] at h
      simp only [cond_true] at h
      obtain ⟨b1, b2⟩ := xv_and_t hb
      have b2 := xv_ble b2
      intro ρ ls vst H locs ws hR hG hH
      obtain ⟨⟨h0, lvs, h1, h2⟩, h3, h4, h5, h6⟩ := hR
      obtain ⟨x, vst, rfl, hx, htl⟩ := h3.un
      obtain ⟨y, rfl, hy⟩ := hx.2.1 (xv_beq b1)
      refine hs ls vst H locs y lvs h1 (by omega) fun ls' hls' => xy_k hk h ⟨⟨by unfold xw_st2; rw [xv_put_eq, xv_put_eq, List.length_set, List.length_set, xw_cl1_len]; exact h0, _, hls', fun j w hj hk9 => ?_⟩, htl, h4, h5, h6⟩ xw_Up.rf hG hH
      unfold xw_st2 at hj
      rw [xv_put_eq, xv_put_eq] at hj
      by_cases e1 : i + 1 = j
      · subst e1
        rw [List.getElem?_set_self (by rw [List.length_set, xw_cl1_len]; omega)] at hj
        cases hj
        exact absurd hk9 (by decide)
      · rw [List.getElem?_set_ne e1] at hj
        by_cases e2 : i = j
        · subst e2
          rw [List.getElem?_set_self (by rw [xw_cl1_len]; omega)] at hj
          cases hj
          exact ⟨.long y, List.mem_cons_self, hx⟩
        · rw [List.getElem?_set_ne e2] at hj
          obtain ⟨g4, g5⟩ := xw_cl1_get (fun q => e2 q.symm) hj hk9
          obtain ⟨z, hz, hv⟩ := h2 j w g4 hk9
          refine ⟨z, List.mem_cons_of_mem _ (List.mem_filter.mpr ⟨hz, ?_⟩), hv⟩
          have q1 : (j == i) = false := by simp; omega
          have q2 : (j == i + 1) = false := by simp; omega
          simp only [q1, q2, Bool.not_false, Bool.true_and, Bool.not_eq_true', Bool.and_eq_false_iff, beq_eq_false_iff_ne]
          by_cases q : j + 1 = i
          · right
            rw [xy_cat1 hv hk9 (g5 q)]; decide
          · left; exact q
theorem xy_iinc {i : Nat} {n : Int} (C : xw_Cx p s m args c cc own nL D t A X xs Γ) (hk : (∀ pc' L' st' S', k pc' L' st' S' = true → xw_Tj e0 D t A s.heap hl Γ X xs ws0 nL gh gz fh (fun pc ls vst H locs => W p l e R s m args below meth c H locs cs sl Q (F0 m pc ls vst)) act pc' L' st' S')) (hd : decode cc pc = .ok (.iinc i n, 3)) (h : xw_ld 0 L i (fun v => xw_inr 0 S (xw_k v.2 n) (fun l S' => k (pc + 3) (xw_st1 L i (0, l)) st S')) = true) : xw_Tj e0 D t A s.heap hl Γ X xs ws0 nL gh gz fh (fun pc ls vst H locs => W p l e R s m args below meth c H locs cs sl Q (F0 m pc ls vst)) act pc L st S := by
  obtain ⟨v, e1, e2, h⟩ := xy_ldeq h
  intro ρ ls vst H locs ws hR hG hH
  obtain ⟨⟨h0, lvs, h1, h2⟩, h3, h4, h5, h6⟩ := hR
  obtain ⟨x, hx, hv⟩ := h2 i v e1 (by omega)
  obtain ⟨y, rfl, hy⟩ := hv.1 e2
  obtain ⟨j, hj⟩ := List.mem_iff_getElem?.mp hx
  have hi : i < nL := by rw [← h0]; exact (List.getElem?_eq_some_iff.mp e1).1
  have ez : (y + Int32.ofInt n).toInt = (y.toInt + n).bmod (2 ^ 32) := by
    rw [Int32.toInt_add, Int32.toInt_ofInt]
    exact Int.add_bmod_bmod
  obtain ⟨ρ', l', S', g1, g2, g3, g4, g5, g6, g7⟩ := xw_Re.inr (z := (y + Int32.ofInt n).toInt) h5 h (hy.k n) (fun a b => by rw [ez]; exact xw_bm0 a b) (xw_r0 _).1 (xw_r0 _).2
  refine lv_iinc C.1 C.2.1 hd h1 hj rfl hi rfl (fun ls' hls' => ?_)
  exact xy_k hk g1 ⟨⟨by unfold xw_st1; rw [xv_put_eq, List.length_set, xw_cl1_len]; exact h0, _, hls', (h2.more g2).st1 (by omega) (xw_hv.i g4)⟩, h3.more g2, by rw [g7]; exact h4, g3, xw_Re.me h6 g2 g5 g6⟩ g2 hG hH
theorem xy_bineq {kd ky : Nat} {f : xw_L → xw_L → List xw_V → Bool} (h : xw_bin kd ky st f = true) : ∃ x y r, st = y :: x :: r ∧ x.1 = kd ∧ y.1 = ky ∧ f x.2 y.2 r = true := by
  unfold xw_bin at h
  match st, h with
  | [], h => cases h
  | [_], h => cases h
  | y :: x :: r, h =>
    dsimp only at h
    cases hb : (Nat.beq x.1 kd && Nat.beq y.1 ky) with
    | false => rw [hb] at h; cases h
    | true =>
      rw [hb] at h
      obtain ⟨b1, b2⟩ := xv_and_t hb
      exact ⟨x, y, r, rfl, xv_beq b1, xv_beq b2, h⟩
/-- two ints give one -/
theorem xy_bi {pc' : Nat} {f : xw_L → xw_L → List xw_V → Bool} (op : Int32 → Int32 → Int32) (hk : (∀ pc' L' st' S', k pc' L' st' S' = true → xw_Tj e0 D t A s.heap hl Γ X xs ws0 nL gh gz fh (fun pc ls vst H locs => W p l e R s m args below meth c H locs cs sl Q (F0 m pc ls vst)) act pc' L' st' S')) (h : xw_bin 0 0 st f = true)
    (hop : ∀ (ρ : Nat → Int) (x y : xw_L) (r : List xw_V) (u v : Int32), xw_St ρ S → f x y r = true → xw_is ρ S.2.1 x u.toInt → xw_is ρ S.2.1 y v.toInt → xw_Re ρ S (fun l S' => k pc' L ((0, l) :: r) S') (op u v).toInt ∧ (∀ (ls : Array Slot) (vst : List Value) (H : Heap) (locs : List Loc), W p l e R s m args below meth c H locs cs sl Q (F0 m pc' ls (.int (op u v) :: vst)) → W p l e R s m args below meth c H locs cs sl Q (F0 m pc ls (.int v :: .int u :: vst)))) : xw_Tj e0 D t A s.heap hl Γ X xs ws0 nL gh gz fh (fun pc ls vst H locs => W p l e R s m args below meth c H locs cs sl Q (F0 m pc ls vst)) act pc L st S := by
  obtain ⟨x, y, r, rfl, hx, hy, h⟩ := xy_bineq h
  intro ρ ls vst H locs ws hR hG hH
  obtain ⟨v0, vst, rfl, hv0, ht0⟩ := hR.2.1.un
  obtain ⟨u0, vst, rfl, hu0, ht⟩ := ht0.un
  obtain ⟨v, rfl, hv⟩ := hv0.1 hy
  obtain ⟨u, rfl, hu⟩ := hu0.1 hx
  obtain ⟨⟨ρ', l', S', g1, g2, g3, g4, g5, g6, g7⟩, hw⟩ := hop ρ x.2 y.2 r u v hR.2.2.2.1 h hu hv
  exact hw ls vst H locs (xy_k hk g1 (hR.stk (xw_sk.cons (xw_hv.i g4) (ht.more g2)) g2 g3 g5 g6 g7) g2 hG hH)
theorem xy_bl {pc' : Nat} {f : xw_L → xw_L → List xw_V → Bool} (op : Int64 → Int64 → Int64) (hk : (∀ pc' L' st' S', k pc' L' st' S' = true → xw_Tj e0 D t A s.heap hl Γ X xs ws0 nL gh gz fh (fun pc ls vst H locs => W p l e R s m args below meth c H locs cs sl Q (F0 m pc ls vst)) act pc' L' st' S')) (h : xw_bin 1 1 st f = true)
    (hop : ∀ (ρ : Nat → Int) (x y : xw_L) (r : List xw_V) (u v : Int64), xw_St ρ S → f x y r = true → xw_is ρ S.2.1 x u.toInt → xw_is ρ S.2.1 y v.toInt → xw_Re ρ S (fun l S' => k pc' L ((1, l) :: r) S') (op u v).toInt ∧ (∀ (ls : Array Slot) (vst : List Value) (H : Heap) (locs : List Loc), W p l e R s m args below meth c H locs cs sl Q (F0 m pc' ls (.long (op u v) :: vst)) → W p l e R s m args below meth c H locs cs sl Q (F0 m pc ls (.long v :: .long u :: vst)))) : xw_Tj e0 D t A s.heap hl Γ X xs ws0 nL gh gz fh (fun pc ls vst H locs => W p l e R s m args below meth c H locs cs sl Q (F0 m pc ls vst)) act pc L st S := by
  obtain ⟨x, y, r, rfl, hx, hy, h⟩ := xy_bineq h
  intro ρ ls vst H locs ws hR hG hH
  obtain ⟨v0, vst, rfl, hv0, ht0⟩ := hR.2.1.un
  obtain ⟨u0, vst, rfl, hu0, ht⟩ := ht0.un
  obtain ⟨v, rfl, hv⟩ := hv0.2.1 hy
  obtain ⟨u, rfl, hu⟩ := hu0.2.1 hx
  obtain ⟨⟨ρ', l', S', g1, g2, g3, g4, g5, g6, g7⟩, hw⟩ := hop ρ x.2 y.2 r u v hR.2.2.2.1 h hu hv
  exact hw ls vst H locs (xy_k hk g1 (hR.stk (xw_sk.cons (xw_hv.l g4) (ht.more g2)) g2 g3 g5 g6 g7) g2 hG hH)
theorem xy_iadd (C : xw_Cx p s m args c cc own nL D t A X xs Γ) (hk : (∀ pc' L' st' S', k pc' L' st' S' = true → xw_Tj e0 D t A s.heap hl Γ X xs ws0 nL gh gz fh (fun pc ls vst H locs => W p l e R s m args below meth c H locs cs sl Q (F0 m pc ls vst)) act pc' L' st' S')) (hd : decode cc pc = .ok (.iadd, 1)) (h : xw_bin 0 0 st (fun x y r => xw_inw S (xw_add x y) (fun l S' => k (pc + 1) L ((0, l) :: r) S')) = true) : xw_Tj e0 D t A s.heap hl Γ X xs ws0 nL gh gz fh (fun pc ls vst H locs => W p l e R s m args below meth c H locs cs sl Q (F0 m pc ls vst)) act pc L st S :=
  xy_bi (fun x y => x + y) hk h fun ρ x y r u v hS h hu hv => ⟨xw_Re.inw hS h (hu.add hv) (by rw [Int32.toInt_add]) (xw_r0 _).1 (xw_r0 _).2, fun _ _ _ _ w => lv_iadd C.1 C.2.1 hd w⟩
theorem xy_isub (C : xw_Cx p s m args c cc own nL D t A X xs Γ) (hk : (∀ pc' L' st' S', k pc' L' st' S' = true → xw_Tj e0 D t A s.heap hl Γ X xs ws0 nL gh gz fh (fun pc ls vst H locs => W p l e R s m args below meth c H locs cs sl Q (F0 m pc ls vst)) act pc' L' st' S')) (hd : decode cc pc = .ok (.isub, 1)) (h : xw_bin 0 0 st (fun x y r => xw_inr 0 S (xw_sub x y) (fun l S' => k (pc + 1) L ((0, l) :: r) S')) = true) : xw_Tj e0 D t A s.heap hl Γ X xs ws0 nL gh gz fh (fun pc ls vst H locs => W p l e R s m args below meth c H locs cs sl Q (F0 m pc ls vst)) act pc L st S :=
  xy_bi (fun x y => x - y) hk h fun ρ x y r u v hS h hu hv => ⟨xw_Re.inr hS h (hu.sub hv) (fun a b => by rw [Int32.toInt_sub]; exact xw_bm0 a b) (xw_r0 _).1 (xw_r0 _).2, fun _ _ _ _ w => lv_isub C.1 C.2.1 hd w⟩
theorem xy_imul (C : xw_Cx p s m args c cc own nL D t A X xs Γ) (hk : (∀ pc' L' st' S', k pc' L' st' S' = true → xw_Tj e0 D t A s.heap hl Γ X xs ws0 nL gh gz fh (fun pc ls vst H locs => W p l e R s m args below meth c H locs cs sl Q (F0 m pc ls vst)) act pc' L' st' S')) (hd : decode cc pc = .ok (.imul, 1)) (h : xw_bin 0 0 st (fun x y r => xw_mul 0 S (xw_nm S.1 x) (xw_nm S.1 y) (fun l S' => k (pc + 1) L ((0, l) :: r) S')) = true) : xw_Tj e0 D t A s.heap hl Γ X xs ws0 nL gh gz fh (fun pc ls vst H locs => W p l e R s m args below meth c H locs cs sl Q (F0 m pc ls vst)) act pc L st S :=
  xy_bi (fun x y => x * y) hk h fun ρ x y r u v hS h hu hv => ⟨xw_Re.mul hS h (xw_nm_ok hS.1 hu) (xw_nm_ok hS.1 hv) (fun a b => by rw [Int32.toInt_mul]; exact xw_bm0 a b) (xw_r0 _).1 (xw_r0 _).2, fun _ _ _ _ w => lv_imul C.1 C.2.1 hd w⟩
theorem xy_iand (C : xw_Cx p s m args c cc own nL D t A X xs Γ) (hk : (∀ pc' L' st' S', k pc' L' st' S' = true → xw_Tj e0 D t A s.heap hl Γ X xs ws0 nL gh gz fh (fun pc ls vst H locs => W p l e R s m args below meth c H locs cs sl Q (F0 m pc ls vst)) act pc' L' st' S')) (hd : decode cc pc = .ok (.iand, 1)) (h : xw_bin 0 0 st (fun x y r => xw_and S (xw_nm S.1 x) (xw_nm S.1 y) (fun l S' => k (pc + 1) L ((0, l) :: r) S')) = true) : xw_Tj e0 D t A s.heap hl Γ X xs ws0 nL gh gz fh (fun pc ls vst H locs => W p l e R s m args below meth c H locs cs sl Q (F0 m pc ls vst)) act pc L st S :=
  xy_bi (fun x y => x &&& y) hk h fun ρ x y r u v hS h hu hv => ⟨xw_Re.and hS h (xw_nm_ok hS.1 hu) (xw_nm_ok hS.1 hv), fun _ _ _ _ w => lv_iand C.1 C.2.1 hd w⟩
theorem xy_ior (C : xw_Cx p s m args c cc own nL D t A X xs Γ) (hk : (∀ pc' L' st' S', k pc' L' st' S' = true → xw_Tj e0 D t A s.heap hl Γ X xs ws0 nL gh gz fh (fun pc ls vst H locs => W p l e R s m args below meth c H locs cs sl Q (F0 m pc ls vst)) act pc' L' st' S')) (hd : decode cc pc = .ok (.ior, 1)) (h : xw_bin 0 0 st (fun x y r => xw_or S (xw_nm S.1 x) (xw_nm S.1 y) (fun l S' => k (pc + 1) L ((0, l) :: r) S')) = true) : xw_Tj e0 D t A s.heap hl Γ X xs ws0 nL gh gz fh (fun pc ls vst H locs => W p l e R s m args below meth c H locs cs sl Q (F0 m pc ls vst)) act pc L st S :=
  xy_bi (fun x y => x ||| y) hk h fun ρ x y r u v hS h hu hv => ⟨xw_Re.or hS h (xw_nm_ok hS.1 hu) (xw_nm_ok hS.1 hv), fun _ _ _ _ w => lv_ior C.1 C.2.1 hd w⟩
theorem xy_ixor (C : xw_Cx p s m args c cc own nL D t A X xs Γ) (hk : (∀ pc' L' st' S', k pc' L' st' S' = true → xw_Tj e0 D t A s.heap hl Γ X xs ws0 nL gh gz fh (fun pc ls vst H locs => W p l e R s m args below meth c H locs cs sl Q (F0 m pc ls vst)) act pc' L' st' S')) (hd : decode cc pc = .ok (.ixor, 1)) (h : xw_bin 0 0 st (fun x y r => xw_xor S (xw_nm S.1 x) (xw_nm S.1 y) (fun l S' => k (pc + 1) L ((0, l) :: r) S')) = true) : xw_Tj e0 D t A s.heap hl Γ X xs ws0 nL gh gz fh (fun pc ls vst H locs => W p l e R s m args below meth c H locs cs sl Q (F0 m pc ls vst)) act pc L st S :=
  xy_bi (fun x y => x ^^^ y) hk h fun ρ x y r u v hS h hu hv => ⟨xw_Re.xor hS h (xw_nm_ok hS.1 hu) (xw_nm_ok hS.1 hv), fun _ _ _ _ w => lv_ixor C.1 C.2.1 hd w⟩
theorem xy_ishl (C : xw_Cx p s m args c cc own nL D t A X xs Γ) (hk : (∀ pc' L' st' S', k pc' L' st' S' = true → xw_Tj e0 D t A s.heap hl Γ X xs ws0 nL gh gz fh (fun pc ls vst H locs => W p l e R s m args below meth c H locs cs sl Q (F0 m pc ls vst)) act pc' L' st' S')) (hd : decode cc pc = .ok (.ishl, 1)) (h : xw_bin 0 0 st (fun x y r => xw_shl S (xw_nm S.1 x) (xw_nm S.1 y) (fun l S' => k (pc + 1) L ((0, l) :: r) S')) = true) : xw_Tj e0 D t A s.heap hl Γ X xs ws0 nL gh gz fh (fun pc ls vst H locs => W p l e R s m args below meth c H locs cs sl Q (F0 m pc ls vst)) act pc L st S :=
  xy_bi (fun x y => x <<< (y &&& 31)) hk h fun ρ x y r u v hS h hu hv => ⟨xw_Re.shl hS h (xw_nm_ok hS.1 hu) (xw_nm_ok hS.1 hv), fun _ _ _ _ w => lv_ishl C.1 C.2.1 hd w⟩
theorem xy_ishr (C : xw_Cx p s m args c cc own nL D t A X xs Γ) (hk : (∀ pc' L' st' S', k pc' L' st' S' = true → xw_Tj e0 D t A s.heap hl Γ X xs ws0 nL gh gz fh (fun pc ls vst H locs => W p l e R s m args below meth c H locs cs sl Q (F0 m pc ls vst)) act pc' L' st' S')) (hd : decode cc pc = .ok (.ishr, 1)) (h : xw_bin 0 0 st (fun x y r => xw_shr S (xw_nm S.1 x) (xw_nm S.1 y) (fun l S' => k (pc + 1) L ((0, l) :: r) S')) = true) : xw_Tj e0 D t A s.heap hl Γ X xs ws0 nL gh gz fh (fun pc ls vst H locs => W p l e R s m args below meth c H locs cs sl Q (F0 m pc ls vst)) act pc L st S :=
  xy_bi (fun x y => x >>> (y &&& 31)) hk h fun ρ x y r u v hS h hu hv => ⟨xw_Re.shr hS h (xw_nm_ok hS.1 hu) (xw_nm_ok hS.1 hv), fun _ _ _ _ w => lv_ishr C.1 C.2.1 hd w⟩
theorem xy_iushr (C : xw_Cx p s m args c cc own nL D t A X xs Γ) (hk : (∀ pc' L' st' S', k pc' L' st' S' = true → xw_Tj e0 D t A s.heap hl Γ X xs ws0 nL gh gz fh (fun pc ls vst H locs => W p l e R s m args below meth c H locs cs sl Q (F0 m pc ls vst)) act pc' L' st' S')) (hd : decode cc pc = .ok (.iushr, 1)) (h : xw_bin 0 0 st (fun x _ r => xw_ushr S (xw_nm S.1 x) (fun l S' => k (pc + 1) L ((0, l) :: r) S')) = true) : xw_Tj e0 D t A s.heap hl Γ X xs ws0 nL gh gz fh (fun pc ls vst H locs => W p l e R s m args below meth c H locs cs sl Q (F0 m pc ls vst)) act pc L st S :=
  xy_bi (fun x y => (x.toUInt32 >>> (y.toUInt32 &&& Int32.toUInt32 31)).toInt32) hk h fun ρ x y r u v hS h hu hv => ⟨xw_Re.ushr hS h (xw_nm_ok hS.1 hu), fun _ _ _ _ w => lv_iushr C.1 C.2.1 hd rfl w⟩
theorem xy_remv {x y q : Int} (h0 : 0 ≤ x) (h1 : 1 ≤ y) (hq : q = x.tdiv y) : 0 ≤ q * y ∧ q * y ≤ x ∧ 0 ≤ x - q * y ∧ x - q * y ≤ y - 1 ∧ (y ≤ x → x - q * y ≤ (x - 1) / 2) ∧ 0 ≤ q ∧ q ≤ x := by
  rw [Int.tdiv_eq_ediv_of_nonneg h0] at hq
  have e := Int.mul_ediv_add_emod x y
  have m0 := Int.emod_nonneg x (show y ≠ 0 by omega)
  have m1 := Int.emod_lt_of_pos x (show 0 < y by omega)
  have q0 : 0 ≤ q := by rw [hq]; exact Int.ediv_nonneg h0 (by omega)
  have q1 : q ≤ x := by rw [hq]; exact Int.ediv_le_self _ h0
  rw [← hq, Int.mul_comm] at e
  have p0 : 0 ≤ q * y := Int.mul_nonneg q0 (by omega)
  refine ⟨p0, by omega, by omega, by omega, fun hle => ?_, q0, q1⟩
  have q2 : 1 ≤ q := by
    rw [hq, Int.le_ediv_iff_mul_le (by omega)]; omega
  have : 1 * y ≤ q * y := Int.mul_le_mul_of_nonneg_right q2 (by omega)
  omega
theorem xy_irem (C : xw_Cx p s m args c cc own nL D t A X xs Γ) (hk : (∀ pc' L' st' S', k pc' L' st' S' = true → xw_Tj e0 D t A s.heap hl Γ X xs ws0 nL gh gz fh (fun pc ls vst H locs => W p l e R s m args below meth c H locs cs sl Q (F0 m pc ls vst)) act pc' L' st' S')) (hd : decode cc pc = .ok (.irem, 1)) (h : xw_bin 0 0 st (fun x y r => xw_rem 0 S (xw_nm S.1 x) (xw_nm S.1 y) (fun l S' => k (pc + 1) L ((0, l) :: r) S')) = true) : xw_Tj e0 D t A s.heap hl Γ X xs ws0 nL gh gz fh (fun pc ls vst H locs => W p l e R s m args below meth c H locs cs sl Q (F0 m pc ls vst)) act pc L st S :=
  xy_bi (fun x y => x - x / y * y) hk h fun ρ x y r u v hS h hu hv => by
    have key : 0 ≤ u.toInt → 1 ≤ v.toInt → 0 ≤ (u - u / v * v).toInt ∧ (u - u / v * v).toInt ≤ u.toInt ∧ (u - u / v * v).toInt ≤ v.toInt - 1 ∧ (v.toInt ≤ u.toInt → (u - u / v * v).toInt ≤ (u.toInt - 1) / 2) := fun a b => by
      have eq : (u / v).toInt = u.toInt.tdiv v.toInt := Int32.toInt_div_of_ne_right _ _ (fun q => by rw [q] at b; exact absurd b (by decide))
      obtain ⟨c1, c2, c3, c4, c5, c6, c7⟩ := xy_remv a b eq
      have ru := xv_i32 u
      have e1 : (u / v * v).toInt = (u / v).toInt * v.toInt := by rw [Int32.toInt_mul]; exact Int.bmod_eq_of_le (by omega) (by omega)
      have e2 : (u - u / v * v).toInt = u.toInt - (u / v).toInt * v.toInt := by rw [Int32.toInt_sub, e1]; exact Int.bmod_eq_of_le (by omega) (by omega)
      rw [e2]
      exact ⟨c3, by omega, c4, c5⟩
    obtain ⟨hne, hre⟩ := xw_Re.rem hS h (xw_nm_ok hS.1 hu) (xw_nm_ok hS.1 hv) key (xw_r0 _).1 (xw_r0 _).2
    exact ⟨hre, fun _ _ _ _ w => lv_irem C.1 C.2.1 hd (fun q => hne (by rw [q]; decide)) w⟩
theorem xy_ladd (C : xw_Cx p s m args c cc own nL D t A X xs Γ) (hk : (∀ pc' L' st' S', k pc' L' st' S' = true → xw_Tj e0 D t A s.heap hl Γ X xs ws0 nL gh gz fh (fun pc ls vst H locs => W p l e R s m args below meth c H locs cs sl Q (F0 m pc ls vst)) act pc' L' st' S')) (hd : decode cc pc = .ok (.ladd, 1)) (h : xw_bin 1 1 st (fun x y r => xw_inr 1 S (xw_add x y) (fun l S' => k (pc + 1) L ((1, l) :: r) S')) = true) : xw_Tj e0 D t A s.heap hl Γ X xs ws0 nL gh gz fh (fun pc ls vst H locs => W p l e R s m args below meth c H locs cs sl Q (F0 m pc ls vst)) act pc L st S :=
  xy_bl (fun x y => x + y) hk h fun ρ x y r u v hS h hu hv => ⟨xw_Re.inr hS h (hu.add hv) (fun a b => by rw [Int64.toInt_add]; exact xw_bm1 a b) (xw_r1 _).1 (xw_r1 _).2, fun _ _ _ _ w => lv_ladd C.1 C.2.1 hd w⟩
theorem xy_lsub (C : xw_Cx p s m args c cc own nL D t A X xs Γ) (hk : (∀ pc' L' st' S', k pc' L' st' S' = true → xw_Tj e0 D t A s.heap hl Γ X xs ws0 nL gh gz fh (fun pc ls vst H locs => W p l e R s m args below meth c H locs cs sl Q (F0 m pc ls vst)) act pc' L' st' S')) (hd : decode cc pc = .ok (.lsub, 1)) (h : xw_bin 1 1 st (fun x y r => xw_inr 1 S (xw_sub x y) (fun l S' => k (pc + 1) L ((1, l) :: r) S')) = true) : xw_Tj e0 D t A s.heap hl Γ X xs ws0 nL gh gz fh (fun pc ls vst H locs => W p l e R s m args below meth c H locs cs sl Q (F0 m pc ls vst)) act pc L st S :=
  xy_bl (fun x y => x - y) hk h fun ρ x y r u v hS h hu hv => ⟨xw_Re.inr hS h (hu.sub hv) (fun a b => by rw [Int64.toInt_sub]; exact xw_bm1 a b) (xw_r1 _).1 (xw_r1 _).2, fun _ _ _ _ w => lv_lsub C.1 C.2.1 hd w⟩
theorem xy_lmul (C : xw_Cx p s m args c cc own nL D t A X xs Γ) (hk : (∀ pc' L' st' S', k pc' L' st' S' = true → xw_Tj e0 D t A s.heap hl Γ X xs ws0 nL gh gz fh (fun pc ls vst H locs => W p l e R s m args below meth c H locs cs sl Q (F0 m pc ls vst)) act pc' L' st' S')) (hd : decode cc pc = .ok (.lmul, 1)) (h : xw_bin 1 1 st (fun x y r => xw_mul 1 S (xw_nm S.1 x) (xw_nm S.1 y) (fun l S' => k (pc + 1) L ((1, l) :: r) S')) = true) : xw_Tj e0 D t A s.heap hl Γ X xs ws0 nL gh gz fh (fun pc ls vst H locs => W p l e R s m args below meth c H locs cs sl Q (F0 m pc ls vst)) act pc L st S :=
  xy_bl (fun x y => x * y) hk h fun ρ x y r u v hS h hu hv => ⟨xw_Re.mul hS h (xw_nm_ok hS.1 hu) (xw_nm_ok hS.1 hv) (fun a b => by rw [Int64.toInt_mul]; exact xw_bm1 a b) (xw_r1 _).1 (xw_r1 _).2, fun _ _ _ _ w => lv_lmul C.1 C.2.1 hd w⟩
theorem xy_ldiv (C : xw_Cx p s m args c cc own nL D t A X xs Γ) (hk : (∀ pc' L' st' S', k pc' L' st' S' = true → xw_Tj e0 D t A s.heap hl Γ X xs ws0 nL gh gz fh (fun pc ls vst H locs => W p l e R s m args below meth c H locs cs sl Q (F0 m pc ls vst)) act pc' L' st' S')) (hd : decode cc pc = .ok (.ldiv, 1)) (h : xw_bin 1 1 st (fun x y r => xw_div 1 S (xw_nm S.1 x) (xw_nm S.1 y) (fun l S' => k (pc + 1) L ((1, l) :: r) S')) = true) : xw_Tj e0 D t A s.heap hl Γ X xs ws0 nL gh gz fh (fun pc ls vst H locs => W p l e R s m args below meth c H locs cs sl Q (F0 m pc ls vst)) act pc L st S :=
  xy_bl (fun x y => x / y) hk h fun ρ x y r u v hS h hu hv => by
    have key : 0 ≤ u.toInt → 1 ≤ v.toInt → 0 ≤ (u / v).toInt ∧ (u / v).toInt ≤ u.toInt := fun a b => by
      have eq : (u / v).toInt = u.toInt.tdiv v.toInt := Int64.toInt_div_of_ne_right _ _ (fun q => by rw [q] at b; exact absurd b (by decide))
      obtain ⟨c1, c2, c3, c4, c5, c6, c7⟩ := xy_remv a b eq
      exact ⟨c6, c7⟩
    obtain ⟨hne, hre⟩ := xw_Re.div hS h (xw_nm_ok hS.1 hu) (xw_nm_ok hS.1 hv) key (xw_r1 _).1 (xw_r1 _).2
    exact ⟨hre, fun _ _ _ _ w => lv_ldiv C.1 C.2.1 hd (fun q => hne (by rw [q]; decide)) w⟩
theorem xy_lrem (C : xw_Cx p s m args c cc own nL D t A X xs Γ) (hk : (∀ pc' L' st' S', k pc' L' st' S' = true → xw_Tj e0 D t A s.heap hl Γ X xs ws0 nL gh gz fh (fun pc ls vst H locs => W p l e R s m args below meth c H locs cs sl Q (F0 m pc ls vst)) act pc' L' st' S')) (hd : decode cc pc = .ok (.lrem, 1)) (h : xw_bin 1 1 st (fun x y r => xw_rem 1 S (xw_nm S.1 x) (xw_nm S.1 y) (fun l S' => k (pc + 1) L ((1, l) :: r) S')) = true) : xw_Tj e0 D t A s.heap hl Γ X xs ws0 nL gh gz fh (fun pc ls vst H locs => W p l e R s m args below meth c H locs cs sl Q (F0 m pc ls vst)) act pc L st S :=
  xy_bl (fun x y => x - x / y * y) hk h fun ρ x y r u v hS h hu hv => by
    have key : 0 ≤ u.toInt → 1 ≤ v.toInt → 0 ≤ (u - u / v * v).toInt ∧ (u - u / v * v).toInt ≤ u.toInt ∧ (u - u / v * v).toInt ≤ v.toInt - 1 ∧ (v.toInt ≤ u.toInt → (u - u / v * v).toInt ≤ (u.toInt - 1) / 2) := fun a b => by
      have eq : (u / v).toInt = u.toInt.tdiv v.toInt := Int64.toInt_div_of_ne_right _ _ (fun q => by rw [q] at b; exact absurd b (by decide))
      obtain ⟨c1, c2, c3, c4, c5, c6, c7⟩ := xy_remv a b eq
      have ru := xv_i64 u
      have e1 : (u / v * v).toInt = (u / v).toInt * v.toInt := by rw [Int64.toInt_mul]; exact Int.bmod_eq_of_le (by omega) (by omega)
      have e2 : (u - u / v * v).toInt = u.toInt - (u / v).toInt * v.toInt := by rw [Int64.toInt_sub, e1]; exact Int.bmod_eq_of_le (by omega) (by omega)
      rw [e2]
      exact ⟨c3, by omega, c4, c5⟩
    obtain ⟨hne, hre⟩ := xw_Re.rem hS h (xw_nm_ok hS.1 hu) (xw_nm_ok hS.1 hv) key (xw_r1 _).1 (xw_r1 _).2
    exact ⟨hre, fun _ _ _ _ w => lv_lrem C.1 C.2.1 hd (fun q => hne (by rw [q]; decide)) w⟩
theorem xy_land (C : xw_Cx p s m args c cc own nL D t A X xs Γ) (hk : (∀ pc' L' st' S', k pc' L' st' S' = true → xw_Tj e0 D t A s.heap hl Γ X xs ws0 nL gh gz fh (fun pc ls vst H locs => W p l e R s m args below meth c H locs cs sl Q (F0 m pc ls vst)) act pc' L' st' S')) (hd : decode cc pc = .ok (.land, 1)) (h : xw_bin 1 1 st (fun _ _ r => xw_top 1 S (fun l S' => k (pc + 1) L ((1, l) :: r) S')) = true) : xw_Tj e0 D t A s.heap hl Γ X xs ws0 nL gh gz fh (fun pc ls vst H locs => W p l e R s m args below meth c H locs cs sl Q (F0 m pc ls vst)) act pc L st S :=
  xy_bl (fun x y => x &&& y) hk h fun ρ x y r u v hS h hu hv => ⟨xw_Re.top hS h (xw_r1 _).1 (xw_r1 _).2, fun _ _ _ _ w => lv_land C.1 C.2.1 hd w⟩
theorem xy_lor (C : xw_Cx p s m args c cc own nL D t A X xs Γ) (hk : (∀ pc' L' st' S', k pc' L' st' S' = true → xw_Tj e0 D t A s.heap hl Γ X xs ws0 nL gh gz fh (fun pc ls vst H locs => W p l e R s m args below meth c H locs cs sl Q (F0 m pc ls vst)) act pc' L' st' S')) (hd : decode cc pc = .ok (.lor, 1)) (h : xw_bin 1 1 st (fun _ _ r => xw_top 1 S (fun l S' => k (pc + 1) L ((1, l) :: r) S')) = true) : xw_Tj e0 D t A s.heap hl Γ X xs ws0 nL gh gz fh (fun pc ls vst H locs => W p l e R s m args below meth c H locs cs sl Q (F0 m pc ls vst)) act pc L st S :=
  xy_bl (fun x y => x ||| y) hk h fun ρ x y r u v hS h hu hv => ⟨xw_Re.top hS h (xw_r1 _).1 (xw_r1 _).2, fun _ _ _ _ w => lv_lor C.1 C.2.1 hd w⟩
theorem xy_lshl (C : xw_Cx p s m args c cc own nL D t A X xs Γ) (hk : (∀ pc' L' st' S', k pc' L' st' S' = true → xw_Tj e0 D t A s.heap hl Γ X xs ws0 nL gh gz fh (fun pc ls vst H locs => W p l e R s m args below meth c H locs cs sl Q (F0 m pc ls vst)) act pc' L' st' S')) (hd : decode cc pc = .ok (.lshl, 1)) (h : xw_bin 1 0 st (fun _ _ r => xw_top 1 S (fun l S' => k (pc + 1) L ((1, l) :: r) S')) = true) : xw_Tj e0 D t A s.heap hl Γ X xs ws0 nL gh gz fh (fun pc ls vst H locs => W p l e R s m args below meth c H locs cs sl Q (F0 m pc ls vst)) act pc L st S := by
  obtain ⟨x, y, r, rfl, hx, hy, h⟩ := xy_bineq h
  intro ρ ls vst H locs ws hR hG hH
  obtain ⟨v0, vst, rfl, hv0, ht0⟩ := hR.2.1.un
  obtain ⟨u0, vst, rfl, hu0, ht⟩ := ht0.un
  obtain ⟨v, rfl, hv⟩ := hv0.1 hy
  obtain ⟨u, rfl, hu⟩ := hu0.2.1 hx
  obtain ⟨ρ', l', S', g1, g2, g3, g4, g5, g6, g7⟩ := xw_Re.top (z := (u <<< (v.toInt64 &&& 63)).toInt) hR.2.2.2.1 h (xw_r1 _).1 (xw_r1 _).2
  exact lv_lshl C.1 C.2.1 hd rfl (xy_k hk g1 (hR.stk (xw_sk.cons (xw_hv.l g4) (ht.more g2)) g2 g3 g5 g6 g7) g2 hG hH)
theorem xy_lcmp (C : xw_Cx p s m args c cc own nL D t A X xs Γ) (hk : (∀ pc' L' st' S', k pc' L' st' S' = true → xw_Tj e0 D t A s.heap hl Γ X xs ws0 nL gh gz fh (fun pc ls vst H locs => W p l e R s m args below meth c H locs cs sl Q (F0 m pc ls vst)) act pc' L' st' S')) (hd : decode cc pc = .ok (.lcmp, 1)) (h : xw_bin 1 1 st (fun x y r => k (pc + 1) L ((7, xw_sub x y) :: r) S) = true) : xw_Tj e0 D t A s.heap hl Γ X xs ws0 nL gh gz fh (fun pc ls vst H locs => W p l e R s m args below meth c H locs cs sl Q (F0 m pc ls vst)) act pc L st S := by
  obtain ⟨x, y, r, rfl, hx, hy, h⟩ := xy_bineq h
  refine xy_pure hk h fun ρ ls vst H locs as lvs _ _ _ hst => ?_
  obtain ⟨v0, vst, rfl, hv0, ht0⟩ := hst.un
  obtain ⟨u0, vst, rfl, hu0, ht⟩ := ht0.un
  obtain ⟨v, rfl, hv⟩ := hv0.2.1 hy
  obtain ⟨u, rfl, hu⟩ := hu0.2.1 hx
  refine ⟨.int (lg_cmp u v) :: vst, xw_sk.cons ⟨fun q => (by cases q), fun q => (by cases q), fun q => (by cases q), fun q => (by cases q), fun q => (by cases q), fun q => (by cases q), fun q => (by cases q), fun _ => ⟨_, u.toInt - v.toInt, rfl, hu.sub hv, ?_⟩⟩ ht, fun w => W.lcmp C.1 C.2.1 hd w⟩
  unfold lg_cmp
  by_cases h1 : v < u
  · have := Int64.lt_iff_toInt_lt.mp h1
    rw [Int.sign_eq_one_of_pos (by omega)]; simp [h1]
  · by_cases h2 : u = v
    · subst h2
      rw [Int.sub_self]; simp
    · have h3 : ¬ v.toInt < u.toInt := fun q => h1 (Int64.lt_iff_toInt_lt.mpr q)
      have h4 : u.toInt ≠ v.toInt := fun q => h2 (Int64.toInt_inj.mp q)
      rw [Int.sign_eq_neg_one_of_neg (by omega)]; simp [h1, h2]
end XY2
