/-! conversions, stack, jumps -/
section XY3
variable {p : Program} {l : Launch} {e : Env} {R : Room} {s : State} {m : MethodId} {args : Array Value} {below : List Frame} {meth : Method} {c : Code}
variable {e0 : (Nat → Int) × Nat} {cc : ByteArray} {own : String} {nL : Nat} {D : va_G} {t : Nat → ClassId} {A : Nat → Prop} {hl : Nat × Int} {Γ : xv_A} {X : xw_X} {xs : Nat → Int32} {ws0 : va_W} {gh : List xw_L} {gz : Nat → Int} {fh : Nat → Option xw_H} {cs sl : Nat} {Q : State → Prop} {act : List xw_A} {k : xw_K} {pc : Nat} {L st : List xw_V} {S : xw_S}
theorem xy_i2l (C : xw_Cx p s m args c cc own nL D t A X xs Γ) (hk : (∀ pc' L' st' S', k pc' L' st' S' = true → xw_Tj e0 D t A s.heap hl Γ X xs ws0 nL gh gz fh (fun pc ls vst H locs => W p l e R s m args below meth c H locs cs sl Q (F0 m pc ls vst)) act pc' L' st' S')) (hd : decode cc pc = .ok (.i2l, 1)) (h : (match st with | x :: r => bif Nat.beq x.1 0 then k (pc + 1) L ((1, x.2) :: r) S else false | _ => false) = true) : xw_Tj e0 D t A s.heap hl Γ X xs ws0 nL gh gz fh (fun pc ls vst H locs => W p l e R s m args below meth c H locs cs sl Q (F0 m pc ls vst)) act pc L st S := by
  match st, h with
  | [], h => cases h
  | x :: r, h =>
    dsimp only at h
    cases hb : Nat.beq x.1 0 with
    | false => rw [hb] at h; cases h
    | true =>
      rw [hb] at h
      refine xy_pure hk h fun ρ ls vst H locs as lvs _ _ _ hst => ?_
      obtain ⟨u0, vst, rfl, hu0, ht⟩ := hst.un
      obtain ⟨u, rfl, hu⟩ := hu0.1 (xv_beq hb)
      exact ⟨.long u.toInt64 :: vst, xw_sk.cons (xw_hv.l (by rw [Int32.toInt_toInt64]; exact hu)) ht, fun w => lv_i2l C.1 C.2.1 hd rfl w⟩
theorem xy_l2i (C : xw_Cx p s m args c cc own nL D t A X xs Γ) (hk : (∀ pc' L' st' S', k pc' L' st' S' = true → xw_Tj e0 D t A s.heap hl Γ X xs ws0 nL gh gz fh (fun pc ls vst H locs => W p l e R s m args below meth c H locs cs sl Q (F0 m pc ls vst)) act pc' L' st' S')) (hd : decode cc pc = .ok (.l2i, 1)) (h : (match st with | x :: r => bif Nat.beq x.1 1 then xw_inr 0 S x.2 (fun l S' => k (pc + 1) L ((0, l) :: r) S') else false | _ => false) = true) : xw_Tj e0 D t A s.heap hl Γ X xs ws0 nL gh gz fh (fun pc ls vst H locs => W p l e R s m args below meth c H locs cs sl Q (F0 m pc ls vst)) act pc L st S := by
  match st, h with
  | [], h => cases h
  | x :: r, h =>
    dsimp only at h
    cases hb : Nat.beq x.1 1 with
    | false => rw [hb] at h; cases h
    | true =>
      rw [hb] at h
      simp only [cond_true] at h
      intro ρ ls vst H locs ws hR hG hH
      obtain ⟨u0, vst, rfl, hu0, ht⟩ := hR.2.1.un
      obtain ⟨u, rfl, hu⟩ := hu0.2.1 (xv_beq hb)
      obtain ⟨ρ', l', S', g1, g2, g3, g4, g5, g6, g7⟩ := xw_Re.inr (z := u.toInt32.toInt) hR.2.2.2.1 h hu (fun a b => by rw [Int64.toInt_toInt32]; exact xw_bm0 a b) (xw_r0 _).1 (xw_r0 _).2
      exact lv_l2i C.1 C.2.1 hd rfl (xy_k hk g1 (hR.stk (xw_sk.cons (xw_hv.i g4) (ht.more g2)) g2 g3 g5 g6 g7) g2 hG hH)
theorem xy_i2b (C : xw_Cx p s m args c cc own nL D t A X xs Γ) (hk : (∀ pc' L' st' S', k pc' L' st' S' = true → xw_Tj e0 D t A s.heap hl Γ X xs ws0 nL gh gz fh (fun pc ls vst H locs => W p l e R s m args below meth c H locs cs sl Q (F0 m pc ls vst)) act pc' L' st' S')) (hd : decode cc pc = .ok (.i2b, 1)) (h : (match st with | x :: r => bif Nat.beq x.1 0 then xw_fr S (-128) 127 (fun l S' => k (pc + 1) L ((0, l) :: r) S') else false | _ => false) = true) : xw_Tj e0 D t A s.heap hl Γ X xs ws0 nL gh gz fh (fun pc ls vst H locs => W p l e R s m args below meth c H locs cs sl Q (F0 m pc ls vst)) act pc L st S := by
  match st, h with
  | [], h => cases h
  | x :: r, h =>
    dsimp only at h
    cases hb : Nat.beq x.1 0 with
    | false => rw [hb] at h; cases h
    | true =>
      rw [hb] at h
      simp only [cond_true] at h
      intro ρ ls vst H locs ws hR hG hH
      obtain ⟨u0, vst, rfl, hu0, ht⟩ := hR.2.1.un
      obtain ⟨u, rfl, hu⟩ := hu0.1 (xv_beq hb)
      have h1 := Int8.le_toInt u.toInt8
      have h2 := Int8.toInt_lt u.toInt8
      obtain ⟨ρ', l', S', g1, g2, g3, g4, g5, g6, g7⟩ := xw_Re.fr (z := u.toInt8.toInt32.toInt) hR.2.2.2.1 h (by rw [Int8.toInt_toInt32]; omega) (by rw [Int8.toInt_toInt32]; omega)
      exact lv_i2b C.1 C.2.1 hd rfl (xy_k hk g1 (hR.stk (xw_sk.cons (xw_hv.i g4) (ht.more g2)) g2 g3 g5 g6 g7) g2 hG hH)
theorem xy_i2s (C : xw_Cx p s m args c cc own nL D t A X xs Γ) (hk : (∀ pc' L' st' S', k pc' L' st' S' = true → xw_Tj e0 D t A s.heap hl Γ X xs ws0 nL gh gz fh (fun pc ls vst H locs => W p l e R s m args below meth c H locs cs sl Q (F0 m pc ls vst)) act pc' L' st' S')) (hd : decode cc pc = .ok (.i2s, 1)) (h : (match st with | x :: r => bif Nat.beq x.1 0 then xw_fr S (-32768) 32767 (fun l S' => k (pc + 1) L ((0, l) :: r) S') else false | _ => false) = true) : xw_Tj e0 D t A s.heap hl Γ X xs ws0 nL gh gz fh (fun pc ls vst H locs => W p l e R s m args below meth c H locs cs sl Q (F0 m pc ls vst)) act pc L st S := by
  match st, h with
  | [], h => cases h
  | x :: r, h =>
    dsimp only at h
    cases hb : Nat.beq x.1 0 with
    | false => rw [hb] at h; cases h
    | true =>
      rw [hb] at h
      simp only [cond_true] at h
      intro ρ ls vst H locs ws hR hG hH
      obtain ⟨u0, vst, rfl, hu0, ht⟩ := hR.2.1.un
      obtain ⟨u, rfl, hu⟩ := hu0.1 (xv_beq hb)
      have h1 := Int16.le_toInt u.toInt16
      have h2 := Int16.toInt_lt u.toInt16
      obtain ⟨ρ', l', S', g1, g2, g3, g4, g5, g6, g7⟩ := xw_Re.fr (z := u.toInt16.toInt32.toInt) hR.2.2.2.1 h (by rw [Int16.toInt_toInt32]; omega) (by rw [Int16.toInt_toInt32]; omega)
      exact lv_i2s C.1 C.2.1 hd rfl (xy_k hk g1 (hR.stk (xw_sk.cons (xw_hv.i g4) (ht.more g2)) g2 g3 g5 g6 g7) g2 hG hH)
theorem xy_n1 {a : Nat} (h : (!(Nat.beq a 1)) = true) : a ≠ 1 := fun e => by rw [e] at h; cases h
theorem xy_dup (C : xw_Cx p s m args c cc own nL D t A X xs Γ) (hk : (∀ pc' L' st' S', k pc' L' st' S' = true → xw_Tj e0 D t A s.heap hl Γ X xs ws0 nL gh gz fh (fun pc ls vst H locs => W p l e R s m args below meth c H locs cs sl Q (F0 m pc ls vst)) act pc' L' st' S')) (hd : decode cc pc = .ok (.dup, 1)) (h : (match st with | x :: r => bif Nat.ble x.1 6 && !(Nat.beq x.1 1) then k (pc + 1) L (x :: x :: r) S else false | _ => false) = true) : xw_Tj e0 D t A s.heap hl Γ X xs ws0 nL gh gz fh (fun pc ls vst H locs => W p l e R s m args below meth c H locs cs sl Q (F0 m pc ls vst)) act pc L st S := by
  match st, h with
  | [], h => cases h
  | x :: r, h =>
    dsimp only at h
    cases hb : (Nat.ble x.1 6 && !(Nat.beq x.1 1)) with
    | false => rw [hb] at h; cases h
    | true =>
      rw [hb] at h
      obtain ⟨b1, b2⟩ := xv_and_t hb
      have b1 := xv_ble b1
      refine xy_pure hk h fun ρ ls vst H locs as lvs _ _ _ hst => ?_
      obtain ⟨u0, vst, rfl, hu0, ht⟩ := hst.un
      exact ⟨u0 :: u0 :: vst, xw_sk.cons hu0 (xw_sk.cons hu0 ht), fun w => lv_dup C.1 C.2.1 hd (xy_cat1 hu0 (by omega) (xy_n1 b2)) w⟩
theorem xy_dup2 (C : xw_Cx p s m args c cc own nL D t A X xs Γ) (hk : (∀ pc' L' st' S', k pc' L' st' S' = true → xw_Tj e0 D t A s.heap hl Γ X xs ws0 nL gh gz fh (fun pc ls vst H locs => W p l e R s m args below meth c H locs cs sl Q (F0 m pc ls vst)) act pc' L' st' S')) (hd : decode cc pc = .ok (.dup2, 1)) (h : (match st with | y :: x :: r => bif Nat.ble x.1 6 && (!(Nat.beq x.1 1) && (Nat.ble y.1 6 && !(Nat.beq y.1 1))) then k (pc + 1) L (y :: x :: y :: x :: r) S else false | _ => false) = true) : xw_Tj e0 D t A s.heap hl Γ X xs ws0 nL gh gz fh (fun pc ls vst H locs => W p l e R s m args below meth c H locs cs sl Q (F0 m pc ls vst)) act pc L st S := by
  match st, h with
  | [], h => cases h
  | [_], h => cases h
  | y :: x :: r, h =>
    dsimp only at h
    cases hb : (Nat.ble x.1 6 && (!(Nat.beq x.1 1) && (Nat.ble y.1 6 && !(Nat.beq y.1 1)))) with
    | false => rw [hb] at h; cases h
    | true =>
      rw [hb] at h
      obtain ⟨b1, b2⟩ := xv_and_t hb
      obtain ⟨b2, b3⟩ := xv_and_t b2
      obtain ⟨b3, b4⟩ := xv_and_t b3
      have b1 := xv_ble b1
      have b3 := xv_ble b3
      refine xy_pure hk h fun ρ ls vst H locs as lvs _ _ _ hst => ?_
      obtain ⟨v0, vst, rfl, hv0, ht0⟩ := hst.un
      obtain ⟨u0, vst, rfl, hu0, ht⟩ := ht0.un
      exact ⟨v0 :: u0 :: v0 :: u0 :: vst, xw_sk.cons hv0 (xw_sk.cons hu0 (xw_sk.cons hv0 (xw_sk.cons hu0 ht))), fun w => lv_dup2_11 C.1 C.2.1 hd (xy_cat1 hv0 (by omega) (xy_n1 b4)) (xy_cat1 hu0 (by omega) (xy_n1 b2)) w⟩
theorem xy_pop (C : xw_Cx p s m args c cc own nL D t A X xs Γ) (hk : (∀ pc' L' st' S', k pc' L' st' S' = true → xw_Tj e0 D t A s.heap hl Γ X xs ws0 nL gh gz fh (fun pc ls vst H locs => W p l e R s m args below meth c H locs cs sl Q (F0 m pc ls vst)) act pc' L' st' S')) (hd : decode cc pc = .ok (.pop, 1)) (h : (match st with | x :: r => bif Nat.ble x.1 7 && !(Nat.beq x.1 1) then k (pc + 1) L r S else false | _ => false) = true) : xw_Tj e0 D t A s.heap hl Γ X xs ws0 nL gh gz fh (fun pc ls vst H locs => W p l e R s m args below meth c H locs cs sl Q (F0 m pc ls vst)) act pc L st S := by
  match st, h with
  | [], h => cases h
  | x :: r, h =>
    dsimp only at h
    cases hb : (Nat.ble x.1 7 && !(Nat.beq x.1 1)) with
    | false => rw [hb] at h; cases h
    | true =>
      rw [hb] at h
      obtain ⟨b1, b2⟩ := xv_and_t hb
      refine xy_pure hk h fun ρ ls vst H locs as lvs _ _ _ hst => ?_
      obtain ⟨u0, vst, rfl, hu0, ht⟩ := hst.un
      exact ⟨vst, ht, fun w => lv_pop C.1 C.2.1 hd (xy_cat1 hu0 (xv_ble b1) (xy_n1 b2)) w⟩
theorem xy_pop2 (C : xw_Cx p s m args c cc own nL D t A X xs Γ) (hk : (∀ pc' L' st' S', k pc' L' st' S' = true → xw_Tj e0 D t A s.heap hl Γ X xs ws0 nL gh gz fh (fun pc ls vst H locs => W p l e R s m args below meth c H locs cs sl Q (F0 m pc ls vst)) act pc' L' st' S')) (hd : decode cc pc = .ok (.pop2, 1)) (h : (match st with | x :: r => bif Nat.beq x.1 1 then k (pc + 1) L r S else false | _ => false) = true) : xw_Tj e0 D t A s.heap hl Γ X xs ws0 nL gh gz fh (fun pc ls vst H locs => W p l e R s m args below meth c H locs cs sl Q (F0 m pc ls vst)) act pc L st S := by
  match st, h with
  | [], h => cases h
  | x :: r, h =>
    dsimp only at h
    cases hb : Nat.beq x.1 1 with
    | false => rw [hb] at h; cases h
    | true =>
      rw [hb] at h
      refine xy_pure hk h fun ρ ls vst H locs as lvs _ _ _ hst => ?_
      obtain ⟨u0, vst, rfl, hu0, ht⟩ := hst.un
      obtain ⟨u, rfl, hu⟩ := hu0.2.1 (xv_beq hb)
      exact ⟨vst, ht, fun w => lv_pop2_2 C.1 C.2.1 hd rfl w⟩
theorem xy_goeq {off : Int} {L' st' : List xw_V} {S' : xw_S} (h : xw_go k pc off L' st' S' = true) : (pc : Int) + off = (xv_tgt pc off : Int) ∧ k (xv_tgt pc off) L' st' S' = true := by
  unfold xw_go at h
  cases hb : xv_le 0 (Int.ofNat pc + off) with
  | false => rw [hb] at h; cases h
  | true => rw [hb] at h; exact ⟨xv_tgt_eq hb, h⟩
theorem xy_goto {off : Int} (C : xw_Cx p s m args c cc own nL D t A X xs Γ) (hk : (∀ pc' L' st' S', k pc' L' st' S' = true → xw_Tj e0 D t A s.heap hl Γ X xs ws0 nL gh gz fh (fun pc ls vst H locs => W p l e R s m args below meth c H locs cs sl Q (F0 m pc ls vst)) act pc' L' st' S')) (hd : decode cc pc = .ok (.goto off, 3)) (h : xw_go k pc off L st S = true) : xw_Tj e0 D t A s.heap hl Γ X xs ws0 nL gh gz fh (fun pc ls vst H locs => W p l e R s m args below meth c H locs cs sl Q (F0 m pc ls vst)) act pc L st S := by
  obtain ⟨e, h⟩ := xy_goeq h
  exact xy_pure hk h fun ρ ls vst H locs as lvs _ _ _ hst => ⟨vst, hst, fun w => lv_goto C.1 C.2.1 hd e w⟩
theorem xy_ra {ρ : Nat → Int} {r : List xw_V} {ls : Array Slot} {vst vst' : List Value} {H : Heap} {locs : List Loc} {ws : va_W} {pc' : Nat} (hk : (∀ pc' L' st' S', k pc' L' st' S' = true → xw_Tj e0 D t A s.heap hl Γ X xs ws0 nL gh gz fh (fun pc ls vst H locs => W p l e R s m args below meth c H locs cs sl Q (F0 m pc ls vst)) act pc' L' st' S')) (hR : xw_Rl D t A s.heap hl Γ X xs ws0 nL ρ L st S ls vst H locs ws) (hG : xw_Gy e0 ρ S.2.1 gh gz) (hH : ∀ a ∈ act, xw_Hy D t A s.heap hl Γ X xs ws0 nL gz fh (fun pc ls vst H locs => W p l e R s m args below meth c H locs cs sl Q (F0 m pc ls vst)) a ρ S.2.1) (ht : xw_sk X (ws.map Prod.fst) ρ S.2.1 r vst') (h : xw_Ra ρ S (fun S' => k pc' L r S')) : W p l e R s m args below meth c H locs cs sl Q (F0 m pc' ls vst') := by
  obtain ⟨S', g1, g2, g3, g4⟩ := h
  have hu : xw_Up ρ S.2.1 ρ S'.2.1 := by rw [g3]; exact xw_Up.rf
  exact xy_k hk g1 (hR.stk (by rw [g3]; exact ht) hu g2 g4.1 g4.2.1 g4.2.2) hu hG hH
theorem xy_rago {ρ : Nat → Int} {r : List xw_V} {off : Int} (h : xw_Ra ρ S (fun S' => xw_go k pc off L r S')) : (pc : Int) + off = (xv_tgt pc off : Int) ∧ xw_Ra ρ S (fun S' => k (xv_tgt pc off) L r S') := by
  obtain ⟨S', g1, g2⟩ := h
  obtain ⟨e, g1⟩ := xy_goeq g1
  exact ⟨e, S', g1, g2⟩
theorem xy_rel {q : ClassFile.Cond} {x y : Int32} : xv_rel q x y ↔ xw_rl q (x.toInt - y.toInt) := by
  cases q with
  | eq => show x = y ↔ _ = 0; rw [← Int32.toInt_inj]; omega
  | ne => show ¬ x = y ↔ _ ≠ 0; rw [← Int32.toInt_inj]; omega
  | lt => show x < y ↔ _ < 0; rw [Int32.lt_iff_toInt_lt]; omega
  | ge => show y ≤ x ↔ 0 ≤ _; rw [Int32.le_iff_toInt_le]; omega
  | gt => show y < x ↔ 0 < _; rw [Int32.lt_iff_toInt_lt]; omega
  | le => show x ≤ y ↔ _ ≤ 0; rw [Int32.le_iff_toInt_le]; omega
theorem xy_icmp {q : ClassFile.Cond} {off : Int} (C : xw_Cx p s m args c cc own nL D t A X xs Γ) (hk : (∀ pc' L' st' S', k pc' L' st' S' = true → xw_Tj e0 D t A s.heap hl Γ X xs ws0 nL gh gz fh (fun pc ls vst H locs => W p l e R s m args below meth c H locs cs sl Q (F0 m pc ls vst)) act pc' L' st' S')) (hd : decode cc pc = .ok (.if_icmp q off, 3)) (h : (match st with | y :: x :: r => bif (Nat.beq x.1 0 && Nat.beq y.1 0) && xv_le 0 (Int.ofNat pc + off) then xw_br q false S (xw_nm S.1 (xw_sub x.2 y.2)) (fun S' => xw_go k pc off L r S') (fun S' => k (pc + 3) L r S') else false | _ => false) = true) : xw_Tj e0 D t A s.heap hl Γ X xs ws0 nL gh gz fh (fun pc ls vst H locs => W p l e R s m args below meth c H locs cs sl Q (F0 m pc ls vst)) act pc L st S := by
  match st, h with
  | [], h => cases h
  | [_], h => cases h
  | y :: x :: r, h =>
    dsimp only at h
    cases hb : ((Nat.beq x.1 0 && Nat.beq y.1 0) && xv_le 0 (Int.ofNat pc + off)) with
    | false => rw [hb] at h; cases h
    | true =>
      rw [hb] at h
      obtain ⟨b1, b3⟩ := xv_and_t hb
      obtain ⟨b1, b2⟩ := xv_and_t b1
      have et := xv_tgt_eq b3
      intro ρ ls vst H locs ws hR hG hH
      obtain ⟨v0, vst, rfl, hv0, ht0⟩ := hR.2.1.un
      obtain ⟨u0, vst, rfl, hu0, ht⟩ := ht0.un
      obtain ⟨v, rfl, hv⟩ := hv0.1 (xv_beq b2)
      obtain ⟨u, rfl, hu⟩ := hu0.1 (xv_beq b1)
      have hS := hR.2.2.2.1
      obtain ⟨k1, k2⟩ := xw_br_ok hS h (xw_nm_ok hS.1 (hu.sub hv))
      have wt : xv_rel q u v → W p l e R s m args below meth c H locs cs sl Q (F0 m (xv_tgt pc off) ls vst) := fun hr => xy_ra hk hR hG hH ht (xy_rago (k1 (xy_rel.mp hr))).2
      have wf : ¬ xv_rel q u v → W p l e R s m args below meth c H locs cs sl Q (F0 m (pc + 3) ls vst) := fun hr => xy_ra hk hR hG hH ht (k2 (fun z => hr (xy_rel.mpr z)))
      cases q with
      | eq => exact lv_icmp_eq C.1 C.2.1 hd et wt wf
      | ne => exact lv_icmp_ne C.1 C.2.1 hd et wt (fun n => wf (fun q => q n))
      | lt => exact lv_icmp_lt C.1 C.2.1 hd et wt wf
      | ge => exact lv_icmp_ge C.1 C.2.1 hd et wt wf
      | gt => exact lv_icmp_gt C.1 C.2.1 hd et wt wf
      | le => exact lv_icmp_le C.1 C.2.1 hd et wt wf
theorem xy_sgn {q : ClassFile.Cond} {d : Int} : xw_rl q d.sign ↔ xw_rl q d := by
  have h : (0 < d ∧ d.sign = 1) ∨ (d = 0 ∧ d.sign = 0) ∨ (d < 0 ∧ d.sign = -1) := by
    rcases Int.lt_trichotomy d 0 with w | w | w
    · exact Or.inr (Or.inr ⟨w, Int.sign_eq_neg_one_of_neg w⟩)
    · exact Or.inr (Or.inl ⟨w, by rw [w]; rfl⟩)
    · exact Or.inl ⟨w, Int.sign_eq_one_of_pos w⟩
  cases q with
  | eq => show _ = 0 ↔ _ = 0; omega
  | ne => show _ ≠ 0 ↔ _ ≠ 0; omega
  | lt => show _ < 0 ↔ _ < 0; omega
  | ge => show 0 ≤ _ ↔ 0 ≤ _; omega
  | gt => show 0 < _ ↔ 0 < _; omega
  | le => show _ ≤ 0 ↔ _ ≤ 0; omega
theorem xy_ifCond {q : ClassFile.Cond} {off : Int} (C : xw_Cx p s m args c cc own nL D t A X xs Γ) (hk : (∀ pc' L' st' S', k pc' L' st' S' = true → xw_Tj e0 D t A s.heap hl Γ X xs ws0 nL gh gz fh (fun pc ls vst H locs => W p l e R s m args below meth c H locs cs sl Q (F0 m pc ls vst)) act pc' L' st' S')) (hd : decode cc pc = .ok (.ifCond q off, 3)) (h : (match st with | x :: r => bif (Nat.beq x.1 0 || Nat.beq x.1 7) && xv_le 0 (Int.ofNat pc + off) then xw_br q (Nat.beq x.1 7) S (xw_nm S.1 x.2) (fun S' => xw_go k pc off L r S') (fun S' => k (pc + 3) L r S') else false | _ => false) = true) : xw_Tj e0 D t A s.heap hl Γ X xs ws0 nL gh gz fh (fun pc ls vst H locs => W p l e R s m args below meth c H locs cs sl Q (F0 m pc ls vst)) act pc L st S := by
  match st, h with
  | [], h => cases h
  | x :: r, h =>
    dsimp only at h
    cases hb : ((Nat.beq x.1 0 || Nat.beq x.1 7) && xv_le 0 (Int.ofNat pc + off)) with
    | false => rw [hb] at h; cases h
    | true =>
      rw [hb] at h
      simp only [cond_true] at h
      obtain ⟨b1, b3⟩ := xv_and_t hb
      have et := xv_tgt_eq b3
      intro ρ ls vst H locs ws hR hG hH
      obtain ⟨u0, vst, rfl, hu0, ht⟩ := hR.2.1.un
      have hS := hR.2.2.2.1
      have key : ∃ (u : Int32) (d : Int), u0 = .int u ∧ xw_is ρ S.2.1 x.2 d ∧ (xv_rel q u 0 ↔ xw_rl q d) := by
        rcases (Bool.or_eq_true _ _).mp b1 with w | w
        · obtain ⟨u, e, hu⟩ := hu0.1 (xv_beq w)
          refine ⟨u, u.toInt, e, hu, ?_⟩
          rw [xy_rel, show (0 : Int32).toInt = 0 by decide, Int.sub_zero]
        · obtain ⟨u, d, e, hu, hs⟩ := hu0.2.2.2.2.2.2.2 (xv_beq w)
          refine ⟨u, d, e, hu, ?_⟩
          rw [xy_rel, show (0 : Int32).toInt = 0 by decide, Int.sub_zero, hs, xy_sgn]
      obtain ⟨u, d, rfl, hu, hrel⟩ := key
      obtain ⟨k1, k2⟩ := xw_br_ok hS h (xw_nm_ok hS.1 hu)
      have wt : xv_rel q u 0 → W p l e R s m args below meth c H locs cs sl Q (F0 m (xv_tgt pc off) ls vst) := fun hr => xy_ra hk hR hG hH ht (xy_rago (k1 (hrel.mp hr))).2
      have wf : ¬ xv_rel q u 0 → W p l e R s m args below meth c H locs cs sl Q (F0 m (pc + 3) ls vst) := fun hr => xy_ra hk hR hG hH ht (k2 (fun z => hr (hrel.mpr z)))
      cases q with
      | eq => exact lv_if_eq C.1 C.2.1 hd et wt wf
      | ne => exact lv_if_ne C.1 C.2.1 hd et wt (fun n => wf (fun q => q n))
      | lt => exact lv_if_lt C.1 C.2.1 hd et wt wf
      | ge => exact lv_if_ge C.1 C.2.1 hd et wt wf
      | gt => exact lv_if_gt C.1 C.2.1 hd et wt wf
      | le => exact lv_if_le C.1 C.2.1 hd et wt wf
theorem xy_tab {ρ : Nat → Int} {r : List xw_V} {x : xw_L} {z : Int} (hS : xw_St ρ S) (hx : xw_is ρ S.2.1 x z) : ∀ {offs : List Int} {c : Int}, xw_tab k pc L r S x offs c = true → c ≤ z → z < c + (offs.length : Int) → ∃ off, offs[(z - c).toNat]? = some off ∧ xw_Ra ρ S (fun S' => xw_go k pc off L r S')
  | [], c, _, h1, h2 => by simp at h2; omega
  | off :: offs, c, h, h1, h2 => by
    have h : (xw_asm S (xw_k x (-c)) (fun S1 => xw_asm S1 (xw_k (xw_neg x) c) (fun S2 => xw_go k pc off L r S2)) && xw_tab k pc L r S x offs (c + 1)) = true := h
    obtain ⟨g1, g2⟩ := xv_and_t h
    by_cases e : z = c
    · refine ⟨off, by rw [e, Int.sub_self]; rfl, xw_Ra.asm2 hS g1 (hx.k _) (by omega) (hx.neg.k _) (by omega)⟩
    · obtain ⟨o, e1, e2⟩ := xy_tab hS hx g2 (by omega) (by simp at h2; omega)
      refine ⟨o, ?_, e2⟩
      rw [show (z - c).toNat = (z - (c + 1)).toNat + 1 by omega]
      exact e1
theorem xy_tableswitch {d lo hi : Int} {offs : Array Int} {len : Nat} (C : xw_Cx p s m args c cc own nL D t A X xs Γ) (hk : (∀ pc' L' st' S', k pc' L' st' S' = true → xw_Tj e0 D t A s.heap hl Γ X xs ws0 nL gh gz fh (fun pc ls vst H locs => W p l e R s m args below meth c H locs cs sl Q (F0 m pc ls vst)) act pc' L' st' S')) (hd : decode cc pc = .ok (.tableswitch d lo hi offs, len)) (h : (match st with
    | x :: r => bif Nat.beq x.1 0 && xw_ieq (lo + Int.ofNat offs.toList.length) (hi + 1) then xw_tab k pc L r S x.2 offs.toList lo && (xw_asm S (xw_k (xw_neg x.2) (lo - 1)) (fun S1 => xw_go k pc d L r S1) && xw_asm S (xw_k x.2 (-hi - 1)) (fun S1 => xw_go k pc d L r S1)) else false
    | _ => false) = true) : xw_Tj e0 D t A s.heap hl Γ X xs ws0 nL gh gz fh (fun pc ls vst H locs => W p l e R s m args below meth c H locs cs sl Q (F0 m pc ls vst)) act pc L st S := by
  match st, h with
  | [], h => cases h
  | x :: r, h =>
    dsimp only at h
    cases hb : (Nat.beq x.1 0 && xw_ieq (lo + Int.ofNat offs.toList.length) (hi + 1)) with
    | false => rw [hb] at h; cases h
    | true =>
      rw [hb] at h
      simp only [cond_true] at h
      obtain ⟨b1, b2⟩ := xv_and_t hb
      have b2 := xw_ieq_iff.mp b2
      obtain ⟨h1, h2⟩ := xv_and_t h
      obtain ⟨h2, h3⟩ := xv_and_t h2
      intro ρ ls vst H locs ws hR hG hH
      obtain ⟨u0, vst, rfl, hu0, ht⟩ := hR.2.1.un
      have hS := hR.2.2.2.1
      obtain ⟨u, rfl, hu⟩ := hu0.1 (xv_beq b1)
      have en : Int.ofNat offs.toList.length = (offs.toList.length : Int) := rfl
      by_cases c1 : u.toInt < lo
      · obtain ⟨et, ra⟩ := xy_rago (xw_Ra.asm hS h2 (hu.neg.k _) (by omega))
        exact lv_tableOut C.1 C.2.1 hd (by omega) et (xy_ra hk hR hG hH ht ra)
      · by_cases c2 : hi < u.toInt
        · obtain ⟨et, ra⟩ := xy_rago (xw_Ra.asm hS h3 (hu.k _) (by omega))
          exact lv_tableOut C.1 C.2.1 hd (by omega) et (xy_ra hk hR hG hH ht ra)
        · obtain ⟨off, e1, ra⟩ := xy_tab hS hu h1 (by omega) (by omega)
          obtain ⟨et, ra⟩ := xy_rago ra
          exact lv_tableIn C.1 C.2.1 hd (by omega) (by omega) (off := off) (by rw [← Array.getElem?_toList]; exact e1) et (xy_ra hk hR hG hH ht ra)
end XY3
