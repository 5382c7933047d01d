/-! cells: read and written by the machine -/
theorem xw_H_set {t : Nat → ClassId} {sb : Nat} {Γ : xv_A} {n : Nat} {ws : va_W} (hH : xv_H t sb Γ n ws) {r a : Nat} {x y : va_E} (hr : ws[r]? = some (a, x)) (hk : ∀ c, xv_get 14 Γ r = some c → c.1 ≠ 99 → xv_hc t sb (ws.map Prod.fst) c y) : xv_H t sb Γ n (ws.set r (a, y)) := by
  refine ⟨by rw [List.length_set]; exact hH.1, fun q c hq h9 => ?_⟩
  rw [xv_fst_set hr]
  have hlt : r < ws.length := (List.getElem?_eq_some_iff.mp hr).1
  by_cases e : r = q
  · subst e
    exact ⟨a, y, by rw [List.getElem?_set_self hlt], hk c hq h9⟩
  · obtain ⟨a', x', e1, e2⟩ := hH.2 q c hq h9
    exact ⟨a', x', by rw [List.getElem?_set_ne e]; exact e1, e2⟩
theorem xw_ct_set {ws : va_W} {r a : Nat} {x y : va_E} (hr : ws[r]? = some (a, x)) (q j : Nat) : xw_ct (ws.set r (a, y)) q j = if q = r then xw_cx y j else xw_ct ws q j := by
  unfold xw_ct
  have hlt : r < ws.length := (List.getElem?_eq_some_iff.mp hr).1
  by_cases e : q = r
  · subst e
    rw [if_pos rfl, List.getElem?_set_self hlt]
  · rw [if_neg e, List.getElem?_set_ne (fun w => e w.symm)]
section XY4
variable {p : Program} {l : Launch} {e : Env} {R : Room} {s : State} {m : MethodId} {args : Array Value} {below : List Frame} {meth : Method} {c : Code}
variable {e0 : (Nat → Int) × Nat} {cc : ByteArray} {own : String} {nL : Nat} {D : va_G} {t : Nat → ClassId} {A : Nat → Prop} {hl : Nat × Int} {Γ : xv_A} {X : xw_X} {xs : Nat → Int32} {ws0 : va_W} {gh : List xw_L} {gz : Nat → Int} {fh : Nat → Option xw_H} {cs sl : Nat} {Q : State → Prop} {act : List xw_A} {k : xw_K} {pc : Nat} {L st : List xw_V} {S : xw_S}
theorem xy_ne9 (C : xw_Cx p s m args c cc own nL D t A X xs Γ) {r : Nat} {cl : xv_C} (hc : xv_get 14 Γ r = some cl) : r ≠ 9999 := fun e => by
  rw [e, C.2.2.2.2.2.2.2.2.2.2.2] at hc; cases hc
theorem xy_mu {ws : va_W} {r j : Nat} (hr : r ≠ 9999) : xw_mu xs ws r j = xw_ct ws r j := if_neg hr
theorem xy_at {n : Nat} {ws : va_W} {r : Nat} {cl : xv_C} {a : Nat} (hH : xv_H t X.1 Γ n ws) (hc : xv_get 14 Γ r = some cl) (h9 : cl.1 ≠ 99) (ha : (ws.map Prod.fst)[r]? = some a) : ∃ en, ws[r]? = some (a, en) ∧ xv_hc t X.1 (ws.map Prod.fst) cl en := by
  obtain ⟨a', x, h1, h2⟩ := hH.2 r cl hc h9
  rw [List.getElem?_map, h1] at ha
  cases ha
  exact ⟨x, h1, h2⟩
theorem xy_getfield {index a b : Nat} {q : vw_C} (C : xw_Cx p s m args c cc own nL D t A X xs Γ) (hk : (∀ pc' L' st' S', k pc' L' st' S' = true → xw_Tj e0 D t A s.heap hl Γ X xs ws0 nL gh gz fh (fun pc ls vst H locs => W p l e R s m args below meth c H locs cs sl Q (F0 m pc ls vst)) act pc' L' st' S')) (hd : decode cc pc = .ok (.getfield index, 3)) (hq : vwCl[a]? = some q) (hbn : b < q.2.2) (hw : Cond.fieldLink own index (q.2.1 b).1 (q.2.1 b).2.1 (q.2.1 b).2.2.1 ∈ xv_tb)
    (h : (match st with
    | o :: r => bif Nat.beq o.1 2 && xv_le 0 o.2.1 then (match xv_get 14 Γ o.2.1.toNat with
      | some c => bif Nat.beq c.1 0 && Nat.beq c.2.1 a then xw_rd hl Γ S o.2.1.toNat (Int.ofNat b, []) (fun v S' => k (pc + 3) L (v :: r) S') else false
      | none => false) else false
    | _ => false) = true) : xw_Tj e0 D t A s.heap hl Γ X xs ws0 nL gh gz fh (fun pc ls vst H locs => W p l e R s m args below meth c H locs cs sl Q (F0 m pc ls vst)) act pc L st S := by
  match st, h with
  | [], h => cases h
  | o :: z, h =>
    dsimp only at h
    cases hb : (Nat.beq o.1 2 && xv_le 0 o.2.1) with
    | false => rw [hb] at h; cases h
    | true =>
      rw [hb] at h
      simp only [cond_true] at h
      obtain ⟨b1, -⟩ := xv_and_t hb
      cases hc : xv_get 14 Γ o.2.1.toNat with
      | none => rw [hc] at h; cases h
      | some cl =>
        rw [hc] at h
        dsimp only at h
        cases hb2 : (Nat.beq cl.1 0 && Nat.beq cl.2.1 a) with
        | false => rw [hb2] at h; cases h
        | true =>
          rw [hb2] at h
          simp only [cond_true] at h
          obtain ⟨b2, b3⟩ := xv_and_t hb2
          have b2 := xv_beq b2
          have b3 := xv_beq b3
          intro ρ ls vst H locs ws hR hG hH
          obtain ⟨x0, vst, rfl, hx, ht⟩ := hR.2.1.un
          obtain ⟨ad, ha, rfl⟩ := hx.2.2.1 (xv_beq b1)
          obtain ⟨hP, hD, hS0, hWd, hrest⟩ := hR.2.2.1
          obtain ⟨en, hen, hce⟩ := xy_at hWd.1 hc (by omega) ha
          obtain ⟨fs, rfl, hl, hf⟩ := hce.1 b2
          obtain ⟨z0, ⟨cl', hc', zl, -⟩, ρ', v, S', g1, g2, g3, g4, g5, g6, g7⟩ := xw_rd_ok hWd hR.2.2.2.1 hR.2.2.2.2 h (xw_is.c _)
          rw [hc] at hc'
          cases hc'
          have ezn : (Int.ofNat b).toNat = b := rfl
          rw [ezn] at g5 zl
          have zl : b < cl.2.2.1 := by
            unfold xw_len at zl; rw [b2] at zl; exact zl
          rw [xy_mu (xy_ne9 C hc)] at g5
          have hy : fs[b]? = some (xw_ct ws o.2.1.toNat b) := by
            unfold xw_ct
            rw [hen]
            show fs[b]? = some (fs.getD b .null)
            rw [List.getD_eq_getElem?_getD, List.getElem?_eq_getElem (by omega)]; rfl
          rw [b3] at hen
          have hcl := xv_cls a q hq
          exact va_get C.1 C.2.1 C.2.2.2.2.1 hcl.1 C.2.2.2.1 C.2.2.2.2.2.1 hP _ hen hq b hbn (C.2.2.2.2.1 _ hw) (fun _ h => h) hy hd (xy_k hk g1 ((hR.up g2 g3 g4 g6).stk (xw_sk.cons g5 (ht.more g2)) xw_Up.rf g3 rfl rfl rfl) g2 hG hH)
/-- behind a write -/
theorem xy_wr {ρ : Nat → Int} {r pc' : Nat} {i : xw_L} {z : Int} {v : xw_V} {x : Value} {st' : List xw_V} {ls : Array Slot} {vst vst' : List Value} {H : Heap} {locs : List Loc} {ws : va_W} {ad : Nat} {en en' : va_E} (C : xw_Cx p s m args c cc own nL D t A X xs Γ) (hk : (∀ pc' L' st' S', k pc' L' st' S' = true → xw_Tj e0 D t A s.heap hl Γ X xs ws0 nL gh gz fh (fun pc ls vst H locs => W p l e R s m args below meth c H locs cs sl Q (F0 m pc ls vst)) act pc' L' st' S')) (hR : xw_Rl D t A s.heap hl Γ X xs ws0 nL ρ L st S ls vst H locs ws) (hG : xw_Gy e0 ρ S.2.1 gh gz) (hH : ∀ a ∈ act, xw_Hy D t A s.heap hl Γ X xs ws0 nL gz fh (fun pc ls vst H locs => W p l e R s m args below meth c H locs cs sl Q (F0 m pc ls vst)) a ρ S.2.1) (h : xw_wr hl Γ S r i v (fun S' => k pc' L st' S') = true) (hi : xw_is ρ S.2.1 i z) (hv : xw_hv X (ws.map Prod.fst) ρ S.2.1 v x) (ht : xw_sk X (ws.map Prod.fst) ρ S.2.1 st' vst') (hen : ws[r]? = some (ad, en)) (hx1 : xw_cx en' z.toNat = x) (hx2 : ∀ j, j ≠ z.toNat → xw_cx en' j = xw_cx en j)
    (hty : ∀ c, xv_get 14 Γ r = some c → (∀ u, xv_get 8 c.2.2.2 (z.toNat % c.2.2.1) = some u → xv_hv X.1 (ws.map Prod.fst) u x) → xv_hc t X.1 (ws.map Prod.fst) c en') {H1 : Heap} {locs1 : List Loc} (hP1 : va_P D vwCl (ws.set r (ad, en')) H1) (hD1 : va_D A (ws.set r (ad, en'))) (hS1 : va_S A s.heap H1 locs1) : W p l e R s m args below meth c H1 locs1 cs sl Q (F0 m pc' ls vst') := by
  obtain ⟨⟨h0, lvs, h1, h2⟩, h3, ⟨hP, hD, hS0, hWd, hDt, hDc, has⟩, hS, hM⟩ := id hR
  obtain ⟨z0, ⟨cl, hc, zl, c4, c1, hu⟩, v1, hh, hfin⟩ := xw_wr_ok hWd hS hM h hi hv
  have hr9 := xy_ne9 C hc
  have hone : xw_one (xw_mu xs ws) r z.toNat x (xw_mu xs (ws.set r (ad, en'))) := by
    constructor
    · rw [xy_mu hr9, xw_ct_set hen, if_pos rfl, hx1]
    · intro r' j' hne
      by_cases e9 : r' = 9999
      · unfold xw_mu; rw [if_pos e9, if_pos e9]
      · rw [xy_mu e9, xy_mu e9, xw_ct_set hen]
        by_cases e : r' = r
        · subst e
          rw [if_pos rfl, hx2 j' (fun q => hne ⟨rfl, q⟩)]
          unfold xw_ct; rw [hen]
        · rw [if_neg e]
  obtain ⟨S', g1, g2, g3, g4, g5, g6, g7⟩ := hfin _ hone
  have hu' : xw_Up ρ S.2.1 ρ S'.2.1 := by rw [g4]; exact xw_Up.rf
  have hfst := xv_fst_set (y := en') hen
  have hWd' : xw_Wd hl Γ t X (xw_mu xs (ws.set r (ad, en'))) (ws.set r (ad, en')) := by
    refine ⟨?_, fun cq hcq j hj => ?_, fun q cq hcq j => xy_mu (xy_ne9 C hcq)⟩
    · rw [List.length_set]
      exact xw_H_set hWd.1 hen (fun cq hcq _ => by rw [hc] at hcq; cases hcq; exact hty cl hc hu)
    · rw [xw_ct_set hen]
      by_cases e : hl.1 = r
      · rw [if_pos e]
        by_cases ej : j = z.toNat
        · rw [ej, hx1]; exact hh e.symm
        · rw [hx2 j ej]
          have := hWd.2.1 cq hcq j hj
          unfold xw_ct at this
          rw [e, hen] at this
          exact this
      · rw [if_neg e]; exact hWd.2.1 cq hcq j hj
  refine xy_k hk g1 ⟨⟨h0, lvs, h1, ?_⟩, ?_, ⟨hP1, hD1, hS1, hWd', g5 _ hDt, fun q hq => ?_, by rw [hfst]; exact has⟩, g2, ?_⟩ hu' hG hH
  · rw [hfst, g4]; exact h2
  · rw [hfst, g4]; exact ht
  · obtain ⟨c', hc'⟩ := g7
    have hne : r ≠ q := fun e => hq c' (by rw [← e]; exact hc')
    rw [List.getElem?_set_ne hne]
    exact hDc q (fun cq hcq => hq cq (g6 _ hcq))
  · rw [hfst]; exact g3
theorem xy_putfield {index a b kd : Nat} {q : vw_C} (C : xw_Cx p s m args c cc own nL D t A X xs Γ) (hk : (∀ pc' L' st' S', k pc' L' st' S' = true → xw_Tj e0 D t A s.heap hl Γ X xs ws0 nL gh gz fh (fun pc ls vst H locs => W p l e R s m args below meth c H locs cs sl Q (F0 m pc ls vst)) act pc' L' st' S')) (hd : decode cc pc = .ok (.putfield index, 3)) (hq : vwCl[a]? = some q) (hbn : b < q.2.2) (hw : Cond.fieldLink own index (q.2.1 b).1 (q.2.1 b).2.1 (q.2.1 b).2.2.1 ∈ xv_tb)
    (hkd : xv_ftk (q.2.1 b).2.2.1 kd = true) (hfin : (q.2.1 b).2.2.2 = false ∨ ((q.2.1 b).2.2.2 = true ∧ meth.name = "<init>" ∧ (q.2.1 b).1 = own))
    (h : (match st with
    | x :: o :: r => bif Nat.beq o.1 2 && xv_le 0 o.2.1 then (match xv_get 14 Γ o.2.1.toNat with
      | some c => bif Nat.beq c.1 0 && (Nat.beq c.2.1 a && (Nat.ble (b + 1) c.2.2.1 && Nat.beq x.1 kd)) then xw_wr hl Γ S o.2.1.toNat (Int.ofNat b, []) x (fun S' => k (pc + 3) L r S') else false
      | none => false) else false
    | _ => false) = true) : xw_Tj e0 D t A s.heap hl Γ X xs ws0 nL gh gz fh (fun pc ls vst H locs => W p l e R s m args below meth c H locs cs sl Q (F0 m pc ls vst)) act pc L st S := by
  match st, h with
  | [], h => cases h
  | [_], h => cases h
  | x :: o :: z, h =>
    dsimp only at h
    cases hb : (Nat.beq o.1 2 && xv_le 0 o.2.1) with
    | false => rw [hb] at h; cases h
    | true =>
      rw [hb] at h
      simp only [cond_true] at h
      obtain ⟨b1, -⟩ := xv_and_t hb
      cases hc : xv_get 14 Γ o.2.1.toNat with
      | none => rw [hc] at h; cases h
      | some cl =>
        rw [hc] at h
        dsimp only at h
        cases hb2 : (Nat.beq cl.1 0 && (Nat.beq cl.2.1 a && (Nat.ble (b + 1) cl.2.2.1 && Nat.beq x.1 kd))) with
        | false => rw [hb2] at h; cases h
        | true =>
          rw [hb2] at h
          simp only [cond_true] at h
          obtain ⟨b2, hb2⟩ := xv_and_t hb2
          obtain ⟨b3, hb2⟩ := xv_and_t hb2
          obtain ⟨b4, b5⟩ := xv_and_t hb2
          have b2 := xv_beq b2
          have b3 := xv_beq b3
          have b4 := xv_ble b4
          have b5 := xv_beq b5
          intro ρ ls vst H locs ws hR hG hH
          obtain ⟨y, vst, rfl, hy, ht0⟩ := hR.2.1.un
          obtain ⟨x0, vst, rfl, hx, ht⟩ := ht0.un
          obtain ⟨ad, ha, rfl⟩ := hx.2.2.1 (xv_beq b1)
          obtain ⟨hP, hD, hS0, hWd, hrest⟩ := hR.2.2.1
          obtain ⟨en, hen, hce⟩ := xy_at hWd.1 hc (by omega) ha
          obtain ⟨fs, rfl, hl, hf⟩ := hce.1 b2
          have hcl := xv_cls a q hq
          obtain ⟨ty0, hty0⟩ := hcl.2.1
          have hvk := (xw_wr_ok hWd hR.2.2.2.1 hR.2.2.2.2 h (xw_is.c _) hy).2.2.1
          have hft : ∃ ty, parseFieldDescriptor (q.2.1 b).2.2.1 = some ty ∧ narrow ty y = y ∧ fits ty y = true := by
            rcases Nat.le_one_iff_eq_zero_or_eq_one.mp hvk with w | w
            · obtain ⟨i, rfl, -⟩ := hy.1 w
              refine xv_ftk_ok (sb := X.1) (as := []) (v := (kd, i.toInt, i.toInt)) hkd (xv_hv.i ⟨by show kd = 0; omega, Int.le_refl _, Int.le_refl _⟩)
            · obtain ⟨i, rfl, -⟩ := hy.2.1 w
              refine xv_ftk_ok (sb := X.1) (as := []) (v := (kd, i.toInt, i.toInt)) hkd (xv_hv.l ⟨by show kd = 1; omega, Int.le_refl _, Int.le_refl _⟩)
          obtain ⟨ty, hpd, hnar, hfit⟩ := hft
          have hen' := hen
          rw [b3] at hen
          have hkk : ∀ (H1 : Heap) (locs1 : List Loc), va_P D vwCl (ws.set o.2.1.toNat (ad, .inr (a, fs.set b y))) H1 → va_D A (ws.set o.2.1.toNat (ad, .inr (a, fs.set b y))) → va_S A s.heap H1 locs1 → W p l e R s m args below meth c H1 locs1 cs sl Q (F0 m (pc + 3) ls vst) := by
            intro H1 locs1 hP1 hD1 hS1
            have ezn : (Int.ofNat b).toNat = b := rfl
            refine xy_wr C hk hR hG hH h (xw_is.c _) hy ht hen' (x := y) ?_ ?_ ?_ hP1 hD1 hS1
            · rw [ezn]
              show (fs.set b y).getD b .null = y
              rw [List.getD_eq_getElem?_getD, List.getElem?_set_self (by omega)]; rfl
            · intro j hj
              rw [ezn] at hj
              show (fs.set b y).getD j .null = fs.getD j .null
              rw [List.getD_eq_getElem?_getD, List.getD_eq_getElem?_getD, List.getElem?_set_ne (fun w => hj w.symm)]
            · intro cq hcq hu
              rw [hc] at hcq
              cases hcq
              rw [ezn, Nat.mod_eq_of_lt (by omega)] at hu
              refine ⟨fun _ => ⟨fs.set b y, by rw [← b3], by rw [List.length_set]; exact hl, fun b' v' hb' => ?_⟩, fun w => ?_, fun w => ?_, fun w => ?_, fun w => ?_⟩
              · by_cases eb : b' = b
                · subst eb
                  exact ⟨y, by rw [List.getElem?_set_self (by omega)], hu v' hb'⟩
                · obtain ⟨y', hy', hv'⟩ := hf b' v' hb'
                  exact ⟨y', by rw [List.getElem?_set_ne (fun w => eb w.symm)]; exact hy', hv'⟩
              · omega
              · omega
              · omega
              · omega
          rcases hfin with hfin | ⟨hfin, hin2, hdecl⟩
          · exact va_put C.1 C.2.1 C.2.2.2.2.1 hcl.1 ty0 hty0 hcl.2.2.1 C.2.2.2.1 C.2.2.2.2.2.1 hP hD hS0 _ hen hq b hbn (C.2.2.2.2.1 _ hw) (fun _ h => h) hfin hpd hnar hfit (by omega) hd hkk
          · exact va_putF C.1 C.2.1 C.2.2.2.2.1 hcl.1 ty0 hty0 hcl.2.2.1 C.2.2.2.1 C.2.2.2.2.2.1 hP hD hS0 _ hen hq b hbn (C.2.2.2.2.1 _ hw) (fun _ h => h) hfin hin2 hdecl hpd hnar hfit (by omega) hd hkk
end XY4
