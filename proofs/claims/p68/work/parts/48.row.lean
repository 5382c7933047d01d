/-! rows -/
section XY5
variable {p : Program} {l : Launch} {e : Env} {R : Room} {s : State} {m : MethodId} {args : Array Value} {below : List Frame} {meth : Method} {c : Code}
variable {e0 : (Nat → Int) × Nat} {cc : ByteArray} {own : String} {nL : Nat} {D : va_G} {t : Nat → ClassId} {A : Nat → Prop} {hl : Nat × Int} {Γ : xv_A} {X : xw_X} {xs : Nat → Int32} {ws0 : va_W} {gh : List xw_L} {gz : Nat → Int} {fh : Nat → Option xw_H} {cs sl : Nat} {Q : State → Prop} {act : List xw_A} {k : xw_K} {pc : Nat} {L st : List xw_V} {S : xw_S}
theorem xy_idx {x : Int32} {n : Nat} (h0 : 0 ≤ x.toInt) (h1 : x.toInt.toNat < n) : vp_in x n ∧ x.toNatClampNeg = x.toInt.toNat ∧ ¬ x < 0 := by
  refine ⟨by rw [vp_in_iff]; omega, rfl, fun h => ?_⟩
  have := Int32.lt_iff_toInt_lt.mp h
  rw [show (0 : Int32).toInt = 0 by decide] at this
  omega
/-- which cell a row is -/
theorem xy_cell {as : List Nat} {ρ : Nat → Int} {n : Nat} {o : xw_V} {x : Value} (hv : xw_hv X as ρ n o x) (ho : o.1 = 2 ∨ o.1 = 4) : ∃ j a, (o.1 = 2 → j = 0) ∧ (o.1 = 4 → j < xw_cnt o) ∧ as[o.2.1.toNat + j]? = some a ∧ x = .ref a := by
  rcases ho with q | q
  · obtain ⟨a, h1, h2⟩ := hv.2.2.1 q
    exact ⟨0, a, fun _ => rfl, fun w => (by omega), h1, h2⟩
  · obtain ⟨j, a, h1, h2, h3⟩ := hv.2.2.2.2.1 q
    exact ⟨j, a, fun w => (by omega), fun _ => h1, h2, h3⟩
theorem xw_like_ok {Γ : xv_A} {c0 : xv_C} {q : Nat} : ∀ {n : Nat}, xw_like Γ c0 q n = true → ∀ j, j < n → ∃ d u v, xv_get 14 Γ (q + j) = some d ∧ d.1 = c0.1 ∧ d.2.1 = c0.2.1 ∧ d.2.2.1 = 1 ∧ xv_get 8 d.2.2.2 0 = some u ∧ xv_get 8 c0.2.2.2 0 = some v ∧ u = v ∧ u.1 ≤ 1
  | 0, _, j, hj => absurd hj (Nat.not_lt_zero _)
  | n + 1, h, j, hj => by
    have h : (xw_like Γ c0 q n && match xv_get 14 Γ (q + n) with
      | some d => Nat.beq d.1 c0.1 && (Nat.beq d.2.1 c0.2.1 && (Nat.beq d.2.2.1 1 && (match xv_get 8 d.2.2.2 0, xv_get 8 c0.2.2.2 0 with
        | some u, some v => Nat.beq u.1 v.1 && (Nat.ble u.1 1 && (xw_ieq u.2.1 v.2.1 && xw_ieq u.2.2 v.2.2))
        | _, _ => false)))
      | none => false) = true := h
    obtain ⟨h1, h2⟩ := xv_and_t h
    rcases Nat.lt_or_ge j n with hj2 | hj2
    · exact xw_like_ok h1 j hj2
    · have e : j = n := by omega
      subst e
      cases hd : xv_get 14 Γ (q + j) with
      | none => rw [hd] at h2; cases h2
      | some d =>
        rw [hd] at h2
        obtain ⟨b1, h2⟩ := xv_and_t h2
        obtain ⟨b2, h2⟩ := xv_and_t h2
        obtain ⟨b3, h2⟩ := xv_and_t h2
        cases hu : xv_get 8 d.2.2.2 0 with
        | none => rw [hu] at h2; cases h2
        | some u =>
          cases hv : xv_get 8 c0.2.2.2 0 with
          | none => rw [hu, hv] at h2; cases h2
          | some v =>
            rw [hu, hv] at h2
            obtain ⟨c1, h2⟩ := xv_and_t h2
            obtain ⟨c2, h2⟩ := xv_and_t h2
            obtain ⟨c3, c4⟩ := xv_and_t h2
            exact ⟨d, u, v, rfl, xv_beq b1, xv_beq b2, xv_beq b3, hu, rfl, Prod.ext (xv_beq c1) (Prod.ext (xw_ieq_iff.mp c3) (xw_ieq_iff.mp c4)), xv_ble c2⟩
/-- what the machine does at a place of a row of kind kd -/
def xw_rl1 (p : Program) (l : Launch) (e : Env) (R : Room) (s : State) (m : MethodId) (args : Array Value) (below : List Frame) (meth : Method) (c : Code) (D : va_G) (t : Nat → ClassId) (cs sl : Nat) (Q : State → Prop) (kd pc : Nat) : Prop :=
  ∀ (ws : va_W) (r ad n : Nat) (en : va_E) (sb : Nat) (as : List Nat) (cl : xv_C) (x : Int32) (ls : Array Slot) (vst : List Value) (H : Heap) (locs : List Loc), va_P D vwCl ws H → ws[r]? = some (ad, en) → xv_hc t sb as cl en → cl.1 = kd → cl.2.1 = n → vp_in x n → W p l e R s m args below meth c H locs cs sl Q (F0 m (pc + 1) ls (xw_ct ws r x.toNatClampNeg :: vst)) → W p l e R s m args below meth c H locs cs sl Q (F0 m pc ls (.int x :: .ref ad :: vst))
theorem xy_l1 (C : xw_Cx p s m args c cc own nL D t A X xs Γ) (hd : decode cc pc = .ok (.iaload, 1)) : xw_rl1 p l e R s m args below meth c D t cs sl Q 1 pc := fun ws r ad n en sb as cl x ls vst H locs hP hen hce hkd hn hin w => by
  obtain ⟨f, rfl, -⟩ := hce.2.1 (by omega)
  subst hn
  rw [hkd] at hen
  refine va_iald C.1 C.2.1 C.2.2.2.2.2.1 hP _ 0 hen rfl hin hd ?_
  unfold xw_ct at w; rw [hen] at w; exact w
theorem xy_l2 (C : xw_Cx p s m args c cc own nL D t A X xs Γ) (hd : decode cc pc = .ok (.baload, 1)) : xw_rl1 p l e R s m args below meth c D t cs sl Q 2 pc := fun ws r ad n en sb as cl x ls vst H locs hP hen hce hkd hn hin w => by
  obtain ⟨f, rfl, -⟩ := hce.2.1 (by omega)
  subst hn
  rw [hkd] at hen
  refine va_bald C.1 C.2.1 C.2.2.2.2.2.1 hP _ 1 hen rfl hin hd ?_
  unfold xw_ct at w; rw [hen] at w; exact w
theorem xy_l3 (C : xw_Cx p s m args c cc own nL D t A X xs Γ) (hd : decode cc pc = .ok (.baload, 1)) : xw_rl1 p l e R s m args below meth c D t cs sl Q 3 pc := fun ws r ad n en sb as cl x ls vst H locs hP hen hce hkd hn hin w => by
  obtain ⟨f, rfl, -⟩ := hce.2.1 (by omega)
  subst hn
  rw [hkd] at hen
  refine va_zald C.1 C.2.1 C.2.2.2.2.2.1 hP _ 2 hen rfl hin hd ?_
  unfold xw_ct at w; rw [hen] at w; exact w
theorem xy_l4 (C : xw_Cx p s m args c cc own nL D t A X xs Γ) (hd : decode cc pc = .ok (.laload, 1)) : xw_rl1 p l e R s m args below meth c D t cs sl Q 4 pc := fun ws r ad n en sb as cl x ls vst H locs hP hen hce hkd hn hin w => by
  obtain ⟨f, rfl, -⟩ := hce.2.2.1 (by omega)
  subst hn
  rw [hkd] at hen
  refine va_lald C.1 C.2.1 C.2.2.2.2.2.1 hP _ 3 hen rfl hin hd ?_
  unfold xw_ct at w; rw [hen] at w; exact w
theorem xy_ald {kd : Nat} (C : xw_Cx p s m args c cc own nL D t A X xs Γ) (hk : (∀ pc' L' st' S', k pc' L' st' S' = true → xw_Tj e0 D t A s.heap hl Γ X xs ws0 nL gh gz fh (fun pc ls vst H locs => W p l e R s m args below meth c H locs cs sl Q (F0 m pc ls vst)) act pc' L' st' S')) (h14 : 1 ≤ kd ∧ kd ≤ 4) (hrl : xw_rl1 p l e R s m args below meth c D t cs sl Q kd pc) (hscr : kd = 1 → decode cc pc = .ok (.iaload, 1)) (h : xw_ald hl Γ kd st S (fun v r S' => k (pc + 1) L (v :: r) S') = true) : xw_Tj e0 D t A s.heap hl Γ X xs ws0 nL gh gz fh (fun pc ls vst H locs => W p l e R s m args below meth c H locs cs sl Q (F0 m pc ls vst)) act pc L st S := by
  unfold xw_ald at h
  match st, h with
  | [], h => cases h
  | [_], h => cases h
  | i :: o :: rest, h =>
    dsimp only at h
    cases hi0 : Nat.beq i.1 0 with
    | false => rw [hi0] at h; cases h
    | true =>
      rw [hi0] at h
      simp only [cond_true] at h
      intro ρ ls vst H locs ws hR hG hH
      obtain ⟨i0, vst, rfl, hi, ht0⟩ := hR.2.1.un
      obtain ⟨o0, vst, rfl, ho, ht⟩ := ht0.un
      obtain ⟨x, rfl, hx⟩ := hi.1 (xv_beq hi0)
      have hWl := hR.2.2.1
      have hS := hR.2.2.2.1
      have hM := hR.2.2.2.2
      cases h5 : Nat.beq o.1 5 with
      | true =>
        rw [h5] at h
        simp only [cond_true] at h
        obtain ⟨rfl, hlen, hsp⟩ := ho.2.2.2.2.2.1 (xv_beq h5)
        obtain ⟨hX, hbl, hbA, hlt⟩ := C.2.2.2.2.2.2.2.2.1 hsp
        cases hk1 : Nat.beq kd 1 with
        | false => rw [hk1] at h; cases h
        | true =>
          rw [hk1] at h
          simp only [cond_true] at h
          unfold xw_scrip at h
          cases hb : (xw_prove S i.2 && xw_prove S (xw_k (xw_sub o.2 i.2) (-1))) with
          | false => rw [hb] at h; cases h
          | true =>
            rw [hb] at h
            simp only [cond_true] at h
            obtain ⟨p1, p2⟩ := xv_and_t hb
            have p1 := xw_prove_ok hS p1 hx
            have p2 := xw_prove_ok hS p2 ((hlen.sub hx).k (-1))
            obtain ⟨q1, q2, q3⟩ := xy_idx (n := X.2.1) p1 (by omega)
            refine va_sld C.1 C.2.1 hX hbl hbA hWl.2.2.1 q1 (hscr (xv_beq hk1)) ?_
            rw [q2]
            have hmu : xw_mu xs ws 9999 x.toInt.toNat = .int (xs x.toInt.toNat) := if_pos rfl
            have hn := xw_nm_ok hS.1 hx
            cases hm : xw_mem S.2.2.2.1 9999 (xw_nm S.1 i.2) with
            | some v =>
              rw [hm] at h
              obtain ⟨z', g1, g2, g3, g4⟩ := hM.1 _ (xw_mem_ok hm)
              have ez := g1.one hn
              subst ez
              dsimp only at g3
              rw [hmu] at g3
              exact xy_k hk h (hR.stk (xw_sk.cons g3 ht) xw_Up.rf hS rfl rfl rfl) xw_Up.rf hG hH
            | none =>
              rw [hm] at h
              dsimp only at h
              obtain ⟨ρ', l', S', g1, g2, g3, g4, g5, -⟩ := xw_fr_ok (z := (xs x.toInt.toNat).toInt) hS h (xv_i32 _).1 (xv_i32 _).2
              have hM' : xw_Me X (ws.map Prod.fst) (xw_mu xs ws) ρ' S' := xw_OK.up hM g2 (by rw [g5])
              have hvv : xw_hv X (ws.map Prod.fst) ρ' S'.2.1 (0, l') (.int (xs x.toInt.toNat)) := xw_hv.i g4
              have hR' := hR.up g2 g3 hM' (by rw [g5])
              obtain ⟨r1, r2, r3, r4, r5⟩ := hR'
              refine xy_k hk g1 ⟨r1, xw_sk.cons hvv (ht.more g2), r3, g3, ⟨fun mm hmm => ?_, hM'.2⟩⟩ g2 hG hH
              rcases List.mem_cons.mp hmm with w | w
              · rw [w]
                exact ⟨_, hn.more g2, p1, by show xw_hv _ _ _ _ _ (xw_mu xs ws 9999 _); rw [hmu]; exact hvv, Nat.zero_le _⟩
              · exact hM'.1 _ w
      | false =>
        rw [h5] at h
        simp only [cond_false] at h
        cases h2 : (Nat.beq o.1 2 && xv_le 0 o.2.1) with
        | true =>
          rw [h2] at h
          simp only [cond_true] at h
          obtain ⟨b1, -⟩ := xv_and_t h2
          cases hc : xv_get 14 Γ o.2.1.toNat with
          | none => rw [hc] at h; cases h
          | some cl =>
            rw [hc] at h
            dsimp only at h
            cases hkb : Nat.beq cl.1 kd with
            | false => rw [hkb] at h; cases h
            | true =>
              rw [hkb] at h
              simp only [cond_true] at h
              have hkb := xv_beq hkb
              obtain ⟨ad, ha, rfl⟩ := ho.2.2.1 (xv_beq b1)
              obtain ⟨en, hen, hce⟩ := xy_at hWl.2.2.2.1.1 hc (by omega) ha
              obtain ⟨z0, ⟨cl', hc', zl, -⟩, ρ', v, S', g1, g2, g3, g4, g5, g6, g7⟩ := xw_rd_ok hWl.2.2.2.1 hS hM h hx
              rw [hc] at hc'
              cases hc'
              have zl : x.toInt.toNat < cl.2.1 := by
                unfold xw_len at zl
                cases hq : Nat.beq cl.1 0 with
                | true => have := xv_beq hq; omega
                | false => rw [hq] at zl; exact zl
              obtain ⟨q1, q2, q3⟩ := xy_idx z0 zl
              refine hrl ws _ ad cl.2.1 en X.1 _ cl x ls vst H locs hWl.1 hen hce hkb rfl q1 ?_
              rw [q2]
              rw [xy_mu (xy_ne9 C hc)] at g5
              exact xy_k hk g1 ((hR.up g2 g3 g4 g6).stk (xw_sk.cons g5 (ht.more g2)) xw_Up.rf g3 rfl rfl rfl) g2 hG hH
        | false =>
          rw [h2] at h
          simp only [cond_false] at h
          cases h4 : (Nat.beq o.1 4 && xv_le 0 o.2.1) with
          | false => rw [h4] at h; cases h
          | true =>
            rw [h4] at h
            simp only [cond_true] at h
            obtain ⟨b1, -⟩ := xv_and_t h4
            cases hc : xv_get 14 Γ o.2.1.toNat with
            | none => rw [hc] at h; cases h
            | some cl =>
              rw [hc] at h
              dsimp only at h
              cases hkb : (Nat.beq cl.1 kd && (Nat.ble 1 (xw_cnt o) && (xw_like Γ cl o.2.1.toNat (xw_cnt o) && xw_inb S cl.2.1 i.2))) with
              | false => rw [hkb] at h; cases h
              | true =>
                rw [hkb] at h
                simp only [cond_true] at h
                obtain ⟨k1, hkb⟩ := xv_and_t hkb
                obtain ⟨k2, hkb⟩ := xv_and_t hkb
                obtain ⟨k3, k4⟩ := xv_and_t hkb
                have k1 := xv_beq k1
                obtain ⟨j, ad, j1, ha, rfl⟩ := ho.2.2.2.2.1 (xv_beq b1)
                obtain ⟨d, u, v, d1, d2, d3, d4, d5, d6, d7, d8⟩ := xw_like_ok k3 j j1
                obtain ⟨en, hen, hce⟩ := xy_at hWl.2.2.2.1.1 d1 (by omega) ha
                obtain ⟨z0, zl⟩ := xw_inb_ok hS k4 hx
                rw [d6] at h
                dsimp only at h
                obtain ⟨q1, q2, q3⟩ := xy_idx z0 zl
                have hty := xw_ty_ok (i := x.toInt.toNat) (u := u) hWl.2.2.2.1.1 d1 (by omega) (by unfold xw_len; rw [d2, k1, d3]; cases hq : Nat.beq kd 0 with | true => have := xv_beq hq; omega | false => exact zl) (by rw [d4, Nat.mod_one]; exact d5)
                refine hrl ws _ ad cl.2.1 en X.1 _ d x ls vst H locs hWl.1 hen hce (by omega) d3 q1 ?_
                rw [q2]
                rw [← d7] at h
                rcases Nat.le_one_iff_eq_zero_or_eq_one.mp d8 with w | w
                · obtain ⟨y, ey, y1, y2⟩ := hty.1 w
                  obtain ⟨ρ', l', S', g1, g2, g3, g4, g5, g6, g7⟩ := xw_Re.fr (z := y.toInt) hS h y1 y2
                  rw [ey]
                  refine xy_k hk g1 (hR.stk (xw_sk.cons ?_ (ht.more g2)) g2 g3 g5 g6 g7) g2 hG hH
                  rw [w]; exact xw_hv.i g4
                · obtain ⟨y, ey, y1, y2⟩ := hty.2.1 w
                  obtain ⟨ρ', l', S', g1, g2, g3, g4, g5, g6, g7⟩ := xw_Re.fr (z := y.toInt) hS h y1 y2
                  rw [ey]
                  refine xy_k hk g1 (hR.stk (xw_sk.cons ?_ (ht.more g2)) g2 g3 g5 g6 g7) g2 hG hH
                  rw [w]; exact xw_hv.l g4
theorem xy_alen (C : xw_Cx p s m args c cc own nL D t A X xs Γ) (hk : (∀ pc' L' st' S', k pc' L' st' S' = true → xw_Tj e0 D t A s.heap hl Γ X xs ws0 nL gh gz fh (fun pc ls vst H locs => W p l e R s m args below meth c H locs cs sl Q (F0 m pc ls vst)) act pc' L' st' S')) (hd : decode cc pc = .ok (.arraylength, 1))
    (h : (match st with
    | o :: r => bif Nat.beq o.1 5 then k (pc + 1) L ((0, o.2) :: r) S else bif (Nat.beq o.1 2 || Nat.beq o.1 4) && xv_le 0 o.2.1 then (match xv_get 14 Γ o.2.1.toNat with
      | some c => bif Nat.ble 1 c.1 && (Nat.ble c.1 7 && (Nat.beq o.1 2 || (Nat.ble 1 (xw_cnt o) && xw_like Γ c o.2.1.toNat (xw_cnt o)))) then k (pc + 1) L ((0, (Int.ofNat c.2.1, [])) :: r) S else false
      | none => false) else false
    | _ => false) = true) : xw_Tj e0 D t A s.heap hl Γ X xs ws0 nL gh gz fh (fun pc ls vst H locs => W p l e R s m args below meth c H locs cs sl Q (F0 m pc ls vst)) act pc L st S := by
  match st, h with
  | [], h => cases h
  | o :: rest, h =>
    dsimp only at h
    intro ρ ls vst H locs ws hR hG hH
    obtain ⟨o0, vst, rfl, ho, ht⟩ := hR.2.1.un
    have hWl := hR.2.2.1
    have hS := hR.2.2.2.1
    cases h5 : Nat.beq o.1 5 with
    | true =>
      rw [h5] at h
      simp only [cond_true] at h
      obtain ⟨rfl, hlen, hsp⟩ := ho.2.2.2.2.2.1 (xv_beq h5)
      obtain ⟨hX, hbl, hbA, hlt⟩ := C.2.2.2.2.2.2.2.2.1 hsp
      refine va_slen C.1 C.2.1 hX hbl hbA hWl.2.2.1 hd (xy_k hk h (hR.stk (xw_sk.cons (xw_hv.i ?_) ht) xw_Up.rf hS rfl rfl rfl) xw_Up.rf hG hH)
      have e : (Int32.ofNat X.2.1).toInt = (X.2.1 : Int) := nI_toInt hlt
      rw [e]; exact hlen
    | false =>
      rw [h5] at h
      simp only [cond_false] at h
      cases h2 : ((Nat.beq o.1 2 || Nat.beq o.1 4) && xv_le 0 o.2.1) with
      | false => rw [h2] at h; cases h
      | true =>
        rw [h2] at h
        simp only [cond_true] at h
        obtain ⟨b1, -⟩ := xv_and_t h2
        cases hc : xv_get 14 Γ o.2.1.toNat with
        | none => rw [hc] at h; cases h
        | some cl =>
          rw [hc] at h
          dsimp only at h
          cases hkb : (Nat.ble 1 cl.1 && (Nat.ble cl.1 7 && (Nat.beq o.1 2 || (Nat.ble 1 (xw_cnt o) && xw_like Γ cl o.2.1.toNat (xw_cnt o))))) with
          | false => rw [hkb] at h; cases h
          | true =>
            rw [hkb] at h
            simp only [cond_true] at h
            obtain ⟨k1, hkb⟩ := xv_and_t hkb
            obtain ⟨k2, k3⟩ := xv_and_t hkb
            have k1 := xv_ble k1
            have k2 := xv_ble k2
            obtain ⟨j, ad, j1, j2, ha, rfl⟩ := xy_cell ho ((Bool.or_eq_true _ _).mp b1 |>.imp xv_beq xv_beq)
            have key : ∃ d, xv_get 14 Γ (o.2.1.toNat + j) = some d ∧ d.1 = cl.1 ∧ d.2.1 = cl.2.1 := by
              rcases (Bool.or_eq_true _ _).mp k3 with w | w
              · rw [j1 (xv_beq w)]; exact ⟨cl, hc, rfl, rfl⟩
              · obtain ⟨w1, w2⟩ := xv_and_t w
                rcases (Bool.or_eq_true _ _).mp b1 with z | z
                · rw [j1 (xv_beq z)]; exact ⟨cl, hc, rfl, rfl⟩
                · obtain ⟨d, u, v, d1, d2, d3, -⟩ := xw_like_ok w2 j (j2 (xv_beq z))
                  exact ⟨d, d1, d2, d3⟩
            obtain ⟨d, d1, d2, d3⟩ := key
            obtain ⟨en, hen, hce⟩ := xy_at hWl.2.2.2.1.1 d1 (by omega) ha
            obtain ⟨y, ty, rfl, hy, hty⟩ := hce.row (by omega) (by omega)
            refine va_alen C.1 C.2.1 C.2.2.2.2.2.1 hWl.1 _ _ hen hty rfl hd (xy_k hk h (hR.stk (xw_sk.cons (xw_hv.i ?_) ht) xw_Up.rf hS rfl rfl rfl) xw_Up.rf hG hH)
            have e := xv_ofNat (hce.2.2.2.2 (by omega))
            rw [hy, e, d3]; exact xw_is.c _
theorem xw_seq_ok {els : List (List xv_V)} {q : Int} : ∀ {n : Nat}, xw_seq els q n = true → ∀ j, j < n → ∃ u, xv_get 8 els j = some u ∧ u.1 = 2 ∧ u.2.1 = q + (j : Int)
  | 0, _, j, hj => absurd hj (Nat.not_lt_zero _)
  | n + 1, h, j, hj => by
    have h : (xw_seq els q n && match xv_get 8 els n with
      | some u => Nat.beq u.1 2 && xw_ieq u.2.1 (q + Int.ofNat n)
      | none => false) = true := h
    obtain ⟨h1, h2⟩ := xv_and_t h
    rcases Nat.lt_or_ge j n with hj2 | hj2
    · exact xw_seq_ok h1 j hj2
    · have e : j = n := by omega
      subst e
      cases hd : xv_get 8 els j with
      | none => rw [hd] at h2; cases h2
      | some u =>
        rw [hd] at h2
        obtain ⟨b1, b2⟩ := xv_and_t h2
        exact ⟨u, rfl, xv_beq b1, xw_ieq_iff.mp b2⟩
theorem xy_aald (C : xw_Cx p s m args c cc own nL D t A X xs Γ) (hk : (∀ pc' L' st' S', k pc' L' st' S' = true → xw_Tj e0 D t A s.heap hl Γ X xs ws0 nL gh gz fh (fun pc ls vst H locs => W p l e R s m args below meth c H locs cs sl Q (F0 m pc ls vst)) act pc' L' st' S')) (hd : decode cc pc = .ok (.aaload, 1))
    (h : (match st with
    | i :: o :: r => bif Nat.beq i.1 0 && (Nat.beq o.1 2 && xv_le 0 o.2.1) then (match xv_get 14 Γ o.2.1.toNat with
      | some c => bif (Nat.beq c.1 5 || Nat.beq c.1 6) && (xw_inb S c.2.1 i.2 && Nat.beq c.2.1 c.2.2.1) then (match xv_get 8 c.2.2.2 0 with
        | some u => bif Nat.beq u.1 2 && (xv_le 0 u.2.1 && xw_seq c.2.2.2 u.2.1 c.2.1) then (match (xw_nm S.1 i.2).2 with
            | [] => k (pc + 1) L ((2, (u.2.1 + (xw_nm S.1 i.2).1, [])) :: r) S
            | _ :: _ => k (pc + 1) L ((4, (u.2.1, [(c.2.1, 0)])) :: r) S) else false
        | none => false) else false
      | none => false) else false
    | _ => false) = true) : xw_Tj e0 D t A s.heap hl Γ X xs ws0 nL gh gz fh (fun pc ls vst H locs => W p l e R s m args below meth c H locs cs sl Q (F0 m pc ls vst)) act pc L st S := by
  match st, h with
  | [], h => cases h
  | [_], h => cases h
  | i :: o :: rest, h =>
    dsimp only at h
    cases hb : (Nat.beq i.1 0 && (Nat.beq o.1 2 && xv_le 0 o.2.1)) with
    | false => rw [hb] at h; cases h
    | true =>
      rw [hb] at h
      simp only [cond_true] at h
      obtain ⟨b1, hb⟩ := xv_and_t hb
      obtain ⟨b2, -⟩ := xv_and_t hb
      intro ρ ls vst H locs ws hR hG hH
      obtain ⟨i0, vst, rfl, hi, ht0⟩ := hR.2.1.un
      obtain ⟨o0, vst, rfl, ho, ht⟩ := ht0.un
      obtain ⟨x, rfl, hx⟩ := hi.1 (xv_beq b1)
      obtain ⟨ad, ha, rfl⟩ := ho.2.2.1 (xv_beq b2)
      have hWl := hR.2.2.1
      have hS := hR.2.2.2.1
      cases hc : xv_get 14 Γ o.2.1.toNat with
      | none => rw [hc] at h; cases h
      | some cl =>
        rw [hc] at h
        dsimp only at h
        cases hkb : ((Nat.beq cl.1 5 || Nat.beq cl.1 6) && (xw_inb S cl.2.1 i.2 && Nat.beq cl.2.1 cl.2.2.1)) with
        | false => rw [hkb] at h; cases h
        | true =>
          rw [hkb] at h
          simp only [cond_true] at h
          obtain ⟨k1, hkb⟩ := xv_and_t hkb
          obtain ⟨k2, k3⟩ := xv_and_t hkb
          have k3 := xv_beq k3
          have k1 : cl.1 = 5 ∨ cl.1 = 6 := ((Bool.or_eq_true _ _).mp k1).imp xv_beq xv_beq
          obtain ⟨z0, zl⟩ := xw_inb_ok hS k2 hx
          obtain ⟨q1, q2, q3⟩ := xy_idx z0 zl
          obtain ⟨en, hen, hce⟩ := xy_at hWl.2.2.2.1.1 hc (by omega) ha
          obtain ⟨f, rfl, hf⟩ := hce.2.2.2.1 (by omega)
          cases hu : xv_get 8 cl.2.2.2 0 with
          | none => rw [hu] at h; cases h
          | some u =>
            rw [hu] at h
            dsimp only at h
            cases hsb : (Nat.beq u.1 2 && (xv_le 0 u.2.1 && xw_seq cl.2.2.2 u.2.1 cl.2.1)) with
            | false => rw [hsb] at h; cases h
            | true =>
              rw [hsb] at h
              simp only [cond_true] at h
              obtain ⟨s1, hsb⟩ := xv_and_t hsb
              obtain ⟨s2, s3⟩ := xv_and_t hsb
              have s2 := xv_le_iff.mp s2
              obtain ⟨w, w1, w2, w3⟩ := xw_seq_ok s3 x.toInt.toNat zl
              obtain ⟨a1, a2, a3⟩ := (hf x.toInt.toNat zl w (by rw [← k3, Nat.mod_eq_of_lt zl]; exact w1)).2.2.1 w2
              have fin : ∀ v : xw_V, xw_hv X (ws.map Prod.fst) ρ S.2.1 v (va_rf (f x.toNatClampNeg)) → k (pc + 1) L (v :: rest) S = true → W p l e R s m args below meth c H locs cs sl Q (F0 m pc ls (.int x :: .ref ad :: vst)) := by
                intro v hv hkv
                have hgo := xy_k hk hkv (hR.stk (xw_sk.cons hv ht) xw_Up.rf hS rfl rfl rfl) xw_Up.rf hG hH
                rcases k1 with e | e
                · rw [e] at hen
                  exact xv_aald (ty := .array .int) (t0 := 4) rfl C.1 C.2.1 C.2.2.2.2.2.1 hWl.1 hen rfl q1 hd hgo
                · rw [e] at hen
                  exact xv_aald (ty := .array .long) (t0 := 5) rfl C.1 C.2.1 C.2.2.2.2.2.1 hWl.1 hen rfl q1 hd hgo
              have hn := xw_nm_ok hS.1 hx
              match hnm : (xw_nm S.1 i.2).2, h with
              | [], h =>
                dsimp only at h
                have en1 : (xw_nm S.1 i.2).1 = x.toInt := by
                  have : (xw_nm S.1 i.2).1 + xw_evl ρ (xw_nm S.1 i.2).2 = x.toInt := hn.2
                  rw [hnm] at this
                  have : (xw_nm S.1 i.2).1 + 0 = x.toInt := this
                  omega
                refine fin _ ⟨fun q => (by cases q), fun q => (by cases q), fun _ => ⟨a1, ?_, ?_⟩, fun q => (by cases q), fun q => (by cases q), fun q => (by cases q), fun q => (by cases q), fun q => (by cases q)⟩ h
                · show (ws.map Prod.fst)[(u.2.1 + (xw_nm S.1 i.2).1).toNat]? = some a1
                  rw [en1, ← a2, w3]
                  congr 2
                  omega
                · rw [q2]; exact a3
              | _ :: _, h =>
                dsimp only at h
                refine fin (4, (u.2.1, [(cl.2.1, 0)])) ⟨fun q => (by cases q), fun q => (by cases q), fun q => (by cases q), fun q => (by cases q), fun _ => ⟨x.toInt.toNat, a1, zl, ?_, ?_⟩, fun q => (by cases q), fun q => (by cases q), fun q => (by cases q)⟩ h
                · show (ws.map Prod.fst)[u.2.1.toNat + x.toInt.toNat]? = some a1
                  rw [← a2, w3]
                  congr 1
                  omega
                · rw [q2]; exact a3
end XY5
