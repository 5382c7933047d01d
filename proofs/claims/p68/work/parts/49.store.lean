/-! rows are written -/
section XY6
variable {p : Program} {l : Launch} {e : Env} {R : Room} {s : State} {m : MethodId} {args : Array Value} {below : List Frame} {meth : Method} {c : Code}
variable {e0 : (Nat → Int) × Nat} {cc : ByteArray} {own : String} {nL : Nat} {D : va_G} {t : Nat → ClassId} {A : Nat → Prop} {hl : Nat × Int} {Γ : xv_A} {X : xw_X} {xs : Nat → Int32} {ws0 : va_W} {gh : List xw_L} {gz : Nat → Int} {fh : Nat → Option xw_H} {cs sl : Nat} {Q : State → Prop} {act : List xw_A} {k : xw_K} {pc : Nat} {L st : List xw_V} {S : xw_S}
/-- what the machine does when a place of a row of kind kd is written -/
def xw_rl2 (p : Program) (l : Launch) (e : Env) (R : Room) (s : State) (m : MethodId) (args : Array Value) (below : List Frame) (meth : Method) (c : Code) (D : va_G) (t : Nat → ClassId) (A : Nat → Prop) (cs sl : Nat) (Q : State → Prop) (kd ke pc : Nat) : Prop :=
  ∀ (ws : va_W) (r ad n : Nat) (en : va_E) (sb : Nat) (as : List Nat) (cl : xv_C) (x : Int32) (y : Value) (ls : Array Slot) (vst : List Value) (H : Heap) (locs : List Loc), va_P D vwCl ws H → va_D A ws → va_S A s.heap H locs → ws[r]? = some (ad, en) → xv_hc t sb as cl en → cl.1 = kd → cl.2.1 = n → vp_in x n → ((ke = 0 ∧ ∃ i : Int32, y = .int i ∧ (kd = 2 → -128 ≤ i.toInt ∧ i.toInt ≤ 127) ∧ (kd = 3 → 0 ≤ i.toInt ∧ i.toInt ≤ 1)) ∨ (ke = 1 ∧ ∃ i : Int64, y = .long i)) →
    ∃ en', xw_cx en' x.toNatClampNeg = y ∧ (∀ j, j ≠ x.toNatClampNeg → xw_cx en' j = xw_cx en j) ∧ (∀ as' : List Nat, xv_hc t sb as' cl en → (∀ u, xv_get 8 cl.2.2.2 (x.toNatClampNeg % cl.2.2.1) = some u → xv_hv sb as' u y) → xv_hc t sb as' cl en') ∧
      ((∀ (H1 : Heap) (locs1 : List Loc), va_P D vwCl (ws.set r (ad, en')) H1 → va_D A (ws.set r (ad, en')) → va_S A s.heap H1 locs1 → W p l e R s m args below meth c H1 locs1 cs sl Q (F0 m (pc + 1) ls vst)) → W p l e R s m args below meth c H locs cs sl Q (F0 m pc ls (y :: .int x :: .ref ad :: vst)))
theorem xy_upc {f : Nat → Int32} {j : Nat} {i : Int32} {tt : ClassId} {n : Nat} : xw_cx (.inl (tt, n, .inl (upd f j i))) j = .int i ∧ ∀ q, q ≠ j → xw_cx (.inl (tt, n, .inl (upd f j i))) q = xw_cx (.inl (tt, n, .inl f)) q := by
  refine ⟨?_, fun q hq => ?_⟩
  · show Value.int (upd f j i j) = _; simp [upd]
  · show Value.int (upd f j i q) = .int (f q); simp [upd, hq]
theorem xy_upt {sb : Nat} {as : List Nat} {cl : xv_C} {f : Nat → Int32} {j : Nat} {i : Int32} (h0 : cl.1 = 1 ∨ cl.1 = 2 ∨ cl.1 = 3) (h : xv_hc t sb as cl (.inl (t cl.1, cl.2.1, .inl f))) (hu : ∀ u, xv_get 8 cl.2.2.2 (j % cl.2.2.1) = some u → xv_hv sb as u (.int i)) : xv_hc t sb as cl (.inl (t cl.1, cl.2.1, .inl (upd f j i))) := by
  obtain ⟨f', e, hf⟩ := h.2.1 h0
  cases e
  refine xv_hc.irow h0 (h.2.2.2.2 (by omega)) (fun q hq v hv => ?_)
  by_cases e : q = j
  · subst e; simp only [upd, if_true]; exact hu v hv
  · simp only [upd, if_neg e]; exact hf q hq v hv
theorem xy_s1 (C : xw_Cx p s m args c cc own nL D t A X xs Γ) (hd : decode cc pc = .ok (.iastore, 1)) : xw_rl2 p l e R s m args below meth c D t A cs sl Q 1 0 pc := fun ws r ad n en sb as cl x y ls vst H locs hP hD hS hen hce hkd hn hin hy => by
  obtain ⟨f, rfl, -⟩ := hce.2.1 (by omega)
  subst hn
  rcases hy with ⟨-, i, rfl, -⟩ | ⟨w, -⟩
  · refine ⟨.inl (t cl.1, cl.2.1, .inl (upd f x.toNatClampNeg i)), xy_upc.1, xy_upc.2, fun as' h hu => xy_upt (by omega) h hu, fun kk => ?_⟩
    rw [hkd] at hen kk
    exact va_iast C.1 C.2.1 C.2.2.2.2.2.1 hP hD hS _ 0 hen rfl hin hd kk
  · cases w
theorem xy_s2 (C : xw_Cx p s m args c cc own nL D t A X xs Γ) (hd : decode cc pc = .ok (.bastore, 1)) : xw_rl2 p l e R s m args below meth c D t A cs sl Q 2 0 pc := fun ws r ad n en sb as cl x y ls vst H locs hP hD hS hen hce hkd hn hin hy => by
  obtain ⟨f, rfl, -⟩ := hce.2.1 (by omega)
  subst hn
  rcases hy with ⟨-, i, rfl, hr, -⟩ | ⟨w, -⟩
  · refine ⟨.inl (t cl.1, cl.2.1, .inl (upd f x.toNatClampNeg i)), xy_upc.1, xy_upc.2, fun as' h hu => xy_upt (by omega) h hu, fun kk => ?_⟩
    rw [hkd] at hen kk
    refine va_bast C.1 C.2.1 C.2.2.2.2.2.1 hP hD hS _ 1 hen rfl hin hd ?_
    rw [xv_nar_b (hr rfl).1 (hr rfl).2]
    exact kk
  · cases w
theorem xy_s3 (C : xw_Cx p s m args c cc own nL D t A X xs Γ) (hd : decode cc pc = .ok (.bastore, 1)) : xw_rl2 p l e R s m args below meth c D t A cs sl Q 3 0 pc := fun ws r ad n en sb as cl x y ls vst H locs hP hD hS hen hce hkd hn hin hy => by
  obtain ⟨f, rfl, -⟩ := hce.2.1 (by omega)
  subst hn
  rcases hy with ⟨-, i, rfl, -, hr⟩ | ⟨w, -⟩
  · refine ⟨.inl (t cl.1, cl.2.1, .inl (upd f x.toNatClampNeg i)), xy_upc.1, xy_upc.2, fun as' h hu => xy_upt (by omega) h hu, fun kk => ?_⟩
    rw [hkd] at hen kk
    refine va_zast C.1 C.2.1 C.2.2.2.2.2.1 hP hD hS _ 2 hen rfl hin hd ?_
    rw [(xv_nar_z (hr rfl).1 (hr rfl).2).1]
    exact kk
  · cases w
theorem xy_s4 (C : xw_Cx p s m args c cc own nL D t A X xs Γ) (hd : decode cc pc = .ok (.lastore, 1)) : xw_rl2 p l e R s m args below meth c D t A cs sl Q 4 1 pc := fun ws r ad n en sb as cl x y ls vst H locs hP hD hS hen hce hkd hn hin hy => by
  obtain ⟨f, rfl, -⟩ := hce.2.2.1 (by omega)
  subst hn
  rcases hy with ⟨w, -⟩ | ⟨-, i, rfl⟩
  · cases w
  · refine ⟨.inl (t cl.1, cl.2.1, .inr (.inl (vp_updL f x.toNatClampNeg i))), ?_, fun q hq => ?_, fun as' h hu => ?_, fun kk => ?_⟩
    · show Value.long (vp_updL f x.toNatClampNeg i x.toNatClampNeg) = _; simp [vp_updL]
    · show Value.long (vp_updL f x.toNatClampNeg i q) = .long (f q); simp [vp_updL, hq]
    · obtain ⟨f', e', hf⟩ := h.2.2.1 hkd
      cases e'
      refine xv_hc.lrow hkd (h.2.2.2.2 (by omega)) (fun q hq v hv => ?_)
      by_cases e : q = x.toNatClampNeg
      · subst e; simp only [vp_updL, if_true]; exact hu v hv
      · simp only [vp_updL, if_neg e]; exact hf q hq v hv
    · rw [hkd] at hen kk
      exact va_last C.1 C.2.1 C.2.2.2.2.2.1 hP hD hS _ 3 hen rfl hin hd kk
/-- places of cells, all of one kind, are forgotten: the machine has written one of them -/
theorem xy_kl {ρ : Nat → Int} {r j pc' q n : Nat} {st' : List xw_V} {ls : Array Slot} {vst vst' : List Value} {H : Heap} {locs : List Loc} {ws : va_W} {ad : Nat} {en en' : va_E} (C : xw_Cx p s m args c cc own nL D t A X xs Γ) (hk : (∀ pc' L' st' S', k pc' L' st' S' = true → xw_Tj e0 D t A s.heap hl Γ X xs ws0 nL gh gz fh (fun pc ls vst H locs => W p l e R s m args below meth c H locs cs sl Q (F0 m pc ls vst)) act pc' L' st' S')) (hR : xw_Rl D t A s.heap hl Γ X xs ws0 nL ρ L st S ls vst H locs ws) (hG : xw_Gy e0 ρ S.2.1 gh gz) (hH : ∀ a ∈ act, xw_Hy D t A s.heap hl Γ X xs ws0 nL gz fh (fun pc ls vst H locs => W p l e R s m args below meth c H locs cs sl Q (F0 m pc ls vst)) a ρ S.2.1) (h : k pc' L st' (xw_kills (xw_many q n) S) = true) (ht : xw_sk X (ws.map Prod.fst) ρ S.2.1 st' vst') (hr : r = q + j) (hj : j < n) (hr9 : r ≠ 9999) (hen : ws[r]? = some (ad, en)) (hne : r ≠ hl.1)
    (hty : ∀ c, xv_get 14 Γ r = some c → c.1 ≠ 99 → xv_hc t X.1 (ws.map Prod.fst) c en') {H1 : Heap} {locs1 : List Loc} (hP1 : va_P D vwCl (ws.set r (ad, en')) H1) (hD1 : va_D A (ws.set r (ad, en'))) (hS1 : va_S A s.heap H1 locs1) : W p l e R s m args below meth c H1 locs1 cs sl Q (F0 m pc' ls vst') := by
  obtain ⟨⟨h0, lvs, h1, h2⟩, h3, ⟨hP, hD, hS0, hWd, hDt, hDc, has⟩, hS, hM⟩ := id hR
  have hmem : ∀ {n : Nat}, j < n → (r, 0) ∈ xw_many q n := by
    intro n
    induction n with
    | zero => intro hj; exact absurd hj (Nat.not_lt_zero _)
    | succ n ih =>
      intro hj
      have e : xw_many q (n + 1) = (q + n, 0) :: xw_many q n := rfl
      rw [e]
      rcases Nat.lt_or_ge j n with w | w
      · exact List.mem_cons_of_mem _ (ih w)
      · have ej : j = n := by omega
        subst ej
        rw [hr]; exact List.mem_cons_self
  have hin : (r, 0) ∈ xw_many q n := hmem hj
  have hoth : ∀ r' j', xw_isin (xw_many q n) r' (j' + 1) = false → xw_mu xs (ws.set r (ad, en')) r' j' = xw_mu xs ws r' j' := by
    intro r' j' hf
    by_cases e9 : r' = 9999
    · unfold xw_mu; rw [if_pos e9, if_pos e9]
    · rw [xy_mu e9, xy_mu e9, xw_ct_set hen]
      by_cases e : r' = r
      · rw [e, xw_isin_of (Or.inl rfl) hin] at hf; cases hf
      · rw [if_neg e]
  obtain ⟨g1, g2⟩ := xw_kills_ok (X := X) (as := ws.map Prod.fst) (xw_many q n) hS hM hoth
  have hn := xw_kills_n (xw_many q n) S
  have hu' : xw_Up ρ S.2.1 ρ (xw_kills (xw_many q n) S).2.1 := by rw [hn]; exact xw_Up.rf
  have hfst := xv_fst_set (y := en') hen
  refine xy_k hk h ⟨⟨h0, lvs, h1, ?_⟩, ?_, ⟨hP1, hD1, hS1, ⟨?_, fun cq hcq jj hjj => ?_, fun qq cq hcq jj => xy_mu (xy_ne9 C hcq)⟩, fun r' j' hf => ?_, fun r' hq => ?_, by rw [hfst]; exact has⟩, g1, ?_⟩ hu' hG hH
  · rw [hfst, hn]; exact h2
  · rw [hfst, hn]; exact ht
  · rw [List.length_set]; exact xw_H_set hWd.1 hen hty
  · rw [xw_ct_set hen, if_neg (fun w => hne w.symm)]; exact hWd.2.1 cq hcq jj hjj
  · have f1 : xw_isin (xw_many q n) r' (j' + 1) = false := by
      cases w : xw_isin (xw_many q n) r' (j' + 1) with
      | false => rfl
      | true => rw [xw_kills_in (xw_many q n) (Or.inr w)] at hf; cases hf
    have f2 : xw_isin S.2.2.2.2.2.2 r' (j' + 1) = false := by
      cases w : xw_isin S.2.2.2.2.2.2 r' (j' + 1) with
      | false => rfl
      | true => rw [xw_kills_in (xw_many q n) (Or.inl w)] at hf; cases hf
    rw [hoth r' j' f1, hDt r' j' f2]
  · obtain ⟨c', hc'⟩ := xw_kills_cell (xw_many q n) (S := S) hin
    have hne2 : r ≠ r' := fun w => hq c' (by rw [← w]; exact hc')
    rw [List.getElem?_set_ne hne2]
    exact hDc r' (fun cq hcq => hq cq (xw_kills_old _ hcq))
  · rw [hfst]; exact g2
theorem xy_ast {kd ke : Nat} (C : xw_Cx p s m args c cc own nL D t A X xs Γ) (hk : (∀ pc' L' st' S', k pc' L' st' S' = true → xw_Tj e0 D t A s.heap hl Γ X xs ws0 nL gh gz fh (fun pc ls vst H locs => W p l e R s m args below meth c H locs cs sl Q (F0 m pc ls vst)) act pc' L' st' S')) (h14 : 1 ≤ kd ∧ kd ≤ 4) (hke : ke ≤ 1) (hnar : (kd = 2 → ∀ r cl, xv_get 14 Γ r = some cl → cl.1 = 2 → ∀ i u, xv_get 8 cl.2.2.2 i = some u → u.1 = 0 → -128 ≤ u.2.1 ∧ u.2.2 ≤ 127) ∧ (kd = 3 → ∀ r cl, xv_get 14 Γ r = some cl → cl.1 = 3 → ∀ i u, xv_get 8 cl.2.2.2 i = some u → u.1 = 0 → 0 ≤ u.2.1 ∧ u.2.2 ≤ 1)) (hfull : ∀ r cl, xv_get 14 Γ r = some cl → cl.1 = kd → ∀ i, i < cl.2.2.1 → ∃ u, xv_get 8 cl.2.2.2 i = some u ∧ u.1 = ke) (hrl : xw_rl2 p l e R s m args below meth c D t A cs sl Q kd ke pc) (h : xw_ast hl Γ kd ke st S (fun r S' => k (pc + 1) L r S') = true) : xw_Tj e0 D t A s.heap hl Γ X xs ws0 nL gh gz fh (fun pc ls vst H locs => W p l e R s m args below meth c H locs cs sl Q (F0 m pc ls vst)) act pc L st S := by
  unfold xw_ast at h
  match st, h with
  | [], h => cases h
  | [_], h => cases h
  | [_, _], h => cases h
  | v :: i :: o :: rest, h =>
    dsimp only at h
    cases hi0 : (Nat.beq i.1 0 && Nat.beq v.1 ke) with
    | false => rw [hi0] at h; cases h
    | true =>
      rw [hi0] at h
      simp only [cond_true] at h
      obtain ⟨b1, b2⟩ := xv_and_t hi0
      have b2 := xv_beq b2
      intro ρ ls vst H locs ws hR hG hH
      obtain ⟨y, vst, rfl, hv, ht1⟩ := hR.2.1.un
      obtain ⟨i0, vst, rfl, hi, ht0⟩ := ht1.un
      obtain ⟨o0, vst, rfl, ho, ht⟩ := ht0.un
      obtain ⟨x, rfl, hx⟩ := hi.1 (xv_beq b1)
      have hWl := hR.2.2.1
      have hS := hR.2.2.2.1
      have hM := hR.2.2.2.2
      have hsafe : ∀ (r : Nat) (cl : xv_C), xv_get 14 Γ r = some cl → cl.1 = kd → 1 ≤ cl.2.2.1 → (∀ u, xv_get 8 cl.2.2.2 (x.toInt.toNat % cl.2.2.1) = some u → xv_hv X.1 (ws.map Prod.fst) u y) → ((ke = 0 ∧ ∃ i : Int32, y = .int i ∧ (kd = 2 → -128 ≤ i.toInt ∧ i.toInt ≤ 127) ∧ (kd = 3 → 0 ≤ i.toInt ∧ i.toInt ≤ 1)) ∨ (ke = 1 ∧ ∃ i : Int64, y = .long i)) := by
        intro r cl hc hck hw1 hu
        obtain ⟨u, hu1, hu2⟩ := hfull r cl hc hck (x.toInt.toNat % cl.2.2.1) (Nat.mod_lt _ (by omega))
        have hq := hu u hu1
        rcases Nat.le_one_iff_eq_zero_or_eq_one.mp hke with w | w
        · obtain ⟨i, ei, i1, i2⟩ := hq.1 (by omega)
          refine Or.inl ⟨w, i, ei, fun w2 => ?_, fun w3 => ?_⟩
          · have := hnar.1 w2 r cl hc (by omega) _ u hu1 (by omega); omega
          · have := hnar.2 w3 r cl hc (by omega) _ u hu1 (by omega); omega
        · obtain ⟨i, ei, -⟩ := hq.2.1 (by omega)
          exact Or.inr ⟨w, i, ei⟩
      cases h2 : (Nat.beq o.1 2 && xv_le 0 o.2.1) with
      | true =>
        rw [h2] at h
        simp only [cond_true] at h
        obtain ⟨b3, -⟩ := xv_and_t h2
        cases hc : xv_get 14 Γ o.2.1.toNat with
        | none => rw [hc] at h; cases h
        | some cl =>
          rw [hc] at h
          dsimp only at h
          cases hkb : Nat.beq cl.1 kd with
          | false => rw [hkb] at h; cases h
          | true =>
            rw [hkb] at h
            simp only [cond_true] at h
            have hkb := xv_beq hkb
            obtain ⟨ad, ha, rfl⟩ := ho.2.2.1 (xv_beq b3)
            obtain ⟨en, hen, hce⟩ := xy_at hWl.2.2.2.1.1 hc (by omega) ha
            obtain ⟨z0, ⟨cl', hc', zl, -, hw1, hu⟩, -⟩ := xw_wr_ok hWl.2.2.2.1 hS hM h hx hv
            rw [hc] at hc'
            cases hc'
            have zl : x.toInt.toNat < cl.2.1 := by
              unfold xw_len at zl
              cases hq : Nat.beq cl.1 0 with
              | true => have := xv_beq hq; omega
              | false => rw [hq] at zl; exact zl
            obtain ⟨q1, q2, q3⟩ := xy_idx z0 zl
            obtain ⟨en', e1, e2, e3, e4⟩ := hrl ws _ ad cl.2.1 en X.1 _ cl x y ls vst H locs hWl.1 hWl.2.1 hWl.2.2.1 hen hce hkb rfl q1 (hsafe _ cl hc hkb hw1 hu)
            rw [q2] at e1 e2 e3
            refine e4 (fun H1 locs1 hP1 hD1 hS1 => xy_wr C hk hR hG hH h hx hv ht hen e1 e2 (fun cq hcq huq => ?_) hP1 hD1 hS1)
            rw [hc] at hcq
            cases hcq
            exact e3 _ hce huq
      | false =>
        rw [h2] at h
        simp only [cond_false] at h
        cases h4 : (Nat.beq o.1 4 && xv_le 0 o.2.1) with
        | false => rw [h4] at h; cases h
        | true =>
          rw [h4] at h
          simp only [cond_true] at h
          obtain ⟨b3, -⟩ := xv_and_t h4
          cases hc : xv_get 14 Γ o.2.1.toNat with
          | none => rw [hc] at h; cases h
          | some cl =>
            rw [hc] at h
            dsimp only at h
            cases hkb : (Nat.beq cl.1 kd && (Nat.ble 1 (xw_cnt o) && (xw_like Γ cl o.2.1.toNat (xw_cnt o) && (xw_inb S cl.2.1 i.2 && (xw_wok S cl.2.2.2 0 v 1 && !(Nat.ble o.2.1.toNat hl.1 && Nat.ble (hl.1 + 1) (o.2.1.toNat + xw_cnt o))))))) with
            | false => rw [hkb] at h; cases h
            | true =>
              rw [hkb] at h
              simp only [cond_true] at h
              obtain ⟨k1, hkb⟩ := xv_and_t hkb
              obtain ⟨k2, hkb⟩ := xv_and_t hkb
              obtain ⟨k3, hkb⟩ := xv_and_t hkb
              obtain ⟨k4, hkb⟩ := xv_and_t hkb
              obtain ⟨k5, k6⟩ := xv_and_t hkb
              have k1 := xv_beq k1
              obtain ⟨j, ad, j1, ha, rfl⟩ := ho.2.2.2.2.1 (xv_beq b3)
              obtain ⟨d, u, w, d1, d2, d3, d4, d5, d6, d7, d8⟩ := xw_like_ok k3 j j1
              obtain ⟨en, hen, hce⟩ := xy_at hWl.2.2.2.1.1 d1 (by omega) ha
              obtain ⟨z0, zl⟩ := xw_inb_ok hS k4 hx
              obtain ⟨q1, q2, q3⟩ := xy_idx z0 zl
              obtain ⟨u2, u3, u4, u5, u6⟩ := xw_wok_ok (sb := X.1) hS hv k5 0 (Nat.lt_succ_self 0)
              have hu : ∀ u', xv_get 8 d.2.2.2 (x.toInt.toNat % d.2.2.1) = some u' → xv_hv X.1 (ws.map Prod.fst) u' y := fun u' hu' => by
                rw [d4, Nat.mod_one, d5] at hu'
                cases hu'
                rw [Nat.add_zero, d6] at u3
                cases u3
                rw [d7]; exact u4
              obtain ⟨en', e1, e2, e3, e4⟩ := hrl ws _ ad cl.2.1 en X.1 _ d x y ls vst H locs hWl.1 hWl.2.1 hWl.2.2.1 hen hce (by omega) d3 q1 (hsafe _ d d1 (by omega) (by omega) hu)
              rw [q2] at e3
              have hne : o.2.1.toNat + j ≠ hl.1 := fun w => by
                have c1 : Nat.ble o.2.1.toNat hl.1 = true := Nat.ble_eq.mpr (by omega)
                have c2 : Nat.ble (hl.1 + 1) (o.2.1.toNat + xw_cnt o) = true := Nat.ble_eq.mpr (by omega)
                rw [c1, c2] at k6; cases k6
              refine e4 (fun H1 locs1 hP1 hD1 hS1 => xy_kl (r := o.2.1.toNat + j) C hk hR hG hH h ht rfl j1 (xy_ne9 C d1) hen hne (fun cq hcq _ => ?_) hP1 hD1 hS1)
              rw [d1] at hcq
              cases hcq
              exact e3 _ hce hu
end XY6
