/-! image and again, called by the law -/
theorem xl_Dfst {A : Nat → Prop} {ws ws' : va_W} (h : ws'.map Prod.fst = ws.map Prod.fst) (hD : va_D A ws) : va_D A ws' := by
  refine ⟨fun i j x y hx hy hxy => ?_, fun k q hk => ?_⟩
  · obtain ⟨x', hx', ex⟩ := xl_fst h hx
    obtain ⟨y', hy', ey⟩ := xl_fst h hy
    exact hD.1 i j x' y' hx' hy' (by rw [ex, ey, hxy])
  · obtain ⟨q', hq', eq⟩ := xl_fst h hk
    rw [← eq]; exact hD.2 k q' hq'
theorem xl_D1 {A : Nat → Prop} {w1 w2 : va_W} (h : va_D A (w1 ++ w2)) : va_D A w1 := by
  have e : ∀ {k : Nat} {q : Nat × va_E}, w1[k]? = some q → (w1 ++ w2)[k]? = some q := fun hk => by
    rw [List.getElem?_append_left (List.getElem?_eq_some_iff.mp hk).1]; exact hk
  exact ⟨fun i j x y hx hy => h.1 i j x y (e hx) (e hy), fun k q hk => h.2 k q (e hk)⟩
theorem xl_app2 {w1 w2 : va_W} {k : Nat} {q : Nat × va_E} (hk : w2[k]? = some q) : (w1 ++ w2)[w1.length + k]? = some q := by
  rw [List.getElem?_append_right (by omega), Nat.add_sub_cancel_left]; exact hk
theorem xl_D2 {A : Nat → Prop} {w1 w2 : va_W} (h : va_D A (w1 ++ w2)) : va_D A w2 :=
  ⟨fun i j x y hx hy hxy => by have := h.1 _ _ x y (xl_app2 (w1 := w1) hx) (xl_app2 hy) hxy; omega, fun k q hk => h.2 _ q (xl_app2 (w1 := w1) hk)⟩
theorem xl_D12 {A : Nat → Prop} {w1 w2 : va_W} (h : va_D A (w1 ++ w2)) : ∀ (i j : Nat) (x y : Nat × va_E), w1[i]? = some x → w2[j]? = some y → x.1 ≠ y.1 := fun i j x y hx hy hxy => by
  have hlt := (List.getElem?_eq_some_iff.mp hx).1
  have := h.1 i _ x y (by rw [List.getElem?_append_left hlt]; exact hx) (xl_app2 (w1 := w1) hy) hxy
  omega
theorem xl_P1 {D : va_G} {w1 w2 : va_W} {H : Heap} (h : va_P D vwCl (w1 ++ w2) H) : va_P D vwCl w1 H ∧ va_P D vwCl w2 H :=
  ⟨fun k q hk => h k q (by rw [List.getElem?_append_left (List.getElem?_eq_some_iff.mp hk).1]; exact hk), fun k q hk => h _ q (xl_app2 (w1 := w1) hk)⟩
/-- the law's state between two calls: the cells of both sides, the images in the order j -/
def xl_S0 (D : va_G) (t : Nat → ClassId) (A : Nat → Prop) (H0 : Heap) (X : xw_X) (xs : Nat → Int32) (H : Heap) (locs : List Loc) (j : Nat) (ws wr : va_W) : Prop := xl_Wo D t A H0 X xs H locs ws wr ∧ ws.length = 127 ∧ ∃ sb, (ws.map Prod.fst)[53]? = some sb ∧ xv_H t sb (xl_hj j) (xl_n j) (xl_cut ws ++ wr)
/-- what the reference holds of images is what there is -/
def xl_KK (j : Nat) (ws : va_W) : Prop := ∀ k, k < 3 → xw_n0 (xw_ct ws 114 k) = bif xl_has j k then 1 else 0
/-- rows of both sides are of the same width and length -/
def xl_QQ (ws : va_W) : Prop := ∀ k, k < 4 → (xw_n0 (xw_ct ws 103 k) = -1 ∧ xw_n0 (xw_ct ws 60 k) = -1) ∨ (0 ≤ xw_n0 (xw_ct ws 103 k) ∧ xw_n0 (xw_ct ws 59 k) = xw_n0 (xw_ct ws 103 k) ∧ 0 ≤ xw_n0 (xw_ct ws 60 k) ∧ xw_n0 (xw_ct ws 104 k) = xw_n0 (xw_ct ws 60 k))
def xl_S (D : va_G) (t : Nat → ClassId) (A : Nat → Prop) (H0 : Heap) (X : xw_X) (xs : Nat → Int32) (H : Heap) (locs : List Loc) (j : Nat) (ws wr : va_W) : Prop := xl_S0 D t A H0 X xs H locs j ws wr ∧ xl_KK j ws ∧ xl_QQ ws
theorem xl_cte {ws ws' : va_W} {r : Nat} (h : ws'[r]? = ws[r]?) (k : Nat) : xw_ct ws' r k = xw_ct ws r k := by
  unfold xw_ct; rw [h]
theorem xl_Kst {j : Nat} {ws ws' : va_W} (h : ws'[114]? = ws[114]?) (hK : xl_KK j ws) : xl_KK j ws' := fun k hk => by
  rw [xl_cte h]; exact hK k hk
theorem xl_Qst {ws ws' : va_W} (h59 : ws'[59]? = ws[59]?) (h60 : ws'[60]? = ws[60]?) (h103 : ws'[103]? = ws[103]?) (h104 : ws'[104]? = ws[104]?) (hQ : xl_QQ ws) : xl_QQ ws' := fun k hk => by
  rw [xl_cte h59, xl_cte h60, xl_cte h103, xl_cte h104]; exact hQ k hk
theorem xl_n94 (j : Nat) : 94 ≤ xl_n j := by
  unfold xl_n
  split <;> decide
/-- other calls leave the images -/
theorem xl_stay0 {D : va_G} {t : Nat → ClassId} {A : Nat → Prop} {H0 : Heap} {X : xw_X} {xs : Nat → Int32} {H H' : Heap} {locs locs' : List Loc} {j : Nat} {ws ws' wr : va_W} (hj : j < 16) (h : xl_S0 D t A H0 X xs H locs j ws wr) (h' : xl_Wo D t A H0 X xs H' locs' ws' wr) (has : ws'.map Prod.fst = ws.map Prod.fst) (h101 : ws'[101]? = ws[101]?) : xl_S0 D t A H0 X xs H' locs' j ws' wr := by
  obtain ⟨-, hl, sb, hsb, hH⟩ := h
  have hl' : ws'.length = 127 := by rw [← hl, ← List.length_map (f := Prod.fst), has, List.length_map]
  refine ⟨h', hl', sb, by rw [has]; exact hsb, ?_⟩
  obtain ⟨u1, -⟩ := xv_and_t (xl_u j hj)
  have hW := h'.1.2.2.2.1
  have ecut : (xl_cut ws').map Prod.fst = (xl_cut ws).map Prod.fst := by rw [xl_cutm, xl_cutm, has]
  have efst : (xl_cut ws' ++ wr).map Prod.fst = (xl_cut ws ++ wr).map Prod.fst := by rw [List.map_append, List.map_append, ecut]
  have c1 := xl_cutl hl
  have c2 := xl_cutl hl'
  refine ⟨?_, fun r k' hr h9 => ?_⟩
  · have := hH.1
    rw [List.length_append] at this ⊢
    omega
  · rcases Nat.lt_or_ge r 93 with q | q
    · obtain ⟨k, hk, hk9, hle⟩ := xl_tle_ok u1 q rfl hr h9
      obtain ⟨a, x, e1, e2⟩ := hW.2 (xl_bw r) k hk hk9
      refine ⟨a, x, ?_, xl_hc hle (xl_Fok1 (by rw [List.length_map]; exact hl') (by rw [has]; exact hsb) (fun n hn b hb => ?_)) e2⟩
      · rw [List.getElem?_append_left (by omega), xl_cutg hl' (by omega)]; exact e1
      · rw [List.map_append, List.getElem?_append_left (by rw [List.length_map]; omega), xl_cutm, xl_cutg (by rw [List.length_map]; exact hl') hn]; exact hb
    · obtain ⟨a, x, e1, e2⟩ := hH.2 r k' hr h9
      refine ⟨a, x, ?_, by rw [efst]; exact e2⟩
      rcases Nat.lt_or_ge r 94 with w | w
      · have er : r = 93 := by omega
        subst er
        rw [List.getElem?_append_left (by omega)] at e1 ⊢
        rw [xl_cutg hl (by omega)] at e1
        rw [xl_cutg hl' (by omega)]
        have e101 : xl_bw 93 = 101 := rfl
        rw [e101] at e1 ⊢
        rw [h101]; exact e1
      · rw [List.getElem?_append_right (by omega)] at e1 ⊢
        rw [c2]
        rw [c1] at e1
        exact e1
theorem xl_stay {D : va_G} {t : Nat → ClassId} {A : Nat → Prop} {H0 : Heap} {X : xw_X} {xs : Nat → Int32} {H H' : Heap} {locs locs' : List Loc} {j : Nat} {ws ws' wr : va_W} (hj : j < 16) (h : xl_S D t A H0 X xs H locs j ws wr) (h' : xl_Wo D t A H0 X xs H' locs' ws' wr) (has : ws'.map Prod.fst = ws.map Prod.fst) (hg : ∀ g ∈ xl_gd, ws'[g]? = ws[g]?) : xl_S D t A H0 X xs H' locs' j ws' wr :=
  ⟨xl_stay0 hj h.1 h' has (hg 101 (by decide)), xl_Kst (hg 114 (by decide)) h.2.1, xl_Qst (hg 59 (by decide)) (hg 60 (by decide)) (hg 103 (by decide)) (hg 104 (by decide)) h.2.2⟩
/-- behind a call of image or again -/
theorem xl_after {D : va_G} {t : Nat → ClassId} {A : Nat → Prop} {H0 : Heap} {X : xw_X} {xs : Nat → Int32} {H H' : Heap} {locs locs' : List Loc} {j j' sb : Nat} {ws wr w1 : va_W} {h1 : xv_A} {more : List Nat} (hj : j' < 16) (h : xl_S0 D t A H0 X xs H locs j ws wr) (hsb : (ws.map Prod.fst)[53]? = some sb) (hin : ∀ q : Nat, va_A (xl_cut ws ++ wr) H.size q → A q) (hS' : va_S A H0 H' locs') (hP : va_P D vwCl w1 H') (hD : va_D (va_A (xl_cut ws ++ wr) H.size) w1) (hH : xv_H t sb h1 (xl_n j') w1) (hle : xl_tl2 196 h1 (xl_hj j') = true) (hm : w1.map Prod.fst = (xl_cut ws ++ wr).map Prod.fst ++ more) (hF : ∀ q : Nat, q < H.size → ¬ va_A (xl_cut ws ++ wr) H.size q → H'[q]? = H[q]?) :
    xl_S0 D t A H0 X xs H' locs' j' (xl_mix w1 ws) (w1.drop 94) ∧ (xl_mix w1 ws).map Prod.fst = ws.map Prod.fst := by
  obtain ⟨⟨hWo, hPr, hDr, hdis⟩, hl, -, -, hHo⟩ := h
  obtain ⟨hPs, hDs, hSs, hWd⟩ := hWo
  have hn := xl_n94 j'
  have l1 : w1.length = xl_n j' := hH.1
  have l94 : 94 ≤ w1.length := by omega
  have c1 := xl_cutl hl
  have hlm : (ws.map Prod.fst).length = 127 := by rw [List.length_map]; exact hl
  have e0 : (w1.map Prod.fst).take 94 = xl_cut (ws.map Prod.fst) := by
    rw [hm, List.map_append, List.append_assoc, List.take_append_of_le_length (by rw [List.length_map]; omega), List.take_of_length_le (by rw [List.length_map]; omega), xl_cutm]
  have efst : (xl_mix w1 ws).map Prod.fst = ws.map Prod.fst := by
    rw [xl_mixm]; exact xl_mixe (by rw [List.length_map]; exact l94) hlm e0
  have ew1 : w1.take 94 ++ w1.drop 94 = w1 := List.take_append_drop 94 w1
  have hD2 : va_D (va_A (xl_cut ws ++ wr) H.size) (w1.take 94 ++ w1.drop 94) := by rw [ew1]; exact hD
  have hP2 : va_P D vwCl (w1.take 94 ++ w1.drop 94) H' := by rw [ew1]; exact hP
  -- a cell of the rest isn't reached
  have hout : ∀ (k : Nat) (q : Nat × va_E), ((53 ≤ k ∧ k < 61) ∨ 102 ≤ k) → ws[k]? = some q → q.1 < H.size ∧ ¬ va_A (xl_cut ws ++ wr) H.size q.1 := fun k q hk9 hk => by
    have hlt := (hPs k q hk).lt
    refine ⟨hlt, fun w => ?_⟩
    rcases w with ⟨k9, e9, h9⟩ | w
    · rcases Nat.lt_or_ge k9 94 with z | z
      · rw [List.getElem?_append_left (by omega), xl_cutg hl z] at h9
        have := hDs.1 _ _ _ q h9 hk rfl
        rcases Nat.lt_or_ge k9 53 with y | y
        · rw [xl_bw1 y] at this; omega
        · rw [xl_bw2 y] at this; omega
      · rw [List.getElem?_append_right (by omega)] at h9
        exact hdis _ _ q _ hk h9 rfl
    · omega
  have part : ∀ (r : Nat) (q : Nat × va_E), (xl_mix w1 ws)[r]? = some q → (((53 ≤ r ∧ r < 61) ∨ 102 ≤ r) ∧ ws[r]? = some q) ∨ ∃ r', r' < 94 ∧ r = xl_bw r' ∧ w1[r']? = some q := fun r q hq => by
    by_cases z : (53 ≤ r ∧ r < 61) ∨ 102 ≤ r
    · rw [xl_mixo l94 hl z] at hq; exact Or.inl ⟨z, hq⟩
    · obtain ⟨r', hr, e⟩ : ∃ r', r' < 94 ∧ r = xl_bw r' := by
        rcases Nat.lt_or_ge r 53 with y | y
        · exact ⟨r, by omega, (xl_bw1 y).symm⟩
        · exact ⟨r - 8, by omega, by rw [xl_bw2 (by omega)]; omega⟩
      rw [e, xl_mixn l94 hl hr] at hq
      exact Or.inr ⟨r', hr, e, hq⟩
  have hPn : va_P D vwCl (xl_mix w1 ws) H' := fun r q hq => by
    rcases part r q hq with ⟨z, hq⟩ | ⟨r', hr, e, hq⟩
    · obtain ⟨o1, o2⟩ := hout r q z hq
      have hk : va_P D vwCl [q] H' := va_P.kept (H := H) (fun k p hp => by
        match k, hp with
        | 0, hp => cases hp; exact hPs r q hq) (fun k p hp => by
        match k, hp with
        | 0, hp => cases hp; exact hF q.1 o1 o2)
      exact hk 0 q rfl
    · exact hP r' q hq
  obtain ⟨-, u2⟩ := xv_and_t (xl_u j' hj)
  -- the new world in the order's types
  have hHj : xv_H t sb (xl_hj j') (xl_n j') w1 := by
    refine ⟨l1, fun r k' hr h9 => ?_⟩
    have hlt := xl_get_lt (by decide) hr
    rw [xl_hlen j' hj] at hlt
    obtain ⟨k, hk, hk9, hc⟩ := xl_tl2_ok hle (by omega) hr h9
    obtain ⟨a, x, e1, e2⟩ := hH.2 r k hk hk9
    refine ⟨a, x, e1, ?_⟩
    rcases hc with hc | hc
    · rw [← hc]; exact e2
    · exact xl_hc hc xl_Fok0 e2
  have emap : ∀ n : Nat, n < 94 → ∀ b, (w1.map Prod.fst)[n]? = some b → (ws.map Prod.fst)[xl_bw n]? = some b := fun n hn9 b hb => by
    rw [← xl_cutg hlm hn9, ← e0, List.getElem?_take, if_pos hn9]; exact hb
  have hWd' : xw_Wd xz_hl xz_G t X (xw_mu xs (xl_mix w1 ws)) (xl_mix w1 ws) := by
    refine ⟨?_, fun c hc jj hjj => ?_, fun r c hc i => xy_mu (xl_ne9 xz_9 hc)⟩
    · refine ⟨rfl, fun r k' hr h9 => ?_⟩
      by_cases z : (53 ≤ r ∧ r < 61) ∨ 102 ≤ r
      · obtain ⟨a, x, e1, e2⟩ := hWd.1.2 r k' hr h9
        exact ⟨a, x, by rw [xl_mixo l94 hl z]; exact e1, by rw [efst]; exact e2⟩
      · obtain ⟨k, hk, hk9, hc⟩ := xl_tle_ok u2 (by omega) (xl_sk8f (by omega)) hr h9
        obtain ⟨a, x, e1, e2⟩ := hHj.2 (xl_fw r) k hk hk9
        obtain ⟨hr', e⟩ : xl_fw r < 94 ∧ xl_bw (xl_fw r) = r := by
          rcases Nat.lt_or_ge r 53 with y | y
          · rw [xl_fw1 y]; exact ⟨by omega, xl_bw1 y⟩
          · rw [xl_fw2 y]; exact ⟨by omega, by rw [xl_bw2 (by omega)]; omega⟩
        refine ⟨a, x, ?_, xl_hc hc (xl_Fok2 ?_ (fun n hn9 b hb => ?_)) e2⟩
        · have := xl_mixn (w1 := w1) l94 hl hr'
          rw [e] at this
          rw [this]; exact e1
        · rw [efst]; exact hsb
        · rw [efst]; exact emap n hn9 b hb
    · have e126 : xw_ct (xl_mix w1 ws) xz_hl.1 jj = xw_ct ws xz_hl.1 jj := xl_cte (xl_mixo l94 hl (Or.inr (by decide))) jj
      rw [e126]; exact hWd.2.1 c hc jj hjj
  refine ⟨⟨⟨⟨hPn, xl_Dfst efst hDs, hS', hWd'⟩, (xl_P1 hP2).2, (xl_D2 hD2).weaken (fun _ _ _ w => hin _ w), fun i jj x y hx hy hxy => ?_⟩, xl_mixl l94 hl, sb, by rw [efst]; exact hsb, ?_⟩, efst⟩
  · rcases part i x hx with ⟨z, hx⟩ | ⟨r', hr, e, hx⟩
    · have hA := (xl_D2 hD2).2 jj y hy
      rw [← hxy] at hA
      exact (hout _ x z hx).2 hA
    · have hx2 : (w1.take 94)[r']? = some x := by rw [List.getElem?_take, if_pos hr]; exact hx
      exact xl_D12 hD2 r' jj x y hx2 hy hxy
  · rw [xl_cutmix l94 hl, ew1]; exact hHj
