/-! image and again, called by the law -/
theorem xl_Dfst {A : Nat → Prop} {ws ws' : va_W} (h : ws'.map Prod.fst = ws.map Prod.fst) (hD : va_D A ws) : va_D A ws' := by
  refine ⟨fun i j x y hx hy hxy => ?_, fun k q hk => ?_⟩
  · obtain ⟨x', hx', ex⟩ := xl_fst h hx
    obtain ⟨y', hy', ey⟩ := xl_fst h hy
    exact hD.1 i j x' y' hx' hy' (by rw [ex, ey, hxy])
  · obtain ⟨q', hq', eq⟩ := xl_fst h hk
    rw [← eq]; exact hD.2 k q' hq'
theorem xl_D1 {A : Nat → Prop} {w1 w2 : va_W} (h : va_D A (w1 ++ w2)) : va_D A w1 := by
  have e : ∀ {k : Nat} {q : Nat × va_E}, w1[k]? = some q → (w1 ++ w2)[k]? = some q := fun hk => by
    rw [List.getElem?_append_left (List.getElem?_eq_some_iff.mp hk).1]; exact hk
  exact ⟨fun i j x y hx hy => h.1 i j x y (e hx) (e hy), fun k q hk => h.2 k q (e hk)⟩
theorem xl_app2 {w1 w2 : va_W} {k : Nat} {q : Nat × va_E} (hk : w2[k]? = some q) : (w1 ++ w2)[w1.length + k]? = some q := by
  rw [List.getElem?_append_right (by omega), Nat.add_sub_cancel_left]; exact hk
theorem xl_D2 {A : Nat → Prop} {w1 w2 : va_W} (h : va_D A (w1 ++ w2)) : va_D A w2 :=
  ⟨fun i j x y hx hy hxy => by have := h.1 _ _ x y (xl_app2 (w1 := w1) hx) (xl_app2 hy) hxy; omega, fun k q hk => h.2 _ q (xl_app2 (w1 := w1) hk)⟩
theorem xl_D12 {A : Nat → Prop} {w1 w2 : va_W} (h : va_D A (w1 ++ w2)) : ∀ (i j : Nat) (x y : Nat × va_E), w1[i]? = some x → w2[j]? = some y → x.1 ≠ y.1 := fun i j x y hx hy hxy => by
  have hlt := (List.getElem?_eq_some_iff.mp hx).1
  have := h.1 i _ x y (by rw [List.getElem?_append_left hlt]; exact hx) (xl_app2 (w1 := w1) hy) hxy
  omega
theorem xl_P1 {D : va_G} {w1 w2 : va_W} {H : Heap} (h : va_P D vwCl (w1 ++ w2) H) : va_P D vwCl w1 H ∧ va_P D vwCl w2 H :=
  ⟨fun k q hk => h k q (by rw [List.getElem?_append_left (List.getElem?_eq_some_iff.mp hk).1]; exact hk), fun k q hk => h _ q (xl_app2 (w1 := w1) hk)⟩
/-- the law's state between two calls: the cells of both sides, the images in the order j -/
def xl_S (D : va_G) (t : Nat → ClassId) (A : Nat → Prop) (H0 : Heap) (X : xw_X) (xs : Nat → Int32) (H : Heap) (locs : List Loc) (j : Nat) (ws wr : va_W) : Prop := xl_Wo D t A H0 X xs H locs ws wr ∧ ws.length = 127 ∧ xv_H t X.1 (xl_hj j) (xl_n j) (ws.take 102 ++ wr)
theorem xl_n102 (j : Nat) : 102 ≤ xl_n j := by
  unfold xl_n
  split <;> decide
/-- other calls leave the images -/
theorem xl_stay {D : va_G} {t : Nat → ClassId} {A : Nat → Prop} {H0 : Heap} {X : xw_X} {xs : Nat → Int32} {H H' : Heap} {locs locs' : List Loc} {j : Nat} {ws ws' wr : va_W} (hj : j < 16) (h : xl_S D t A H0 X xs H locs j ws wr) (h' : xl_Wo D t A H0 X xs H' locs' ws' wr) (has : ws'.map Prod.fst = ws.map Prod.fst) (h101 : ws'[101]? = ws[101]?) : xl_S D t A H0 X xs H' locs' j ws' wr := by
  obtain ⟨-, hl, hH⟩ := h
  have hl' : ws'.length = 127 := by rw [← hl, ← List.length_map (f := Prod.fst), has, List.length_map]
  refine ⟨h', hl', ?_⟩
  obtain ⟨u1, -⟩ := xv_and_t (xl_u j hj)
  have hW := h'.1.2.2.2.1
  have efst : (ws'.take 102 ++ wr).map Prod.fst = (ws.take 102 ++ wr).map Prod.fst := by rw [List.map_append, List.map_append, List.map_take, List.map_take, has]
  refine ⟨?_, fun r k' hr h9 => ?_⟩
  · have := hH.1
    rw [List.length_append, List.length_take] at this ⊢
    omega
  · rcases Nat.lt_or_ge r 101 with q | q
    · obtain ⟨k, hk, hk9, hle⟩ := xl_tle_ok u1 q (by rw [Nat.zero_add]; exact hr) h9
      rw [Nat.zero_add] at hk
      obtain ⟨a, x, e1, e2⟩ := hW.2 r k hk hk9
      refine ⟨a, x, ?_, xl_hc hle (fun n b _ hn hb => ?_) e2⟩
      · rw [List.getElem?_append_left (by rw [List.length_take]; omega), List.getElem?_take, if_pos (by omega)]; exact e1
      · rw [Nat.add_zero, Nat.sub_zero, List.map_append, List.map_take, List.getElem?_append_left (by rw [List.length_take, List.length_map]; omega), List.getElem?_take, if_pos hn]; exact hb
    · obtain ⟨a, x, e1, e2⟩ := hH.2 r k' hr h9
      refine ⟨a, x, ?_, by rw [efst]; exact e2⟩
      rcases Nat.lt_or_ge r 102 with w | w
      · have er : r = 101 := by omega
        subst er
        rw [List.getElem?_append_left (by rw [List.length_take]; omega), List.getElem?_take, if_pos (by omega)] at e1 ⊢
        rw [h101]; exact e1
      · rw [List.getElem?_append_right (by rw [List.length_take]; omega), List.length_take] at e1 ⊢
        rw [show min 102 ws'.length = 102 by omega]
        rw [show min 102 ws.length = 102 by omega] at e1
        exact e1
/-- behind a call of image or again -/
theorem xl_after {D : va_G} {t : Nat → ClassId} {A : Nat → Prop} {H0 : Heap} {X : xw_X} {xs : Nat → Int32} {H H' : Heap} {locs locs' : List Loc} {j j' : Nat} {ws wr w1 : va_W} {h1 : xv_A} {more : List Nat} (hj : j' < 16) (h : xl_S D t A H0 X xs H locs j ws wr) (hin : ∀ q : Nat, va_A (ws.take 102 ++ wr) H.size q → A q) (hS' : va_S A H0 H' locs') (hP : va_P D vwCl w1 H') (hD : va_D (va_A (ws.take 102 ++ wr) H.size) w1) (hH : xv_H t X.1 h1 (xl_n j') w1) (hle : xl_tl2 196 h1 (xl_hj j') = true) (hm : w1.map Prod.fst = (ws.take 102 ++ wr).map Prod.fst ++ more) (hF : ∀ q : Nat, q < H.size → ¬ va_A (ws.take 102 ++ wr) H.size q → H'[q]? = H[q]?) :
    xl_S D t A H0 X xs H' locs' j' (w1.take 102 ++ ws.drop 102) (w1.drop 102) ∧ (w1.take 102 ++ ws.drop 102).map Prod.fst = ws.map Prod.fst := by
  obtain ⟨⟨hWo, hPr, hDr, hdis⟩, hl, hHo⟩ := h
  obtain ⟨hPs, hDs, hSs, hWd⟩ := hWo
  have hn := xl_n102 j'
  have l1 : w1.length = xl_n j' := hH.1
  have lt : (w1.take 102).length = 102 := by rw [List.length_take]; omega
  have ltw : (ws.take 102).length = 102 := by rw [List.length_take]; omega
  have e0 : (w1.take 102).map Prod.fst = (ws.take 102).map Prod.fst := by
    rw [List.map_take, hm, List.map_append, List.append_assoc, List.take_append_of_le_length (by rw [List.length_map]; omega), List.take_of_length_le (by rw [List.length_map]; omega)]
  have efst : (w1.take 102 ++ ws.drop 102).map Prod.fst = ws.map Prod.fst := by
    rw [List.map_append, e0, ← List.map_append, List.take_append_drop]
  have esw : ws.take 102 ++ ws.drop 102 = ws := List.take_append_drop 102 ws
  have ew1 : w1.take 102 ++ w1.drop 102 = w1 := List.take_append_drop 102 w1
  have hDs2 : va_D A (ws.take 102 ++ ws.drop 102) := by rw [esw]; exact hDs
  have hPs2 : va_P D vwCl (ws.take 102 ++ ws.drop 102) H := by rw [esw]; exact hPs
  have hD2 : va_D (va_A (ws.take 102 ++ wr) H.size) (w1.take 102 ++ w1.drop 102) := by rw [ew1]; exact hD
  have hP2 : va_P D vwCl (w1.take 102 ++ w1.drop 102) H' := by rw [ew1]; exact hP
  -- a cell of the rest isn't reached
  have hout : ∀ (k : Nat) (q : Nat × va_E), (ws.drop 102)[k]? = some q → q.1 < H.size ∧ ¬ va_A (ws.take 102 ++ wr) H.size q.1 := fun k q hk => by
    have hlt := ((xl_P1 hPs2).2 k q hk).lt
    refine ⟨hlt, fun w => ?_⟩
    rcases w with ⟨k9, e9, h9⟩ | w
    · rcases Nat.lt_or_ge k9 102 with z | z
      · rw [List.getElem?_append_left (by omega)] at h9
        exact xl_D12 hDs2 k9 k _ q h9 hk rfl
      · rw [List.getElem?_append_right (by omega)] at h9
        have hk2 := xl_app2 (w1 := ws.take 102) hk
        rw [esw] at hk2
        exact hdis _ _ q _ hk2 h9 rfl
    · omega
  have hPd : va_P D vwCl (ws.drop 102) H' := (xl_P1 hPs2).2.kept (fun k q hk => by
    obtain ⟨o1, o2⟩ := hout k q hk
    exact hF q.1 o1 o2)
  obtain ⟨-, u2⟩ := xv_and_t (xl_u j' hj)
  -- the new world in the order's types
  have hHj : xv_H t X.1 (xl_hj j') (xl_n j') w1 := by
    refine ⟨l1, fun r k' hr h9 => ?_⟩
    have hlt := xl_get_lt (by decide) hr
    rw [xl_hlen j' hj] at hlt
    obtain ⟨k, hk, hk9, hc⟩ := xl_tl2_ok hle (by omega) hr h9
    obtain ⟨a, x, e1, e2⟩ := hH.2 r k hk hk9
    refine ⟨a, x, e1, ?_⟩
    rcases hc with hc | hc
    · rw [← hc]; exact e2
    · exact xl_hc hc (fun n b _ _ hb => hb) e2
  have hWd' : xw_Wd xz_hl xz_G t X (xw_mu xs (w1.take 102 ++ ws.drop 102)) (w1.take 102 ++ ws.drop 102) := by
    refine ⟨?_, fun c hc jj hjj => ?_, fun r c hc i => xy_mu (xl_ne9 xz_9 hc)⟩
    · refine ⟨rfl, fun r k' hr h9 => ?_⟩
      rcases Nat.lt_or_ge r 102 with z | z
      · obtain ⟨k, hk, hk9, hc⟩ := xl_tle_ok u2 z (by rw [Nat.zero_add]; exact hr) h9
        rw [Nat.zero_add] at hk
        obtain ⟨a, x, e1, e2⟩ := hHj.2 r k hk hk9
        refine ⟨a, x, ?_, xl_hc hc (fun n b _ hnn hb => ?_) e2⟩
        · rw [List.getElem?_append_left (by omega), List.getElem?_take, if_pos z]; exact e1
        · rw [Nat.add_zero, Nat.sub_zero, List.map_append, List.getElem?_append_left (by rw [List.length_map]; omega), List.map_take, List.getElem?_take, if_pos hnn]; exact hb
      · obtain ⟨a, x, e1, e2⟩ := hWd.1.2 r k' hr h9
        refine ⟨a, x, ?_, by rw [efst]; exact e2⟩
        rw [List.getElem?_append_right (by omega), lt, List.getElem?_drop, show 102 + (r - 102) = r by omega]; exact e1
    · have e126 : xw_ct (w1.take 102 ++ ws.drop 102) xz_hl.1 jj = xw_ct ws xz_hl.1 jj := by
        unfold xw_ct
        have h126 : xz_hl.1 = 126 := rfl
        rw [h126, List.getElem?_append_right (by omega), lt, List.getElem?_drop]
      rw [e126]; exact hWd.2.1 c hc jj hjj
  refine ⟨⟨⟨⟨va_P.app (xl_P1 hP2).1 hPd, xl_Dfst efst hDs, hS', hWd'⟩, (xl_P1 hP2).2, (xl_D2 hD2).weaken (fun _ _ _ w => hin _ w), fun i jj x y hx hy hxy => ?_⟩, by rw [List.length_append, List.length_drop]; omega, ?_⟩, efst⟩
  · rcases Nat.lt_or_ge i 102 with z | z
    · rw [List.getElem?_append_left (by omega)] at hx
      exact xl_D12 hD2 i jj x y hx hy hxy
    · rw [List.getElem?_append_right (by omega)] at hx
      have hA := (xl_D2 hD2).2 jj y hy
      rw [← hxy] at hA
      exact (hout _ x hx).2 hA
  · rw [List.take_append_of_le_length (by omega), List.take_of_length_le (by omega), ew1]; exact hHj
