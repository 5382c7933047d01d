/-! image or again, called -/
theorem xl_cB_ok {id n n' mc : Nat} {av : List xv_V} {h h' : xv_A} {v : Int} (hb : xl_cB id av h n h' n' v mc = true) : ∃ r, xv_calls xt_M 100000 6 id av h n = some r ∧ r.1 = [(0, v, v)] ∧ r.2.2.2.1 = n' ∧ r.2.2.2.2.1 ≤ mc ∧ r.2.2.2.2.2 ≤ 20 * mc ∧ xl_tl2 196 r.2.2.1 h' = true := by
  unfold xl_cB at hb
  cases hr : xv_calls xt_M 100000 6 id av h n with
  | none => rw [hr] at hb; cases hb
  | some r =>
    rw [hr] at hb
    unfold xl_cR at hb
    dsimp only at hb
    obtain ⟨h1, hb⟩ := xv_and_t hb
    obtain ⟨h2, hb⟩ := xv_and_t hb
    obtain ⟨h3, hb⟩ := xv_and_t hb
    obtain ⟨h4, h5⟩ := xv_and_t hb
    exact ⟨r, rfl, of_decide_eq_true h1, xv_beq h2, xv_ble h3, xv_ble h4, h5⟩
section XL3
variable {p : Program} {l : Launch} {e : Env} {R : Room} {s : State} {m : MethodId} {args : Array Value} {below : List Frame} {meth : Method} {c : Code}
variable {cc : ByteArray} {own : String} {nL : Nat} {D : va_G} {t : Nat → ClassId} {A : Nat → Prop} {X : xw_X} {xs : Nat → Int32} {cs sl : Nat} {Q : State → Prop} {pc : Nat}
theorem xl_callI {mi index j j' a0 : Nat} {v : Int} {k : Int32} {vr : List Value} {ls : Array Slot} {H : Heap} {locs : List Loc} {ws wr : va_W} (C : xw_Cx p s m args c cc own nL D t A X xs xz_G) (hj : j < 16) (hR : xl_R mi j k j' v) (hd : decode cc pc = .ok (.invokevirtual index, 3)) (hRm : 6 + 1 ≤ R.frames ∧ 60 * 6 + 60 ≤ R.locals) (hCS : cs + (xl_n j' - xl_n j) ≤ R.cells ∧ sl + 20 * (xl_n j' - xl_n j) ≤ R.slots)
    (hlk : ∀ i, xv_JI xt_J mi = some i → xv_callee i 1 ∧ Cond.methodLink own index i.1 ∈ xv_tb ∧ Cond.instanceMethod i.1 ∈ xv_tb ∧ Cond.selects i.1.cls i.1 i.1 ∈ xv_tb ∧ ∃ q, vwCl[11]? = some q ∧ q.1 = i.1.cls)
    (hS : xl_S0 D t A s.heap X xs H locs j ws wr) (had : (ws.map Prod.fst)[0]? = some a0) (hls : ls.size = nL) (hcat : (vr.map (fun v => v.category)).sum ≤ 8)
    (kk : ∀ (x : Int32) (H' : Heap) (locs' : List Loc) (ws' wr' : va_W), x.toInt = v → xl_S0 D t A s.heap X xs H' locs' j' ws' wr' → ws'.map Prod.fst = ws.map Prod.fst → (∀ r : Nat, ((53 ≤ r ∧ r < 61) ∨ 102 ≤ r) → ws'[r]? = ws[r]?) → W p l e R s m args below meth c H' locs' (cs + (xl_n j' - xl_n j)) (sl + 20 * (xl_n j' - xl_n j)) Q (F0 m (pc + 3) ls (.int x :: vr))) : W p l e R s m args below meth c H locs cs sl Q (F0 m pc ls (.int k :: .ref a0 :: vr)) := by
  obtain ⟨kv, k0, k1, k2, hj', hnn, hb⟩ := hR
  obtain ⟨r, hr, r1, r2, r3, r4, r5⟩ := xl_cB_ok hb
  obtain ⟨hCG, -⟩ := xv_meth xt_ok.2 l 100000 6
  obtain ⟨i, hi, hM⟩ := hCG _ _ _ _ _ hr
  obtain ⟨hcal, hw, hw2, hw3, q, hq, hqc⟩ := hlk i hi
  obtain ⟨⟨hWo, hPr, hDr, hdis⟩, hl, sb, hsb, hH⟩ := id hS
  obtain ⟨hPs, hDs, hSs, hWd⟩ := id hWo
  have c1 := xl_cutl hl
  have hget : ∀ {n : Nat} {x : Nat × va_E}, (xl_cut ws)[n]? = some x → n < 94 ∧ ws[xl_bw n]? = some x := fun {n x} hx => by
    have hlt := (List.getElem?_eq_some_iff.mp hx).1
    rw [c1] at hlt
    rw [xl_cutg hl hlt] at hx
    exact ⟨hlt, hx⟩
  have hPt : va_P D vwCl (xl_cut ws) H := fun k q hk => hPs _ q (hget hk).2
  have hDt : va_D A (xl_cut ws) := ⟨fun i' j9 x y hx hy hxy => by
    obtain ⟨h1, h2⟩ := hget hx
    obtain ⟨h3, h4⟩ := hget hy
    have := hDs.1 _ _ x y h2 h4 hxy
    rcases Nat.lt_or_ge i' 53 with z | z <;> rcases Nat.lt_or_ge j9 53 with z' | z'
    · rw [xl_bw1 z, xl_bw1 z'] at this; exact this
    · rw [xl_bw1 z, xl_bw2 z'] at this; omega
    · rw [xl_bw2 z, xl_bw1 z'] at this; omega
    · rw [xl_bw2 z, xl_bw2 z'] at this; omega, fun k q hk => hDs.2 _ q (hget hk).2⟩
  have hPc : va_P D vwCl (xl_cut ws ++ wr) H := va_P.app hPt hPr
  have hDc : va_D A (xl_cut ws ++ wr) := va_D.app hDt hDr (fun i' j9 x y hx hy => hdis _ j9 x y (hget hx).2 hy)
  have hin : ∀ q : Nat, va_A (xl_cut ws ++ wr) H.size q → A q := fun q hq => by
    rcases hq with ⟨k9, e9, h9⟩ | hq
    · exact hDc.2 k9 _ h9
    · exact C.2.2.2.2.2.2.1 q (Nat.le_trans hSs.1 hq)
  have had2 : ((xl_cut ws ++ wr).map Prod.fst)[0]? = some a0 := by
    rw [List.map_append, List.getElem?_append_left (by rw [List.length_map]; omega), xl_cutm, xl_cutg (by rw [List.length_map]; exact hl) (by omega)]; exact had
  have hsm : xv_sm sb ((xl_cut ws ++ wr).map Prod.fst) [(2, 0, 0), kv] [.ref a0, .int k] := ⟨xv_hv.r had2, xv_hv.i ⟨k0, k1, k2⟩, True.intro⟩
  have hM := hM D t sb (xl_cut ws ++ wr) [.ref a0, .int k] H.size hH hsm (hDc.weaken fun _ _ _ _ => trivial)
  obtain ⟨en, hen, hce⟩ := xy_at (r := 0) (cl := (0, 11, 13, [[(2, 1, 0), (2, 18, 0), (2, 33, 0), (2, 48, 0), (2, 53, 0), (2, 61, 0), (2, 73, 0), (2, 79, 0)], [(2, 91, 0), (2, 96, 0), (2, 99, 0), (2, 100, 0), (2, 101, 0)]])) hWd.1 rfl (by decide) had
  obtain ⟨fs, rfl, -, -⟩ := hce.1 rfl
  have hrecv := va_recv C.2.2.2.2.2.1 hPs hq hen
  rw [hqc] at hrecv
  have hrun := va_runV (cells := cs) (slots := sl) (locs := locs) (g := F0 m pc ls (.int k :: .ref a0 :: vr)) (e := e) (below := below) (meth := meth) (rest := vr) (C := i.1.cls) (As := [.int k]) (n := 1) (own := own) (Ts := xv_tb) (nL := nL) (index := index) (R := R) (p := p) (m := m) (c := c) (cc := cc) (s := s) (args := args) (H := H) (b := a0) ⟨C.1, C.2.1, C.2.2.1, C.2.2.2.1, C.2.2.2.2.1⟩ hM ⟨callB_of 1 C.2.2.2.2.1 (xv_goodIn hcal.1) rfl rfl rfl (C.2.2.2.2.1 _ hcal.2.1) (C.2.2.2.2.1 _ hw) hcal.2.2.1 ⟨hRm.1, by have := hcal.2.2.2; show 8 + (_ + 11) + 60 * 6 ≤ _; omega⟩, C.2.2.2.2.1 _ hw2, C.2.2.2.2.1 _ hw3⟩ ⟨xv_blind, hrecv, fun U hU hW => ⟨rfl, by rw [hU], by rw [hU]; exact hPc, va_K.moved hW.alike C.2.2.2.2.2.1, C.2.2.2.2.2.2.2.1.warm hW⟩⟩ rfl rfl hls rfl (lv_room (by omega)) hd ⟨by omega, by omega⟩
  intro T hT XX
  obtain ⟨v9, st₀, t1, T', L', h0, X', hL, e1, e2, ⟨⟨rv, w1, hrv, hP', hD', hH', ⟨more, hmore⟩, hsm'⟩, hF⟩, hgo⟩ := hrun T hT XX
  cases hrv
  have hF1 := hF.1
  rw [h0] at hF1
  have hS' : va_S A s.heap T'.heap (locs ++ L') := ⟨by rw [e1]; exact Nat.le_trans hSs.1 hF1, fun q h1 h2 => by
    rw [e1, hF.2 q (by rw [h0]; exact Nat.lt_of_lt_of_le h1 hSs.1) (fun hq => h2 (hin q hq)), h0]
    exact hSs.2.1 q h1 h2, fun q hq => (List.mem_append.mp hq).elim (hSs.2.2 q) (fun hq => hin _ (hL q hq))⟩
  rw [r1] at hsm'
  rw [r2] at hH'
  have haft := xl_after hj' hS hsb hin hS' (by rw [e1]; exact hP') hD' hH' r5 hmore (fun q h1 h2 => by rw [e1, hF.2 q (by rw [h0]; exact h1) h2, h0])
  obtain ⟨x0, vs0, ev, hx0, hnil⟩ := hsm'.un
  have ev0 := hnil.nil
  subst ev0
  obtain ⟨x, ex, x1, x2⟩ := hx0.1 rfl
  dsimp only at x1 x2
  rw [ex] at ev
  obtain ⟨tt, a1, b1⟩ := W.widen (cells := cs + r.2.2.2.2.1) (slots := sl + r.2.2.2.2.2) (by omega) (by omega) (kk x T'.heap (locs ++ L') _ _ (by omega) haft.1 haft.2 (fun r hr => xl_mixo (by have := hH'.1; have := xl_n94 j'; omega) hl hr)) T' rfl X'
  refine ⟨tt, hgo tt ?_, b1⟩
  rw [ev]
  exact a1
end XL3
