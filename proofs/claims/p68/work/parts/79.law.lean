/-! the law's calls: the world of the contracts beside another that stays -/
def xl_Wo (D : va_G) (t : Nat → ClassId) (A : Nat → Prop) (H0 : Heap) (X : xw_X) (xs : Nat → Int32) (H : Heap) (locs : List Loc) (ws wr : va_W) : Prop := xh_Wo D t A H0 xz_hl xz_G X xs H locs ws ∧ va_P D vwCl wr H ∧ va_D A wr ∧ ∀ (i j : Nat) (x y : Nat × va_E), ws[i]? = some x → wr[j]? = some y → x.1 ≠ y.1
section XL1
variable {p : Program} {l : Launch} {e : Env} {R : Room} {s : State} {m : MethodId} {args : Array Value} {below : List Frame} {meth : Method} {c : Code}
variable {cc : ByteArray} {own : String} {nL : Nat} {D : va_G} {t : Nat → ClassId} {A : Nat → Prop} {X : xw_X} {xs : Nat → Int32} {cs sl : Nat} {Q : State → Prop} {pc : Nat}
theorem xl_fst {ws ws' : va_W} (h : ws'.map Prod.fst = ws.map Prod.fst) {i : Nat} {x : Nat × va_E} (hx : ws'[i]? = some x) : ∃ y, ws[i]? = some y ∧ y.1 = x.1 := by
  have h1 : (ws'.map Prod.fst)[i]? = some x.1 := by rw [List.getElem?_map, hx]; rfl
  rw [h, List.getElem?_map] at h1
  cases hy : ws[i]? with
  | none => rw [hy] at h1; cases h1
  | some y => rw [hy] at h1; exact ⟨y, rfl, by simpa using h1⟩
theorem xl_behind {vrest : List Value} {ls : Array Slot} {H : Heap} {locs : List Loc} {ws wr : va_W} {vst : List Value} {aa : Array Value} {dd : xw_D} {Po : va_W → Option Value → Prop} (C : xw_Cx p s m args c cc own nL D t A X xs xz_G) (hWl : xl_Wo D t A s.heap X xs H locs ws wr)
    (hrun : va_Run p l e R s m args below meth c H locs cs sl 0 0 (F0 m pc ls vst) vrest (xh_Q D t xz_hl xz_G X xs ws H.size dd Po aa) (va_A ws H.size))
    (kk : ∀ (rv : Option Value) (H' : Heap) (locs' : List Loc) (ws' : va_W), xl_Wo D t A s.heap X xs H' locs' ws' wr → xh_B xs dd ws ws' → Po ws' rv → W p l e R s m args below meth c H' locs' cs sl Q (F0 m (pc + 3) ls (rv.toList ++ vrest))) : W p l e R s m args below meth c H locs cs sl Q (F0 m pc ls vst) := by
  intro T hT XX
  obtain ⟨v, st₀, t1, T', L', h0, X', hL, e1, e2, ⟨⟨rv, ws', hrv, ⟨hP', hD', hWd', hDt', hDc', has'⟩, hPo⟩, hF⟩, hgo⟩ := hrun T hT XX
  cases hrv
  obtain ⟨hWo, hPr, hDr, hdis⟩ := hWl
  have hin := xh_in C hWo
  obtain ⟨hP, hD, hS, hWd⟩ := id hWo
  have hF1 := hF.1
  rw [h0] at hF1
  have hS2 : va_S A s.heap T'.heap (locs ++ L') := ⟨by rw [e1]; exact Nat.le_trans hS.1 hF1, fun q h1 h2 => by
    rw [e1, hF.2 q (by rw [h0]; exact Nat.lt_of_lt_of_le h1 hS.1) (fun hq => h2 (hin q hq)), h0]
    exact hS.2.1 q h1 h2, fun q hq => (List.mem_append.mp hq).elim (hS.2.2 q) (fun hq => hin _ (hL q hq))⟩
  have hPr' : va_P D vwCl wr T'.heap := hPr.kept (fun k q hk => by
    have hlt := (hPr k q hk).lt
    rw [e1, hF.2 q.1 (by rw [h0]; exact hlt) (fun hq => ?_), h0]
    rcases hq with ⟨k9, e9, h9⟩ | hq
    · exact hdis k9 k _ q h9 hk rfl
    · omega)
  have hdis' : ∀ (i j : Nat) (x y : Nat × va_E), ws'[i]? = some x → wr[j]? = some y → x.1 ≠ y.1 := fun i j x y hx hy => by
    obtain ⟨z, hz, ez⟩ := xl_fst has' hx
    rw [← ez]; exact hdis i j z y hz hy
  obtain ⟨tt, a1, b1⟩ := kk v T'.heap (locs ++ L') ws' ⟨⟨by rw [e1]; exact hP', hD'.weaken (fun _ _ _ hq => hin _ hq), hS2, hWd'⟩, hPr', hDr, hdis'⟩ ⟨hDt', hDc', has'⟩ hPo T' rfl X'
  exact ⟨tt, hgo tt a1, b1⟩
/-- a call of the law by a contract -/
theorem xl_call {I : Nat → Option xv_I} {index n dF ci r ad : Nat} {c0 : xw_C} {P vr : List Value} {cl : xv_C} {ls : Array Slot} {H : Heap} {locs : List Loc} {ws wr : va_W} (C : xw_Cx p s m args c cc own nL D t A X xs xz_G) (hV : xw_CV l I xz_hl xz_G c0) (hdF : c0.2.2.2.2.2.2 ≤ dF) (hpre : c0.2.2.1 = []) (hd : decode cc pc = .ok (.invokevirtual index, 3)) (hRm : dF + 1 ≤ R.frames ∧ 60 * dF + 60 ≤ R.locals) (hCS : cs ≤ R.cells ∧ sl ≤ R.slots)
    (hlk : ∀ i, I c0.1 = some i → xv_callee i n ∧ Cond.methodLink own index i.1 ∈ xv_tb ∧ Cond.instanceMethod i.1 ∈ xv_tb ∧ Cond.selects i.1.cls i.1 i.1 ∈ xv_tb ∧ ∃ q, vwCl[ci]? = some q ∧ q.1 = i.1.cls)
    (hWl : xl_Wo D t A s.heap X xs H locs ws wr) (hcl : xv_get 14 xz_G r = some cl) (hc0 : cl.1 = 0) (hci : cl.2.1 = ci) (had : (ws.map Prod.fst)[r]? = some ad) (hls : ls.size = nL) (hPl : P.length = n) (hcat : (vr.map (fun v => v.category)).sum ≤ 8) (hsv : xw_Sv X (ws.map Prod.fst) c0.2.1 (.ref ad :: P.reverse))
    (kk : ∀ (rv : Option Value) (H' : Heap) (locs' : List Loc) (ws' : va_W), xl_Wo D t A s.heap X xs H' locs' ws' wr → xh_B xs c0.2.2.2.2.2.1 ws ws' → (∃ q ∈ c0.2.2.2.2.1, xw_Pv (.ref ad :: P.reverse) (xw_gv c0 (.ref ad :: P.reverse) (xw_mu xs ws)) (xw_mu xs ws') q rv) → W p l e R s m args below meth c H' locs' cs sl Q (F0 m (pc + 3) ls (rv.toList ++ vr))) : W p l e R s m args below meth c H locs cs sl Q (F0 m pc ls (P ++ .ref ad :: vr)) := by
  obtain ⟨i, hi, hM⟩ := hV
  obtain ⟨hcal, hw, hw2, hw3, q, hq, hqc⟩ := hlk i hi
  have hWo := hWl.1
  have hM := hM dF hdF D t X xs ws (.ref ad :: P.reverse) H.size C.2.2.2.2.2.2.2.2.2.2.1 hWo.2.2.2 hsv (fun T hT => by rw [hpre] at hT; cases hT) (hWo.2.1.weaken fun _ _ _ _ => trivial)
  obtain ⟨en, hen, hce⟩ := xy_at hWo.2.2.2.1 hcl (by omega) had
  obtain ⟨fs, rfl, -, -⟩ := hce.1 hc0
  rw [hci] at hen
  have hrecv := va_recv C.2.2.2.2.2.1 hWo.1 hq hen
  rw [hqc] at hrecv
  refine xl_behind (dd := c0.2.2.2.2.2.1) (Po := fun ws' rv => ∃ q ∈ c0.2.2.2.2.1, xw_Pv (.ref ad :: P.reverse) (xw_gv c0 (.ref ad :: P.reverse) (xw_mu xs ws)) (xw_mu xs ws') q rv) C hWl (va_runV (C := i.1.cls) (As := P.reverse) (n := n) (own := own) (Ts := xv_tb) (nL := nL) (index := index) ⟨C.1, C.2.1, C.2.2.1, C.2.2.2.1, C.2.2.2.2.1⟩ hM ⟨callB_of n C.2.2.2.2.1 (xv_goodIn hcal.1) rfl rfl rfl (C.2.2.2.2.1 _ hcal.2.1) (C.2.2.2.2.1 _ hw) hcal.2.2.1 ⟨hRm.1, by have := hcal.2.2.2; show 8 + (_ + 11) + 60 * dF ≤ _; omega⟩, C.2.2.2.2.1 _ hw2, C.2.2.2.2.1 _ hw3⟩ ⟨xw_blind C.2.2.2.2.2.2.2.2.2.2.1, hrecv, fun U hU hW => xh_pre C hWo U hU hW⟩ rfl (by rw [List.length_reverse]; exact hPl) hls (by rw [List.reverse_reverse]) (lv_room (by omega)) hd ⟨by omega, by omega⟩) kk
end XL1
