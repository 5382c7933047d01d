/-! rows of rows; a copy; Object's constructor -/
def xm_num (n : Nat) : List va_E → va_W
  | [] => []
  | e :: es => (n, e) :: xm_num (n + 1) es
theorem xm_num_get : ∀ (es : List va_E) (n j : Nat), (xm_num n es)[j]? = (es[j]?).map (fun e => (n + j, e))
  | [], _, _ => by simp [xm_num]
  | e :: es, n, 0 => by simp [xm_num]
  | e :: es, n, j + 1 => by
    have h := xm_num_get es (n + 1) j
    show (xm_num (n + 1) es)[j]? = _
    rw [h, List.getElem?_cons_succ, show n + 1 + j = n + (j + 1) by omega]
theorem xm_num_len (es : List va_E) : ∀ n : Nat, (xm_num n es).length = es.length := by
  induction es with
  | nil => intro n; rfl
  | cons e es ih => intro n; simp [xm_num, ih]
theorem xm_D {A : Nat → Prop} : ∀ (es : List va_E) (ws : va_W) (n : Nat), va_D A ws → (∀ (k : Nat) (q : Nat × va_E), ws[k]? = some q → q.1 < n) → (∀ a : Nat, n ≤ a → A a) → va_D A (ws ++ xm_num n es)
  | [], ws, _, hD, _, _ => by rw [xm_num, List.append_nil]; exact hD
  | e :: es, ws, n, hD, hlt, hA => by
    rw [show ws ++ xm_num n (e :: es) = (ws ++ [(n, e)]) ++ xm_num (n + 1) es by simp [xm_num]]
    have hlt1 : ∀ (k : Nat) (q : Nat × va_E), (ws ++ [(n, e)])[k]? = some q → (k < ws.length ∧ ws[k]? = some q) ∨ (k = ws.length ∧ q = (n, e)) := fun k q hk => by
      by_cases h : k < ws.length
      · rw [List.getElem?_append_left h] at hk; exact Or.inl ⟨h, hk⟩
      · rw [List.getElem?_append_right (by omega)] at hk
        have h0 : k - ws.length < 1 := (List.getElem?_eq_some_iff.mp hk).1
        rw [show k - ws.length = 0 by omega] at hk
        cases hk
        exact Or.inr ⟨by omega, rfl⟩
    refine xm_D es _ (n + 1) ⟨fun i j x y hi hj hxy => ?_, fun k q hk => ?_⟩ (fun k q hk => ?_) (fun a ha => hA a (by omega))
    · rcases hlt1 i x hi with ⟨i1, i2⟩ | ⟨i1, rfl⟩ <;> rcases hlt1 j y hj with ⟨j1, j2⟩ | ⟨j1, rfl⟩
      · exact hD.1 i j x y i2 j2 hxy
      · have := hlt _ _ i2; simp at hxy; omega
      · have := hlt _ _ j2; simp at hxy; omega
      · omega
    · rcases hlt1 k q hk with ⟨_, h2⟩ | ⟨_, rfl⟩
      · exact hD.2 k q h2
      · exact hA n (Nat.le_refl n)
    · rcases hlt1 k q hk with ⟨_, h2⟩ | ⟨_, rfl⟩
      · have := hlt _ _ h2; omega
      · exact Nat.lt_succ_self n
theorem xv_fills_get {row k : xv_C} : ∀ (N : Nat) (h : xv_A) (q r : Nat), xv_get 14 (xv_fills h row N q) r = some k → (q ≤ r ∧ r < q + N ∧ k = row) ∨ (¬ (q ≤ r ∧ r < q + N) ∧ xv_get 14 h r = some k)
  | 0, h, q, r, e => Or.inr ⟨by omega, e⟩
  | N + 1, h, q, r, e => by
    have e : xv_get 14 (xv_fills (xv_upd 14 h q row) row N (q + 1)) r = some k := e
    rcases xv_fills_get N _ _ _ e with ⟨h1, h2, h3⟩ | ⟨h1, h2⟩
    · exact Or.inl ⟨by omega, by omega, h3⟩
    · rcases xv_get_upd h2 with ⟨rfl, rfl⟩ | ⟨hne, h2⟩
      · exact Or.inl ⟨Nat.le_refl _, by omega, rfl⟩
      · exact Or.inr ⟨by omega, h2⟩
theorem xv_refs_get : ∀ (n q i : Nat) (v : xv_V), (xv_refs q n)[i]? = some v → i < n ∧ v = (2, Int.ofNat (q + i), 0)
  | 0, _, _, _, h => by cases h
  | n + 1, q, 0, v, h => by
    have h : some ((2, Int.ofNat q, 0) : xv_V) = some v := h
    cases h
    exact ⟨Nat.succ_pos n, rfl⟩
  | n + 1, q, i + 1, v, h => by
    have h : (xv_refs (q + 1) n)[i]? = some v := h
    obtain ⟨h1, h2⟩ := xv_refs_get n (q + 1) i v h
    exact ⟨by omega, by rw [h2, show q + 1 + i = q + (i + 1) by omega]⟩
section XV6
variable {p : Program} {l : Launch} {e : Env} {R : Room} {s : State} {m : MethodId} {args : Array Value} {below : List Frame} {meth : Method} {c : Code}
variable {cc : ByteArray} {own : String} {nL : Nat} {D : va_G} {t : Nat → ClassId} {A : Nat → Prop} {as0 : List Nat} {sb : Nat} {scr : List xv_V} {Q : xv_R → State → Prop} {k : xv_K} {pc : Nat} {L st : List xv_V} {S : xv_S} {r : xv_R}
theorem xs_multi {index a b : Nat} {v : Int} {ty : FieldType} (C : xv_Cx p s m args c cc own nL D t A sb scr) (hk : xv_G p l e R s m args below meth c D t A as0 sb nL Q k) (hd : decode cc pc = .ok (.multianewarray index 2, 4)) (hw : Cond.classLink own index ("[" ++ (FieldType.array ty).toString) ∈ xv_tb) (hw3 : Cond.arrayClass ty ∈ xv_tb)
    (hty : (ty = .int ∧ a = 1 ∧ b = 1 ∧ v = 0) ∨ (ty = .long ∧ a = 2 ∧ b = 4 ∧ v = 1))
    (hr : (match st with
    | y :: x :: r => bif Nat.beq x.1 0 && (Nat.beq y.1 0 && (xv_isOne x && (xv_isOne y && (xv_le x.2.1 8 && xv_le y.2.1 64)))) then
        k (pc + 4) L ((2, Int.ofNat S.2.1, 0) :: r) (xv_fills (xv_upd 14 S.1 S.2.1 (a + 4, x.2.1.toNat, x.2.1.toNat, [xv_refs (S.2.1 + 1) x.2.1.toNat])) (xv_row b y.2.1.toNat (v.toNat, 0, 0)) x.2.1.toNat (S.2.1 + 1), S.2.1 + 1 + x.2.1.toNat, S.2.2.1 + 1 + x.2.1.toNat, S.2.2.2 + x.2.1.toNat + x.2.1.toNat * y.2.1.toNat) else none
    | _ => none) = some r) : xv_T p l e R s m args below meth c D t A as0 sb nL Q pc L st S r := by
  match st, hr with
  | [], hr => cases hr
  | [_], hr => cases hr
  | y :: x :: z, hr =>
    obtain ⟨b1, hr⟩ := xv_bt hr
    obtain ⟨b1, b2⟩ := xv_and_t b1
    obtain ⟨b2, b3⟩ := xv_and_t b2
    obtain ⟨b3, b4⟩ := xv_and_t b3
    obtain ⟨b4, b5⟩ := xv_and_t b4
    obtain ⟨b5, b6⟩ := xv_and_t b5
    have b1 := xv_beq b1
    have b2 := xv_beq b2
    obtain ⟨o1, o2⟩ := xv_isOne_eq b3
    obtain ⟨o3, o4⟩ := xv_isOne_eq b4
    have b5 := xv_le_iff.mp b5
    have b6 := xv_le_iff.mp b6
    generalize hN : x.2.1.toNat = N at hr
    generalize hM : y.2.1.toNat = M at hr
    have hN8 : N ≤ 8 := by omega
    have hM64 : M ≤ 64 := by omega
    obtain ⟨h1, h2, h3⟩ := hk _ _ _ _ _ hr
    dsimp only at h1 h2 h3
    have hNM : 0 ≤ N * M := Nat.zero_le _
    refine ⟨by omega, by omega, fun hcc hz ls vst H locs ws hR => ?_⟩
    obtain ⟨y0, vst, rfl, hy, hst⟩ := hR.2.1.un
    obtain ⟨x0, vst, rfl, hx, hst2⟩ := hst.un
    obtain ⟨yi, rfl, y1, y2⟩ := hy.1 b2
    obtain ⟨xi, rfl, x1, x2⟩ := hx.1 b1
    obtain ⟨ex1, ex2, ex3⟩ := xv_idx o1 o2 x1 x2
    obtain ⟨ey1, ey2, ey3⟩ := xv_idx o3 o4 y1 y2
    rw [hN] at ex2
    rw [hM] at ey2
    have hH := hR.2.2.2.2.2.1
    have hP := hR.2.2.1
    have hD := hR.2.2.2.1
    have hS := hR.2.2.2.2.1
    intro T hT X
    have hcb : componentBytes ty ≤ 8 := by rcases hty with ⟨rfl, -⟩ | ⟨rfl, -⟩ <;> decide
    have hsz : s.heap.size ≤ T.heap.size := by rw [hT]; exact hS.1
    have hAO : xv_AOA ty s := by
      rcases hty with ⟨rfl, -⟩ | ⟨rfl, -⟩
      · exact C.2.2.2.2.2.2.2.2.2.2.1
      · exact C.2.2.2.2.2.2.2.2.2.2.2
    obtain ⟨vm₁, cO, cI, fO, fI, XF, hstep⟩ := xm_go X C.1 C.2.2.2.1 (C.2.2.2.2.1 _ hw) hAO (C.2.2.2.2.1 _ hw3) (g := F0 m pc ls (.int yi :: .int xi :: vst)) rfl (by rw [C.2.1]; exact hd) rfl ex3 ey3 (by rw [ex2]; omega) (by rw [ey2]; exact Nat.le_trans (Nat.mul_le_mul hM64 hcb) (by decide)) (by rw [ey2]; omega)
      (by rcases hty with ⟨rfl, -⟩ | ⟨rfl, -⟩ <;> rfl) (by rcases hty with ⟨rfl, -⟩ | ⟨rfl, -⟩ <;> rfl) (by rw [ex2]; omega) (by rw [ex2, ey2]; omega) hsz
    rw [ex2, ey2] at XF hstep
    generalize hF : xm_st (T.setVm vm₁) cO cI N M (defaultValue ty) N = F at XF hstep
    have hTh : (T.setVm vm₁).heap = H := hT
    have hold : ∀ q : Nat, q < H.size → F.heap[q]? = H[q]? := fun q hq => by
      rw [← hF, xm_old _ _ _ _ _ _ (by rw [hTh]; exact hq), hTh]
    have hrow : ∀ j : Nat, j < N → F.heap[H.size + 1 + j]? = some (xm_in cI M (defaultValue ty)) := fun j hj => by
      have := xm_row (T.setVm vm₁) cO cI N M (defaultValue ty) N j hj
      rw [hF, hTh] at this
      exact this
    have hhd : F.heap[H.size]? = some (xm_out cO N H.size N) := by
      have := xm_head (T.setVm vm₁) cO cI N M (defaultValue ty) N
      rw [hF, hTh] at this
      exact this
    have hFs : F.heap.size = H.size + 1 + N := by
      have := xm_size (T.setVm vm₁) cO cI N M (defaultValue ty) N
      rw [hF, hTh] at this
      exact this
    -- the inner rows' entry, and their classes
    obtain ⟨ez, hez, hcO, hcI, hrowc⟩ : ∃ ez : vp_A, (∀ c9 : ClassId, xm_in c9 M (defaultValue ty) = vp_cell c9 ez) ∧ cO = t (a + 4) ∧ cI = t b ∧ ∀ as : List Nat, xv_hc t sb as (xv_row b M (v.toNat, 0, 0)) (.inl (t b, ez)) := by
      have hK := C.2.2.2.2.2.1
      rcases hty with ⟨rfl, rfl, rfl, rfl⟩ | ⟨rfl, rfl, rfl, rfl⟩
      · refine ⟨(M, .inl (fun _ => 0)), fun c9 => arrV_new _ _ _, ?_, ?_, fun as => ?_⟩
        · exact Option.some.inj (fO.symm.trans (hK.2 4 _ rfl).2)
        · exact Option.some.inj (fI.symm.trans (hK.2 0 _ rfl).2)
        · have hrk := xv_row_k 1 M (Int.toNat 0, 0, 0)
          have := xv_hc.irow (t := t) (sb := sb) (as := as) (k := xv_row 1 M (Int.toNat 0, 0, 0)) (f := fun _ => 0) (Or.inl hrk.1) (by rw [hrk.2]; omega) (fun j _ v hv => by rw [xv_row_ok hv]; exact xv_zi)
          rw [hrk.1, hrk.2] at this
          exact this
      · refine ⟨(M, .inr (.inl (fun _ => 0))), fun c9 => arrV_new _ _ _, ?_, ?_, fun as => ?_⟩
        · exact Option.some.inj (fO.symm.trans (hK.2 5 _ rfl).2)
        · exact Option.some.inj (fI.symm.trans (hK.2 3 _ rfl).2)
        · have hrk := xv_row_k 4 M (Int.toNat 1, 0, 0)
          have := xv_hc.lrow (t := t) (sb := sb) (as := as) (k := xv_row 4 M (Int.toNat 1, 0, 0)) (f := fun _ => 0) hrk.1 (by rw [hrk.2]; omega) (fun j _ v hv => by rw [xv_row_ok hv]; exact xv_zl)
          rw [hrk.1, hrk.2] at this
          exact this
    have ha5 : a + 4 = 5 ∨ a + 4 = 6 := by rcases hty with ⟨-, h, -⟩ | ⟨-, h, -⟩ <;> omega
    let es : List va_E := .inl (cO, N, .inr (.inr (.inr (.inr (fun j => if j < N then some (H.size + 1 + j) else none))))) :: List.replicate N (.inl (cI, ez))
    have hes0 : es[0]? = some (.inl (cO, N, .inr (.inr (.inr (.inr (fun j => if j < N then some (H.size + 1 + j) else none)))))) := rfl
    have hesj : ∀ j : Nat, j < N → es[j + 1]? = some (.inl (cI, ez)) := fun j hj => by
      show (List.replicate N _)[j]? = _
      rw [List.getElem?_replicate, if_pos hj]
    have hesl : es.length = N + 1 := by show (_ :: List.replicate N _).length = _; simp
    have hlt : ∀ (k : Nat) (q : Nat × va_E), ws[k]? = some q → q.1 < H.size := fun k q hq => (hP k q hq).lt
    have hP1 : va_P D vwCl (ws ++ xm_num H.size es) F.heap := by
      refine va_P.app (hP.kept (fun k q hq => hold _ (hlt k q hq))) (fun k q hq => ?_)
      rw [xm_num_get] at hq
      obtain ⟨en, hen, rfl⟩ := Option.map_eq_some_iff.mp hq
      have hk9 : k < N + 1 := by rw [← hesl]; exact (List.getElem?_eq_some_iff.mp hen).1
      cases k with
      | zero =>
        rw [hes0] at hen
        cases hen
        exact hhd
      | succ j =>
        rw [hesj j (by omega)] at hen
        cases hen
        show F.heap[H.size + (j + 1)]? = some (vp_cell cI ez)
        rw [show H.size + (j + 1) = H.size + 1 + j by omega, hrow j (by omega), hez]
    have hD1 : va_D A (ws ++ xm_num H.size es) := xm_D es ws H.size hD hlt (fun q hq => C.2.2.2.2.2.2.1 q (Nat.le_trans hS.1 hq))
    have hS1 : va_S A s.heap F.heap locs := ⟨by rw [hFs]; have := hS.1; omega, fun q h1 h2 => (hold q (Nat.lt_of_lt_of_le h1 hS.1)).trans (hS.2.1 q h1 h2), hS.2.2⟩
    have hm : (ws ++ xm_num H.size es).map Prod.fst = ws.map Prod.fst ++ (xm_num H.size es).map Prod.fst := List.map_append
    have has : ∀ j : Nat, j < N + 1 → ((ws ++ xm_num H.size es).map Prod.fst)[S.2.1 + j]? = some (H.size + j) := fun j hj => by
      rw [hm, ← hH.1, List.getElem?_append_right (by rw [List.length_map]; omega), List.length_map, show ws.length + j - ws.length = j by omega, List.getElem?_map, xm_num_get]
      obtain ⟨en, hen⟩ : ∃ en, es[j]? = some en := ⟨_, List.getElem?_eq_getElem (by omega)⟩
      rw [hen]
      rfl
    have hws : ∀ j : Nat, j < N + 1 → ∀ en, es[j]? = some en → (ws ++ xm_num H.size es)[S.2.1 + j]? = some (H.size + j, en) := fun j hj en hen => by
      rw [← hH.1, List.getElem?_append_right (by omega), show ws.length + j - ws.length = j by omega, xm_num_get, hen]
      rfl
    have hH1 : xv_H t sb (xv_fills (xv_upd 14 S.1 S.2.1 (a + 4, N, N, [xv_refs (S.2.1 + 1) N])) (xv_row b M (v.toNat, 0, 0)) N (S.2.1 + 1)) (S.2.1 + 1 + N) (ws ++ xm_num H.size es) := by
      refine ⟨by rw [List.length_append, xm_num_len, hesl, hH.1]; omega, fun q k9 hq h9 => ?_⟩
      rcases xv_fills_get N _ _ _ hq with ⟨q1, q2, rfl⟩ | ⟨q1, hq⟩
      · obtain ⟨j, rfl⟩ : ∃ j, q = S.2.1 + (j + 1) := ⟨q - S.2.1 - 1, by omega⟩
        exact ⟨_, _, hws (j + 1) (by omega) _ (hesj j (by omega)), by rw [hcI]; exact hrowc _⟩
      · rcases xv_get_upd hq with ⟨rfl, rfl⟩ | ⟨hne, hq⟩
        · refine ⟨_, _, hws 0 (by omega) _ hes0, ?_⟩
          rw [hcO]
          refine xv_hc.arow (k := (a + 4, N, N, [xv_refs (S.2.1 + 1) N])) (by show a + 4 = 5 ∨ a + 4 = 6 ∨ a + 4 = 7; omega) (by show N ≤ 65536; omega) (fun i hi u hu => ?_)
          have hi : i < N := hi
          dsimp only at hu
          rw [Nat.mod_eq_of_lt hi, xv_get_eq, show i / 8 = 0 by omega, show i % 8 = i by omega] at hu
          obtain ⟨-, rfl⟩ := xv_refs_get N _ i u hu
          rw [if_pos hi]
          exact xv_hv.r (by have := has (i + 1) (by omega); rw [show S.2.1 + 1 + i = S.2.1 + (i + 1) by omega, show H.size + 1 + i = H.size + (i + 1) by omega]; exact this)
        · obtain ⟨a', x', e1, e2⟩ := hH.2 q k9 hq h9
          refine ⟨a', x', by rw [List.getElem?_append_left (List.getElem?_eq_some_iff.mp e1).1]; exact e1, e2.more ?_⟩
          rw [hm]; exact xv_pre_app
    have hW := h3 hcc hz ls (.ref H.size :: vst) F.heap locs _ (hR.new ⟨_, hm⟩ (xv_sm.cons (xv_hv.r (has 0 (by omega))) (hst2.more (by rw [hm]; exact xv_pre_app))) hP1 hD1 hS1 hH1)
    obtain ⟨tt, c1, c2⟩ := hW F rfl XF
    refine ⟨tt, hstep tt ?_, c2⟩
    have eT : T.heap.size = H.size := by rw [hT]
    rw [eT]
    exact c1
end XV6
