/-! copies -/
section XY7
variable {p : Program} {l : Launch} {e : Env} {R : Room} {s : State} {m : MethodId} {args : Array Value} {below : List Frame} {meth : Method} {c : Code}
variable {e0 : (Nat → Int) × Nat} {cc : ByteArray} {own : String} {nL : Nat} {D : va_G} {t : Nat → ClassId} {A : Nat → Prop} {hl : Nat × Int} {Γ : xv_A} {X : xw_X} {xs : Nat → Int32} {ws0 : va_W} {gh : List xw_L} {gz : Nat → Int} {fh : Nat → Option xw_H} {cs sl : Nat} {Q : State → Prop} {act : List xw_A} {k : xw_K} {pc : Nat} {L st : List xw_V} {S : xw_S}
theorem xy_rows {as : List Nat} {ρ : Nat → Int} {n : Nat} {o : xw_V} {x : Value} {p0 : Nat × Nat × xv_C} (h : xw_rows Γ o = some p0) (hv : xw_hv X as ρ n o x) : ∃ j a d, j < p0.2.1 ∧ as[p0.1 + j]? = some a ∧ x = .ref a ∧ xv_get 14 Γ (p0.1 + j) = some d ∧ d.1 = p0.2.2.1 ∧ d.2.1 = p0.2.2.2.1 ∧ d.2.2.1 = 1 ∧ ∀ u, xv_get 8 p0.2.2.2.2.2 0 = some u → xv_get 8 d.2.2.2 0 = some u := by
  unfold xw_rows at h
  obtain ⟨-, h⟩ := xv_bt h
  cases hc : xv_get 14 Γ o.2.1.toNat with
  | none => rw [hc] at h; cases h
  | some c =>
    rw [hc] at h
    dsimp only at h
    cases h2 : (Nat.beq o.1 2 && Nat.beq c.2.2.1 1) with
    | true =>
      rw [h2] at h
      cases h
      obtain ⟨b1, b2⟩ := xv_and_t h2
      obtain ⟨a, h1, h2⟩ := hv.2.2.1 (xv_beq b1)
      exact ⟨0, a, c, Nat.lt_succ_self 0, h1, h2, hc, rfl, rfl, xv_beq b2, fun _ w => w⟩
    | false =>
      rw [h2] at h
      simp only [cond_false] at h
      obtain ⟨b, e⟩ := xv_bt h
      cases e
      obtain ⟨b1, b⟩ := xv_and_t b
      obtain ⟨b2, b3⟩ := xv_and_t b
      obtain ⟨j, a, j1, ha, hx⟩ := hv.2.2.2.2.1 (xv_beq b1)
      obtain ⟨d, u, w, d1, d2, d3, d4, d5, d6, d7, d8⟩ := xw_like_ok b3 j j1
      refine ⟨j, a, d, j1, ha, hx, d1, d2, d3, d4, fun u' hu' => ?_⟩
      dsimp only at hu'
      rw [d6] at hu'
      cases hu'
      rw [d5, d7]
theorem xw_cats_ok {as : List Nat} {ρ : Nat → Int} {n : Nat} : ∀ {st : List xw_V} {vst : List Value}, xw_sk X as ρ n st vst → xw_cats st ≤ 8 → (vst.map fun v => v.category).sum ≤ xw_cats st
  | [], [], _, _ => Nat.le_refl _
  | [], _ :: _, h, _ => False.elim h
  | _ :: _, [], h, _ => False.elim h
  | v :: st, x :: vst, h, h8 => by
    have e : xw_cats (v :: st) = xw_cat v + xw_cats st := rfl
    rw [e] at h8 ⊢
    have ih := xw_cats_ok h.2 (by omega)
    have hc : x.category ≤ xw_cat v := by
      unfold xw_cat at h8 ⊢
      cases hb : Nat.beq v.1 1 with
      | true =>
        simp only [cond_true]
        rcases lv_cat x with q | q <;> rw [q] <;> omega
      | false =>
        rw [hb] at h8
        simp only [cond_false] at h8 ⊢
        cases hb2 : Nat.ble v.1 7 with
        | false => rw [hb2] at h8; simp only [cond_false] at h8; omega
        | true =>
          simp only [cond_true]
          have hne : v.1 ≠ 1 := fun q => by rw [q] at hb; cases hb
          rw [xy_cat1 h.1 (xv_ble hb2) hne]
          exact Nat.le_refl 1
    simp only [List.map_cons, List.sum_cons]
    omega
theorem xy_wide {sb : Nat} {as : List Nat} {u v : xv_V} {x : Value} (h : xv_hv sb as u x) (e : u.1 = v.1) (h1 : u.1 ≤ 1) (h2 : v.2.1 ≤ u.2.1) (h3 : u.2.2 ≤ v.2.2) : xv_hv sb as v x := by
  rcases Nat.le_one_iff_eq_zero_or_eq_one.mp h1 with q | q
  · obtain ⟨i, rfl, i1, i2⟩ := h.1 q
    exact xv_hv.i ⟨by omega, by omega, by omega⟩
  · obtain ⟨i, rfl, i1, i2⟩ := h.2.1 q
    exact xv_hv.l ⟨by omega, by omega, by omega⟩
theorem xy_cpv {α : Type} {f g : Nat → α} {sp dp n i n1 n2 : Nat} {P : α → Prop} (hf : ∀ j, j < n1 → P (f j)) (hg : ∀ j, j < n2 → P (g j)) (h1 : sp + n ≤ n1) (hi : i < n2) : P (va_cpy f g sp dp n i) := by
  unfold va_cpy
  by_cases q : dp ≤ i ∧ i < dp + n
  · rw [if_pos q]; exact hf _ (by omega)
  · rw [if_neg q]; exact hg _ hi
theorem xy_copy {index : Nat} (C : xw_Cx p s m args c cc own nL D t A X xs Γ) (hk : (∀ pc' L' st' S', k pc' L' st' S' = true → xw_Tj e0 D t A s.heap hl Γ X xs ws0 nL gh gz fh (fun pc ls vst H locs => W p l e R s m args below meth c H locs cs sl Q (F0 m pc ls vst)) act pc' L' st' S')) (hd : decode cc pc = .ok (.invokestatic index, 3)) (hRm : 1 ≤ R.frames ∧ 26 ≤ R.locals) (hw : Cond.methodLink own index arraycopyName ∈ xv_tb) (hw2 : Cond.native arraycopyName ∈ xv_tb) (hw3 : Cond.static arraycopyName ∈ xv_tb) (hw4 : Cond.initialized "java/lang/System" ∈ xv_tb)
    (h : (match st with
      | n :: dp :: d :: sp :: o :: r => bif Nat.ble (xw_cats r) 8 then xw_copy hl Γ S n dp d sp o (fun S' => k (pc + 3) L r S') else false
      | _ => false) = true) : xw_Tj e0 D t A s.heap hl Γ X xs ws0 nL gh gz fh (fun pc ls vst H locs => W p l e R s m args below meth c H locs cs sl Q (F0 m pc ls vst)) act pc L st S := by
  match st, h with
  | [], h => cases h
  | [_], h => cases h
  | [_, _], h => cases h
  | [_, _, _], h => cases h
  | [_, _, _, _], h => cases h
  | n :: dp :: d :: sp :: o :: z, h =>
    dsimp only at h
    cases h8 : Nat.ble (xw_cats z) 8 with
    | false => rw [h8] at h; cases h
    | true =>
      rw [h8] at h
      simp only [cond_true] at h
      have h8 := xv_ble h8
      unfold xw_copy at h
      cases hp : xw_rows Γ o with
      | none => rw [hp] at h; cases h
      | some pp =>
        cases hq : xw_rows Γ d with
        | none => rw [hp, hq] at h; cases h
        | some qq =>
          rw [hp, hq] at h
          dsimp only at h
          cases hu : xv_get 8 pp.2.2.2.2.2 0 with
          | none => rw [hu] at h; cases h
          | some u =>
            cases hv : xv_get 8 qq.2.2.2.2.2 0 with
            | none => rw [hu, hv] at h; cases h
            | some v =>
              rw [hu, hv] at h
              dsimp only at h
              cases hb : (Nat.beq n.1 0 && (Nat.beq dp.1 0 && (Nat.beq sp.1 0 && (Nat.beq pp.2.2.1 qq.2.2.1 && ((Nat.beq pp.2.2.1 1 || Nat.beq pp.2.2.1 4) && (Nat.beq u.1 v.1 && (Nat.ble u.1 1 && (xv_le v.2.1 u.2.1 && (xv_le u.2.2 v.2.2 && (xw_prove S n.2 && (xw_prove S sp.2 && (xw_prove S dp.2 && (xw_prove S (xw_k (xw_neg (xw_add sp.2 n.2)) (Int.ofNat pp.2.2.2.1)) && (xw_prove S (xw_k (xw_neg (xw_add dp.2 n.2)) (Int.ofNat qq.2.2.2.1)) && !(Nat.ble qq.1 hl.1 && Nat.ble (hl.1 + 1) (qq.1 + qq.2.1)))))))))))))))) with
              | false => rw [hb] at h; cases h
              | true =>
                rw [hb] at h
                simp only [cond_true] at h
                obtain ⟨b1, hb⟩ := xv_and_t hb
                obtain ⟨b2, hb⟩ := xv_and_t hb
                obtain ⟨b3, hb⟩ := xv_and_t hb
                obtain ⟨b4, hb⟩ := xv_and_t hb
                obtain ⟨b5, hb⟩ := xv_and_t hb
                obtain ⟨b6, hb⟩ := xv_and_t hb
                obtain ⟨b7, hb⟩ := xv_and_t hb
                obtain ⟨b8, hb⟩ := xv_and_t hb
                obtain ⟨b9, hb⟩ := xv_and_t hb
                obtain ⟨b10, hb⟩ := xv_and_t hb
                obtain ⟨b11, hb⟩ := xv_and_t hb
                obtain ⟨b12, hb⟩ := xv_and_t hb
                obtain ⟨b13, hb⟩ := xv_and_t hb
                obtain ⟨b14, b15⟩ := xv_and_t hb
                have b4 := xv_beq b4
                have b6 := xv_beq b6
                have b8 := xv_le_iff.mp b8
                have b9 := xv_le_iff.mp b9
                intro ρ ls vst H locs ws hR hG hH
                obtain ⟨n0, vst, rfl, hn, hst1⟩ := hR.2.1.un
                obtain ⟨dp0, vst, rfl, hdp, hst2⟩ := hst1.un
                obtain ⟨d0, vst, rfl, hdd, hst3⟩ := hst2.un
                obtain ⟨sp0, vst, rfl, hsp, hst4⟩ := hst3.un
                obtain ⟨o0, vst, rfl, ho, hst5⟩ := hst4.un
                obtain ⟨ni, rfl, hn'⟩ := hn.1 (xv_beq b1)
                obtain ⟨di, rfl, hdp'⟩ := hdp.1 (xv_beq b2)
                obtain ⟨si, rfl, hsp'⟩ := hsp.1 (xv_beq b3)
                obtain ⟨j1, a1, d1, jl1, ha1, rfl, hd1, e11, e12, e13, e14⟩ := xy_rows hp ho
                obtain ⟨j2, a2, d2, jl2, ha2, rfl, hd2, e21, e22, e23, e24⟩ := xy_rows hq hdd
                have hS := hR.2.2.2.1
                have hWl := hR.2.2.1
                have p1 := xw_prove_ok hS b10 hn'
                have p2 := xw_prove_ok hS b11 hsp'
                have p3 := xw_prove_ok hS b12 hdp'
                have p4 := xw_prove_ok hS b13 ((hsp'.add hn').neg.k _)
                have p5 := xw_prove_ok hS b14 ((hdp'.add hn').neg.k _)
                have i1 : Int.ofNat pp.2.2.2.1 = (pp.2.2.2.1 : Int) := rfl
                have i2 : Int.ofNat qq.2.2.2.1 = (qq.2.2.2.1 : Int) := rfl
                have nn : ∀ w : Int32, 0 ≤ w.toInt → ¬ w < 0 := fun w hw0 hlt => by
                  have := Int32.lt_iff_toInt_lt.mp hlt
                  rw [show (0 : Int32).toInt = 0 by decide] at this
                  omega
                have tn : ∀ w : Int32, w.toNatClampNeg = w.toInt.toNat := fun _ => rfl
                have hk14 : pp.2.2.1 = 1 ∨ pp.2.2.1 = 4 := ((Bool.or_eq_true _ _).mp b5).elim (fun w => Or.inl (xv_beq w)) (fun w => Or.inr (xv_beq w))
                obtain ⟨en1, hen1, hce1⟩ := xy_at hWl.2.2.2.1.1 hd1 (by omega) ha1
                obtain ⟨en2, hen2, hce2⟩ := xy_at hWl.2.2.2.1.1 hd2 (by omega) ha2
                have hcat := xw_cats_ok hst5 h8
                have hne : qq.1 + j2 ≠ hl.1 := fun w => by
                  have c1 : Nat.ble qq.1 hl.1 = true := Nat.ble_eq.mpr (by omega)
                  have c2 : Nat.ble (hl.1 + 1) (qq.1 + qq.2.1) = true := Nat.ble_eq.mpr (by omega)
                  rw [c1, c2] at b15; cases b15
                have h65 := hce2.2.2.2.2 (by omega)
                rcases hk14 with hk1 | hk4
                · obtain ⟨f, rfl, hf⟩ := hce1.2.1 (by omega)
                  obtain ⟨g, rfl, hg⟩ := hce2.2.1 (by omega)
                  have en1' := hen1
                  have en2' := hen2
                  rw [e11, hk1] at en1'
                  rw [e21, ← b4, hk1] at en2'
                  refine va_copyi C.1 C.2.1 (by rw [C.2.2.1]; exact hR.1.2.elim fun lv h => h.1.1.symm) C.2.2.2.1 (C.2.2.2.2.1 _ hw) (C.2.2.2.2.1 _ hw2) (C.2.2.2.2.1 _ hw3) (C.2.2.2.2.1 _ hw4) C.2.2.2.2.2.1 hWl.1 hWl.2.1 hWl.2.2.1 _ _ 0 0 en1' en2' rfl rfl rfl (nn _ p2) (nn _ p3) (nn _ p1) (by rw [tn, tn]; omega) (by rw [tn, tn]; omega) (fun _ _ => rfl) hRm.1 (by rw [show nativeFrameWords "java/lang/System" "arraycopy" 5 = 7 by decide]; omega) hd (fun H1 locs1 hP1 hD1 hS1 => ?_)
                  refine xy_kl (r := qq.1 + j2) C hk hR hG hH h hst5 rfl jl2 (xy_ne9 C hd2) hen2 hne (fun cq hcq _ => ?_) hP1 hD1 hS1
                  rw [hd2] at hcq
                  cases hcq
                  rw [show (t 1 : ClassId) = t d2.1 by rw [e21, ← b4, hk1]]
                  refine xv_hc.irow (by omega) h65 (fun i hi w hw' => ?_)
                  rw [e23, Nat.mod_one, e24 v hv] at hw'
                  cases hw'
                  refine xy_cpv (P := fun y => xv_hv X.1 (ws.map Prod.fst) v (.int y)) (n1 := d1.2.1) (n2 := d2.2.1) (fun j hj => ?_) (fun j hj => ?_) (by rw [tn, tn]; omega) hi
                  · have hh := hf j hj u (by rw [e13, Nat.mod_one]; exact e14 u hu)
                    exact xy_wide hh b6 (xv_ble b7) b8 b9
                  · exact hg j hj v (by rw [e23, Nat.mod_one]; exact e24 v hv)
                · obtain ⟨f, rfl, hf⟩ := hce1.2.2.1 (by omega)
                  obtain ⟨g, rfl, hg⟩ := hce2.2.2.1 (by omega)
                  have en1' := hen1
                  have en2' := hen2
                  rw [e11, hk4] at en1'
                  rw [e21, ← b4, hk4] at en2'
                  refine va_copyl C.1 C.2.1 (by rw [C.2.2.1]; exact hR.1.2.elim fun lv h => h.1.1.symm) C.2.2.2.1 (C.2.2.2.2.1 _ hw) (C.2.2.2.2.1 _ hw2) (C.2.2.2.2.1 _ hw3) (C.2.2.2.2.1 _ hw4) C.2.2.2.2.2.1 hWl.1 hWl.2.1 hWl.2.2.1 _ _ 3 3 en1' en2' rfl rfl rfl (nn _ p2) (nn _ p3) (nn _ p1) (by rw [tn, tn]; omega) (by rw [tn, tn]; omega) (fun _ _ => rfl) hRm.1 (by rw [show nativeFrameWords "java/lang/System" "arraycopy" 5 = 7 by decide]; omega) hd (fun H1 locs1 hP1 hD1 hS1 => ?_)
                  refine xy_kl (r := qq.1 + j2) C hk hR hG hH h hst5 rfl jl2 (xy_ne9 C hd2) hen2 hne (fun cq hcq _ => ?_) hP1 hD1 hS1
                  rw [hd2] at hcq
                  cases hcq
                  rw [show (t 4 : ClassId) = t d2.1 by rw [e21, ← b4, hk4]]
                  refine xv_hc.lrow (by omega) h65 (fun i hi w hw' => ?_)
                  rw [e23, Nat.mod_one, e24 v hv] at hw'
                  cases hw'
                  refine xy_cpv (P := fun y => xv_hv X.1 (ws.map Prod.fst) v (.long y)) (n1 := d1.2.1) (n2 := d2.2.1) (fun j hj => ?_) (fun j hj => ?_) (by rw [tn, tn]; omega) hi
                  · have hh := hf j hj u (by rw [e13, Nat.mod_one]; exact e14 u hu)
                    exact xy_wide hh b6 (xv_ble b7) b8 b9
                  · exact hg j hj v (by rw [e23, Nat.mod_one]; exact e24 v hv)
end XY7
