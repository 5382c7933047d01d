/-! cells -/
theorem xv_cls : ∀ (a : Nat) (q : vw_C), vwCl[a]? = some q → (∀ w ∈ u_ws q.1 q.2.1 q.2.2, w ∈ xv_tb) ∧ (∃ ty0 : Nat → FieldType, ∀ k, k < q.2.2 → parseFieldDescriptor (q.2.1 k).2.2.1 = some (ty0 k)) ∧ (∀ a, a < q.2.2 → ∀ b, b < q.2.2 → a ≠ b → (q.2.1 a).2.1 ≠ (q.2.1 b).2.1) ∧ Cond.instantiable q.1 q.2.2 ∈ xv_tb ∧ Cond.initialized q.1 ∈ xv_tb
  | 0, q, h => by cases (show some (RX0, TX0, 6) = some q from h); exact ⟨xv_in0, ⟨tyX0, tyX0_ok⟩, nmX0, xv_ia0, xv_it0⟩
  | 1, q, h => by cases (show some (RX1, TX1, 6) = some q from h); exact ⟨xv_in1, ⟨tyX1, tyX1_ok⟩, nmX1, xv_ia1, xv_it1⟩
  | 2, q, h => by cases (show some (RX2, TX2, 13) = some q from h); exact ⟨xv_in2, ⟨tyX2, tyX2_ok⟩, nmX2, xv_ia2, xv_it2⟩
  | 3, q, h => by cases (show some (RX3, TX3, 3) = some q from h); exact ⟨xv_in3, ⟨tyX3, tyX3_ok⟩, nmX3, xv_ia3, xv_it3⟩
  | 4, q, h => by cases (show some (RX4, TX4, 2) = some q from h); exact ⟨xv_in4, ⟨tyX4, tyX4_ok⟩, nmX4, xv_ia4, xv_it4⟩
  | 5, q, h => by cases (show some (RX5, TX5, 2) = some q from h); exact ⟨xv_in5, ⟨tyX5, tyX5_ok⟩, nmX5, xv_ia5, xv_it5⟩
  | 6, q, h => by cases (show some (RX6, TX6, 6) = some q from h); exact ⟨xv_in6, ⟨tyX6, tyX6_ok⟩, nmX6, xv_ia6, xv_it6⟩
  | 7, q, h => by cases (show some (RX7, TX7, 9) = some q from h); exact ⟨xv_in7, ⟨tyX7, tyX7_ok⟩, nmX7, xv_ia7, xv_it7⟩
  | 8, q, h => by cases (show some (RX8, TX8, 3) = some q from h); exact ⟨xv_in8, ⟨tyX8, tyX8_ok⟩, nmX8, xv_ia8, xv_it8⟩
  | 9, q, h => by cases (show some (RX9, TX9, 6) = some q from h); exact ⟨xv_in9, ⟨tyX9, tyX9_ok⟩, nmX9, xv_ia9, xv_it9⟩
  | 10, q, h => by cases (show some (RX10, TX10, 7) = some q from h); exact ⟨xv_in10, ⟨tyX10, tyX10_ok⟩, nmX10, xv_ia10, xv_it10⟩
  | 11, q, h => by cases (show some (RX11, TX11, 13) = some q from h); exact ⟨xv_in11, ⟨tyX11, tyX11_ok⟩, nmX11, xv_ia11, xv_it11⟩
  | 12, q, h => by cases (show some (RX12, TX12, 42) = some q from h); exact ⟨xv_in12, ⟨tyX12, tyX12_ok⟩, nmX12, xv_ia12, xv_it12⟩
  | n + 13, q, h => by simp [vwCl] at h
theorem xv_cell_eq {h : xv_A} {o : xv_V} {c : xv_C} (e : xv_cell h o = some c) : o.1 = 2 ∧ xv_get 14 h o.2.1.toNat = some c := by
  unfold xv_cell at e
  obtain ⟨b, e⟩ := xv_bt e
  exact ⟨xv_beq (xv_and_t b).1, e⟩
theorem xv_H.cell {t : Nat → ClassId} {sb : Nat} {h : xv_A} {n : Nat} {ws : va_W} (hH : xv_H t sb h n ws) {o : xv_V} {k : xv_C} {x0 : Value} (e : xv_cell h o = some k) (h9 : k.1 ≠ 99) (hv : xv_hv sb (ws.map Prod.fst) o x0) : ∃ (a : Nat) (x : va_E), x0 = .ref a ∧ ws[o.2.1.toNat]? = some (a, x) ∧ xv_hc t sb (ws.map Prod.fst) k x := by
  obtain ⟨e1, e2⟩ := xv_cell_eq e
  obtain ⟨a, x, h1, h2⟩ := hH.2 _ _ e2 h9
  obtain ⟨a', h3, rfl⟩ := hv.2.2.1 e1
  rw [List.getElem?_map, h1] at h3
  cases h3
  exact ⟨a, x, rfl, h1, h2⟩
theorem xv_isOne_eq {i : xv_V} (h : xv_isOne i = true) : i.2.2 ≤ i.2.1 ∧ 0 ≤ i.2.1 := by
  obtain ⟨a, b⟩ := xv_and_t h
  exact ⟨xv_le_iff.mp a, xv_le_iff.mp b⟩
theorem xv_read_eq {c : xv_C} {i v : xv_V} (h : xv_read c i = some v) : i.2.2 ≤ i.2.1 ∧ 0 ≤ i.2.1 ∧ i.2.1.toNat < c.2.1 ∧ xv_get 8 c.2.2.2 (i.2.1.toNat % c.2.2.1) = some v := by
  unfold xv_read at h
  obtain ⟨b, e⟩ := xv_bt h
  obtain ⟨b1, b2⟩ := xv_and_t b
  obtain ⟨q1, q2⟩ := xv_isOne_eq b1
  exact ⟨q1, q2, xv_ble b2, e⟩
theorem xv_write_ok {sb : Nat} {as : List Nat} {c c' : xv_C} {i v : xv_V} {g g' : Nat → Value} (h : xv_write c i v = some c') (hold : ∀ j : Nat, j < c.2.1 → ∀ u : xv_V, xv_get 8 c.2.2.2 (j % c.2.2.1) = some u → xv_hv sb as u (g j))
    (hnew : xv_hv sb as v (g' i.2.1.toNat)) (hsame : ∀ j : Nat, j ≠ i.2.1.toNat → g' j = g j) : i.2.2 ≤ i.2.1 ∧ 0 ≤ i.2.1 ∧ i.2.1.toNat < c.2.1 ∧ c'.1 = c.1 ∧ c'.2.1 = c.2.1 ∧ ∀ j : Nat, j < c.2.1 → ∀ u : xv_V, xv_get 8 c'.2.2.2 (j % c'.2.2.1) = some u → xv_hv sb as u (g' j) := by
  unfold xv_write at h
  obtain ⟨b, h⟩ := xv_bt h
  obtain ⟨b1, b2⟩ := xv_and_t b
  obtain ⟨q1, q2⟩ := xv_isOne_eq b1
  have q3 := xv_ble b2
  cases hb : Nat.beq c.2.1 c.2.2.1 with
  | true =>
    rw [hb] at h
    have hw := xv_beq hb
    cases h
    refine ⟨q1, q2, q3, rfl, rfl, fun j hj u hu => ?_⟩
    dsimp only at hu
    rw [← hw, Nat.mod_eq_of_lt hj] at hu
    rcases xv_get_upd hu with ⟨rfl, rfl⟩ | ⟨hne, hu⟩
    · exact hnew
    · rw [hsame j hne]
      exact hold j hj u (by rw [← hw, Nat.mod_eq_of_lt hj]; exact hu)
  | false =>
    rw [hb] at h
    simp only [cond_false] at h
    cases hg : xv_get 8 c.2.2.2 (i.2.1.toNat % c.2.2.1) with
    | none => rw [hg] at h; cases h
    | some u0 =>
      rw [hg] at h
      obtain ⟨b3, h⟩ := xv_bt h
      obtain ⟨b3, b4⟩ := xv_and_t b3
      have b3 := xv_beq b3
      have b4 := xv_ble b4
      cases h
      refine ⟨q1, q2, q3, rfl, rfl, fun j hj u hu => ?_⟩
      dsimp only at hu
      rcases xv_get_upd hu with ⟨ej, rfl⟩ | ⟨hne, hu⟩
      · by_cases hj2 : j = i.2.1.toNat
        · subst hj2
          exact xv_hv.join b3 b4 (Or.inr hnew)
        · rw [hsame j hj2]
          exact xv_hv.join b3 b4 (Or.inl (hold j hj u0 (by rw [ej]; exact hg)))
      · rw [hsame j (fun e => hne (by rw [e]))]
        exact hold j hj u hu
theorem xv_get_mem {α : Type} {R : Nat} {ll : List (List α)} {i : Nat} {u : α} (h : xv_get R ll i = some u) : ∃ l ∈ ll, u ∈ l := by
  rw [xv_get_eq] at h
  obtain ⟨l, h1, h2⟩ := Option.bind_eq_some_iff.mp h
  exact ⟨l, List.mem_of_getElem? h1, List.mem_of_getElem? h2⟩
theorem xv_rep_mem {α : Type} {n : Nat} {v u : α} (h : u ∈ xv_rep n v) : u = v := by
  induction n with
  | zero => cases h
  | succ n ih => exact (List.mem_cons.mp h).elim id ih
theorem xv_reps_mem {α : Type} {n : Nat} {v u : α} {l : List α} (h : l ∈ xv_reps n v) (hu : u ∈ l) : u = v := by
  unfold xv_reps at h
  generalize n / 8 = q at h
  induction q with
  | zero =>
    have e : l = xv_rep (n % 8) v := List.mem_singleton.mp h
    rw [e] at hu
    exact xv_rep_mem hu
  | succ q ih =>
    rcases List.mem_cons.mp h with e | h
    · rw [e] at hu; exact xv_rep_mem hu
    · exact ih h
theorem xv_row_ok {k n i : Nat} {z u : xv_V} (h : xv_get 8 (xv_row k n z).2.2.2 i = some u) : u = z := by
  obtain ⟨l, h1, h2⟩ := xv_get_mem h
  unfold xv_row at h1
  cases hb : Nat.ble n 64 with
  | true => rw [hb] at h1; exact xv_reps_mem h1 h2
  | false =>
    rw [hb] at h1
    have e : l = [z] := by simpa using h1
    rw [e] at h2
    simpa using h2
theorem xv_row_k (k n : Nat) (z : xv_V) : (xv_row k n z).1 = k ∧ (xv_row k n z).2.1 = n := by
  unfold xv_row
  cases Nat.ble n 64 with
  | true => exact ⟨rfl, rfl⟩
  | false => exact ⟨rfl, rfl⟩
theorem xv_zi {sb : Nat} {as : List Nat} : xv_hv sb as (0, 0, 0) (.int 0) := xv_hv.i ⟨rfl, by decide, by decide⟩
theorem xv_zl {sb : Nat} {as : List Nat} : xv_hv sb as (1, 0, 0) (.long 0) := xv_hv.l ⟨rfl, by decide, by decide⟩
theorem xv_zn {sb : Nat} {as : List Nat} : xv_hv sb as (3, 0, 0) .null := ⟨fun q => (by cases q), fun q => (by cases q), fun q => (by cases q), fun _ => rfl, fun q => (by cases q)⟩
section XV3
variable {p : Program} {l : Launch} {e : Env} {R : Room} {s : State} {m : MethodId} {args : Array Value} {below : List Frame} {meth : Method} {c : Code}
variable {cc : ByteArray} {own : String} {nL : Nat} {D : va_G} {t : Nat → ClassId} {A : Nat → Prop} {as0 : List Nat} {sb : Nat} {scr : List xv_V} {Q : xv_R → State → Prop} {k : xv_K} {pc : Nat} {L st : List xv_V} {S : xv_S} {r : xv_R}
theorem xv_Rl.new {st' : List xv_V} {S' : xv_S} {ls : Array Slot} {vst vst' : List Value} {H H' : Heap} {locs locs' : List Loc} {ws ws' : va_W} (hR : xv_Rl D t A s.heap as0 sb nL L st S ls vst H locs ws) (hm : ∃ mr, ws'.map Prod.fst = ws.map Prod.fst ++ mr) (hst : xv_sm sb (ws'.map Prod.fst) st' vst')
    (hP : va_P D vwCl ws' H') (hD : va_D A ws') (hS : va_S A s.heap H' locs') (hH : xv_H t sb S'.1 S'.2.1 ws') : xv_Rl D t A s.heap as0 sb nL L st' S' ls vst' H' locs' ws' := by
  obtain ⟨mr, hm⟩ := hm
  refine ⟨hR.1.more ?_, hst, hP, hD, hS, hH, ?_⟩
  · rw [hm]; exact xv_pre_app
  · obtain ⟨m1, h1⟩ := hR.2.2.2.2.2.2
    exact ⟨m1 ++ mr, by rw [hm, h1, List.append_assoc]⟩
theorem xs_getfield {index a b : Nat} {q : vw_C} (C : xv_Cx p s m args c cc own nL D t A sb scr) (hk : xv_G p l e R s m args below meth c D t A as0 sb nL Q k) (hd : decode cc pc = .ok (.getfield index, 3)) (hq : vwCl[a]? = some q) (hbn : b < q.2.2) (hw : Cond.fieldLink own index (q.2.1 b).1 (q.2.1 b).2.1 (q.2.1 b).2.2.1 ∈ xv_tb)
    (hr : (match st with | o :: z => (match xv_cell S.1 o with | some c => bif Nat.beq c.1 0 && Nat.beq c.2.1 a then xv_ldk k (pc + 3) L z S (xv_get 8 c.2.2.2 b) else none | none => none) | _ => none) = some r) : xv_T p l e R s m args below meth c D t A as0 sb nL Q pc L st S r := by
  match st, hr with
  | [], hr => cases hr
  | o :: z, hr =>
    dsimp only at hr
    cases hc : xv_cell S.1 o with
    | none => rw [hc] at hr; cases hr
    | some x =>
      rw [hc] at hr
      obtain ⟨b1, hr⟩ := xv_bt hr
      obtain ⟨b1, b2⟩ := xv_and_t b1
      have b1 := xv_beq b1
      have b2 := xv_beq b2
      obtain ⟨v, hv, hr⟩ := xs_ldk hr
      obtain ⟨h1, h2, h3⟩ := hk _ _ _ _ _ hr
      refine ⟨h1, h2, fun hcc hz ls vst H locs ws hR => ?_⟩
      obtain ⟨x0, vst, rfl, hx, hst⟩ := hR.2.1.un
      have hH := hR.2.2.2.2.2.1
      obtain ⟨ad, en, rfl, hen, hce⟩ := hH.cell hc (by omega) hx
      obtain ⟨fs, rfl, hl, hf⟩ := hce.1 b1
      obtain ⟨y, hy, hvy⟩ := hf b v hv
      rw [b2] at hen
      have hcl := xv_cls a q hq
      exact va_get C.1 C.2.1 C.2.2.2.2.1 hcl.1 C.2.2.2.1 C.2.2.2.2.2.1 hR.2.2.1 _ hen hq b hbn (C.2.2.2.2.1 _ hw) (fun _ h => h) hy hd (h3 hcc hz ls _ H locs ws ⟨hR.1, xv_sm.cons hvy hst, hR.2.2⟩)
def xv_ftk (d : String) (kd : Nat) : Bool := match parseFieldDescriptor d with
  | some .int => Nat.beq kd 0
  | some .long => Nat.beq kd 1
  | some (.object _) => Nat.beq kd 2
  | some (.array _) => Nat.beq kd 2
  | _ => false
theorem xv_ftk_ok {d : String} {v : xv_V} {as : List Nat} {y : Value} (h : xv_ftk d v.1 = true) (hv : xv_hv sb as v y) : ∃ ty, parseFieldDescriptor d = some ty ∧ narrow ty y = y ∧ fits ty y = true := by
  unfold xv_ftk at h
  cases hp : parseFieldDescriptor d with
  | none => rw [hp] at h; cases h
  | some ty =>
    rw [hp] at h
    refine ⟨ty, rfl, ?_⟩
    cases ty with
    | int => obtain ⟨i, rfl, -⟩ := hv.1 (xv_beq h); exact ⟨rfl, rfl⟩
    | long => obtain ⟨i, rfl, -⟩ := hv.2.1 (xv_beq h); exact ⟨rfl, rfl⟩
    | object _ => obtain ⟨i, -, rfl⟩ := hv.2.2.1 (xv_beq h); exact ⟨rfl, rfl⟩
    | array _ => obtain ⟨i, -, rfl⟩ := hv.2.2.1 (xv_beq h); exact ⟨rfl, rfl⟩
    | byte => cases h
    | char => cases h
    | double => cases h
    | float => cases h
    | short => cases h
    | boolean => cases h
theorem xs_putfield {index a b kd : Nat} {q : vw_C} (C : xv_Cx p s m args c cc own nL D t A sb scr) (hk : xv_G p l e R s m args below meth c D t A as0 sb nL Q k) (hd : decode cc pc = .ok (.putfield index, 3)) (hq : vwCl[a]? = some q) (hbn : b < q.2.2) (hw : Cond.fieldLink own index (q.2.1 b).1 (q.2.1 b).2.1 (q.2.1 b).2.2.1 ∈ xv_tb)
    (hkd : xv_ftk (q.2.1 b).2.2.1 kd = true) (hfin : (q.2.1 b).2.2.2 = false ∨ ((q.2.1 b).2.2.2 = true ∧ meth.name = "<init>" ∧ (q.2.1 b).1 = own))
    (hr : (match st with | x :: o :: z => (match xv_cell S.1 o with | some c => bif Nat.beq c.1 0 && (Nat.beq c.2.1 a && (Nat.ble (b + 1) c.2.2.1 && Nat.beq x.1 kd)) then k (pc + 3) L z (xv_upd 14 S.1 o.2.1.toNat (c.1, c.2.1, c.2.2.1, xv_upd 8 c.2.2.2 b x), S.2) else none | none => none) | _ => none) = some r) : xv_T p l e R s m args below meth c D t A as0 sb nL Q pc L st S r := by
  match st, hr with
  | [], hr => cases hr
  | [_], hr => cases hr
  | v :: o :: z, hr =>
    dsimp only at hr
    cases hc : xv_cell S.1 o with
    | none => rw [hc] at hr; cases hr
    | some x =>
      rw [hc] at hr
      obtain ⟨b1, hr⟩ := xv_bt hr
      obtain ⟨b1, b2⟩ := xv_and_t b1
      obtain ⟨b2, b3⟩ := xv_and_t b2
      obtain ⟨b3, b4⟩ := xv_and_t b3
      have b1 := xv_beq b1
      have b2 := xv_beq b2
      have b3 := xv_ble b3
      have b4 := xv_beq b4
      obtain ⟨h1, h2, h3⟩ := hk _ _ _ _ _ hr
      refine ⟨h1, h2, fun hcc hz ls vst H locs ws hR => ?_⟩
      obtain ⟨y, vst, rfl, hy, hst⟩ := hR.2.1.un
      obtain ⟨x0, vst, rfl, hx, hst2⟩ := hst.un
      have hH := hR.2.2.2.2.2.1
      obtain ⟨ad, en, rfl, hen, hce⟩ := hH.cell hc (by omega) hx
      obtain ⟨fs, rfl, hl, hf⟩ := hce.1 b1
      have hcl := xv_cls a q hq
      obtain ⟨ty0, hty0⟩ := hcl.2.1
      rw [← b4] at hkd
      obtain ⟨ty, hpd, hnar, hfit⟩ := xv_ftk_ok hkd hy
      have hen' := hen
      rw [b2] at hen
      have hkk : ∀ (H1 : Heap) (locs1 : List Loc), va_P D vwCl (ws.set o.2.1.toNat (ad, .inr (a, fs.set b y))) H1 → va_D A (ws.set o.2.1.toNat (ad, .inr (a, fs.set b y))) → va_S A s.heap H1 locs1 → W p l e R s m args below meth c H1 locs1 S.2.2.1 S.2.2.2 (Q r) (F0 m (pc + 3) ls vst) := by
        intro H1 locs1 hP1 hD1 hS1
        refine h3 hcc hz ls vst H1 locs1 _ (hR.new ⟨[], ?_⟩ ?_ hP1 hD1 hS1 ?_)
        · rw [xv_fst_set hen, List.append_nil]
        · rw [xv_fst_set hen]; exact hst2
        · refine hH.set hen ⟨fun _ => ⟨fs.set b y, by rw [← b2], by rw [List.length_set]; exact hl, fun b' v' hb' => ?_⟩, fun w => ?_, fun w => ?_, fun w => ?_, fun w => ?_⟩
          · rcases xv_get_upd hb' with ⟨rfl, rfl⟩ | ⟨hne, hb'⟩
            · exact ⟨y, by rw [List.getElem?_set_self (by omega)], hy⟩
            · obtain ⟨y', hy', hv'⟩ := hf b' v' hb'
              exact ⟨y', by rw [List.getElem?_set_ne (fun e => hne e.symm)]; exact hy', hv'⟩
          · dsimp only at w; omega
          · dsimp only at w; omega
          · dsimp only at w; omega
          · dsimp only at w; omega
      rcases hfin with hfin | ⟨hfin, hin2, hdecl⟩
      · exact va_put C.1 C.2.1 C.2.2.2.2.1 hcl.1 ty0 hty0 hcl.2.2.1 C.2.2.2.1 C.2.2.2.2.2.1 hR.2.2.1 hR.2.2.2.1 hR.2.2.2.2.1 _ hen hq b hbn (C.2.2.2.2.1 _ hw) (fun _ h => h) hfin hpd hnar hfit (by omega) hd hkk
      · exact va_putF C.1 C.2.1 C.2.2.2.2.1 hcl.1 ty0 hty0 hcl.2.2.1 C.2.2.2.1 C.2.2.2.2.2.1 hR.2.2.1 hR.2.2.2.1 hR.2.2.2.2.1 _ hen hq b hbn (C.2.2.2.2.1 _ hw) (fun _ h => h) hfin hin2 hdecl hpd hnar hfit (by omega) hd hkk
end XV3
