/-! THE CLAIM OUT OF ONE WALK OF THE LAW'S BODY. Your part is whole_start (and what it stands on); all else here is the same for every law, but numbers. -/
def R_law : String := "PassedPenanceLaw"
def lw_P (b : Addr) (xs : List Int32) (args : Array Value) (s : State) : Prop := args = #[.ref b] ∧ s.IntsAt b xs ∧ xs.length ≤ 3072 ∧ (Jvm.Cond.and given_1 narrow_1).before args s = true
def lw_Q (_ : Array Value) (s : State) (o : Outcome) (t : State) : Prop := o = .returned (some (.int 1)) ∧ Framed s o t [] 600000 7302250
def lw_Z (below : List Frame) (a : Array Value) (s : State) : State → Prop := fun t => ∃ o, t.status = .running ∧ Ended t below o ∧ lw_Q a s o t
/-- the law's own end, with 1 on the stack, nothing written that was there before, its room as the claim has it -/
theorem lw_ret {p : Program} {l : Launch} {e : Env} {s : State} {m : MethodId} {below : List Frame} {meth : Method} {c : Code} {b : Nat} (hx : p.tables.exec = Jvm.exec) (hb : c.code = code) (hr : meth.sig.returnType = ret) (hlocks : meth.locks = false) {pc : Nat} {H : Heap} {ls : Array Slot} (hdg : decode code pc = .ok (.ireturn, 1)) : W p l e room_1 s m #[Value.ref b] below meth c H [] 600000 7302250 (lw_Z below #[Value.ref b] s) (F0 m pc ls [.int 1]) := by
  intro T hT X
  obtain ⟨fs, hret, hrun, hended, hW, hframe⟩ := X.leave (v := some (.int 1)) (hlocks := hlocks) (fun h => by rw [hr] at h; cases h)
  have hmeth' : T.vm.method? m = some meth := X.method'
  refine ⟨T.setFrames fs, ?_, .returned (some (.int 1)), hrun, hended, rfl, ⟨_, rfl⟩, hW, hframe⟩
  jvm_step X.here [X.here.top, hx, hb, hdg, hmeth', hr, ret, narrow_b1]
  (try refine ⟨rfl, ?_⟩); (try refine ⟨rfl, ?_⟩)
  first | (intro acts; rw [hret _ acts rfl rfl rfl]) | rw [hret _ _ rfl rfl rfl]
  exact Steps.refl _
/-- what holds at the law's entry: the machine, the code, the tables' words (any of lw_tbl by 'hts w (by decide +kernel)'), the script of L ints xs at the cell b, what the Statement gives of the start (any of its parts by flat_of_before) -/
def lw_At (p : Program) (s : State) (m : MethodId) (meth : Method) (c : Code) (b L : Nat) (xs : Nat → Int32) : Prop :=
  p.tables.exec = Jvm.exec ∧ c.code = code ∧ meth.sig.returnType = ret ∧ c.maxLocals = 4 ∧ s.vm.findClass R_law = some m.cls ∧ (∀ w ∈ lw_tbl, w.before #[Value.ref b] s = true) ∧ va_X b L xs s s.heap ∧ b < s.heap.size ∧ meth.locks = false ∧ (Jvm.Cond.and given_1 narrow_1).before #[Value.ref b] s = true
theorem xl_W {p : Program} {l : Launch} {e : Env} {R : Room} {s : State} {m : MethodId} {args : Array Value} {below : List Frame} {meth : Method} {c : Code} {H : Heap} {locs : List Loc} {a b : Nat} {Q Q' : State → Prop} {g : JFrame} (hQ : ∀ t, Q t → Q' t) (h : W p l e R s m args below meth c H locs a b Q g) : W p l e R s m args below meth c H locs a b Q' g := fun T hT X => by
  obtain ⟨t, h1, h2⟩ := h T hT X
  exact ⟨t, h1, hQ t h2⟩
theorem xl_any {p : Program} {l : Launch} {e : Env} {R : Room} {s : State} {m : MethodId} {args : Array Value} {below : List Frame} {meth : Method} {c : Code} {H : Heap} {locs : List Loc} {a b : Nat} {Q : State → Prop} {g : JFrame} (hQ : ∀ t, Q t) : W p l e R s m args below meth c H locs a b Q g := fun T _ _ => ⟨_, Steps.refl _, hQ _⟩
/-- the classes and the rows' classes, out of the tables -/
theorem xl_K {s : State} {args : Array Value} (hts : ∀ w ∈ lw_tbl, w.before args s = true) : ∃ (D : va_G) (t : Nat → ClassId), va_K D vwCl (xv_tys t) s ∧ xv_Ex s := by
  have htb : ∀ w ∈ xv_tb, w.before args s = true := fun w hw => hts w (List.mem_filter.mp hw).1
  have hex : ∀ k : Nat, ∃ z : ClassId × (Nat → Nat), ∀ q : vw_C, vwCl[k]? = some q → u_Kn s q.1 q.2.1 q.2.2 z.1 z.2 := fun k => by
    cases hq : vwCl[k]? with
    | none => exact ⟨(0, fun _ => 0), fun q h => (by cases h)⟩
    | some q =>
      obtain ⟨h1, -, -, h4, -⟩ := xv_cls k q hq
      obtain ⟨cC, iS, h⟩ := u_known (C := q.1) (T := q.2.1) (N := q.2.2) (n := q.2.2) htb h1 (htb _ h4)
      exact ⟨(cC, iS), fun q' e => by cases e; exact h⟩
  obtain ⟨f, hf⟩ := Classical.axiomOfChoice hex
  have prim : ∀ ty : FieldType, Cond.arrayClass ty ∈ lw_tbl → ∃ cA : ClassId, ArrOfT s cA ty ∧ s.vm.findClass (FieldType.array ty).toString = some cA := fun ty h => by
    obtain ⟨comp, k, cc, h1, h2, h3⟩ := Cond.arrayClass_spec (hts _ h)
    exact ⟨comp, fun N z => ⟨fun q hq => (by cases hq), k, h2, cc, h3⟩, h1⟩
  obtain ⟨a1, p1, q1⟩ := prim .int (List.mem_filter.mp (xv_at_ok (p := 221) (by decide +kernel))).1
  obtain ⟨a2, p2, q2⟩ := prim .byte (List.mem_filter.mp (xv_at_ok (p := 688) (by decide +kernel))).1
  obtain ⟨a3, p3, q3⟩ := prim .boolean (List.mem_filter.mp (xv_at_ok (p := 1477) (by decide +kernel))).1
  obtain ⟨a4, p4, q4⟩ := prim .long (List.mem_filter.mp (xv_at_ok (p := 312) (by decide +kernel))).1
  have o1 := xm_over (hts _ xv_ao_in.2.1)
  have o2 := xm_over (hts _ xv_ao_in.2.2)
  have oI := hts _ xv_ao_in.1
  obtain ⟨c5, a5, k5, r1, r2, r3, r4⟩ := id o1
  obtain ⟨c6, a6, k6, s1, s2, s3, s4⟩ := id o2
  obtain ⟨c7, a7, k7, t1, -, t3, t4, t5⟩ := Cond.arrayOver_spec oI
  refine ⟨(fun k => (f k).1, fun k => (f k).2), fun k => match k with
    | 1 => a1
    | 2 => a2
    | 3 => a3
    | 4 => a4
    | 5 => a5
    | 6 => a6
    | _ => a7, ⟨fun k q hq => hf k q hq, fun k q hq => ?_⟩, fun q hq => va_Nw.of rfl (hts _ (xv_nest_in q hq)), va_AO.of oI, o1, o2⟩
  match k, hq with
  | 0, hq => cases hq; exact ⟨p1, q1⟩
  | 1, hq => cases hq; exact ⟨p2, q2⟩
  | 2, hq => cases hq; exact ⟨p3, q3⟩
  | 3, hq => cases hq; exact ⟨p4, q4⟩
  | 4, hq => cases hq; exact ⟨fun N z => ⟨fun q hq => (by cases hq), k5, r2, c5, r3⟩, r4⟩
  | 5, hq => cases hq; exact ⟨fun N z => ⟨fun q hq => (by cases hq), k6, s2, c6, s3⟩, s4⟩
  | 6, hq => cases hq; exact ⟨fun N z => ⟨fun q hq => (by cases hq), k7, t3, c7, t4⟩, k7, c7, t3, t4, t1, t5⟩
  | k + 7, hq => simp [xv_tys] at hq
def xl_noput : Instr → Bool
  | .putfield _ => false
  | _ => true
set_option maxRecDepth 100000 in
theorem xl_np : xt_332.all (fun x => xl_noput x.2.1) = true := by decide +kernel
theorem xl_law (nm : String) : ∀ x ∈ xt_332, xv_okE code RL nm (some .boolean) (xv_JI xt_J) x := fun x hx => by
  obtain ⟨h1, h2, h3⟩ := xt_law x hx
  have h4 := List.all_eq_true.mp xl_np x hx
  refine ⟨h1, h2, ?_⟩
  obtain ⟨pc, ins, len, a, b, p, v⟩ := x
  dsimp only at h3 h4 ⊢
  cases ins
  case putfield => cases h4
  all_goals exact h3
noncomputable def xl_q1 : Option xv_R := xv_run (xv_calls xt_M 100000 6) [] 19 xt_332 100000 xt_332 0 [(5, 0, 0), xv_un, xv_un, xv_un] [] (xv_h0, 0, 0, 0)
noncomputable def xl_hlB (h : xv_A) : Bool := match xv_get 14 h 126 with
  | some k => Nat.beq k.1 1 && (Nat.beq k.2.1 7 && xl_all 7 (fun i => match xv_get 8 k.2.2.2 (i % k.2.2.1) with
    | some v => Nat.beq v.1 0 && (xv_le (-1) v.2.1 || xv_le v.2.2 (-3))
    | none => false))
  | none => false
noncomputable def xl_cv (h : xv_A) (c n : Nat) (z : Int) : Bool := match xv_get 14 h c with
  | some k => (Nat.beq k.1 1 || Nat.beq k.1 3) && (Nat.beq k.2.1 n && xl_all n (fun i => match xv_get 8 k.2.2.2 (i % k.2.2.1) with
    | some v => Nat.beq v.1 0 && (xv_le z v.2.1 && xv_le v.2.2 z)
    | none => false))
  | none => false
theorem xl_cv_ok {t : Nat → ClassId} {sb c n : Nat} {z : Int} {h : xv_A} {ws : va_W} (h1 : xl_cv h c n z = true) (hH : xv_H t sb h 127 ws) : ∀ j, j < n → xw_n0 (xw_ct ws c j) = z := fun j hj => by
  unfold xl_cv at h1
  cases hk : xv_get 14 h c with
  | none => rw [hk] at h1; cases h1
  | some k =>
    rw [hk] at h1
    dsimp only at h1
    obtain ⟨k1, h1⟩ := xv_and_t h1
    obtain ⟨k2, h1⟩ := xv_and_t h1
    have k2 := xv_beq k2
    have k1 : k.1 = 1 ∨ k.1 = 2 ∨ k.1 = 3 := by
      rcases (Bool.or_eq_true _ _).mp k1 with q | q
      · exact Or.inl (xv_beq q)
      · exact Or.inr (Or.inr (xv_beq q))
    obtain ⟨a, x, e1, e2⟩ := hH.2 c k hk (by omega)
    obtain ⟨f, rfl, hf⟩ := e2.2.1 k1
    have g := xl_all_ok h1 j hj
    cases hv : xv_get 8 k.2.2.2 (j % k.2.2.1) with
    | none => rw [hv] at g; cases g
    | some v =>
      rw [hv] at g
      dsimp only at g
      obtain ⟨g1, g2⟩ := xv_and_t g
      obtain ⟨g2, g3⟩ := xv_and_t g2
      have g2 := xv_le_iff.mp g2
      have g3 := xv_le_iff.mp g3
      obtain ⟨i, ei, i1, i2⟩ := (hf j (by omega) v hv).1 (xv_beq g1)
      cases ei
      have ect : xw_ct ws c j = .int (f j) := by
        unfold xw_ct
        rw [e1]
        rfl
      rw [ect]
      show (f j).toInt = z
      omega
noncomputable def xl_q1B (r : Option xv_R) : Bool := match r with
  | some r => decide (r.1 = []) && (decide (r.2.1 = [(5, 0, 0), (2, 0, 0), (2, 102, 0), (0, 0, 0)]) && (Nat.beq r.2.2.2.1 127 && (Nat.ble r.2.2.2.2.1 500000 && (Nat.ble r.2.2.2.2.2 7000000 && (xl_tle xl_F0 (fun n => n) xl_sk0 140 r.2.2.1 xz_G && (xl_tle xl_F1 xl_bw xl_sk0 94 r.2.2.1 xl_h0 && (xl_hlB r.2.2.1 && (xl_cv r.2.2.1 114 3 0 && (xl_cv r.2.2.1 103 4 (-1) && xl_cv r.2.2.1 60 4 (-1))))))))))
  | none => false
set_option maxRecDepth 100000 in
set_option maxHeartbeats 40000000 in
theorem xl_q1ok : xl_q1B xl_q1 = true := by decide +kernel
set_option maxRecDepth 100000 in
theorem xl_h0hi : xl_all 102 (fun j => match xv_get 14 xl_h0 (94 + j) with | some k => Nat.beq k.1 99 | none => true) = true := by decide +kernel
set_option maxRecDepth 100000 in
theorem xl_Ghi : xl_all 13 (fun j => match xv_get 14 xz_G (127 + j) with | some _ => false | none => true) = true := by decide +kernel
theorem xl_toG {t : Nat → ClassId} {sb : Nat} {h : xv_A} {ws : va_W} (h1 : xl_tle xl_F0 (fun n => n) xl_sk0 140 h xz_G = true) (hH : xv_H t sb h 127 ws) : xv_H t sb xz_G 127 ws := by
  refine ⟨hH.1, fun r k' hr h9 => ?_⟩
  have hlt := xl_get_lt (by decide) hr
  rw [show xz_G.length = 10 from rfl] at hlt
  obtain ⟨k, hk, hk9, hle⟩ := xl_tle_ok h1 (j := r) (by omega) rfl hr h9
  obtain ⟨a, x, e1, e2⟩ := hH.2 r k hk hk9
  exact ⟨a, x, e1, xl_hc hle xl_Fok0 e2⟩
theorem xl_toh {t : Nat → ClassId} {sb sb' : Nat} {h : xv_A} {ws : va_W} (h1 : xl_tle xl_F1 xl_bw xl_sk0 94 h xl_h0 = true) (hH : xv_H t sb h 127 ws) (h53 : (ws.map Prod.fst)[53]? = some sb') : xv_H t sb' (xl_hj 0) (xl_n 0) (xl_cut ws ++ []) := by
  have hl := hH.1
  rw [List.append_nil]
  refine ⟨xl_cutl hl, fun r k' hr h9 => ?_⟩
  have hr : xv_get 14 xl_h0 r = some k' := hr
  have hlt : r < 14 * 14 := xl_get_lt (by decide) hr
  rcases Nat.lt_or_ge r 94 with q | q
  · obtain ⟨k, hk, hk9, hle⟩ := xl_tle_ok h1 (j := r) q rfl hr h9
    obtain ⟨a, x, e1, e2⟩ := hH.2 (xl_bw r) k hk hk9
    refine ⟨a, x, by rw [xl_cutg hl q]; exact e1, xl_hc hle (xl_Fok1 (by rw [List.length_map]; exact hl) h53 (fun n hn b hb => ?_)) e2⟩
    rw [xl_cutm, xl_cutg (by rw [List.length_map]; exact hl) hn]; exact hb
  · have g := xl_all_ok xl_h0hi (r - 94) (by omega)
    rw [show 94 + (r - 94) = r by omega, hr] at g
    exact absurd (xv_beq g) h9
theorem xl_hl {t : Nat → ClassId} {sb : Nat} {h : xv_A} {ws : va_W} (h1 : xl_hlB h = true) (hH : xv_H t sb h 127 ws) : ∀ c, xv_get 14 xz_G xz_hl.1 = some c → ∀ j, j < xw_len c → xw_num (xw_ct ws xz_hl.1 j) ≠ some xz_hl.2 := fun c hc j hj => by
  unfold xl_hlB at h1
  cases hk : xv_get 14 h 126 with
  | none => rw [hk] at h1; cases h1
  | some k =>
    rw [hk] at h1
    dsimp only at h1
    obtain ⟨k1, h1⟩ := xv_and_t h1
    obtain ⟨k2, h1⟩ := xv_and_t h1
    have k1 := xv_beq k1
    have k2 := xv_beq k2
    obtain ⟨a, x, e1, e2⟩ := hH.2 126 k hk (by omega)
    obtain ⟨f, rfl, hf⟩ := e2.2.1 (Or.inl k1)
    have hj7 : j < 7 := by
      have hc2 : xv_get 14 xz_G 126 = some (1, 7, 1, [[(0, -3, 7)]]) := rfl
      have hc' : xv_get 14 xz_G 126 = some c := hc
      rw [hc2] at hc'
      cases hc'
      exact hj
    have g := xl_all_ok h1 j hj7
    cases hv : xv_get 8 k.2.2.2 (j % k.2.2.1) with
    | none => rw [hv] at g; cases g
    | some v =>
      rw [hv] at g
      dsimp only at g
      obtain ⟨g1, g2⟩ := xv_and_t g
      obtain ⟨i, ei, i1, i2⟩ := (hf j (by omega) v hv).1 (xv_beq g1)
      cases ei
      have ect : xw_ct ws xz_hl.1 j = .int (f j) := by
        unfold xw_ct
        have h126 : xz_hl.1 = 126 := rfl
        rw [h126, e1]
        rfl
      rw [ect]
      intro w
      have w : (f j).toInt = -2 := by
        have e : xw_num (.int (f j)) = some (f j).toInt := rfl
        rw [e] at w
        exact Option.some.inj w
      rcases (Bool.or_eq_true _ _).mp g2 with z | z
      · have := xv_le_iff.mp z; omega
      · have := xv_le_iff.mp z; omega
theorem xd2154 : decode code 2154 = .ok (.ireturn, 1) := by decide +kernel
set_option maxHeartbeats 4000000 in
set_option maxRecDepth 100000 in
/-- THE LAW, from its entry -/
theorem whole_start {p : Program} {e : Env} {s : State} {m : MethodId} {below : List Frame} {meth : Method} {c : Code} (l : Launch) {b L : Nat} {xs : Nat → Int32} (hL : L ≤ 3072) (C0 : lw_At p s m meth c b L xs) : W p l e room_1 s m #[Value.ref b] below meth c s.heap [] 0 0 (lw_Z below #[Value.ref b] s) (entryFrame m ([Value.ref b] : List Value).toArray 4) := by
  obtain ⟨hx, hb, hr, hml, hown, hts, hX, hbl, hlocks, hgv⟩ := id C0
  obtain ⟨D, t, hK, hEx⟩ := xl_K hts
  have htb : ∀ w ∈ xv_tb, w.before #[Value.ref b] s = true := fun w hw => hts w (List.mem_filter.mp hw).1
  have hA : ∀ q : Nat, s.heap.size ≤ q → (fun q : Nat => s.heap.size ≤ q) q := fun _ h => h
  have hbA : ¬ (fun q : Nat => s.heap.size ≤ q) b := Nat.not_le.mpr hbl
  obtain ⟨ad, hti⟩ := xl_texts (A := fun q : Nat => s.heap.size ≤ q) hgv hts (fun a h => Nat.not_le.mpr h)
  obtain ⟨hCG, hcr⟩ := xv_meth xt_ok.2 l 100000 6
  have hRm : 6 + 1 ≤ room_1.frames ∧ 60 * 6 + 60 ≤ room_1.locals := ⟨by decide, by decide⟩
  have h1 := xl_q1ok
  cases hq1 : xl_q1 with
  | none => rw [hq1] at h1; cases h1
  | some r =>
    rw [hq1] at h1
    unfold xl_q1B at h1
    dsimp only at h1
    obtain ⟨w1, h1⟩ := xv_and_t h1
    obtain ⟨w2, h1⟩ := xv_and_t h1
    obtain ⟨w3, h1⟩ := xv_and_t h1
    obtain ⟨w4, h1⟩ := xv_and_t h1
    obtain ⟨w5, h1⟩ := xv_and_t h1
    obtain ⟨w6, h1⟩ := xv_and_t h1
    obtain ⟨w7, h1⟩ := xv_and_t h1
    obtain ⟨w8, h1⟩ := xv_and_t h1
    obtain ⟨w9, h1⟩ := xv_and_t h1
    obtain ⟨w10, w11⟩ := xv_and_t h1
    have g1 : r.1 = [] := of_decide_eq_true w1
    have g2 : r.2.1 = [(5, 0, 0), (2, 0, 0), (2, 102, 0), (0, 0, 0)] := of_decide_eq_true w2
    have g3 := xv_beq w3
    have g4 := xv_ble w4
    have g5 := xv_ble w5
    clear w1 w2 w3 w4 w5 h1
    have Cx : xv_Cx p s m #[Value.ref b] c code RL 4 D t (fun q : Nat => s.heap.size ≤ q) b [] := ⟨hx, hb, hml, hown, htb, hK, hA, Or.inl rfl, hEx⟩
    have CC : xw_Cx p s m #[Value.ref b] c code RL 4 D t (fun q : Nat => s.heap.size ≤ q) (xl_X b L ad) xs xz_G := ⟨hx, hb, hml, hown, htb, hK, hA, hEx, fun _ => ⟨hX, hbl, hbA, by show L < 2 ^ 31; omega⟩, hti, xl_Inv b L ad, xz_9⟩
    have hT := xs_run (p := p) (l := l) (e := e) (R := room_1) (s := s) (m := m) (args := #[Value.ref b]) (below := below) (meth := meth) (c := c) (cc := code) (own := RL) (nL := 4) (D := D) (t := t) (A := fun q : Nat => s.heap.size ≤ q) (as0 := []) (sb := b) (scr := []) (Q := fun r' tt => r' = r → lw_Z below #[Value.ref b] s tt) (name := meth.name) (ret := some .boolean) (I := xv_JI xt_J) (dF := 6) (stop := 19) (full := xt_332) Cx hCG hcr hRm rfl ?ends ?stop (xl_law meth.name) 100000 xt_332 (fun _ h => h) 0 [(5, 0, 0), xv_un, xv_un, xv_un] [] (xv_h0, 0, 0, 0) r hq1
    case ends =>
      intro pc L9 st S hcase
      refine ⟨Nat.le_refl _, Nat.le_refl _, fun _ _ ls vst H locs ws hR => xl_any (fun tt he => ?_)⟩
      rcases hcase with ⟨-, x, rfl, -⟩ | ⟨-, h9, -⟩ | ⟨-, h9, -⟩
      · rw [← he] at g1; cases g1
      · cases h9
      · cases h9
    case stop =>
      intro pc hpc L9 st S
      have e18 : pc = 18 := by omega
      subst e18
      refine ⟨Nat.le_refl _, Nat.le_refl _, fun _ _ ls vst H locs ws hR => ?_⟩
      by_cases he : (st, L9, S.1, S.2.1, S.2.2.1, S.2.2.2) = r
      · refine xl_W (Q := lw_Z below #[Value.ref b] s) (fun tt h _ => h) ?_
        subst he
        dsimp only at g1 g2 g3 g4 g5 w6 w7 w8 w9 w10 w11
        subst g1
        subst g2
        have ev := hR.2.1.nil
        subst ev
        obtain ⟨x0, hx0, hv0⟩ := hR.1.at (i := 0) rfl (Or.inr (Or.inr (Or.inr (Or.inr rfl))))
        have e0 := hv0.2.2.2.2 rfl
        subst e0
        obtain ⟨x1, hx1, hv1⟩ := hR.1.at (i := 1) rfl (Or.inr (Or.inr (Or.inl rfl)))
        obtain ⟨a0, ha0, rfl⟩ := hv1.2.2.1 rfl
        obtain ⟨x2, hx2, hv2⟩ := hR.1.at (i := 2) rfl (Or.inr (Or.inr (Or.inl rfl)))
        obtain ⟨a1, ha1, rfl⟩ := hv2.2.2.1 rfl
        obtain ⟨x3, hx3, hv3⟩ := hR.1.at (i := 3) rfl (Or.inl rfl)
        obtain ⟨i3, rfl, j1, j2⟩ := hv3.1 rfl
        dsimp only at j1 j2
        have hH := hR.2.2.2.2.2.1
        rw [g3] at hH
        have hHG := xl_toG w6 hH
        have hlw : ws.length = 127 := hH.1
        obtain ⟨lv, hlv, -⟩ := hR.1.2
        have hls : lv_has ls 4 [(0, .ref (xl_X b L ad).1), (1, .ref a0), (2, .ref a1), (3, .int i3)] := ⟨hlv.1, hlv.2.1, fun q hq => by
          simp only [List.mem_cons, List.not_mem_nil, or_false] at hq
          rcases hq with rfl | rfl | rfl | rfl
          · exact hx0
          · exact hx1
          · exact hx2
          · exact hx3⟩
        obtain ⟨q53, h53⟩ : ∃ q, ws[53]? = some q := by
          cases hq : ws[53]? with
          | none => have := List.getElem?_eq_none_iff.mp hq; omega
          | some q => exact ⟨q, rfl⟩
        have h53' : (ws.map Prod.fst)[53]? = some q53.1 := by rw [List.getElem?_map, h53]; rfl
        have hKK : xl_KK 0 ws := fun k hk => by
          rw [xl_cv_ok w9 hH k hk]
          rcases (by omega : k = 0 ∨ k = 1 ∨ k = 2) with rfl | rfl | rfl <;> rfl
        have hQQ : xl_QQ ws := fun k hk => Or.inl ⟨xl_cv_ok w10 hH k hk, xl_cv_ok w11 hH k hk⟩
        have hS : xl_S D t (fun q : Nat => s.heap.size ≤ q) s.heap (xl_X b L ad) xs H locs 0 ws [] := ⟨⟨⟨⟨hR.2.2.1, hR.2.2.2.1, hR.2.2.2.2.1, by rw [hlw]; exact hHG, xl_hl w8 hH, fun r c hc i => xy_mu (xl_ne9 xz_9 hc)⟩, fun k q h => by simp at h, ⟨fun i j p q h => by simp at h, fun k q h => by simp at h⟩, fun i j x y _ h => by simp at h⟩, hlw, q53.1, h53', xl_toh w7 hH h53'⟩, hKK, hQQ⟩
        have hend : ∀ (H : Heap) (locs : List Loc) (ls : Array Slot) (cs sl : Nat), va_S (fun q : Nat => s.heap.size ≤ q) s.heap H locs → cs ≤ room_1.cells → sl ≤ room_1.slots → W p l e room_1 s m #[Value.ref b] below meth c H locs cs sl (lw_Z below #[Value.ref b] s) (F0 m 2154 ls [.int 1]) := fun H locs ls cs sl hSS h1 h2 => va_forget hSS.2.2 (W.widen h1 h2 (lw_ret hx hb hr hlocks xd2154))
        exact xl_loop (c0 := S.2.2.1) (s0 := S.2.2.2) (as := ws.map Prod.fst) CC True.intro hL ⟨by decide, by decide⟩ ⟨by show S.2.2.1 + 63 ≤ 600000; omega, by show S.2.2.2 + 1260 ≤ 7302250; omega⟩ ha0 ha1 hend 512 i3 0 ls H locs ws [] (by omega) (by show (L : Int) ≤ _; omega) (by omega) (by decide) hls hS rfl
      · exact xl_any (fun tt h => absurd h he)
    obtain ⟨-, -, hW⟩ := hT
    rw [lg_entry_eq]
    have hl := lv_entry ([Value.ref b] : List Value) (n := 4) (Nat.le_of_ble_eq_true rfl)
    refine xl_W (fun tt h => h rfl) (hW (by show _ ≤ 600000; omega) (by show _ ≤ 7302250; omega) _ [] s.heap [] [] ⟨⟨rfl, _, hl, fun i v hi hk => ?_⟩, True.intro, fun k q h => by simp at h, ⟨fun i j p q h => by simp at h, fun k q h => by simp at h⟩, va_S.rf, ⟨rfl, fun q k hq h9 => ?_⟩, [], rfl⟩)
    · match i, hi with
      | 0, hi =>
        cases hi
        exact ⟨.ref b, List.mem_cons_self, fun q => (by cases q), fun q => (by cases q), fun q => (by cases q), fun q => (by cases q), fun _ => rfl⟩
      | 1, hi => cases hi; rcases hk with q | q | q | q | q <;> cases q
      | 2, hi => cases hi; rcases hk with q | q | q | q | q <;> cases q
      | 3, hi => cases hi; rcases hk with q | q | q | q | q <;> cases q
      | i + 4, hi => cases hi
    · obtain ⟨l9, m1, m2⟩ := xv_get_mem hq
      have m1 : l9 ∈ xv_rep 14 (xv_rep 14 xv_none) := m1
      have e1 := xv_rep_mem m1
      rw [e1] at m2
      have e2 := xv_rep_mem m2
      rw [e2] at h9
      exact absurd rfl h9
-- ===== YOUR PART ENDS =====
set_option maxHeartbeats 4000000 in
theorem lw_walk (l : Launch) (b : Addr) (xs : List Int32) : MetFree l x (headSpec (Jvm.Cond.code x code maxLocals ret :: tables_1) room_1) (lw_P b xs) (fun _ _ _ _ _ => True) lw_Q := by
  refine MetFree.of_bodyS (code := code) (maxLocals := maxLocals) (ret := ret) (by decide) ?_ ?_
  · intro args s m h hn
    obtain ⟨meth, c, h1, h2, h3, h4, h5, h6, -, -⟩ := Cond.code_spec hn (atoms_spec (ws := Jvm.Cond.code x code maxLocals ret :: tables_1) h _ List.mem_cons_self)
    exact ⟨meth, c, h1, h2, h3, h4, h5, h6⟩
  · intro p e s m args below meth c s₁ B hml0 hP _
    obtain ⟨rfl, hx, hbd, hgv⟩ := hP
    obtain ⟨scr, harrAt, hlist, hof, hsmall⟩ := hx
    obtain ⟨hcb, hkn, -, -⟩ := State.arrayAt?_spec harrAt
    have hown : s.vm.findClass R_law = some m.cls := findClass_of_methodNamed B.named
    have hts0 : ∀ c ∈ (Jvm.Cond.code x code maxLocals ret :: tables_1), c.before #[Value.ref b] s = true := atoms_spec (ws := Jvm.Cond.code x code maxLocals ret :: tables_1) B.pre
    have hts : ∀ w ∈ lw_tbl, w.before #[Value.ref b] s = true := k2_hts_sels lw_privs (fun w hw => hts0 w (List.mem_cons_of_mem _ hw)) lw_privs_ok
    have hml : c.maxLocals = 4 := B.maxLocals_eq (hts0 _ List.mem_cons_self)
    have X₀ : Stand p l e room_1 s m #[Value.ref b] below meth c s₁ [] 0 0 := Stand.of_body B
    have hh0 : s₁.heap = s.heap := by rw [B.state]; rfl
    have hsz : scr.slots.size = xs.length := by rw [← Array.length_toList, hlist, List.length_map]
    have hval : ∀ j : Nat, j < xs.length → scr.slots[j]? = some (.int (xs.getD j 0)) := fun j hj => by
      rw [← Array.getElem?_toList, hlist]
      simp [hj]
    have hbl : b < s.heap.size := (Array.getElem?_eq_some_iff.mp hcb).1
    have hX : va_X b xs.length (fun j => xs.getD j 0) s s.heap := ⟨scr, hcb, hof, hkn, hsz, hval⟩
    have K : W p l e room_1 s m #[Value.ref b] below meth c s₁.heap [] 0 0 (lw_Z below #[Value.ref b] s) (entryFrame m ([Value.ref b] : List Value).toArray 4) := by
      rw [hh0]
      exact whole_start l hbd ⟨B.exec, B.bytes, B.returns, hml, hown, hts, hX, hbl, B.notSynchronized, hgv⟩
    obtain ⟨t, a1, o, b1, b2, b3⟩ := K s₁ rfl X₀
    exact ⟨t, o, a1, b1, b2, b3⟩
theorem lw_pre_spec {args : Array Value} {s : State} (h : (Jvm.Cond.and given_1 narrow_1).before args s = true) (hr : rest_1_c.before args s = true) : ∃ (b : Addr) (xs : List Int32), lw_P b xs args s := by
  have hs := flat_of_before _ h
  have hq := flat_of_before _ hr
  have hc : (Cond.count 1).before args s = true := hs _ (by decide +kernel)
  have harr : (Cond.arrayOf (.arg 0) .int).before args s = true := hs _ (by decide +kernel)
  have hle : (Cond.le (.length (.arg 0)) (.int 3072)).before args s = true := hs _ (by decide +kernel)
  have hlen : (Cond.isInt (.length (.arg 0))).before args s = true := hq _ (by decide +kernel)
  have hall : (Cond.all (.arg 0) (.isInt (.elem (.arg 0) (.index 0)))).before args s = true := hq _ (by decide +kernel)
  obtain ⟨b, xs, hb, hx⟩ := State.ints_of_pre rfl harr hlen hall
  have hsm : xs.length < 2 ^ 31 := hx.choose_spec.2.2.2
  have hev : (Term.length (.arg 0)).eval args s none [] s = some (.int xs.length.toInt32) := hx.length_eval hb
  have hv := Cond.le_ints hev (show (Term.int 3072).eval args s none [] s = some (.int 3072) from rfl)
  have hd : xs.length.toInt32 ≤ 3072 := by
    simpa [Cond.before, Cond.holds, hv] using hle
  have hN : xs.length ≤ 3072 := (Int32.ofNat_le_ofNat hsm (by decide)).mp (show Int32.ofNat xs.length ≤ Int32.ofNat 3072 from hd)
  exact ⟨b, xs, Cond.one_arg hc (show args[0]? = some (.ref b) from hb), hx, hN, h⟩
theorem lw_comes (l : Launch) : Comes l x (Jvm.Cond.code x code maxLocals ret :: tables_1) room_1 (fun tb e args s => Calls_1 tb e args s ∧ rest_1 tb e args s ∧ Pre_1 tb e args s)
    (fun _ _ args s o t => lw_Q args s o t) := by
  intro p e ha hc hk s m args below hf hfit hheap happ hpre
  obtain ⟨b, xs, hP⟩ := lw_pre_spec hpre.2.2 hpre.2.1
  obtain ⟨k, o, h1, h2, h3, hQ⟩ := lw_walk l b xs p e ha hc hk s m args below hf ((Spec.applies_iff_loose hf).mp happ).1 hP trivial
  exact ⟨k, o, h1, h2, h3, hQ⟩
theorem lw_frame {s t : State} {o : Outcome} {args : Array Value} (h : Framed s o t [] 600000 7302250) :
    Framed s o t (fieldLocs frame_1_writes args s ++ arrayLocs frame_1_arrays args s ++ staticLocs frame_1_statics s) 600000 7302250 := h
theorem lw_limb (L : Cond) (hL : ∀ (args : Array Value) (s t : State), L.after args s (.returned (some (.int 1))) t = true) :
    ArmFor flags0 classFile x code maxLocals ret World_1 tables_1 room_1 Calls_1 rest_1 Pre_1
      (fun tb e a s o t => postC L tb e a s o t ∧ Framed s o t (fieldLocs frame_1_writes a s ++ arrayLocs frame_1_arrays a s ++ staticLocs frame_1_statics s) 600000 7302250) := by
  intro l _ _ _ p e ha hc hk s m args below hf hfit hheap happ hpre
  obtain ⟨k, o, h1, h2, h3, rfl, hF⟩ := lw_comes l p e ha hc hk s m args below hf hfit hheap happ hpre
  exact ⟨k, _, h1, h2, h3, hL args s _, lw_frame hF⟩
theorem i_vc : Claimed_1_1 ∧ Claimed_1_2 := ⟨lw_limb limb_1_1 (fun args s t => by simp [limb_1_1, Cond.after, Cond.holds, Cond.value]), lw_limb limb_1_2 (fun args s t => Cond.after_iff.mpr (by
  first | (rw [show limb_1_2 = Cond.eq .result (.int 1) from rfl, Cond.eq_ints (x := 1) (y := 1) rfl rfl]; simp; done) | (simp [limb_1_2, Cond.value, Term.eval]; done)))⟩
