/-! THE CLAIM OUT OF ONE WALK OF THE LAW'S BODY. Your part is whole_start (and what it stands on); all else here is the same for every law, but numbers. -/
def R_law : String := "PassedPenanceLaw"
def lw_P (b : Addr) (xs : List Int32) (args : Array Value) (s : State) : Prop := args = #[.ref b] ∧ s.IntsAt b xs ∧ xs.length ≤ 6 ∧ (Jvm.Cond.and given_1 narrow_1).before args s = true
def lw_Q (_ : Array Value) (s : State) (o : Outcome) (t : State) : Prop := o = .returned (some (.int 1)) ∧ Framed s o t [] 600000 7302250
def lw_Z (below : List Frame) (a : Array Value) (s : State) : State → Prop := fun t => ∃ o, t.status = .running ∧ Ended t below o ∧ lw_Q a s o t
/-- the law's own end, with 1 on the stack, nothing written that was there before, its room as the claim has it -/
theorem lw_ret {p : Program} {l : Launch} {e : Env} {s : State} {m : MethodId} {below : List Frame} {meth : Method} {c : Code} {b : Nat} (hx : p.tables.exec = Jvm.exec) (hb : c.code = code) (hr : meth.sig.returnType = ret) (hlocks : meth.locks = false) {pc : Nat} {H : Heap} {ls : Array Slot} (hdg : decode code pc = .ok (.ireturn, 1)) : W p l e room_1 s m #[Value.ref b] below meth c H [] 600000 7302250 (lw_Z below #[Value.ref b] s) (F0 m pc ls [.int 1]) := by
  intro T hT X
  obtain ⟨fs, hret, hrun, hended, hW, hframe⟩ := X.leave (v := some (.int 1)) (hlocks := hlocks) (fun h => by rw [hr] at h; cases h)
  have hmeth' : T.vm.method? m = some meth := X.method'
  refine ⟨T.setFrames fs, ?_, .returned (some (.int 1)), hrun, hended, rfl, ⟨_, rfl⟩, hW, hframe⟩
  jvm_step X.here [X.here.top, hx, hb, hdg, hmeth', hr, ret, narrow_b1]
  (try refine ⟨rfl, ?_⟩); (try refine ⟨rfl, ?_⟩)
  first | (intro acts; rw [hret _ acts rfl rfl rfl]) | rw [hret _ _ rfl rfl rfl]
  exact Steps.refl _
/-- what holds at the law's entry: the machine, the code, the tables' words (any of lw_tbl by 'hts w (by decide +kernel)'), the script of L ints xs at the cell b, what the Statement gives of the start (any of its parts by flat_of_before) -/
def lw_At (p : Program) (s : State) (m : MethodId) (meth : Method) (c : Code) (b L : Nat) (xs : Nat → Int32) : Prop :=
  p.tables.exec = Jvm.exec ∧ c.code = code ∧ meth.sig.returnType = ret ∧ c.maxLocals = 4 ∧ s.vm.findClass R_law = some m.cls ∧ (∀ w ∈ lw_tbl, w.before #[Value.ref b] s = true) ∧ va_X b L xs s s.heap ∧ b < s.heap.size ∧ meth.locks = false ∧ (Jvm.Cond.and given_1 narrow_1).before #[Value.ref b] s = true
theorem xl_W {p : Program} {l : Launch} {e : Env} {R : Room} {s : State} {m : MethodId} {args : Array Value} {below : List Frame} {meth : Method} {c : Code} {H : Heap} {locs : List Loc} {a b : Nat} {Q Q' : State → Prop} {g : JFrame} (hQ : ∀ t, Q t → Q' t) (h : W p l e R s m args below meth c H locs a b Q g) : W p l e R s m args below meth c H locs a b Q' g := fun T hT X => by
  obtain ⟨t, h1, h2⟩ := h T hT X
  exact ⟨t, h1, hQ t h2⟩
theorem xl_any {p : Program} {l : Launch} {e : Env} {R : Room} {s : State} {m : MethodId} {args : Array Value} {below : List Frame} {meth : Method} {c : Code} {H : Heap} {locs : List Loc} {a b : Nat} {Q : State → Prop} {g : JFrame} (hQ : ∀ t, Q t) : W p l e R s m args below meth c H locs a b Q g := fun T _ _ => ⟨_, Steps.refl _, hQ _⟩
/-- the classes and the rows' classes, out of the tables -/
theorem xl_K {s : State} {args : Array Value} (hts : ∀ w ∈ lw_tbl, w.before args s = true) : ∃ (D : va_G) (t : Nat → ClassId), va_K D vwCl (xv_tys t) s ∧ xv_Ex s := by
  have htb : ∀ w ∈ xv_tb, w.before args s = true := fun w hw => hts w (List.mem_filter.mp hw).1
  have hex : ∀ k : Nat, ∃ z : ClassId × (Nat → Nat), ∀ q : vw_C, vwCl[k]? = some q → u_Kn s q.1 q.2.1 q.2.2 z.1 z.2 := fun k => by
    cases hq : vwCl[k]? with
    | none => exact ⟨(0, fun _ => 0), fun q h => (by cases h)⟩
    | some q =>
      obtain ⟨h1, -, -, h4, -⟩ := xv_cls k q hq
      obtain ⟨cC, iS, h⟩ := u_known (C := q.1) (T := q.2.1) (N := q.2.2) (n := q.2.2) htb h1 (htb _ h4)
      exact ⟨(cC, iS), fun q' e => by cases e; exact h⟩
  obtain ⟨f, hf⟩ := Classical.axiomOfChoice hex
  have prim : ∀ ty : FieldType, Cond.arrayClass ty ∈ lw_tbl → ∃ cA : ClassId, ArrOfT s cA ty ∧ s.vm.findClass (FieldType.array ty).toString = some cA := fun ty h => by
    obtain ⟨comp, k, cc, h1, h2, h3⟩ := Cond.arrayClass_spec (hts _ h)
    exact ⟨comp, fun N z => ⟨fun q hq => (by cases hq), k, h2, cc, h3⟩, h1⟩
  obtain ⟨a1, p1, q1⟩ := prim .int (List.mem_filter.mp (xv_at_ok (p := 221) (by decide +kernel))).1
  obtain ⟨a2, p2, q2⟩ := prim .byte (List.mem_filter.mp (xv_at_ok (p := 688) (by decide +kernel))).1
  obtain ⟨a3, p3, q3⟩ := prim .boolean (List.mem_filter.mp (xv_at_ok (p := 1477) (by decide +kernel))).1
  obtain ⟨a4, p4, q4⟩ := prim .long (List.mem_filter.mp (xv_at_ok (p := 312) (by decide +kernel))).1
  have o1 := xm_over (hts _ xv_ao_in.2.1)
  have o2 := xm_over (hts _ xv_ao_in.2.2)
  have oI := hts _ xv_ao_in.1
  obtain ⟨c5, a5, k5, r1, r2, r3, r4⟩ := id o1
  obtain ⟨c6, a6, k6, s1, s2, s3, s4⟩ := id o2
  obtain ⟨c7, a7, k7, t1, -, t3, t4, t5⟩ := Cond.arrayOver_spec oI
  refine ⟨(fun k => (f k).1, fun k => (f k).2), fun k => match k with
    | 1 => a1
    | 2 => a2
    | 3 => a3
    | 4 => a4
    | 5 => a5
    | 6 => a6
    | _ => a7, ⟨fun k q hq => hf k q hq, fun k q hq => ?_⟩, fun q hq => va_Nw.of rfl (hts _ (xv_nest_in q hq)), va_AO.of oI, o1, o2⟩
  match k, hq with
  | 0, hq => cases hq; exact ⟨p1, q1⟩
  | 1, hq => cases hq; exact ⟨p2, q2⟩
  | 2, hq => cases hq; exact ⟨p3, q3⟩
  | 3, hq => cases hq; exact ⟨p4, q4⟩
  | 4, hq => cases hq; exact ⟨fun N z => ⟨fun q hq => (by cases hq), k5, r2, c5, r3⟩, r4⟩
  | 5, hq => cases hq; exact ⟨fun N z => ⟨fun q hq => (by cases hq), k6, s2, c6, s3⟩, s4⟩
  | 6, hq => cases hq; exact ⟨fun N z => ⟨fun q hq => (by cases hq), k7, t3, c7, t4⟩, k7, c7, t3, t4, t1, t5⟩
  | k + 7, hq => simp [xv_tys] at hq
def xl_noput : Instr → Bool
  | .putfield _ => false
  | _ => true
set_option maxRecDepth 100000 in
theorem xl_np : xt_190.all (fun x => xl_noput x.2.1) = true := by decide +kernel
theorem xl_law (nm : String) : ∀ x ∈ xt_190, xv_okE code RL nm (some .boolean) (xv_JI xt_J) x := fun x hx => by
  obtain ⟨h1, h2, h3⟩ := xt_law x hx
  have h4 := List.all_eq_true.mp xl_np x hx
  refine ⟨h1, h2, ?_⟩
  obtain ⟨pc, ins, len, a, b, p, v⟩ := x
  dsimp only at h3 h4 ⊢
  cases ins
  case putfield => cases h4
  all_goals exact h3
theorem d18 : decode code 18 = .ok (.iload_n 3, 1) := by decide +kernel
theorem d19 : decode code 19 = .ok (.aload_n 0, 1) := by decide +kernel
theorem d20 : decode code 20 = .ok (.arraylength, 1) := by decide +kernel
theorem d21 : decode code 21 = .ok (.bipush 6, 2) := by decide +kernel
theorem d23 : decode code 23 = .ok (.isub, 1) := by decide +kernel
theorem d24 : decode code 24 = .ok (.if_icmp .gt 2131, 3) := by decide +kernel
theorem d27 : decode code 27 = .ok (.aload_n 0, 1) := by decide +kernel
theorem d28 : decode code 28 = .ok (.iload_n 3, 1) := by decide +kernel
theorem d29 : decode code 29 = .ok (.iaload, 1) := by decide +kernel
theorem d30 : decode code 30 = .ok (.bipush 127, 2) := by decide +kernel
theorem d32 : decode code 32 = .ok (.iand, 1) := by decide +kernel
theorem d2155 : decode code 2155 = .ok (.iconst 1, 1) := by decide +kernel
theorem d2156 : decode code 2156 = .ok (.ireturn, 1) := by decide +kernel
set_option maxHeartbeats 4000000 in
set_option maxRecDepth 100000 in
/-- THE LAW, from its entry -/
theorem whole_start {p : Program} {e : Env} {s : State} {m : MethodId} {below : List Frame} {meth : Method} {c : Code} (l : Launch) {b L : Nat} {xs : Nat → Int32} (hL : L ≤ 6) (C0 : lw_At p s m meth c b L xs) : W p l e room_1 s m #[Value.ref b] below meth c s.heap [] 0 0 (lw_Z below #[Value.ref b] s) (entryFrame m ([Value.ref b] : List Value).toArray 4) := by
  obtain ⟨hx, hb, hr, hml, hown, hts, hX, hbl, hlocks, hgv⟩ := id C0
  obtain ⟨D, t, hK, hEx⟩ := xl_K hts
  have htb : ∀ w ∈ xv_tb, w.before #[Value.ref b] s = true := fun w hw => hts w (List.mem_filter.mp hw).1
  have hA : ∀ q : Nat, s.heap.size ≤ q → (fun q : Nat => s.heap.size ≤ q) q := fun _ h => h
  have hbA : ¬ (fun q : Nat => s.heap.size ≤ q) b := Nat.not_le.mpr hbl
  obtain ⟨hCG, hcr⟩ := xv_meth xt_ok.2 l 100000 6
  have hRm : 6 + 1 ≤ room_1.frames ∧ 60 * 6 + 60 ≤ room_1.locals := ⟨by decide, by decide⟩
  -- the first run, up to the loop
  have h1 := xq_1ok
  cases hq1 : xq_1 with
  | none => rw [hq1] at h1; cases h1
  | some r =>
    rw [hq1] at h1
    obtain ⟨w1, h1⟩ := xv_and_t h1
    obtain ⟨w2, h1⟩ := xv_and_t h1
    obtain ⟨w3, w4⟩ := xv_and_t h1
    have g1 : r.1 = [] := of_decide_eq_true w1
    have g2 : r.2.1 = [(5, 0, 0), (2, 0, 0), (2, 102, 0), (0, 0, 0)] := of_decide_eq_true w2
    have g3 := xv_ble w3
    have g4 := xv_ble w4
    clear w1 w2 w3 w4 h1
    have Cx : xv_Cx p s m #[Value.ref b] c code RL 4 D t (fun q : Nat => s.heap.size ≤ q) b [] := ⟨hx, hb, hml, hown, htb, hK, hA, Or.inl rfl, hEx⟩
    have hend : ∀ {pc : Nat} {H : Heap} {locs : List Loc} {ls : Array Slot} {a z : Nat}, decode code pc = .ok (.ireturn, 1) → (∀ q ∈ locs, s.heap.size ≤ q.base) → a ≤ 600000 → z ≤ 7302250 → W p l e room_1 s m #[Value.ref b] below meth c H locs a z (lw_Z below #[Value.ref b] s) (F0 m pc ls [.int 1]) := fun hd hl h1 h2 => va_forget hl (W.widen h1 h2 (lw_ret hx hb hr hlocks hd))
    have hT := xs_run (p := p) (l := l) (e := e) (R := room_1) (s := s) (m := m) (args := #[Value.ref b]) (below := below) (meth := meth) (c := c) (cc := code) (own := RL) (nL := 4) (D := D) (t := t) (A := fun q : Nat => s.heap.size ≤ q) (as0 := []) (sb := b) (scr := []) (Q := fun r' tt => r' = r → lw_Z below #[Value.ref b] s tt) (name := meth.name) (ret := some .boolean) (I := xv_JI xt_J) (dF := 6) (stop := 19) (full := xt_190) Cx hCG hcr hRm rfl ?ends ?stop (xl_law meth.name) 100000 xt_190 (fun _ h => h) 0 [(5, 0, 0), xv_un, xv_un, xv_un] [] (xv_h0, 0, 0, 0) r hq1
    case ends =>
      intro pc L9 st S hcase
      refine ⟨Nat.le_refl _, Nat.le_refl _, fun _ _ ls vst H locs ws hR => xl_any (fun tt he => ?_)⟩
      rcases hcase with ⟨-, x, rfl, -⟩ | ⟨-, h9, -⟩ | ⟨-, h9, -⟩
      · rw [← he] at g1; cases g1
      · cases h9
      · cases h9
    case stop =>
      intro pc hpc L9 st S
      have e18 : pc = 18 := by omega
      subst e18
      refine ⟨Nat.le_refl _, Nat.le_refl _, fun _ _ ls vst H locs ws hR => ?_⟩
      by_cases he : (st, L9, S.1, S.2.1, S.2.2.1, S.2.2.2) = r
      · refine xl_W (Q := lw_Z below #[Value.ref b] s) (fun tt h _ => h) ?_
        subst he
        dsimp only at g1 g2 g3 g4
        subst g1
        subst g2
        have ev := hR.2.1.nil
        subst ev
        obtain ⟨x0, hx0, hv0⟩ := hR.1.at (i := 0) rfl (Or.inr (Or.inr (Or.inr (Or.inr rfl))))
        have e0 := hv0.2.2.2.2 rfl
        subst e0
        obtain ⟨x3, hx3, hv3⟩ := hR.1.at (i := 3) rfl (Or.inl rfl)
        obtain ⟨i3, rfl, j1, j2⟩ := hv3.1 rfl
        have e3 : i3 = 0 := by
          apply Int32.toInt_inj.mp
          have h0 : (0 : Int32).toInt = 0 := by decide
          dsimp only at j1 j2
          omega
        subst e3
        have hS := hR.2.2.2.2.1
        refine lv_iload_n hx hb d18 rfl hx3 ?_
        refine lv_aload_n hx hb d19 rfl hx0 ?_
        refine va_slen hx hb hX hbl hbA hS d20 ?_
        refine lv_bipush (v := 6) hx hb d21 (by decide) ?_
        refine lv_isub hx hb d23 ?_
        rcases Nat.lt_or_ge L 6 with hL6 | hL6
        · refine lv_icmp_gt (tgt := 2155) hx hb d24 (by decide) (fun _ => ?_) (fun hn => ?_)
          · refine lv_iconst (v := 1) hx hb d2155 (by decide) ?_
            exact hend d2156 hS.2.2 g3 g4
          · refine absurd ?_ hn
            have hL7 : L = 0 ∨ L = 1 ∨ L = 2 ∨ L = 3 ∨ L = 4 ∨ L = 5 := by omega
            rcases hL7 with rfl | rfl | rfl | rfl | rfl | rfl <;> decide
        · have hL7 : L = 6 := by omega
          subst hL7
          refine lv_icmp_gt (tgt := 2155) hx hb d24 (by decide) (fun hn => absurd hn (by decide)) (fun _ => ?_)
          refine lv_aload_n hx hb d27 rfl hx0 ?_
          refine lv_iload_n hx hb d28 rfl hx3 ?_
          refine va_sld hx hb hX hbl hbA hS (i := 0) (by rw [vp_in_iff]; decide) d29 ?_
          refine lv_bipush (v := 127) hx hb d30 (by decide) ?_
          refine lv_iand hx hb d32 ?_
          obtain ⟨op, hop, eop⟩ := pk_andE (xs (0 : Int32).toNatClampNeg) (m := 127) 7 (by decide)
          rw [eop]
          have hin : xq_in xq_all xs := fun j v hj => by
            have hm : v ∈ xq_all := List.mem_of_getElem? hj
            have hv : v = xv_ti := by
              unfold xq_all at hm
              simp only [List.mem_cons, List.not_mem_nil, or_false, or_self] at hm
              exact hm
            rw [hv]
            exact ⟨rfl, (xv_i32 _).1, (xv_i32 _).2⟩
          obtain ⟨lo, hi, box, k1, k2, k3, k4, k5⟩ := xq_calls hq1 hin op hop
          unfold xq_go at k4
          dsimp only at k4
          generalize hrun : xv_run (xv_calls xt_M 100000 6) box 0 xt_190 100000 xt_190 33 [(5, 0, 0), (2, 0, 0), (2, 102, 0), (0, 0, 0)] [(0, lo, hi)] (S.1, S.2.1, S.2.2.1, S.2.2.2) = ro at k4
          cases ro with
          | none => cases k4
          | some q =>
            dsimp only at k4
            obtain ⟨n1, k4⟩ := xv_and_t k4
            obtain ⟨n2, k4⟩ := xv_and_t k4
            have n1 := xv_ble n1
            have n2 := xv_ble n2
            have Cx2 : xv_Cx p s m #[Value.ref b] c code RL 4 D t (fun q : Nat => s.heap.size ≤ q) b box := ⟨hx, hb, hml, hown, htb, hK, hA, Or.inr ⟨xs, by rw [k3]; exact hX, hbl, hbA, by rw [k3]; decide, k5⟩, hEx⟩
            have hT2 := xs_run (p := p) (l := l) (e := e) (R := room_1) (s := s) (m := m) (args := #[Value.ref b]) (below := below) (meth := meth) (c := c) (cc := code) (own := RL) (nL := 4) (D := D) (t := t) (A := fun q : Nat => s.heap.size ≤ q) (as0 := []) (sb := b) (scr := box) (Q := fun r' tt => r' = q → lw_Z below #[Value.ref b] s tt) (name := meth.name) (ret := some .boolean) (I := xv_JI xt_J) (dF := 6) (stop := 0) (full := xt_190) Cx2 hCG hcr hRm rfl ?ends2 (fun _ h => by cases h) (xl_law meth.name) 100000 xt_190 (fun _ h => h) 33 [(5, 0, 0), (2, 0, 0), (2, 102, 0), (0, 0, 0)] [(0, lo, hi)] (S.1, S.2.1, S.2.2.1, S.2.2.2) q hrun
            case ends2 =>
              intro pc L9 st S9 hcase
              refine ⟨Nat.le_refl _, Nat.le_refl _, fun _ _ ls9 vst9 H9 locs9 ws9 hR9 => ?_⟩
              by_cases he9 : (st, L9, S9.1, S9.2.1, S9.2.2.1, S9.2.2.2) = q
              · refine xl_W (Q := lw_Z below #[Value.ref b] s) (fun tt h _ => h) ?_
                subst he9
                rcases hcase with ⟨hd9, x, rfl, hx9, -⟩ | ⟨-, h9, -⟩ | ⟨-, h9, -⟩
                · obtain ⟨y0, vst, rfl, hy, hst⟩ := hR9.2.1.un
                  have ev9 := hst.nil
                  subst ev9
                  obtain ⟨i, rfl, i1, i2⟩ := hy.1 hx9
                  dsimp only at k4 n1 n2
                  obtain ⟨-, m2⟩ := xv_and_t k4
                  obtain ⟨m2, m3⟩ := xv_and_t m2
                  have m2 := xv_le_iff.mp m2
                  have m3 := xv_le_iff.mp m3
                  have ei : i = 1 := by
                    apply Int32.toInt_inj.mp
                    have h0 : (1 : Int32).toInt = 1 := by decide
                    omega
                  subst ei
                  exact hend hd9 hR9.2.2.2.2.1.2.2 n1 n2
                · cases h9
                · cases h9
              · exact xl_any (fun tt h => absurd h he9)
            obtain ⟨-, -, hW⟩ := hT2
            refine xl_W (fun tt h => h rfl) (hW n1 n2 ls _ H locs ws ⟨hR.1, xv_sm.cons (xv_hv.i ⟨rfl, ?_, ?_⟩) True.intro, hR.2.2⟩)
            · rw [nI_toInt (by omega)]; exact k1
            · rw [nI_toInt (by omega)]; exact k2
      · exact xl_any (fun tt h => absurd h he)
    obtain ⟨-, -, hW⟩ := hT
    rw [lg_entry_eq]
    have hl := lv_entry ([Value.ref b] : List Value) (n := 4) (Nat.le_of_ble_eq_true rfl)
    refine xl_W (fun tt h => h rfl) (hW g3 g4 _ [] s.heap [] [] ⟨⟨rfl, _, hl, fun i v hi hk => ?_⟩, True.intro, fun k q h => by simp at h, ⟨fun i j p q h => by simp at h, fun k q h => by simp at h⟩, va_S.rf, ⟨rfl, fun q k hq h9 => ?_⟩, [], rfl⟩)
    · match i, hi with
      | 0, hi =>
        cases hi
        exact ⟨.ref b, List.mem_cons_self, fun q => (by cases q), fun q => (by cases q), fun q => (by cases q), fun q => (by cases q), fun _ => rfl⟩
      | 1, hi => cases hi; rcases hk with q | q | q | q | q <;> cases q
      | 2, hi => cases hi; rcases hk with q | q | q | q | q <;> cases q
      | 3, hi => cases hi; rcases hk with q | q | q | q | q <;> cases q
      | i + 4, hi => cases hi
    · obtain ⟨l9, m1, m2⟩ := xv_get_mem hq
      have m1 : l9 ∈ xv_rep 14 (xv_rep 14 xv_none) := m1
      have e1 := xv_rep_mem m1
      rw [e1] at m2
      have e2 := xv_rep_mem m2
      rw [e2] at h9
      exact absurd rfl h9
-- ===== YOUR PART ENDS =====
set_option maxHeartbeats 4000000 in
theorem lw_walk (l : Launch) (b : Addr) (xs : List Int32) : MetFree l x (headSpec (Jvm.Cond.code x code maxLocals ret :: tables_1) room_1) (lw_P b xs) (fun _ _ _ _ _ => True) lw_Q := by
  refine MetFree.of_bodyS (code := code) (maxLocals := maxLocals) (ret := ret) (by decide) ?_ ?_
  · intro args s m h hn
    obtain ⟨meth, c, h1, h2, h3, h4, h5, h6, -, -⟩ := Cond.code_spec hn (atoms_spec (ws := Jvm.Cond.code x code maxLocals ret :: tables_1) h _ List.mem_cons_self)
    exact ⟨meth, c, h1, h2, h3, h4, h5, h6⟩
  · intro p e s m args below meth c s₁ B hml0 hP _
    obtain ⟨rfl, hx, hbd, hgv⟩ := hP
    obtain ⟨scr, harrAt, hlist, hof, hsmall⟩ := hx
    obtain ⟨hcb, hkn, -, -⟩ := State.arrayAt?_spec harrAt
    have hown : s.vm.findClass R_law = some m.cls := findClass_of_methodNamed B.named
    have hts0 : ∀ c ∈ (Jvm.Cond.code x code maxLocals ret :: tables_1), c.before #[Value.ref b] s = true := atoms_spec (ws := Jvm.Cond.code x code maxLocals ret :: tables_1) B.pre
    have hts : ∀ w ∈ lw_tbl, w.before #[Value.ref b] s = true := k2_hts_sels lw_privs (fun w hw => hts0 w (List.mem_cons_of_mem _ hw)) lw_privs_ok
    have hml : c.maxLocals = 4 := B.maxLocals_eq (hts0 _ List.mem_cons_self)
    have X₀ : Stand p l e room_1 s m #[Value.ref b] below meth c s₁ [] 0 0 := Stand.of_body B
    have hh0 : s₁.heap = s.heap := by rw [B.state]; rfl
    have hsz : scr.slots.size = xs.length := by rw [← Array.length_toList, hlist, List.length_map]
    have hval : ∀ j : Nat, j < xs.length → scr.slots[j]? = some (.int (xs.getD j 0)) := fun j hj => by
      rw [← Array.getElem?_toList, hlist]
      simp [hj]
    have hbl : b < s.heap.size := (Array.getElem?_eq_some_iff.mp hcb).1
    have hX : va_X b xs.length (fun j => xs.getD j 0) s s.heap := ⟨scr, hcb, hof, hkn, hsz, hval⟩
    have K : W p l e room_1 s m #[Value.ref b] below meth c s₁.heap [] 0 0 (lw_Z below #[Value.ref b] s) (entryFrame m ([Value.ref b] : List Value).toArray 4) := by
      rw [hh0]
      exact whole_start l hbd ⟨B.exec, B.bytes, B.returns, hml, hown, hts, hX, hbl, B.notSynchronized, hgv⟩
    obtain ⟨t, a1, o, b1, b2, b3⟩ := K s₁ rfl X₀
    exact ⟨t, o, a1, b1, b2, b3⟩
theorem lw_pre_spec {args : Array Value} {s : State} (h : (Jvm.Cond.and given_1 narrow_1).before args s = true) (hr : rest_1_c.before args s = true) : ∃ (b : Addr) (xs : List Int32), lw_P b xs args s := by
  have hs := flat_of_before _ h
  have hq := flat_of_before _ hr
  have hc : (Cond.count 1).before args s = true := hs _ (by decide +kernel)
  have harr : (Cond.arrayOf (.arg 0) .int).before args s = true := hs _ (by decide +kernel)
  have hle : (Cond.le (.length (.arg 0)) (.int 6)).before args s = true := hs _ (by decide +kernel)
  have hlen : (Cond.isInt (.length (.arg 0))).before args s = true := hq _ (by decide +kernel)
  have hall : (Cond.all (.arg 0) (.isInt (.elem (.arg 0) (.index 0)))).before args s = true := hq _ (by decide +kernel)
  obtain ⟨b, xs, hb, hx⟩ := State.ints_of_pre rfl harr hlen hall
  have hsm : xs.length < 2 ^ 31 := hx.choose_spec.2.2.2
  have hev : (Term.length (.arg 0)).eval args s none [] s = some (.int xs.length.toInt32) := hx.length_eval hb
  have hv := Cond.le_ints hev (show (Term.int 6).eval args s none [] s = some (.int 6) from rfl)
  have hd : xs.length.toInt32 ≤ 6 := by
    simpa [Cond.before, Cond.holds, hv] using hle
  have hN : xs.length ≤ 6 := (Int32.ofNat_le_ofNat hsm (by decide)).mp (show Int32.ofNat xs.length ≤ Int32.ofNat 6 from hd)
  exact ⟨b, xs, Cond.one_arg hc (show args[0]? = some (.ref b) from hb), hx, hN, h⟩
theorem lw_comes (l : Launch) : Comes l x (Jvm.Cond.code x code maxLocals ret :: tables_1) room_1 (fun tb e args s => Calls_1 tb e args s ∧ rest_1 tb e args s ∧ Pre_1 tb e args s)
    (fun _ _ args s o t => lw_Q args s o t) := by
  intro p e ha hc hk s m args below hf hfit hheap happ hpre
  obtain ⟨b, xs, hP⟩ := lw_pre_spec hpre.2.2 hpre.2.1
  obtain ⟨k, o, h1, h2, h3, hQ⟩ := lw_walk l b xs p e ha hc hk s m args below hf ((Spec.applies_iff_loose hf).mp happ).1 hP trivial
  exact ⟨k, o, h1, h2, h3, hQ⟩
theorem lw_frame {s t : State} {o : Outcome} {args : Array Value} (h : Framed s o t [] 600000 7302250) :
    Framed s o t (fieldLocs frame_1_writes args s ++ arrayLocs frame_1_arrays args s ++ staticLocs frame_1_statics s) 600000 7302250 := h
theorem lw_limb (L : Cond) (hL : ∀ (args : Array Value) (s t : State), L.after args s (.returned (some (.int 1))) t = true) :
    ArmFor flags0 classFile x code maxLocals ret World_1 tables_1 room_1 Calls_1 rest_1 Pre_1
      (fun tb e a s o t => postC L tb e a s o t ∧ Framed s o t (fieldLocs frame_1_writes a s ++ arrayLocs frame_1_arrays a s ++ staticLocs frame_1_statics s) 600000 7302250) := by
  intro l _ _ _ p e ha hc hk s m args below hf hfit hheap happ hpre
  obtain ⟨k, o, h1, h2, h3, rfl, hF⟩ := lw_comes l p e ha hc hk s m args below hf hfit hheap happ hpre
  exact ⟨k, _, h1, h2, h3, hL args s _, lw_frame hF⟩
theorem i_vc : Claimed_1_1 ∧ Claimed_1_2 := ⟨lw_limb limb_1_1 (fun args s t => by simp [limb_1_1, Cond.after, Cond.holds, Cond.value]), lw_limb limb_1_2 (fun args s t => Cond.after_iff.mpr (by
  first | (rw [show limb_1_2 = Cond.eq .result (.int 1) from rfl, Cond.eq_ints (x := 1) (y := 1) rfl rfl]; simp; done) | (simp [limb_1_2, Cond.value, Term.eval]; done)))⟩
