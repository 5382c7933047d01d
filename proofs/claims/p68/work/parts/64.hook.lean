/-! a run with hooks: it stops there, and what is known there is told -/
noncomputable def xh_run (hl : Nat × Int) (A : xv_A) (call : xw_Cl) (id : Nat) (hs : List Nat) (hk : xw_K) (full : List xv_E) (kr : xw_Kr) : Nat → List xv_E → xw_K := Nat.rec (motive := fun _ => List xv_E → xw_K) (fun _ _ _ _ _ => false) (fun _ ih rest pc L st S =>
  bif xw_orl (fun h => Nat.beq h pc) hs then hk pc L st S else (match xv_fetch full rest pc with
    | some (e, t) => xw_step hl A call id (fun pc' L' st' S' => ih t pc' L' st' S') kr e.2.1 e.2.2.2.1 e.2.2.2.2.1 e.2.2.2.2.2.2 pc L st S
    | none => false))
noncomputable def xh_go (hl : Nat × Int) (A : xv_A) (call : xw_Cl) (id : Nat) (hs : List Nat) (hk : xw_K) (full : List xv_E) (kr : xw_Kr) (F : Nat) (pc : Nat) (L st : List xw_V) (S : xw_S) : Bool := match xv_fetch full full pc with
    | some (e, t) => xw_step hl A call id (fun pc' L' st' S' => xh_run hl A call id hs hk full kr F t pc' L' st' S') kr e.2.1 e.2.2.2.1 e.2.2.2.2.1 e.2.2.2.2.2.2 pc L st S
    | none => false
/-- an arrival: place, locals, stack, intervals, facts, memo, records, what was written -/
abbrev xh_Ar : Type := Nat × List xw_V × List xw_V × List (Nat × Int × Int) × List xw_L × List xw_M × List xw_R × xw_D
noncomputable def xh_eq (pc : Nat) (L st : List xw_V) (S : xw_S) (a : xh_Ar) : Bool := Nat.beq pc a.1 && (decide (L = a.2.1) && (decide (st = a.2.2.1) && (a.2.2.2.1.all (fun q => Nat.ble (q.1 + 1) S.2.1 && decide (xw_e S.1 q.1 = q.2)) && (a.2.2.2.2.1.all (fun f => decide (f ∈ S.2.2.1)) && (a.2.2.2.2.2.1.all (fun m => decide (m ∈ S.2.2.2.1)) && (a.2.2.2.2.2.2.1.all (fun r => decide (r ∈ S.2.2.2.2.2.1)) && decide (S.2.2.2.2.2.2 = a.2.2.2.2.2.2.2)))))))
noncomputable def xh_hk (arr : List xh_Ar) : xw_K := fun pc L st S => arr.any (fun a => xh_eq pc L st S a)
def xh_iv (ρ : Nat → Int) : List (Nat × Int × Int) → Prop
  | [] => True
  | q :: t => (q.2.1 ≤ ρ q.1 ∧ ρ q.1 ≤ q.2.2) ∧ xh_iv ρ t
def xh_fc (ρ : Nat → Int) : List xw_L → Prop
  | [] => True
  | f :: t => 0 ≤ xw_ev ρ f ∧ xh_fc ρ t
def xh_mm (ρ : Nat → Int) (μ : Nat → Nat → Value) : List xw_M → Prop
  | [] => True
  | m :: t => (0 ≤ xw_ev ρ m.2.1 ∧ xw_n0 (μ m.1 (xw_ev ρ m.2.1).toNat) = xw_ev ρ m.2.2.2) ∧ xh_mm ρ μ t
def xh_r1 (ρ : Nat → Int) (q : xw_R) : Prop := match q.1 with
  | 0 => 0 ≤ xw_ev ρ q.2.2.1 ∧ ρ q.2.1 = 2 ^ (xw_ev ρ q.2.2.1).toNat
  | 1 => ρ q.2.1 = xw_ev ρ q.2.2.1 / 2 ^ (xw_ev ρ q.2.2.2).toNat
  | 2 => 0 ≤ xw_ev ρ q.2.2.2 ∧ ρ q.2.1 = xw_ev ρ q.2.2.1 / 2 ^ (xw_ev ρ q.2.2.2).toNat % 2
  | 3 => ρ q.2.1 = xw_ev ρ q.2.2.1 * xw_ev ρ q.2.2.2
  | 4 => ∃ a b : Int32, a.toInt = xw_ev ρ q.2.2.1 ∧ b.toInt = xw_ev ρ q.2.2.2 ∧ ρ q.2.1 = (a &&& b).toInt
  | 5 => ∃ a b : Int32, a.toInt = xw_ev ρ q.2.2.1 ∧ b.toInt = xw_ev ρ q.2.2.2 ∧ ρ q.2.1 = (a ||| b).toInt
  | 6 => ρ q.2.1 = (xw_ev ρ q.2.2.1).bmod (2 ^ 32)
  | 7 => xw_ev ρ q.2.2.1 ≠ 0
  | _ => True
def xh_rc (ρ : Nat → Int) : List xw_R → Prop
  | [] => True
  | q :: t => xh_r1 ρ q ∧ xh_rc ρ t
theorem xh_r1_ok {ρ : Nat → Int} {n : Nat} {q : xw_R} (h : xw_Rk ρ n q) : xh_r1 ρ q := by
  obtain ⟨h0, x, y, hx, hy, r0, r1, r2, r3, r4, r5, r6, r7⟩ := h
  obtain ⟨k, v, a, b⟩ := q
  dsimp only at h0 hx hy r0 r1 r2 r3 r4 r5 r6 r7
  have ex := hx.2
  have ey := hy.2
  match k with
  | 0 => obtain ⟨a1, a2⟩ := r0 rfl; exact ⟨by dsimp only; rw [ex]; exact a1, by dsimp only; rw [ex]; exact a2⟩
  | 1 => obtain ⟨a1, a2, a3⟩ := r1 rfl; show ρ v = xw_ev ρ a / 2 ^ (xw_ev ρ b).toNat; rw [ex, ey]; exact a3
  | 2 => obtain ⟨a1, a2, a3⟩ := r2 rfl; show 0 ≤ xw_ev ρ b ∧ ρ v = xw_ev ρ a / 2 ^ (xw_ev ρ b).toNat % 2; rw [ex, ey]; exact ⟨a2, a3⟩
  | 3 => show ρ v = xw_ev ρ a * xw_ev ρ b; rw [ex, ey]; exact r3 rfl
  | 4 => obtain ⟨a', b', a1, a2, a3⟩ := r4 rfl; exact ⟨a', b', by rw [ex]; exact a1, by rw [ey]; exact a2, a3⟩
  | 5 => obtain ⟨a', b', a1, a2, a3⟩ := r5 rfl; exact ⟨a', b', by rw [ex]; exact a1, by rw [ey]; exact a2, a3⟩
  | 6 => show ρ v = (xw_ev ρ a).bmod (2 ^ 32); rw [ex]; exact r6 rfl
  | 7 => show xw_ev ρ a ≠ 0; rw [ex]; exact r7 rfl
  | k + 8 => exact True.intro
theorem xh_iv_ok {ρ : Nat → Int} {S : xw_S} (hE : xw_En ρ S.2.1 S.1) : ∀ {l : List (Nat × Int × Int)}, l.all (fun q => Nat.ble (q.1 + 1) S.2.1 && decide (xw_e S.1 q.1 = q.2)) = true → xh_iv ρ l
  | [], _ => True.intro
  | q :: l, h => by
    simp only [List.all_cons] at h
    obtain ⟨h1, h2⟩ := xv_and_t h
    obtain ⟨h3, h4⟩ := xv_and_t h1
    have h4 := of_decide_eq_true h4
    have := hE q.1 (xv_ble h3)
    rw [h4] at this
    exact ⟨this, xh_iv_ok hE h2⟩
theorem xh_fc_ok {ρ : Nat → Int} {n : Nat} {F : List xw_L} (hF : xw_Fk ρ n F) : ∀ {l : List xw_L}, l.all (fun f => decide (f ∈ F)) = true → xh_fc ρ l
  | [], _ => True.intro
  | f :: l, h => by
    simp only [List.all_cons] at h
    obtain ⟨h1, h2⟩ := xv_and_t h
    obtain ⟨z, hz, h0⟩ := hF f (of_decide_eq_true h1)
    refine ⟨?_, xh_fc_ok hF h2⟩
    rw [hz.2]; exact h0
theorem xh_mm_ok {X : xw_X} {as : List Nat} {μ : Nat → Nat → Value} {ρ : Nat → Int} {n : Nat} {M : List xw_M} (hM : xw_Mk X as μ ρ n M) : ∀ {l : List xw_M}, l.all (fun f => decide (f ∈ M)) = true → xh_mm ρ μ l
  | [], _ => True.intro
  | m :: l, h => by
    simp only [List.all_cons] at h
    obtain ⟨h1, h2⟩ := xv_and_t h
    obtain ⟨z, hz, h0, h3, h4⟩ := hM m (of_decide_eq_true h1)
    refine ⟨?_, xh_mm_ok hM h2⟩
    obtain ⟨y, e1, e2⟩ := h3.num h4
    rw [hz.2]
    refine ⟨h0, ?_⟩
    unfold xw_n0
    rw [e1]; exact e2.2.symm
theorem xh_rc_ok {ρ : Nat → Int} {n : Nat} {Rs : List xw_R} (hR : ∀ q ∈ Rs, xw_Rk ρ n q) : ∀ {l : List xw_R}, l.all (fun f => decide (f ∈ Rs)) = true → xh_rc ρ l
  | [], _ => True.intro
  | q :: l, h => by
    simp only [List.all_cons] at h
    obtain ⟨h1, h2⟩ := xv_and_t h
    exact ⟨xh_r1_ok (hR q (of_decide_eq_true h1)), xh_rc_ok hR h2⟩
/-- what an arrival tells -/
def xh_ok (ρ : Nat → Int) (μ : Nat → Nat → Value) (a : xh_Ar) : Prop := xh_iv ρ a.2.2.2.1 ∧ xh_fc ρ a.2.2.2.2.1 ∧ xh_mm ρ μ a.2.2.2.2.2.1 ∧ xh_rc ρ a.2.2.2.2.2.2.1
theorem xh_eq_ok {X : xw_X} {as : List Nat} {μ : Nat → Nat → Value} {ρ : Nat → Int} {pc : Nat} {L st : List xw_V} {S : xw_S} {a : xh_Ar} (h : xh_eq pc L st S a = true) (hS : xw_St ρ S) (hM : xw_Me X as μ ρ S) : pc = a.1 ∧ L = a.2.1 ∧ st = a.2.2.1 ∧ S.2.2.2.2.2.2 = a.2.2.2.2.2.2.2 ∧ xh_ok ρ μ a := by
  unfold xh_eq at h
  obtain ⟨h1, h⟩ := xv_and_t h
  obtain ⟨h2, h⟩ := xv_and_t h
  obtain ⟨h3, h⟩ := xv_and_t h
  obtain ⟨h4, h⟩ := xv_and_t h
  obtain ⟨h5, h⟩ := xv_and_t h
  obtain ⟨h6, h⟩ := xv_and_t h
  obtain ⟨h7, h8⟩ := xv_and_t h
  exact ⟨xv_beq h1, of_decide_eq_true h2, of_decide_eq_true h3, of_decide_eq_true h8, xh_iv_ok hS.1 h4, xh_fc_ok hS.2.1 h5, xh_mm_ok hM.1 h6, xh_rc_ok hS.2.2.1 h7⟩
section XHa
variable {p : Program} {l : Launch} {e : Env} {R : Room} {s : State} {m : MethodId} {args : Array Value} {below : List Frame} {meth : Method} {c : Code}
variable {e0 : (Nat → Int) × Nat} {cc : ByteArray} {own : String} {nL : Nat} {D : va_G} {t : Nat → ClassId} {A : Nat → Prop} {hl : Nat × Int} {Γ : xv_A} {X : xw_X} {xs : Nat → Int32} {ws0 : va_W} {gh : List xw_L} {gz : Nat → Int} {fh : Nat → Option xw_H} {cs sl : Nat} {Q : State → Prop} {act : List xw_A} {k : xw_K} {pc : Nat} {L st : List xw_V} {S : xw_S}
theorem xh_run_ok {name : String} {ret : Option FieldType} {I : Nat → Option xv_I} {call : xw_Cl} {kr : xw_Kr} {dF id : Nat} {full : List xv_E} {hs : List Nat} {hk : xw_K} (C : xw_Cx p s m args c cc own nL D t A X xs Γ) (hCG : xw_CG l dF I hl Γ gh call) (hRm : dF + 1 ≤ R.frames ∧ 60 * dF + 60 ≤ R.locals) (hCS : cs ≤ R.cells ∧ sl ≤ R.slots) (hname : name = meth.name) (hE : xw_Ends e0 p l e R s m args below meth c D t A hl Γ X xs ws0 nL gh gz fh cs sl Q cc ret kr) (hN : xw_Nar Γ) (hfull : xw_okM cc own name ret I full)
    (hh : ∀ pc L st S, hk pc L st S = true → xw_Tj e0 D t A s.heap hl Γ X xs ws0 nL gh gz fh (fun pc ls vst H locs => W p l e R s m args below meth c H locs cs sl Q (F0 m pc ls vst)) act pc L st S) : ∀ (F : Nat) (rest : List xv_E), (∀ x ∈ rest, x ∈ full) → ∀ pc L st S, xh_run hl Γ call id hs hk full kr F rest pc L st S = true → xw_Tj e0 D t A s.heap hl Γ X xs ws0 nL gh gz fh (fun pc ls vst H locs => W p l e R s m args below meth c H locs cs sl Q (F0 m pc ls vst)) act pc L st S
  | 0, _, _, _, _, _, _, h => by cases h
  | F + 1, rest, hsub, pc, L, st, S, h => by
    have ih := xh_run_ok C hCG hRm hCS hname hE hN hfull hh F (id := id) (kr := kr) (call := call) (hs := hs)
    have h : (bif xw_orl (fun h => Nat.beq h pc) hs then hk pc L st S else (match xv_fetch full rest pc with
      | some (e, t) => xw_step hl Γ call id (fun pc' L' st' S' => xh_run hl Γ call id hs hk full kr F t pc' L' st' S') kr e.2.1 e.2.2.2.1 e.2.2.2.2.1 e.2.2.2.2.2.2 pc L st S
      | none => false)) = true := h
    cases hb : xw_orl (fun h => Nat.beq h pc) hs with
    | true => rw [hb] at h; exact hh pc L st S h
    | false =>
      rw [hb] at h
      exact xy_fs (g := fun t => xh_run hl Γ call id hs hk full kr F t) C hCG hRm hCS hname hE hN hfull hsub (fun u hu pc' L' st' S' h' => ih u hu pc' L' st' S' h') h
/-- a stretch of a method, from one hook to the next ones -/
theorem xh_seg {name : String} {ret : Option FieldType} {I : Nat → Option xv_I} {call : xw_Cl} {dF id F : Nat} {full : List xv_E} {hs : List Nat} {arr : List xh_Ar} {ρ : Nat → Int} (C : xw_Cx p s m args c cc own nL D t A X xs Γ) (hCG : xw_CG l dF I hl Γ [] call) (hRm : dF + 1 ≤ R.frames ∧ 60 * dF + 60 ≤ R.locals) (hCS : cs ≤ R.cells ∧ sl ≤ R.slots) (hname : name = meth.name) (hN : xw_Nar Γ) (hfull : xw_okM cc own name ret I full)
    (h : xh_go hl Γ call id hs (xh_hk arr) full (fun _ _ => false) F pc L st S = true)
    (hA : ∀ a ∈ arr, ∀ (ρ' : Nat → Int) (S' : xw_S) (ls : Array Slot) (vst : List Value) (H : Heap) (locs : List Loc) (ws : va_W), xw_Rl D t A s.heap hl Γ X xs ws0 nL ρ' a.2.1 a.2.2.1 S' ls vst H locs ws → xw_Up ρ S.2.1 ρ' S'.2.1 → S'.2.2.2.2.2.2 = a.2.2.2.2.2.2.2 → xh_ok ρ' (xw_mu xs ws) a → W p l e R s m args below meth c H locs cs sl Q (F0 m a.1 ls vst))
    {ls : Array Slot} {vst : List Value} {H : Heap} {locs : List Loc} {ws : va_W} (hR : xw_Rl D t A s.heap hl Γ X xs ws0 nL ρ L st S ls vst H locs ws) : W p l e R s m args below meth c H locs cs sl Q (F0 m pc ls vst) := by
  have hE : xw_Ends (ρ, S.2.1) p l e R s m args below meth c D t A hl Γ X xs ws0 nL [] (fun _ => 0) (fun _ => none) cs sl Q cc ret (fun _ _ => false) := fun _ _ _ _ _ _ h => by cases h
  have hh : ∀ pc L st S', xh_hk arr pc L st S' = true → xw_Tj (ρ, S.2.1) D t A s.heap hl Γ X xs ws0 nL [] (fun _ => 0) (fun _ => none) (fun pc ls vst H locs => W p l e R s m args below meth c H locs cs sl Q (F0 m pc ls vst)) [] pc L st S' := fun pc L st S' hk ρ' ls vst H locs ws hR' hG' _ => by
    obtain ⟨a, ha, hae⟩ := List.any_eq_true.mp hk
    obtain ⟨e1, e2, e3, e4, e5⟩ := xh_eq_ok hae hR'.2.2.2.1 hR'.2.2.2.2
    subst e1
    subst e2
    subst e3
    exact hA a ha ρ' S' ls vst H locs ws hR' hG'.2 e4 e5
  have hT : xw_Tj (ρ, S.2.1) D t A s.heap hl Γ X xs ws0 nL [] (fun _ => 0) (fun _ => none) (fun pc ls vst H locs => W p l e R s m args below meth c H locs cs sl Q (F0 m pc ls vst)) [] pc L st S := xy_fs (g := fun t => xh_run hl Γ call id hs (xh_hk arr) full (fun _ _ => false) F t) C hCG hRm hCS hname hE hN hfull (fun _ h => h) (fun u hu pc' L' st' S' h' => xh_run_ok C hCG hRm hCS hname hE hN hfull hh F u hu pc' L' st' S' h') h
  exact hT ρ ls vst H locs ws hR ⟨fun _ _ q => (by cases q), xw_Up.rf⟩ (fun _ q => by cases q)
end XHa
