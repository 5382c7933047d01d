/-! loops -/
section XWO
variable {e0 : (Nat → Int) × Nat} {D : va_G} {t : Nat → ClassId} {A : Nat → Prop} {H0 : Heap} {hl : Nat × Int} {Γ : xv_A} {X : xw_X} {xs : Nat → Int32} {ws0 : va_W} {nL : Nat} {gh : List xw_L} {gz : Nat → Int} {fh : Nat → Option xw_H} {Go : Nat → Array Slot → List Value → Heap → List Loc → Prop}
/-- a head that stands open: from a state that fits an alternative with a smaller measure, it goes on well -/
def xw_PH (D : va_G) (t : Nat → ClassId) (A : Nat → Prop) (H0 : Heap) (hl : Nat × Int) (Γ : xv_A) (X : xw_X) (xs : Nat → Int32) (ws0 : va_W) (nL : Nat) (gz : Nat → Int) (fh : Nat → Option xw_H) (Go : Nat → Array Slot → List Value → Heap → List Loc → Prop) (a : xw_A) (ρ0 : Nat → Int) (m0 : Int) : Prop :=
  ∀ h, fh a.1 = some h → ∀ al ∈ h.2.2.2.1, ∀ (ls : Array Slot) (H : Heap) (locs : List Loc) (ws : va_W) (lvs : List (Nat × Value)), lv_has ls nL lvs → xw_Wl D t A H0 hl Γ X xs ws0 a.2.2.2.2.2.2.2.2.2 H locs ws → xw_Me X (ws.map Prod.fst) (xw_mu xs ws) ρ0 a.2.2.2 → xw_DL X (ws.map Prod.fst) ρ0 a.2.2.2.2.1 h.1 a.2.2.1 lvs → xw_Rg lvs h.1 al.1 → (∀ g ∈ h.2.2.1, xw_Sc (xw_lz lvs) gz (xw_mu xs ws) g) → (∀ T ∈ al.2.1, 0 ≤ xw_ttz (xw_lz lvs) gz (xw_mu xs ws) T) → 0 ≤ m0 → xw_ttz (xw_lz lvs) gz (xw_mu xs ws) al.2.2 ≤ m0 - 1 → Go a.1 ls [] H locs
def xw_Hy (D : va_G) (t : Nat → ClassId) (A : Nat → Prop) (H0 : Heap) (hl : Nat × Int) (Γ : xv_A) (X : xw_X) (xs : Nat → Int32) (ws0 : va_W) (nL : Nat) (gz : Nat → Int) (fh : Nat → Option xw_H) (Go : Nat → Array Slot → List Value → Heap → List Loc → Prop) (a : xw_A) (ρ : Nat → Int) (n : Nat) : Prop :=
  ∃ ρ0 m0, xw_Up ρ0 a.2.2.2.2.1 ρ n ∧ xw_is ρ n a.2.1 m0 ∧ (∃ lvs0, xw_lm X (ws0.map Prod.fst) ρ0 a.2.2.2.2.1 a.2.2.1 lvs0) ∧ (∃ μ0, xw_Me X (ws0.map Prod.fst) μ0 ρ0 a.2.2.2) ∧ a.2.2.1.length = nL ∧ xw_PH D t A H0 hl Γ X xs ws0 nL gz fh Go a ρ0 m0
theorem xw_Hy.more {a : xw_A} {ρ ρ' : Nat → Int} {n n' : Nat} (hu : xw_Up ρ n ρ' n') (h : xw_Hy D t A H0 hl Γ X xs ws0 nL gz fh Go a ρ n) : xw_Hy D t A H0 hl Γ X xs ws0 nL gz fh Go a ρ' n' := by
  obtain ⟨ρ0, m0, h1, h2, h3⟩ := h
  exact ⟨ρ0, m0, h1.tr hu, h2.more hu, h3⟩
/-- the ghosts' numbers, and what was known when the run began -/
def xw_Gy (e0 : (Nat → Int) × Nat) (ρ : Nat → Int) (n : Nat) (gh : List xw_L) (gz : Nat → Int) : Prop := xw_Gz ρ n gh gz ∧ xw_Up e0.1 e0.2 ρ n
theorem xw_Gy.more {e0 : (Nat → Int) × Nat} {ρ ρ' : Nat → Int} {n n' : Nat} {gh : List xw_L} {gz : Nat → Int} (hu : xw_Up ρ n ρ' n') (h : xw_Gy e0 ρ n gh gz) : xw_Gy e0 ρ' n' gh gz := ⟨h.1.more hu, h.2.tr hu⟩
def xw_Tj (e0 : (Nat → Int) × Nat) (D : va_G) (t : Nat → ClassId) (A : Nat → Prop) (H0 : Heap) (hl : Nat × Int) (Γ : xv_A) (X : xw_X) (xs : Nat → Int32) (ws0 : va_W) (nL : Nat) (gh : List xw_L) (gz : Nat → Int) (fh : Nat → Option xw_H) (Go : Nat → Array Slot → List Value → Heap → List Loc → Prop) (act : List xw_A) (pc : Nat) (L st : List xw_V) (S : xw_S) : Prop :=
  ∀ (ρ : Nat → Int) (ls : Array Slot) (vst : List Value) (H : Heap) (locs : List Loc) (ws : va_W), xw_Rl D t A H0 hl Γ X xs ws0 nL ρ L st S ls vst H locs ws → xw_Gy e0 ρ S.2.1 gh gz → (∀ a ∈ act, xw_Hy D t A H0 hl Γ X xs ws0 nL gz fh Go a ρ S.2.1) → Go pc ls vst H locs
theorem xw_Wl.dt {d d' : xw_D} {H : Heap} {locs : List Loc} {ws : va_W} (h : xw_Wl D t A H0 hl Γ X xs ws0 d H locs ws) (h1 : ∀ r j, xw_isin d r (j + 1) = true → xw_isin d' r (j + 1) = true) (h2 : ∀ r c, (r, c) ∈ d → ∃ c', (r, c') ∈ d') : xw_Wl D t A H0 hl Γ X xs ws0 d' H locs ws := by
  obtain ⟨a1, a2, a3, a4, a5, a6, a7⟩ := h
  refine ⟨a1, a2, a3, a4, fun r j hin => a5 r j ?_, fun r hr => a6 r (fun c hc => ?_), a7⟩
  · cases q : xw_isin d r (j + 1) with
    | false => rfl
    | true => rw [h1 r j q] at hin; cases hin
  · obtain ⟨c', hc'⟩ := h2 r c hc
    exact hr c' hc'
theorem xw_back_ok {h : xw_H} {a : xw_A} {act : List xw_A} {L : List xw_V} {S : xw_S} (hb : xw_back hl Γ gh h a L S = true) (hf : fh a.1 = some h) (ha : a ∈ act) : xw_Tj e0 D t A H0 hl Γ X xs ws0 nL gh gz fh Go act a.1 L [] S := by
  intro ρ ls vst H locs ws hR hG hH
  obtain ⟨⟨hlen, lvs, hls, hL⟩, hst, hWl, hS, hM⟩ := hR
  have ev := hst.nil
  subst ev
  obtain ⟨ρ0, m0, hu, hm, ⟨lvs0, hL0⟩, ⟨μ0, hM0⟩, hlen0, hPH⟩ := hH a ha
  unfold xw_back at hb
  obtain ⟨b1, hb⟩ := xv_and_t hb
  obtain ⟨b2, hb⟩ := xv_and_t hb
  obtain ⟨b3, hb⟩ := xv_and_t hb
  obtain ⟨b4, b5⟩ := xv_and_t hb
  obtain ⟨al, hal, b5⟩ := xw_orl_ok b5
  have has : ws.map Prod.fst = ws0.map Prod.fst := hWl.2.2.2.2.2.2
  have hU := xw_uq_of hls
  have hWd := hWl.2.2.2.1
  obtain ⟨g1, g2, g3, ρ1, S1, k1, u1, hS1, hM1, e1⟩ := xw_chk_ok (gz := gz) hWd b5 hS hM hL hU hG.1
  obtain ⟨ρ2, S2, ⟨l, k2, hl2⟩, u2, hS2, hM2, e2⟩ := xw_tv_ok (gz := gz) hWd k1 hS1 hM1 ((hL.lz hU).more u1) (hG.more u1).1
  obtain ⟨p1, p2⟩ := xv_and_t k2
  have hm2 := hm.more (u1.tr u2)
  have p1 := xw_prove_ok hS2 p1 ((hm2.sub hl2).k (-1))
  have p2 := xw_prove_ok hS2 p2 hm2
  refine hPH h hf al hal ls H locs ws lvs hls ?_ ?_ ?_ g1 g2 g3 p2 (by omega)
  · refine hWl.dt (fun r j hin => ?_) (fun r c hc => ?_)
    · obtain ⟨c', hc', q⟩ := xw_isin_mem hin
      have := xw_anl_ok b4 _ hc'
      obtain ⟨c2, hc2, q2⟩ := xw_isin_mem this
      exact xw_isin_of (by dsimp only at q2; omega) hc2
    · have := xw_anl_ok b4 _ hc
      obtain ⟨c2, hc2, -⟩ := xw_isin_mem this
      exact ⟨c2, hc2⟩
  · rw [has]
    rw [has] at hM
    exact ⟨xw_Mk.less hu hM0.1 (fun m hm => hM.1 m (xw_sub1_ok xw_eqM_ok b2 m hm)), xw_Gk.less hu hM0.2 (fun g hg => hM.2 g (xw_sub1_ok xw_eqG_ok b3 g hg))⟩
  · intro i v hi hne
    obtain ⟨-, h2⟩ := xw_leq_ok b1
    rcases h2 i v hi with ⟨q, hq, e⟩ | q
    · exact Or.inl ⟨q, hq, by omega⟩
    · obtain ⟨x, hx, hv⟩ := hL i v q hne
      obtain ⟨x0, -, hv0⟩ := hL0 i v hi hne
      rw [has] at hv ⊢
      exact Or.inr ⟨x, hx, xw_hv.less hu hv0 hv⟩
/-- a head is come to -/
theorem xw_ent_ok {h : xw_H} {pc : Nat} {act : List xw_A} {L : List xw_V} {S : xw_S} {k : xw_A → List xw_V → xw_S → Bool} (he : xw_ent hl Γ gh h pc L S k = true) (hf : fh pc = some h) (hbody : ∀ a L1 S1, a.1 = pc → k a L1 S1 = true → xw_Tj e0 D t A H0 hl Γ X xs ws0 nL gh gz fh Go (a :: act) pc L1 [] S1) : xw_Tj e0 D t A H0 hl Γ X xs ws0 nL gh gz fh Go act pc L [] S := by
  intro ρ ls0 vst H1 locs1 ws1 hR hG hH
  obtain ⟨⟨hlen, lvs1, hls1, hL1⟩, hst, hWl1, hS, hM⟩ := hR
  have ev := hst.nil
  subst ev
  have has1 : ws1.map Prod.fst = ws0.map Prod.fst := hWl1.2.2.2.2.2.2
  unfold xw_ent at he
  obtain ⟨e1, e2⟩ := xv_and_t he
  obtain ⟨hSk, hMk⟩ := xw_kills_ok (X := X) (as := ws1.map Prod.fst) (μ' := xw_mu xs ws1) h.2.1 hS hM (fun _ _ _ => rfl)
  have hn := xw_kills_n h.2.1 S
  have claim : ∀ N : Nat, ∀ al ∈ h.2.2.2.1, ∀ (ls : Array Slot) (H : Heap) (locs : List Loc) (ws : va_W) (lvs : List (Nat × Value)), lv_has ls nL lvs → xw_Wl D t A H0 hl Γ X xs ws0 (xw_kills h.2.1 S).2.2.2.2.2.2 H locs ws → xw_Me X (ws.map Prod.fst) (xw_mu xs ws) ρ (xw_kills h.2.1 S) → xw_DL X (ws.map Prod.fst) ρ (xw_kills h.2.1 S).2.1 h.1 L lvs → xw_Rg lvs h.1 al.1 → (∀ g ∈ h.2.2.1, xw_Sc (xw_lz lvs) gz (xw_mu xs ws) g) → (∀ T ∈ al.2.1, 0 ≤ xw_ttz (xw_lz lvs) gz (xw_mu xs ws) T) → (xw_ttz (xw_lz lvs) gz (xw_mu xs ws) al.2.2 + 1).toNat ≤ N → Go pc ls [] H locs := by
    intro N
    induction N with
    | zero =>
      intro al hal ls H locs ws lvs hls hWl hMe hDL hRg hSc hfa hN
      obtain ⟨ρ', l, L', S', k1, u, hS', hM', hL', hl', e', len'⟩ := xw_gen_ok (gz := gz) hWl.2.2.2.1 (xw_anl_ok e2 al hal) hSk hMe hRg (xw_uq_of hls) hDL (by rw [hn]; exact hG.1) hSc hfa
      refine hbody (pc, l, L, xw_kills h.2.1 S) L' S' rfl k1 ρ' ls [] H locs ws ⟨⟨by rw [len', hlen], lvs, hls, hL'⟩, True.intro, by rw [e']; exact hWl, hS', hM'⟩ (hG.more (by rw [← hn]; exact u)) (fun a ha => ?_)
      rcases List.mem_cons.mp ha with q | q
      · subst q
        refine ⟨ρ, _, u, hl', ⟨lvs1, by rw [← has1]; show xw_lm X _ ρ (xw_kills h.2.1 S).2.1 L lvs1; rw [hn]; exact hL1⟩, ⟨xw_mu xs ws1, by rw [← has1]; exact hMk⟩, hlen, fun h' hf' al' hal' ls' H' locs' ws' lvs' c1 c2 c3 c4 c5 c6 c7 c8 c9 => ?_⟩
        omega
      · exact (hH a q).more (by rw [← hn]; exact u)
    | succ N ih =>
      intro al hal ls H locs ws lvs hls hWl hMe hDL hRg hSc hfa hN
      obtain ⟨ρ', l, L', S', k1, u, hS', hM', hL', hl', e', len'⟩ := xw_gen_ok (gz := gz) hWl.2.2.2.1 (xw_anl_ok e2 al hal) hSk hMe hRg (xw_uq_of hls) hDL (by rw [hn]; exact hG.1) hSc hfa
      refine hbody (pc, l, L, xw_kills h.2.1 S) L' S' rfl k1 ρ' ls [] H locs ws ⟨⟨by rw [len', hlen], lvs, hls, hL'⟩, True.intro, by rw [e']; exact hWl, hS', hM'⟩ (hG.more (by rw [← hn]; exact u)) (fun a ha => ?_)
      rcases List.mem_cons.mp ha with q | q
      · subst q
        refine ⟨ρ, _, u, hl', ⟨lvs1, by rw [← has1]; show xw_lm X _ ρ (xw_kills h.2.1 S).2.1 L lvs1; rw [hn]; exact hL1⟩, ⟨xw_mu xs ws1, by rw [← has1]; exact hMk⟩, hlen, fun h' hf' al' hal' ls' H' locs' ws' lvs' c1 c2 c3 c4 c5 c6 c7 c8 c9 => ?_⟩
        have eh : h' = h := by
          have hf' : fh pc = some h' := hf'
          rw [hf] at hf'
          cases hf'; rfl
        subst eh
        exact ih al' hal' ls' H' locs' ws' lvs' c1 c2 c3 c4 c5 c6 c7 (by omega)
      · exact (hH a q).more (by rw [← hn]; exact u)
  obtain ⟨al, hal, ec⟩ := xw_orl_ok e1
  obtain ⟨g1, g2, g3, -⟩ := xw_chk_ok (gz := gz) hWl1.2.2.2.1 ec hS hM hL1 (xw_uq_of hls1) hG.1
  refine claim _ al hal ls0 H1 locs1 ws1 lvs1 hls1 ?_ hMk ?_ g1 g2 g3 (Nat.le_refl _)
  · exact hWl1.dt (fun r j hin => xw_kills_in h.2.1 (Or.inl hin)) (fun r c hc => ⟨c, xw_kills_old h.2.1 hc⟩)
  · intro i v hi hne
    rw [hn]
    exact Or.inr (hL1 i v hi hne)
theorem xw_Tj.sub {act act' : List xw_A} {pc : Nat} {L st : List xw_V} {S : xw_S} (hs : ∀ a ∈ act, a ∈ act') (h : xw_Tj e0 D t A H0 hl Γ X xs ws0 nL gh gz fh Go act pc L st S) : xw_Tj e0 D t A H0 hl Γ X xs ws0 nL gh gz fh Go act' pc L st S := fun ρ ls vst H locs ws hR hG hH => h ρ ls vst H locs ws hR hG (fun a ha => hH a (hs a ha))
/-- a step that leaves locals, stack and cells as they are -/
theorem xw_Rl.up {ρ ρ' : Nat → Int} {L st : List xw_V} {S S' : xw_S} {ls : Array Slot} {vst : List Value} {H : Heap} {locs : List Loc} {ws : va_W} (h : xw_Rl D t A H0 hl Γ X xs ws0 nL ρ L st S ls vst H locs ws) (hu : xw_Up ρ S.2.1 ρ' S'.2.1) (hS : xw_St ρ' S') (hM : xw_Me X (ws.map Prod.fst) (xw_mu xs ws) ρ' S') (e : S'.2.2.2.2.2.2 = S.2.2.2.2.2.2) : xw_Rl D t A H0 hl Γ X xs ws0 nL ρ' L st S' ls vst H locs ws := by
  obtain ⟨⟨h0, lvs, h1, h2⟩, h3, h4, -, -⟩ := h
  exact ⟨⟨h0, lvs, h1, h2.more hu⟩, h3.more hu, by rw [e]; exact h4, hS, hM⟩
theorem xw_part_ok {ρ : Nat → Int} {S : xw_S} {l : xw_L} {z : Int} {k : xw_S → Bool} (hS : xw_St ρ S) (hl' : xw_is ρ S.2.1 l z) : ∀ (n : Nat) (c : Int), xw_part l S k c n = true → c ≤ z → z ≤ c + (n : Int) - 1 → xw_Ra ρ S k
  | 0, c, _, h1, h2 => by omega
  | n + 1, c, h, h1, h2 => by
    have h : (xw_asm S (xw_k l (-c)) (fun S1 => xw_asm S1 (xw_k (xw_neg l) c) k) && xw_part l S k (c + 1) n) = true := h
    obtain ⟨g1, g2⟩ := xv_and_t h
    by_cases e : z = c
    · exact xw_Ra.asm2 hS g1 (hl'.k _) (by omega) (hl'.neg.k _) (by omega)
    · exact xw_part_ok hS hl' n (c + 1) g2 (by omega) (by omega)
/-- a number is parted -/
theorem xw_fork_ok {T : xw_T} {c : Int} {n pc : Nat} {act : List xw_A} {L st : List xw_V} {S : xw_S} {k : xw_S → Bool} (h : xw_tv hl Γ gh L T S (fun l S1 => xw_prove S1 (xw_k l (-c)) && (xw_prove S1 (xw_k (xw_neg l) (c + Int.ofNat n - 1)) && xw_part l S1 k c n)) = true) (hk : ∀ S2, k S2 = true → xw_Tj e0 D t A H0 hl Γ X xs ws0 nL gh gz fh Go act pc L st S2) : xw_Tj e0 D t A H0 hl Γ X xs ws0 nL gh gz fh Go act pc L st S := by
  intro ρ ls vst H locs ws hR hG hH
  obtain ⟨⟨hlen, lvs, hls, hL⟩, hst, hWl, hS, hM⟩ := id hR
  obtain ⟨ρ1, S1, ⟨l, k1, hl1⟩, u1, hS1, hM1, e1⟩ := xw_tv_ok (gz := gz) hWl.2.2.2.1 h hS hM (hL.lz (xw_uq_of hls)) hG.1
  obtain ⟨p1, k1⟩ := xv_and_t k1
  obtain ⟨p2, k1⟩ := xv_and_t k1
  have p1 := xw_prove_ok hS1 p1 (hl1.k _)
  have p2 := xw_prove_ok hS1 p2 (hl1.neg.k _)
  have ei : Int.ofNat n = (n : Int) := rfl
  obtain ⟨S2, g1, g2, g3, g4⟩ := xw_part_ok hS1 hl1 n c k1 (by omega) (by omega)
  have hR1 := hR.up u1 hS1 hM1 e1
  have hR2 : xw_Rl D t A H0 hl Γ X xs ws0 nL ρ1 L st S2 ls vst H locs ws := hR1.up (by rw [g3]; exact xw_Up.rf) g2 (xw_Re.me hM1 (by rw [g3]; exact xw_Up.rf) g4.1 g4.2.1) g4.2.2
  exact hk S2 g1 ρ1 ls vst H locs ws hR2 (hG.more (by rw [g3]; exact u1)) (fun a ha => (hH a ha).more (by rw [g3]; exact u1))
end XWO
