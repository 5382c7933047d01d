
/-! all contracts -/
theorem xh_toPk {l : Launch} {y : MethodName} {wc : List Cond} {rm : Room} {D : va_G} {t : Nat → ClassId} {hl : Nat × Int} {Γ : xv_A} {X : xw_X} {xs : Nat → Int32} {ws : va_W} {vs : List Value} {sz : Nat} {c : xw_C} {dd : xw_D} {Po : va_W → Option Value → Prop} (h : Met l y wc rm (xw_Pr D t X xs ws vs sz) (xh_Q D t hl Γ X xs ws sz dd Po) 0 0 (va_A ws sz)) (hdd : dd = c.2.2.2.2.2.1) (hp : ∀ ws' rv, Po ws' rv → ∃ p ∈ c.2.2.2.2.1, xw_Pv vs (xw_gv c vs (xw_mu xs ws)) (xw_mu xs ws') p rv) : Met l y wc rm (xw_Pr D t X xs ws vs sz) (xw_Pk D t hl Γ X xs ws vs sz c) 0 0 (va_A ws sz) := xy_mono h (fun a st o tt hQ => by
  obtain ⟨⟨rv, ws', rfl, hb, hPo⟩, hF⟩ := hQ
  exact ⟨⟨rv, ws', rfl, hdd ▸ hb, hp ws' rv hPo⟩, hF⟩)
theorem xz_v2 {X : xw_X} {as : List Nat} {r : Nat} {x : Value} {A : Prop} (h : ((((2, (r : Int), (0 : Int)) : Nat × Int × Int).1 = 0 ∧ ∃ i : Int32, x = .int i ∧ (r : Int) ≤ i.toInt ∧ i.toInt ≤ 0) ∨ (((2, (r : Int), (0 : Int)) : Nat × Int × Int).1 = 1 ∧ ∃ i : Int64, x = .long i ∧ (r : Int) ≤ i.toInt ∧ i.toInt ≤ 0) ∨ (((2, (r : Int), (0 : Int)) : Nat × Int × Int).1 = 2 ∧ ∃ ad, as[(r : Int).toNat]? = some ad ∧ x = .ref ad) ∨ (((2, (r : Int), (0 : Int)) : Nat × Int × Int).1 = 4 ∧ ∃ j ad, j < (0 : Int).toNat ∧ as[(r : Int).toNat + j]? = some ad ∧ x = .ref ad) ∨ (((2, (r : Int), (0 : Int)) : Nat × Int × Int).1 = 6 ∧ ∃ ad, x = .ref ad ∧ X.2.2.1 ad)) ∧ A) : (∃ ad, as[r]? = some ad ∧ x = .ref ad) ∧ A := by
  refine ⟨?_, h.2⟩
  rcases h.1 with ⟨w, -⟩ | ⟨w, -⟩ | ⟨-, ad, w⟩ | ⟨w, -⟩ | ⟨w, -⟩
  · cases w
  · cases w
  · exact ⟨ad, by simpa using w⟩
  · cases w
  · cases w
theorem xz_47 {l : Launch} {I : Nat → Option xv_I} (hJI : I = xv_JI xt_J) (hM : xw_MOK xt_M I) : xw_CV l I xz_hl xz_G (79, [(2, 1, 0), (6, 0, 0)], [], [], [(0, 0, 0, []), (0, 1, 1, [])], [], 6) := by
  obtain ⟨i, hi, h⟩ := xj_word (l := l) hJI hM
  refine ⟨i, hi, fun d hd D t X xs ws vs sz hI hWd hsv _ hD0 => ?_⟩
  match vs, hsv with
  | [x0, x1], hsv =>
    obtain ⟨⟨ad, had, rfl⟩, hs2⟩ := xz_v2 (r := 1) hsv
    rcases hs2.1 with ⟨w, -⟩ | ⟨w, -⟩ | ⟨w, -⟩ | ⟨w, -⟩ | ⟨-, aw, rfl, haw⟩
    · cases w
    · cases w
    · cases w
    · cases w
    · refine xh_toPk (h d hd D t X xs ws sz ad aw hI hWd hD0 had haw) rfl (fun ws' rv hPo => ?_)
      obtain ⟨a, rfl, ha⟩ := hPo
      rcases ha with rfl | rfl
      · exact ⟨_, List.mem_cons_self, Or.inr (Or.inl ⟨rfl, 0, rfl, by decide, by decide⟩), fun _ h => by cases h⟩
      · exact ⟨_, List.mem_cons_of_mem _ List.mem_cons_self, Or.inr (Or.inl ⟨rfl, 1, rfl, by decide, by decide⟩), fun _ h => by cases h⟩
theorem xz_laysDeal {l : Launch} {I : Nat → Option xv_I} (hJI : I = xv_JI xt_J) (hM : xw_MOK xt_M I) : xw_CV l I xz_hl xz_G (284, [(2, 102, 0)], [], [], [(9, 0, 0, [])], [(102, 25), (115, 0), (118, 0), (120, 0)], 8) := by
  obtain ⟨i, hi, h⟩ := xd_lays (l := l) hJI hM
  refine ⟨i, hi, fun d hd D t X xs ws vs sz hI hWd hsv _ hD0 => ?_⟩
  have hd : 8 ≤ d := hd
  match vs, hsv with
  | [x0], hsv =>
    obtain ⟨⟨ad, had, rfl⟩, -⟩ := xz_v2 (r := 102) hsv
    refine xh_toPk (h d (by omega) D t X xs ws sz ad hI hWd hD0 had) rfl (fun ws' rv hPo => ?_)
    obtain ⟨rfl, -⟩ := hPo
    exact ⟨_, List.mem_cons_self, Or.inl ⟨rfl, rfl⟩, fun _ h => by cases h⟩
theorem xz_dealt {l : Launch} {I : Nat → Option xv_I} (hJI : I = xv_JI xt_J) (hM : xw_MOK xt_M I) : xw_CV l I xz_hl xz_G (287, [(2, 102, 0), (0, (-2147483648), 2147483647)], [], [], [(0, (-2), 7, [])], [(102, 1), (102, 25), (115, 0), (118, 0), (120, 0)], 10) := by
  obtain ⟨i, hi, h⟩ := xd_dealt (l := l) hJI hM
  refine ⟨i, hi, fun d hd D t X xs ws vs sz hI hWd hsv _ hD0 => ?_⟩
  have hd : 10 ≤ d := hd
  match vs, hsv with
  | [x0, x1], hsv =>
    obtain ⟨⟨ad, had, rfl⟩, hs2⟩ := xz_v2 (r := 102) hsv
    rcases hs2.1 with ⟨-, k, rfl, -, -⟩ | ⟨w, -⟩ | ⟨w, -⟩ | ⟨w, -⟩ | ⟨w, -⟩
    · refine xh_toPk (h d (by omega) D t X xs ws sz ad k hI hWd hD0 had) rfl (fun ws' rv hPo => ?_)
      obtain ⟨a, rfl, a0, a1⟩ := hPo
      exact ⟨_, List.mem_cons_self, Or.inr (Or.inl ⟨rfl, a, rfl, a0, a1⟩), fun _ h => by cases h⟩
    · cases w
    · cases w
    · cases w
    · cases w
theorem xz_orders {l : Launch} {I : Nat → Option xv_I} (hM : xw_MOK xt_M I) : xw_CV l I xz_hl xz_G (262, [(2, 102, 0), (0, (-2147483648), 2147483647), (0, (-2147483648), 2147483647)], [], [], [(0, (-2147483648), 2147483647, [])], [(102, 1), (116, 0), (117, 0)], 10) := by
  obtain ⟨i, hi, h⟩ := xo_orders (l := l) hM
  refine ⟨i, hi, fun d hd D t X xs ws vs sz hI hWd hsv _ hD0 => ?_⟩
  have hd : 10 ≤ d := hd
  match vs, hsv with
  | [x0, x1, x2], hsv =>
    obtain ⟨⟨ad, had, rfl⟩, hs2⟩ := xz_v2 (r := 102) hsv
    rcases hs2.1 with ⟨-, k, rfl, -, -⟩ | ⟨w, -⟩ | ⟨w, -⟩ | ⟨w, -⟩ | ⟨w, -⟩
    · rcases hs2.2.1 with ⟨-, k2, rfl, -, -⟩ | ⟨w, -⟩ | ⟨w, -⟩ | ⟨w, -⟩ | ⟨w, -⟩
      · refine xh_toPk (h d (by omega) D t X xs ws sz ad k k2 hI hWd hD0 had) rfl (fun ws' rv hPo => ?_)
        obtain ⟨a, rfl⟩ := hPo
        exact ⟨_, List.mem_cons_self, Or.inr (Or.inl ⟨rfl, a, rfl, (xv_i32 a).1, (xv_i32 a).2⟩), fun _ h => by cases h⟩
      · cases w
      · cases w
      · cases w
      · cases w
    · cases w
    · cases w
    · cases w
    · cases w
theorem xz_same {n : Nat} {c c' : xw_C} (h : xv_get 20 xz_CT n = some c) (h' : xv_get 20 xz_CT n = some c') : c = c' := by
  rw [h] at h'; cases h'; rfl
/-- every contract holds -/
theorem xz_allc (l : Launch) : ∀ n, n < 422 → ∀ c, xv_get 20 xz_CT n = some c → xw_CV l (xv_JI xt_J) xz_hl xz_G c := by
  refine xz_ind xt_ok2 xz_hc (fun n hn c hc => ?_)
  have hm : n = 47 ∨ n = 306 ∨ n = 308 ∨ n = 421 := by
    unfold xz_sp at hn
    simpa using hn
  rcases hm with rfl | rfl | rfl | rfl
  · rw [xz_same hc (c' := (79, [(2, 1, 0), (6, 0, 0)], [], [], [(0, 0, 0, []), (0, 1, 1, [])], [], 6)) rfl]; exact xz_47 rfl xt_ok2
  · rw [xz_same hc (c' := (284, [(2, 102, 0)], [], [], [(9, 0, 0, [])], [(102, 25), (115, 0), (118, 0), (120, 0)], 8)) rfl]; exact xz_laysDeal rfl xt_ok2
  · rw [xz_same hc (c' := (287, [(2, 102, 0), (0, (-2147483648), 2147483647)], [], [], [(0, (-2), 7, [])], [(102, 1), (102, 25), (115, 0), (118, 0), (120, 0)], 10)) rfl]; exact xz_dealt rfl xt_ok2
  · rw [xz_same hc (c' := (262, [(2, 102, 0), (0, (-2147483648), 2147483647), (0, (-2147483648), 2147483647)], [], [], [(0, (-2147483648), 2147483647, [])], [(102, 1), (116, 0), (117, 0)], 10)) rfl]; exact xz_orders xt_ok2
