/-! the law's runs: first up to its loop, then, from the switch on, call by call: the script's numbers in boxes -/
noncomputable def xq_1 : Option xv_R := xv_run (xv_calls xt_M 100000 6) [] 19 xt_190 100000 xt_190 0 [(5, 0, 0), xv_un, xv_un, xv_un] [] (xv_h0, 0, 0, 0)
noncomputable def xq_go (r : xv_R) (lo hi : Int) (box : List xv_V) : Bool := match xv_run (xv_calls xt_M 100000 6) box 0 xt_190 100000 xt_190 33 r.2.1 [(0, lo, hi)] (r.2.2.1, r.2.2.2.1, r.2.2.2.2.1, r.2.2.2.2.2) with
  | some q => Nat.ble q.2.2.2.2.1 600000 && (Nat.ble q.2.2.2.2.2 7302250 && (match q.1 with
    | [x] => Nat.beq x.1 0 && (xv_le 1 x.2.1 && xv_le x.2.2 1)
    | _ => false))
  | none => false
/-- a box is cut in two, again and again: (0, _) a box to be looked at, (j, c) place j is cut behind c -/
noncomputable def xq_tree (g : List xv_V → Bool) : Nat → List (Nat × Int) → List xv_V → Option (List (Nat × Int)) := Nat.rec (motive := fun _ => List (Nat × Int) → List xv_V → Option (List (Nat × Int))) (fun _ _ => none) (fun _ ih prog box => match prog with
  | [] => none
  | (j, c) :: rest => bif Nat.beq j 0 then (bif g box then some rest else none) else (match xv_nth box j with
    | some v => (match ih rest (xv_put (0, v.2.1, c) box j) with
      | some rest' => ih rest' (xv_put (0, c + 1, v.2.2) box j)
      | none => none)
    | none => none))
def xq_in (box : List xv_V) (xs : Nat → Int32) : Prop := ∀ (j : Nat) (v : xv_V), box[j]? = some v → v.1 = 0 ∧ v.2.1 ≤ (xs j).toInt ∧ (xs j).toInt ≤ v.2.2
theorem xq_in_put {box : List xv_V} {xs : Nat → Int32} {j : Nat} {v : xv_V} (h : xq_in box xs) (hv : v.1 = 0 ∧ v.2.1 ≤ (xs j).toInt ∧ (xs j).toInt ≤ v.2.2) : xq_in (xv_put v box j) xs := fun i w hi => by
  rw [xv_put_eq] at hi
  by_cases e : j = i
  · subst e
    by_cases hl : j < box.length
    · rw [List.getElem?_set_self hl] at hi
      cases hi
      exact hv
    · rw [List.set_eq_of_length_le (by omega)] at hi
      exact h j w hi
  · rw [List.getElem?_set_ne e] at hi
    exact h i w hi
theorem xq_tree_ok {g : List xv_V → Bool} : ∀ (F : Nat) (prog : List (Nat × Int)) (box : List xv_V) (rest : List (Nat × Int)) (xs : Nat → Int32), xq_tree g F prog box = some rest → xq_in box xs → ∃ box', box'.length = box.length ∧ g box' = true ∧ xq_in box' xs
  | 0, _, _, _, _, h, _ => by cases h
  | F + 1, [], _, _, _, h, _ => by cases h
  | F + 1, (j, c) :: prog, box, rest, xs, h, hx => by
    have h : (bif Nat.beq j 0 then (bif g box then some prog else none) else (match xv_nth box j with
    | some v => (match xq_tree g F prog (xv_put (0, v.2.1, c) box j) with
      | some rest' => xq_tree g F rest' (xv_put (0, c + 1, v.2.2) box j)
      | none => none)
    | none => none)) = some rest := h
    cases hb : Nat.beq j 0 with
    | true =>
      rw [hb] at h
      exact ⟨box, rfl, (xv_bt h).1, hx⟩
    | false =>
      rw [hb] at h
      simp only [cond_false] at h
      cases hn : xv_nth box j with
      | none => rw [hn] at h; cases h
      | some v =>
        rw [hn] at h
        rw [xv_nth_eq] at hn
        obtain ⟨v0, v1, v2⟩ := hx j v hn
        dsimp only at h
        cases hl : xq_tree g F prog (xv_put (0, v.2.1, c) box j) with
        | none => rw [hl] at h; cases h
        | some rest' =>
          rw [hl] at h
          by_cases hc : (xs j).toInt ≤ c
          · obtain ⟨b', e1, e2, e3⟩ := xq_tree_ok F prog _ rest' xs hl (xq_in_put hx ⟨rfl, v1, hc⟩)
            exact ⟨b', by rw [e1, xv_put_eq, List.length_set], e2, e3⟩
          · obtain ⟨b', e1, e2, e3⟩ := xq_tree_ok F rest' _ rest xs h (xq_in_put hx ⟨rfl, by show c + 1 ≤ _; omega, v2⟩)
            exact ⟨b', by rw [e1, xv_put_eq, List.length_set], e2, e3⟩
noncomputable def xq_all : List xv_V := [xv_ti, xv_ti, xv_ti, xv_ti, xv_ti, xv_ti]
/-- a call of the law, over one box -/
noncomputable def xq_C (lo hi : Int) (prog : List (Nat × Int)) (box : List xv_V) : Bool := match xq_1 with
  | some r => (match xq_tree (xq_go r lo hi) 100000 prog box with
    | some _ => true
    | none => false)
  | none => false
theorem xq_C_ok {lo hi : Int} {prog : List (Nat × Int)} {box : List xv_V} {r : xv_R} {xs : Nat → Int32} (hr : xq_1 = some r) (h : xq_C lo hi prog box = true) (hx : xq_in box xs) : ∃ box', box'.length = box.length ∧ xq_go r lo hi box' = true ∧ xq_in box' xs := by
  unfold xq_C at h
  rw [hr] at h
  dsimp only at h
  cases ht : xq_tree (xq_go r lo hi) 100000 prog box with
  | none => rw [ht] at h; cases h
  | some rest => exact xq_tree_ok _ _ _ _ _ ht hx
set_option maxRecDepth 100000 in
theorem xq_1ok : (match xq_1 with
  | some r => decide (r.1 = []) && (decide (r.2.1 = [(5, 0, 0), (2, 0, 0), (2, 102, 0), (0, 0, 0)]) && (Nat.ble r.2.2.2.2.1 600000 && Nat.ble r.2.2.2.2.2 7302250))
  | none => false) = true := by decide +kernel
set_option maxRecDepth 100000 in
set_option maxHeartbeats 4000000 in
theorem xq_o0 : xq_C 0 0 [(0, 0)] xq_all = true := by decide +kernel
set_option maxRecDepth 100000 in
set_option maxHeartbeats 4000000 in
theorem xq_o1 : xq_C 1 1 [(1, (-1)), (0, 0), (1, 0), (0, 0), (0, 0)] xq_all = true := by decide +kernel
set_option maxRecDepth 100000 in
set_option maxHeartbeats 4000000 in
theorem xq_o2 : xq_C 2 2 [(0, 0)] xq_all = true := by decide +kernel
set_option maxRecDepth 100000 in
set_option maxHeartbeats 4000000 in
theorem xq_o3 : xq_C 3 3 [(1, (-1)), (0, 0), (1, 0), (0, 0), (1, 1), (0, 0), (0, 0)] xq_all = true := by decide +kernel
set_option maxRecDepth 100000 in
set_option maxHeartbeats 4000000 in
theorem xq_o4 : xq_C 4 4 [(1, (-1)), (0, 0), (0, 0)] xq_all = true := by decide +kernel
set_option maxRecDepth 100000 in
set_option maxHeartbeats 4000000 in
theorem xq_o5 : xq_C 5 5 [(1, (-1)), (0, 0), (0, 0)] xq_all = true := by decide +kernel
set_option maxRecDepth 100000 in
set_option maxHeartbeats 4000000 in
theorem xq_o6 : xq_C 6 6 [(1, (-1)), (0, 0), (0, 0)] xq_all = true := by decide +kernel
set_option maxRecDepth 100000 in
set_option maxHeartbeats 4000000 in
theorem xq_o7 : xq_C 7 7 [(1, (-1)), (0, 0), (0, 0)] xq_all = true := by decide +kernel
set_option maxRecDepth 100000 in
set_option maxHeartbeats 4000000 in
theorem xq_o8 : xq_C 8 8 [(1, (-1)), (0, 0), (0, 0)] xq_all = true := by decide +kernel
set_option maxRecDepth 100000 in
set_option maxHeartbeats 4000000 in
theorem xq_o9 : xq_C 9 9 [(1, (-1)), (0, 0), (0, 0)] xq_all = true := by decide +kernel
set_option maxRecDepth 100000 in
set_option maxHeartbeats 4000000 in
theorem xq_o10 : xq_C 10 10 [(1, (-1)), (0, 0), (0, 0)] xq_all = true := by decide +kernel
set_option maxRecDepth 100000 in
set_option maxHeartbeats 4000000 in
theorem xq_o11 : xq_C 11 11 [(1, (-1)), (0, 0), (0, 0)] xq_all = true := by decide +kernel
set_option maxRecDepth 100000 in
set_option maxHeartbeats 4000000 in
theorem xq_o12 : xq_C 12 12 [(1, (-1)), (0, 0), (0, 0)] xq_all = true := by decide +kernel
set_option maxRecDepth 100000 in
set_option maxHeartbeats 4000000 in
theorem xq_o13 : xq_C 13 13 [(1, (-1)), (0, 0), (0, 0)] xq_all = true := by decide +kernel
set_option maxRecDepth 100000 in
set_option maxHeartbeats 4000000 in
theorem xq_o14 : xq_C 14 14 [(1, (-1)), (0, 0), (0, 0)] xq_all = true := by decide +kernel
set_option maxRecDepth 100000 in
set_option maxHeartbeats 4000000 in
theorem xq_o15 : xq_C 15 15 [(0, 0)] xq_all = true := by decide +kernel
set_option maxRecDepth 100000 in
set_option maxHeartbeats 4000000 in
theorem xq_o16 : xq_C 16 16 [(0, 0)] xq_all = true := by decide +kernel
set_option maxRecDepth 100000 in
set_option maxHeartbeats 4000000 in
theorem xq_o17 : xq_C 17 17 [(0, 0)] xq_all = true := by decide +kernel
set_option maxRecDepth 100000 in
set_option maxHeartbeats 4000000 in
theorem xq_o18 : xq_C 18 18 [(0, 0)] xq_all = true := by decide +kernel
set_option maxRecDepth 100000 in
set_option maxHeartbeats 4000000 in
theorem xq_o19 : xq_C 19 19 [(1, (-1)), (0, 0), (0, 0)] xq_all = true := by decide +kernel
set_option maxRecDepth 100000 in
set_option maxHeartbeats 4000000 in
theorem xq_o20 : xq_C 20 20 [(1, (-1)), (0, 0), (0, 0)] xq_all = true := by decide +kernel
set_option maxRecDepth 100000 in
set_option maxHeartbeats 4000000 in
theorem xq_o21 : xq_C 21 21 [(1, (-1)), (0, 0), (0, 0)] xq_all = true := by decide +kernel
set_option maxRecDepth 100000 in
set_option maxHeartbeats 4000000 in
theorem xq_o22 : xq_C 22 22 [(1, (-1)), (0, 0), (0, 0)] xq_all = true := by decide +kernel
set_option maxRecDepth 100000 in
set_option maxHeartbeats 4000000 in
theorem xq_o23 : xq_C 23 23 [(1, (-1)), (0, 0), (0, 0)] xq_all = true := by decide +kernel
set_option maxRecDepth 100000 in
set_option maxHeartbeats 4000000 in
theorem xq_o24 : xq_C 24 24 [(1, (-1)), (0, 0), (0, 0)] xq_all = true := by decide +kernel
set_option maxRecDepth 100000 in
set_option maxHeartbeats 4000000 in
theorem xq_o25 : xq_C 25 25 [(1, (-1)), (0, 0), (0, 0)] xq_all = true := by decide +kernel
set_option maxRecDepth 100000 in
set_option maxHeartbeats 4000000 in
theorem xq_o26 : xq_C 26 26 [(1, (-1)), (0, 0), (0, 0)] xq_all = true := by decide +kernel
set_option maxRecDepth 100000 in
set_option maxHeartbeats 4000000 in
theorem xq_o27 : xq_C 27 27 [(1, (-1)), (0, 0), (0, 0)] xq_all = true := by decide +kernel
set_option maxRecDepth 100000 in
set_option maxHeartbeats 4000000 in
theorem xq_o28 : xq_C 28 28 [(1, (-1)), (0, 0), (0, 0)] xq_all = true := by decide +kernel
set_option maxRecDepth 100000 in
set_option maxHeartbeats 4000000 in
theorem xq_o29 : xq_C 29 29 [(1, (-1)), (0, 0), (0, 0)] xq_all = true := by decide +kernel
set_option maxRecDepth 100000 in
set_option maxHeartbeats 4000000 in
theorem xq_o30 : xq_C 30 30 [(1, (-1)), (0, 0), (0, 0)] xq_all = true := by decide +kernel
set_option maxRecDepth 100000 in
set_option maxHeartbeats 4000000 in
theorem xq_o31 : xq_C 31 31 [(0, 0)] xq_all = true := by decide +kernel
set_option maxRecDepth 100000 in
set_option maxHeartbeats 4000000 in
theorem xq_o32 : xq_C 32 32 [(0, 0)] xq_all = true := by decide +kernel
set_option maxRecDepth 100000 in
set_option maxHeartbeats 4000000 in
theorem xq_o33 : xq_C 33 33 [(1, (-1)), (0, 0), (0, 0)] xq_all = true := by decide +kernel
set_option maxRecDepth 100000 in
set_option maxHeartbeats 4000000 in
theorem xq_o34 : xq_C 34 34 [(0, 0)] xq_all = true := by decide +kernel
set_option maxRecDepth 100000 in
set_option maxHeartbeats 4000000 in
theorem xq_o35 : xq_C 35 35 [(0, 0)] xq_all = true := by decide +kernel
set_option maxRecDepth 100000 in
set_option maxHeartbeats 4000000 in
theorem xq_o36 : xq_C 36 36 [(0, 0)] xq_all = true := by decide +kernel
set_option maxRecDepth 100000 in
set_option maxHeartbeats 4000000 in
theorem xq_o37 : xq_C 37 37 [(0, 0)] xq_all = true := by decide +kernel
set_option maxRecDepth 100000 in
set_option maxHeartbeats 4000000 in
theorem xq_o38 : xq_C 38 38 [(1, (-1)), (0, 0), (0, 0)] xq_all = true := by decide +kernel
set_option maxRecDepth 100000 in
set_option maxHeartbeats 4000000 in
theorem xq_o39 : xq_C 39 39 [(1, (-1)), (2, (-1)), (0, 0), (0, 0), (1, 0), (2, (-1)), (0, 0), (0, 0), (1, 1), (2, (-1)), (0, 0), (0, 0), (1, 2), (2, (-1)), (0, 0), (0, 0), (1, 3), (2, (-1)), (0, 0), (0, 0), (2, (-1)), (0, 0), (0, 0)] xq_all = true := by decide +kernel
set_option maxRecDepth 100000 in
set_option maxHeartbeats 4000000 in
theorem xq_o40 : xq_C 40 40 [(1, (-1)), (2, (-1)), (0, 0), (0, 0), (1, 0), (2, (-1)), (0, 0), (0, 0), (1, 1), (2, (-1)), (0, 0), (0, 0), (1, 2), (2, (-1)), (0, 0), (0, 0), (1, 3), (2, (-1)), (0, 0), (0, 0), (2, (-1)), (0, 0), (0, 0)] xq_all = true := by decide +kernel
set_option maxRecDepth 100000 in
set_option maxHeartbeats 4000000 in
theorem xq_o41 : xq_C 41 41 [(3, (-1)), (0, 0), (0, 0)] xq_all = true := by decide +kernel
set_option maxRecDepth 100000 in
set_option maxHeartbeats 4000000 in
theorem xq_o42 : xq_C 42 42 [(1, (-1)), (2, (-1)), (0, 0), (0, 0), (1, 0), (2, (-1)), (0, 0), (0, 0), (1, 1), (2, (-1)), (0, 0), (0, 0), (1, 2), (2, (-1)), (0, 0), (0, 0), (1, 3), (2, (-1)), (0, 0), (0, 0), (2, (-1)), (0, 0), (0, 0)] xq_all = true := by decide +kernel
set_option maxRecDepth 100000 in
set_option maxHeartbeats 4000000 in
theorem xq_o43 : xq_C 43 43 [(1, (-1)), (2, (-1)), (0, 0), (0, 0), (1, 0), (2, (-1)), (0, 0), (0, 0), (1, 1), (2, (-1)), (0, 0), (0, 0), (1, 2), (2, (-1)), (0, 0), (0, 0), (1, 3), (2, (-1)), (0, 0), (0, 0), (2, (-1)), (0, 0), (0, 0)] xq_all = true := by decide +kernel
set_option maxRecDepth 100000 in
set_option maxHeartbeats 4000000 in
theorem xq_o44 : xq_C 44 44 [(1, (-1)), (2, (-1)), (3, (-1)), (0, 0), (3, 1), (0, 0), (0, 0), (3, (-1)), (0, 0), (3, 1), (0, 0), (0, 0), (1, 0), (2, (-1)), (3, (-1)), (0, 0), (3, 1), (0, 0), (0, 0), (3, (-1)), (0, 0), (3, 1), (0, 0), (0, 0), (1, 1), (2, (-1)), (3, (-1)), (0, 0), (3, 1), (0, 0), (0, 0), (3, (-1)), (0, 0), (3, 1), (0, 0), (0, 0), (1, 2), (2, (-1)), (3, (-1)), (0, 0), (3, 1), (0, 0), (0, 0), (3, (-1)), (0, 0), (3, 1), (0, 0), (0, 0), (1, 3), (2, (-1)), (3, (-1)), (0, 0), (3, 1), (0, 0), (0, 0), (3, (-1)), (0, 0), (3, 1), (0, 0), (0, 0), (2, (-1)), (3, (-1)), (0, 0), (3, 1), (0, 0), (0, 0), (3, (-1)), (0, 0), (3, 1), (0, 0), (0, 0)] xq_all = true := by decide +kernel
set_option maxRecDepth 100000 in
set_option maxHeartbeats 4000000 in
theorem xq_o45 : xq_C 45 45 [(1, (-1)), (0, 0), (0, 0)] xq_all = true := by decide +kernel
set_option maxRecDepth 100000 in
set_option maxHeartbeats 4000000 in
theorem xq_o46 : xq_C 46 46 [(1, (-1)), (2, (-1)), (3, 0), (4, (-1)), (0, 0), (4, 1), (0, 0), (0, 0), (3, 5), (4, (-1)), (0, 0), (4, 1), (0, 0), (0, 0), (4, (-1)), (0, 0), (4, 1), (0, 0), (0, 0), (3, 0), (4, (-1)), (0, 0), (4, 1), (0, 0), (0, 0), (3, 5), (4, (-1)), (0, 0), (4, 1), (0, 0), (0, 0), (4, (-1)), (0, 0), (4, 1), (0, 0), (0, 0), (1, 0), (2, (-1)), (3, 0), (4, (-1)), (0, 0), (4, 1), (0, 0), (0, 0), (3, 5), (4, (-1)), (0, 0), (4, 1), (0, 0), (0, 0), (4, (-1)), (0, 0), (4, 1), (0, 0), (0, 0), (3, 0), (4, (-1)), (0, 0), (4, 1), (0, 0), (0, 0), (3, 5), (4, (-1)), (0, 0), (4, 1), (0, 0), (0, 0), (4, (-1)), (0, 0), (4, 1), (0, 0), (0, 0), (1, 1), (2, (-1)), (3, 0), (4, (-1)), (0, 0), (4, 1), (0, 0), (0, 0), (3, 5), (4, (-1)), (0, 0), (4, 1), (0, 0), (0, 0), (4, (-1)), (0, 0), (4, 1), (0, 0), (0, 0), (3, 0), (4, (-1)), (0, 0), (4, 1), (0, 0), (0, 0), (3, 5), (4, (-1)), (0, 0), (4, 1), (0, 0), (0, 0), (4, (-1)), (0, 0), (4, 1), (0, 0), (0, 0), (1, 2), (2, (-1)), (3, 0), (4, (-1)), (0, 0), (4, 1), (0, 0), (0, 0), (3, 5), (4, (-1)), (0, 0), (4, 1), (0, 0), (0, 0), (4, (-1)), (0, 0), (4, 1), (0, 0), (0, 0), (3, 0), (4, (-1)), (0, 0), (4, 1), (0, 0), (0, 0), (3, 5), (4, (-1)), (0, 0), (4, 1), (0, 0), (0, 0), (4, (-1)), (0, 0), (4, 1), (0, 0), (0, 0), (1, 3), (2, (-1)), (3, 0), (4, (-1)), (0, 0), (4, 1), (0, 0), (0, 0), (3, 5), (4, (-1)), (0, 0), (4, 1), (0, 0), (0, 0), (4, (-1)), (0, 0), (4, 1), (0, 0), (0, 0), (3, 0), (4, (-1)), (0, 0), (4, 1), (0, 0), (0, 0), (3, 5), (4, (-1)), (0, 0), (4, 1), (0, 0), (0, 0), (4, (-1)), (0, 0), (4, 1), (0, 0), (0, 0), (2, (-1)), (3, 0), (4, (-1)), (0, 0), (4, 1), (0, 0), (0, 0), (3, 5), (4, (-1)), (0, 0), (4, 1), (0, 0), (0, 0), (4, (-1)), (0, 0), (4, 1), (0, 0), (0, 0), (3, 0), (4, (-1)), (0, 0), (4, 1), (0, 0), (0, 0), (3, 5), (4, (-1)), (0, 0), (4, 1), (0, 0), (0, 0), (4, (-1)), (0, 0), (4, 1), (0, 0), (0, 0)] xq_all = true := by decide +kernel
set_option maxRecDepth 100000 in
set_option maxHeartbeats 4000000 in
theorem xq_o47 : xq_C 47 47 [(1, (-1)), (2, (-1)), (3, 0), (0, 0), (3, 5), (0, 0), (0, 0), (3, 0), (0, 0), (3, 5), (0, 0), (0, 0), (1, 0), (2, (-1)), (3, 0), (0, 0), (3, 5), (0, 0), (0, 0), (3, 0), (0, 0), (3, 5), (0, 0), (0, 0), (1, 1), (2, (-1)), (3, 0), (0, 0), (3, 5), (0, 0), (0, 0), (3, 0), (0, 0), (3, 5), (0, 0), (0, 0), (1, 2), (2, (-1)), (3, 0), (0, 0), (3, 5), (0, 0), (0, 0), (3, 0), (0, 0), (3, 5), (0, 0), (0, 0), (1, 3), (2, (-1)), (3, 0), (0, 0), (3, 5), (0, 0), (0, 0), (3, 0), (0, 0), (3, 5), (0, 0), (0, 0), (2, (-1)), (3, 0), (0, 0), (3, 5), (0, 0), (0, 0), (3, 0), (0, 0), (3, 5), (0, 0), (0, 0)] xq_all = true := by decide +kernel
set_option maxRecDepth 100000 in
set_option maxHeartbeats 4000000 in
theorem xq_o48 : xq_C 48 48 [(1, (-1)), (0, 0), (0, 0)] xq_all = true := by decide +kernel
set_option maxRecDepth 100000 in
set_option maxHeartbeats 4000000 in
theorem xq_o49 : xq_C 49 49 [(1, (-1)), (2, (-1)), (0, 0), (0, 0), (2, (-1)), (0, 0), (0, 0)] xq_all = true := by decide +kernel
set_option maxRecDepth 100000 in
set_option maxHeartbeats 4000000 in
theorem xq_o50 : xq_C 50 50 [(1, (-1)), (0, 0), (0, 0)] xq_all = true := by decide +kernel
set_option maxRecDepth 100000 in
set_option maxHeartbeats 4000000 in
theorem xq_o51 : xq_C 51 51 [(1, (-1)), (0, 0), (0, 0)] xq_all = true := by decide +kernel
set_option maxRecDepth 100000 in
set_option maxHeartbeats 4000000 in
theorem xq_o52 : xq_C 52 52 [(0, 0)] xq_all = true := by decide +kernel
set_option maxRecDepth 100000 in
set_option maxHeartbeats 4000000 in
theorem xq_o53 : xq_C 53 53 [(0, 0)] xq_all = true := by decide +kernel
set_option maxRecDepth 100000 in
set_option maxHeartbeats 4000000 in
theorem xq_o54 : xq_C 54 54 [(0, 0)] xq_all = true := by decide +kernel
set_option maxRecDepth 100000 in
set_option maxHeartbeats 4000000 in
theorem xq_o55 : xq_C 55 55 [(0, 0)] xq_all = true := by decide +kernel
set_option maxRecDepth 100000 in
set_option maxHeartbeats 4000000 in
theorem xq_o56 : xq_C 56 56 [(1, (-1)), (2, (-1)), (0, 0), (2, 1), (0, 0), (0, 0), (1, 2000000000), (2, (-1)), (0, 0), (2, 1), (0, 0), (0, 0), (2, (-1)), (0, 0), (2, 1), (0, 0), (0, 0)] xq_all = true := by decide +kernel
set_option maxRecDepth 100000 in
set_option maxHeartbeats 4000000 in
theorem xq_o57 : xq_C 57 57 [(1, (-1)), (2, (-1)), (0, 0), (0, 0), (1, 2000000000), (2, (-1)), (0, 0), (0, 0), (2, (-1)), (0, 0), (0, 0)] xq_all = true := by decide +kernel
set_option maxRecDepth 100000 in
set_option maxHeartbeats 4000000 in
theorem xq_o58 : xq_C 58 58 [(1, (-1)), (2, 0), (3, (-1)), (0, 0), (0, 0), (2, 20), (3, (-1)), (0, 0), (0, 0), (3, (-1)), (0, 0), (0, 0), (1, 2000000000), (2, 0), (3, (-1)), (0, 0), (0, 0), (2, 20), (3, (-1)), (0, 0), (0, 0), (3, (-1)), (0, 0), (0, 0), (2, 0), (3, (-1)), (0, 0), (0, 0), (2, 20), (3, (-1)), (0, 0), (0, 0), (3, (-1)), (0, 0), (0, 0)] xq_all = true := by decide +kernel
set_option maxRecDepth 100000 in
set_option maxHeartbeats 4000000 in
theorem xq_o59 : xq_C 59 59 [(1, (-1)), (2, (-1)), (0, 0), (2, 99), (0, 0), (0, 0), (2, (-1)), (0, 0), (2, 99), (0, 0), (0, 0)] xq_all = true := by decide +kernel
set_option maxRecDepth 100000 in
set_option maxHeartbeats 4000000 in
theorem xq_o60 : xq_C 60 60 [(1, (-1)), (2, (-1)), (0, 0), (0, 0), (2, (-1)), (0, 0), (0, 0)] xq_all = true := by decide +kernel
set_option maxRecDepth 100000 in
set_option maxHeartbeats 4000000 in
theorem xq_o61 : xq_C 61 61 [(1, (-1)), (0, 0), (1, 0), (0, 0), (1, 1), (0, 0), (1, 2), (0, 0), (1, 3), (0, 0), (1, 4), (0, 0), (1, 5), (0, 0), (1, 6), (0, 0), (1, 7), (0, 0), (1, 8), (0, 0), (0, 0)] xq_all = true := by decide +kernel
set_option maxRecDepth 100000 in
set_option maxHeartbeats 4000000 in
theorem xq_o62 : xq_C 62 62 [(1, (-1)), (0, 0), (1, 0), (0, 0), (1, 1), (0, 0), (1, 2), (0, 0), (0, 0)] xq_all = true := by decide +kernel
set_option maxRecDepth 100000 in
set_option maxHeartbeats 4000000 in
theorem xq_o63 : xq_C 63 63 [(1, (-1)), (0, 0), (1, 0), (0, 0), (1, 1), (0, 0), (1, 2), (0, 0), (0, 0)] xq_all = true := by decide +kernel
set_option maxRecDepth 100000 in
set_option maxHeartbeats 4000000 in
theorem xq_o65 : xq_C 65 65 [(1, (-1)), (0, 0), (1, 0), (0, 0), (1, 1), (0, 0), (1, 2), (0, 0), (1, 3), (0, 0), (0, 0)] xq_all = true := by decide +kernel
set_option maxRecDepth 100000 in
set_option maxHeartbeats 4000000 in
theorem xq_o66 : xq_C 66 66 [(1, (-1)), (3, (-1)), (0, 0), (3, 0), (0, 0), (3, 1), (0, 0), (3, 2), (0, 0), (3, 3), (0, 0), (0, 0), (1, 0), (3, (-1)), (0, 0), (3, 0), (0, 0), (3, 1), (0, 0), (3, 2), (0, 0), (3, 3), (0, 0), (0, 0), (1, 1), (3, (-1)), (0, 0), (3, 0), (0, 0), (3, 1), (0, 0), (3, 2), (0, 0), (3, 3), (0, 0), (0, 0), (1, 2), (3, (-1)), (0, 0), (3, 0), (0, 0), (3, 1), (0, 0), (3, 2), (0, 0), (3, 3), (0, 0), (0, 0), (1, 3), (3, (-1)), (0, 0), (3, 0), (0, 0), (3, 1), (0, 0), (3, 2), (0, 0), (3, 3), (0, 0), (0, 0), (3, (-1)), (0, 0), (3, 0), (0, 0), (3, 1), (0, 0), (3, 2), (0, 0), (3, 3), (0, 0), (0, 0)] xq_all = true := by decide +kernel
set_option maxRecDepth 100000 in
set_option maxHeartbeats 4000000 in
theorem xq_o67 : xq_C 67 127 [(0, 0)] xq_all = true := by decide +kernel
set_option maxRecDepth 100000 in
set_option maxHeartbeats 4000000 in
theorem xq_r0 : xq_C 64 64 [(0, 0)] [xv_ti, (0, (-2147483648), (-1)), (0, (-2147483648), 2147483647), (0, (-2147483648), 2147483647), xv_ti, xv_ti] = true := by decide +kernel
set_option maxRecDepth 100000 in
set_option maxHeartbeats 4000000 in
theorem xq_r1 : xq_C 64 64 [(0, 0)] [xv_ti, (0, 0, 0), (0, (-2147483648), (-1)), (0, (-2147483648), 2147483647), xv_ti, xv_ti] = true := by decide +kernel
set_option maxRecDepth 100000 in
set_option maxHeartbeats 4000000 in
theorem xq_r2 : xq_C 64 64 [(0, 0)] [xv_ti, (0, 0, 0), (0, 0, 3), (0, (-2147483648), (-1)), xv_ti, xv_ti] = true := by decide +kernel
set_option maxRecDepth 100000 in
set_option maxHeartbeats 4000000 in
theorem xq_r3 : xq_C 64 64 [(3, 0), (0, 0), (3, 1), (0, 0), (3, 2), (0, 0), (3, 3), (0, 0), (3, 4), (0, 0), (3, 5), (0, 0), (3, 6), (0, 0), (0, 0)] [xv_ti, (0, 0, 0), (0, 0, 3), (0, 0, 7), xv_ti, xv_ti] = true := by decide +kernel
set_option maxRecDepth 100000 in
set_option maxHeartbeats 4000000 in
theorem xq_r4 : xq_C 64 64 [(3, 8), (0, 0), (3, 9), (0, 0), (3, 10), (0, 0), (3, 11), (0, 0), (3, 12), (0, 0), (3, 13), (0, 0), (3, 14), (0, 0), (0, 0)] [xv_ti, (0, 0, 0), (0, 0, 3), (0, 8, 15), xv_ti, xv_ti] = true := by decide +kernel
set_option maxRecDepth 100000 in
set_option maxHeartbeats 4000000 in
theorem xq_r5 : xq_C 64 64 [(3, 16), (0, 0), (3, 17), (0, 0), (3, 18), (0, 0), (3, 19), (0, 0), (3, 20), (0, 0), (3, 21), (0, 0), (3, 22), (0, 0), (0, 0)] [xv_ti, (0, 0, 0), (0, 0, 3), (0, 16, 23), xv_ti, xv_ti] = true := by decide +kernel
set_option maxRecDepth 100000 in
set_option maxHeartbeats 4000000 in
theorem xq_r6 : xq_C 64 64 [(3, 24), (0, 0), (3, 25), (0, 0), (3, 26), (0, 0), (3, 27), (0, 0), (3, 28), (0, 0), (3, 29), (0, 0), (3, 30), (0, 0), (0, 0)] [xv_ti, (0, 0, 0), (0, 0, 3), (0, 24, 31), xv_ti, xv_ti] = true := by decide +kernel
set_option maxRecDepth 100000 in
set_option maxHeartbeats 4000000 in
theorem xq_r7 : xq_C 64 64 [(3, 32), (0, 0), (3, 33), (0, 0), (3, 34), (0, 0), (3, 35), (0, 0), (3, 36), (0, 0), (3, 37), (0, 0), (3, 38), (0, 0), (0, 0)] [xv_ti, (0, 0, 0), (0, 0, 3), (0, 32, 39), xv_ti, xv_ti] = true := by decide +kernel
set_option maxRecDepth 100000 in
set_option maxHeartbeats 4000000 in
theorem xq_r8 : xq_C 64 64 [(3, 40), (0, 0), (3, 41), (0, 0), (3, 42), (0, 0), (3, 43), (0, 0), (3, 44), (0, 0), (3, 45), (0, 0), (3, 46), (0, 0), (0, 0)] [xv_ti, (0, 0, 0), (0, 0, 3), (0, 40, 47), xv_ti, xv_ti] = true := by decide +kernel
set_option maxRecDepth 100000 in
set_option maxHeartbeats 4000000 in
theorem xq_r9 : xq_C 64 64 [(3, 48), (0, 0), (3, 49), (0, 0), (3, 50), (0, 0), (3, 51), (0, 0), (3, 52), (0, 0), (3, 53), (0, 0), (3, 54), (0, 0), (0, 0)] [xv_ti, (0, 0, 0), (0, 0, 3), (0, 48, 55), xv_ti, xv_ti] = true := by decide +kernel
set_option maxRecDepth 100000 in
set_option maxHeartbeats 4000000 in
theorem xq_r10 : xq_C 64 64 [(3, 56), (0, 0), (3, 57), (0, 0), (3, 58), (0, 0), (3, 59), (0, 0), (0, 0)] [xv_ti, (0, 0, 0), (0, 0, 3), (0, 56, 60), xv_ti, xv_ti] = true := by decide +kernel
set_option maxRecDepth 100000 in
set_option maxHeartbeats 4000000 in
theorem xq_r11 : xq_C 64 64 [(0, 0)] [xv_ti, (0, 0, 0), (0, 0, 3), (0, 61, 2147483647), xv_ti, xv_ti] = true := by decide +kernel
set_option maxRecDepth 100000 in
set_option maxHeartbeats 4000000 in
theorem xq_r12 : xq_C 64 64 [(0, 0)] [xv_ti, (0, 0, 0), (0, 4, 2147483647), (0, (-2147483648), 2147483647), xv_ti, xv_ti] = true := by decide +kernel
set_option maxRecDepth 100000 in
set_option maxHeartbeats 4000000 in
theorem xq_r13 : xq_C 64 64 [(0, 0)] [xv_ti, (0, 1, 1), (0, (-2147483648), (-1)), (0, (-2147483648), 2147483647), xv_ti, xv_ti] = true := by decide +kernel
set_option maxRecDepth 100000 in
set_option maxHeartbeats 4000000 in
theorem xq_r14 : xq_C 64 64 [(0, 0)] [xv_ti, (0, 1, 1), (0, 0, 3), (0, (-2147483648), (-1)), xv_ti, xv_ti] = true := by decide +kernel
set_option maxRecDepth 100000 in
set_option maxHeartbeats 4000000 in
theorem xq_r15 : xq_C 64 64 [(3, 0), (0, 0), (3, 1), (0, 0), (3, 2), (0, 0), (3, 3), (0, 0), (3, 4), (0, 0), (3, 5), (0, 0), (3, 6), (0, 0), (0, 0)] [xv_ti, (0, 1, 1), (0, 0, 3), (0, 0, 7), xv_ti, xv_ti] = true := by decide +kernel
set_option maxRecDepth 100000 in
set_option maxHeartbeats 4000000 in
theorem xq_r16 : xq_C 64 64 [(3, 8), (0, 0), (3, 9), (0, 0), (3, 10), (0, 0), (3, 11), (0, 0), (3, 12), (0, 0), (3, 13), (0, 0), (3, 14), (0, 0), (0, 0)] [xv_ti, (0, 1, 1), (0, 0, 3), (0, 8, 15), xv_ti, xv_ti] = true := by decide +kernel
set_option maxRecDepth 100000 in
set_option maxHeartbeats 4000000 in
theorem xq_r17 : xq_C 64 64 [(3, 16), (0, 0), (3, 17), (0, 0), (3, 18), (0, 0), (3, 19), (0, 0), (3, 20), (0, 0), (3, 21), (0, 0), (3, 22), (0, 0), (0, 0)] [xv_ti, (0, 1, 1), (0, 0, 3), (0, 16, 23), xv_ti, xv_ti] = true := by decide +kernel
set_option maxRecDepth 100000 in
set_option maxHeartbeats 4000000 in
theorem xq_r18 : xq_C 64 64 [(3, 24), (0, 0), (3, 25), (0, 0), (3, 26), (0, 0), (3, 27), (0, 0), (3, 28), (0, 0), (3, 29), (0, 0), (3, 30), (0, 0), (0, 0)] [xv_ti, (0, 1, 1), (0, 0, 3), (0, 24, 31), xv_ti, xv_ti] = true := by decide +kernel
set_option maxRecDepth 100000 in
set_option maxHeartbeats 4000000 in
theorem xq_r19 : xq_C 64 64 [(3, 32), (0, 0), (3, 33), (0, 0), (3, 34), (0, 0), (3, 35), (0, 0), (3, 36), (0, 0), (3, 37), (0, 0), (3, 38), (0, 0), (0, 0)] [xv_ti, (0, 1, 1), (0, 0, 3), (0, 32, 39), xv_ti, xv_ti] = true := by decide +kernel
set_option maxRecDepth 100000 in
set_option maxHeartbeats 4000000 in
theorem xq_r20 : xq_C 64 64 [(3, 40), (0, 0), (3, 41), (0, 0), (3, 42), (0, 0), (3, 43), (0, 0), (3, 44), (0, 0), (3, 45), (0, 0), (3, 46), (0, 0), (0, 0)] [xv_ti, (0, 1, 1), (0, 0, 3), (0, 40, 47), xv_ti, xv_ti] = true := by decide +kernel
set_option maxRecDepth 100000 in
set_option maxHeartbeats 4000000 in
theorem xq_r21 : xq_C 64 64 [(3, 48), (0, 0), (3, 49), (0, 0), (3, 50), (0, 0), (3, 51), (0, 0), (3, 52), (0, 0), (3, 53), (0, 0), (3, 54), (0, 0), (0, 0)] [xv_ti, (0, 1, 1), (0, 0, 3), (0, 48, 55), xv_ti, xv_ti] = true := by decide +kernel
set_option maxRecDepth 100000 in
set_option maxHeartbeats 4000000 in
theorem xq_r22 : xq_C 64 64 [(3, 56), (0, 0), (3, 57), (0, 0), (3, 58), (0, 0), (3, 59), (0, 0), (0, 0)] [xv_ti, (0, 1, 1), (0, 0, 3), (0, 56, 60), xv_ti, xv_ti] = true := by decide +kernel
set_option maxRecDepth 100000 in
set_option maxHeartbeats 4000000 in
theorem xq_r23 : xq_C 64 64 [(0, 0)] [xv_ti, (0, 1, 1), (0, 0, 3), (0, 61, 2147483647), xv_ti, xv_ti] = true := by decide +kernel
set_option maxRecDepth 100000 in
set_option maxHeartbeats 4000000 in
theorem xq_r24 : xq_C 64 64 [(0, 0)] [xv_ti, (0, 1, 1), (0, 4, 2147483647), (0, (-2147483648), 2147483647), xv_ti, xv_ti] = true := by decide +kernel
set_option maxRecDepth 100000 in
set_option maxHeartbeats 4000000 in
theorem xq_r25 : xq_C 64 64 [(0, 0)] [xv_ti, (0, 2, 2), (0, (-2147483648), (-1)), (0, (-2147483648), 2147483647), xv_ti, xv_ti] = true := by decide +kernel
set_option maxRecDepth 100000 in
set_option maxHeartbeats 4000000 in
theorem xq_r26 : xq_C 64 64 [(0, 0)] [xv_ti, (0, 2, 2), (0, 0, 3), (0, (-2147483648), (-1)), xv_ti, xv_ti] = true := by decide +kernel
set_option maxRecDepth 100000 in
set_option maxHeartbeats 4000000 in
theorem xq_r27 : xq_C 64 64 [(3, 0), (0, 0), (3, 1), (0, 0), (3, 2), (0, 0), (3, 3), (0, 0), (3, 4), (0, 0), (3, 5), (0, 0), (3, 6), (0, 0), (0, 0)] [xv_ti, (0, 2, 2), (0, 0, 3), (0, 0, 7), xv_ti, xv_ti] = true := by decide +kernel
set_option maxRecDepth 100000 in
set_option maxHeartbeats 4000000 in
theorem xq_r28 : xq_C 64 64 [(3, 8), (0, 0), (3, 9), (0, 0), (3, 10), (0, 0), (3, 11), (0, 0), (3, 12), (0, 0), (3, 13), (0, 0), (3, 14), (0, 0), (0, 0)] [xv_ti, (0, 2, 2), (0, 0, 3), (0, 8, 15), xv_ti, xv_ti] = true := by decide +kernel
set_option maxRecDepth 100000 in
set_option maxHeartbeats 4000000 in
theorem xq_r29 : xq_C 64 64 [(3, 16), (0, 0), (3, 17), (0, 0), (3, 18), (0, 0), (3, 19), (0, 0), (3, 20), (0, 0), (3, 21), (0, 0), (3, 22), (0, 0), (0, 0)] [xv_ti, (0, 2, 2), (0, 0, 3), (0, 16, 23), xv_ti, xv_ti] = true := by decide +kernel
set_option maxRecDepth 100000 in
set_option maxHeartbeats 4000000 in
theorem xq_r30 : xq_C 64 64 [(3, 24), (0, 0), (3, 25), (0, 0), (3, 26), (0, 0), (3, 27), (0, 0), (3, 28), (0, 0), (3, 29), (0, 0), (3, 30), (0, 0), (0, 0)] [xv_ti, (0, 2, 2), (0, 0, 3), (0, 24, 31), xv_ti, xv_ti] = true := by decide +kernel
set_option maxRecDepth 100000 in
set_option maxHeartbeats 4000000 in
theorem xq_r31 : xq_C 64 64 [(3, 32), (0, 0), (3, 33), (0, 0), (3, 34), (0, 0), (3, 35), (0, 0), (3, 36), (0, 0), (3, 37), (0, 0), (3, 38), (0, 0), (0, 0)] [xv_ti, (0, 2, 2), (0, 0, 3), (0, 32, 39), xv_ti, xv_ti] = true := by decide +kernel
set_option maxRecDepth 100000 in
set_option maxHeartbeats 4000000 in
theorem xq_r32 : xq_C 64 64 [(3, 40), (0, 0), (3, 41), (0, 0), (3, 42), (0, 0), (3, 43), (0, 0), (3, 44), (0, 0), (3, 45), (0, 0), (3, 46), (0, 0), (0, 0)] [xv_ti, (0, 2, 2), (0, 0, 3), (0, 40, 47), xv_ti, xv_ti] = true := by decide +kernel
set_option maxRecDepth 100000 in
set_option maxHeartbeats 4000000 in
theorem xq_r33 : xq_C 64 64 [(3, 48), (0, 0), (3, 49), (0, 0), (3, 50), (0, 0), (3, 51), (0, 0), (3, 52), (0, 0), (3, 53), (0, 0), (3, 54), (0, 0), (0, 0)] [xv_ti, (0, 2, 2), (0, 0, 3), (0, 48, 55), xv_ti, xv_ti] = true := by decide +kernel
set_option maxRecDepth 100000 in
set_option maxHeartbeats 4000000 in
theorem xq_r34 : xq_C 64 64 [(3, 56), (0, 0), (3, 57), (0, 0), (3, 58), (0, 0), (3, 59), (0, 0), (0, 0)] [xv_ti, (0, 2, 2), (0, 0, 3), (0, 56, 60), xv_ti, xv_ti] = true := by decide +kernel
set_option maxRecDepth 100000 in
set_option maxHeartbeats 4000000 in
theorem xq_r35 : xq_C 64 64 [(0, 0)] [xv_ti, (0, 2, 2), (0, 0, 3), (0, 61, 2147483647), xv_ti, xv_ti] = true := by decide +kernel
set_option maxRecDepth 100000 in
set_option maxHeartbeats 4000000 in
theorem xq_r36 : xq_C 64 64 [(0, 0)] [xv_ti, (0, 2, 2), (0, 4, 2147483647), (0, (-2147483648), 2147483647), xv_ti, xv_ti] = true := by decide +kernel
set_option maxRecDepth 100000 in
set_option maxHeartbeats 4000000 in
theorem xq_r37 : xq_C 64 64 [(0, 0)] [xv_ti, (0, 3, 3), (0, (-2147483648), (-1)), (0, (-2147483648), 2147483647), xv_ti, xv_ti] = true := by decide +kernel
set_option maxRecDepth 100000 in
set_option maxHeartbeats 4000000 in
theorem xq_r38 : xq_C 64 64 [(0, 0)] [xv_ti, (0, 3, 3), (0, 0, 3), (0, (-2147483648), (-1)), xv_ti, xv_ti] = true := by decide +kernel
set_option maxRecDepth 100000 in
set_option maxHeartbeats 4000000 in
theorem xq_r39 : xq_C 64 64 [(3, 0), (0, 0), (3, 1), (0, 0), (3, 2), (0, 0), (3, 3), (0, 0), (3, 4), (0, 0), (3, 5), (0, 0), (3, 6), (0, 0), (0, 0)] [xv_ti, (0, 3, 3), (0, 0, 3), (0, 0, 7), xv_ti, xv_ti] = true := by decide +kernel
set_option maxRecDepth 100000 in
set_option maxHeartbeats 4000000 in
theorem xq_r40 : xq_C 64 64 [(3, 8), (0, 0), (3, 9), (0, 0), (3, 10), (0, 0), (3, 11), (0, 0), (3, 12), (0, 0), (3, 13), (0, 0), (3, 14), (0, 0), (0, 0)] [xv_ti, (0, 3, 3), (0, 0, 3), (0, 8, 15), xv_ti, xv_ti] = true := by decide +kernel
set_option maxRecDepth 100000 in
set_option maxHeartbeats 4000000 in
theorem xq_r41 : xq_C 64 64 [(3, 16), (0, 0), (3, 17), (0, 0), (3, 18), (0, 0), (3, 19), (0, 0), (3, 20), (0, 0), (3, 21), (0, 0), (3, 22), (0, 0), (0, 0)] [xv_ti, (0, 3, 3), (0, 0, 3), (0, 16, 23), xv_ti, xv_ti] = true := by decide +kernel
set_option maxRecDepth 100000 in
set_option maxHeartbeats 4000000 in
theorem xq_r42 : xq_C 64 64 [(3, 24), (0, 0), (3, 25), (0, 0), (3, 26), (0, 0), (3, 27), (0, 0), (3, 28), (0, 0), (3, 29), (0, 0), (3, 30), (0, 0), (0, 0)] [xv_ti, (0, 3, 3), (0, 0, 3), (0, 24, 31), xv_ti, xv_ti] = true := by decide +kernel
set_option maxRecDepth 100000 in
set_option maxHeartbeats 4000000 in
theorem xq_r43 : xq_C 64 64 [(3, 32), (0, 0), (3, 33), (0, 0), (3, 34), (0, 0), (3, 35), (0, 0), (3, 36), (0, 0), (3, 37), (0, 0), (3, 38), (0, 0), (0, 0)] [xv_ti, (0, 3, 3), (0, 0, 3), (0, 32, 39), xv_ti, xv_ti] = true := by decide +kernel
set_option maxRecDepth 100000 in
set_option maxHeartbeats 4000000 in
theorem xq_r44 : xq_C 64 64 [(3, 40), (0, 0), (3, 41), (0, 0), (3, 42), (0, 0), (3, 43), (0, 0), (3, 44), (0, 0), (3, 45), (0, 0), (3, 46), (0, 0), (0, 0)] [xv_ti, (0, 3, 3), (0, 0, 3), (0, 40, 47), xv_ti, xv_ti] = true := by decide +kernel
set_option maxRecDepth 100000 in
set_option maxHeartbeats 4000000 in
theorem xq_r45 : xq_C 64 64 [(3, 48), (0, 0), (3, 49), (0, 0), (3, 50), (0, 0), (3, 51), (0, 0), (3, 52), (0, 0), (3, 53), (0, 0), (3, 54), (0, 0), (0, 0)] [xv_ti, (0, 3, 3), (0, 0, 3), (0, 48, 55), xv_ti, xv_ti] = true := by decide +kernel
set_option maxRecDepth 100000 in
set_option maxHeartbeats 4000000 in
theorem xq_r46 : xq_C 64 64 [(3, 56), (0, 0), (3, 57), (0, 0), (3, 58), (0, 0), (3, 59), (0, 0), (0, 0)] [xv_ti, (0, 3, 3), (0, 0, 3), (0, 56, 60), xv_ti, xv_ti] = true := by decide +kernel
set_option maxRecDepth 100000 in
set_option maxHeartbeats 4000000 in
theorem xq_r47 : xq_C 64 64 [(0, 0)] [xv_ti, (0, 3, 3), (0, 0, 3), (0, 61, 2147483647), xv_ti, xv_ti] = true := by decide +kernel
set_option maxRecDepth 100000 in
set_option maxHeartbeats 4000000 in
theorem xq_r48 : xq_C 64 64 [(0, 0)] [xv_ti, (0, 3, 3), (0, 4, 2147483647), (0, (-2147483648), 2147483647), xv_ti, xv_ti] = true := by decide +kernel
set_option maxRecDepth 100000 in
set_option maxHeartbeats 4000000 in
theorem xq_r49 : xq_C 64 64 [(0, 0)] [xv_ti, (0, 4, 2147483647), (0, (-2147483648), 2147483647), (0, (-2147483648), 2147483647), xv_ti, xv_ti] = true := by decide +kernel
noncomputable def xq_subs : List (List xv_V) := [[xv_ti, (0, (-2147483648), (-1)), (0, (-2147483648), 2147483647), (0, (-2147483648), 2147483647), xv_ti, xv_ti],
  [xv_ti, (0, 0, 0), (0, (-2147483648), (-1)), (0, (-2147483648), 2147483647), xv_ti, xv_ti],
  [xv_ti, (0, 0, 0), (0, 0, 3), (0, (-2147483648), (-1)), xv_ti, xv_ti],
  [xv_ti, (0, 0, 0), (0, 0, 3), (0, 0, 7), xv_ti, xv_ti],
  [xv_ti, (0, 0, 0), (0, 0, 3), (0, 8, 15), xv_ti, xv_ti],
  [xv_ti, (0, 0, 0), (0, 0, 3), (0, 16, 23), xv_ti, xv_ti],
  [xv_ti, (0, 0, 0), (0, 0, 3), (0, 24, 31), xv_ti, xv_ti],
  [xv_ti, (0, 0, 0), (0, 0, 3), (0, 32, 39), xv_ti, xv_ti],
  [xv_ti, (0, 0, 0), (0, 0, 3), (0, 40, 47), xv_ti, xv_ti],
  [xv_ti, (0, 0, 0), (0, 0, 3), (0, 48, 55), xv_ti, xv_ti],
  [xv_ti, (0, 0, 0), (0, 0, 3), (0, 56, 60), xv_ti, xv_ti],
  [xv_ti, (0, 0, 0), (0, 0, 3), (0, 61, 2147483647), xv_ti, xv_ti],
  [xv_ti, (0, 0, 0), (0, 4, 2147483647), (0, (-2147483648), 2147483647), xv_ti, xv_ti],
  [xv_ti, (0, 1, 1), (0, (-2147483648), (-1)), (0, (-2147483648), 2147483647), xv_ti, xv_ti],
  [xv_ti, (0, 1, 1), (0, 0, 3), (0, (-2147483648), (-1)), xv_ti, xv_ti],
  [xv_ti, (0, 1, 1), (0, 0, 3), (0, 0, 7), xv_ti, xv_ti],
  [xv_ti, (0, 1, 1), (0, 0, 3), (0, 8, 15), xv_ti, xv_ti],
  [xv_ti, (0, 1, 1), (0, 0, 3), (0, 16, 23), xv_ti, xv_ti],
  [xv_ti, (0, 1, 1), (0, 0, 3), (0, 24, 31), xv_ti, xv_ti],
  [xv_ti, (0, 1, 1), (0, 0, 3), (0, 32, 39), xv_ti, xv_ti],
  [xv_ti, (0, 1, 1), (0, 0, 3), (0, 40, 47), xv_ti, xv_ti],
  [xv_ti, (0, 1, 1), (0, 0, 3), (0, 48, 55), xv_ti, xv_ti],
  [xv_ti, (0, 1, 1), (0, 0, 3), (0, 56, 60), xv_ti, xv_ti],
  [xv_ti, (0, 1, 1), (0, 0, 3), (0, 61, 2147483647), xv_ti, xv_ti],
  [xv_ti, (0, 1, 1), (0, 4, 2147483647), (0, (-2147483648), 2147483647), xv_ti, xv_ti],
  [xv_ti, (0, 2, 2), (0, (-2147483648), (-1)), (0, (-2147483648), 2147483647), xv_ti, xv_ti],
  [xv_ti, (0, 2, 2), (0, 0, 3), (0, (-2147483648), (-1)), xv_ti, xv_ti],
  [xv_ti, (0, 2, 2), (0, 0, 3), (0, 0, 7), xv_ti, xv_ti],
  [xv_ti, (0, 2, 2), (0, 0, 3), (0, 8, 15), xv_ti, xv_ti],
  [xv_ti, (0, 2, 2), (0, 0, 3), (0, 16, 23), xv_ti, xv_ti],
  [xv_ti, (0, 2, 2), (0, 0, 3), (0, 24, 31), xv_ti, xv_ti],
  [xv_ti, (0, 2, 2), (0, 0, 3), (0, 32, 39), xv_ti, xv_ti],
  [xv_ti, (0, 2, 2), (0, 0, 3), (0, 40, 47), xv_ti, xv_ti],
  [xv_ti, (0, 2, 2), (0, 0, 3), (0, 48, 55), xv_ti, xv_ti],
  [xv_ti, (0, 2, 2), (0, 0, 3), (0, 56, 60), xv_ti, xv_ti],
  [xv_ti, (0, 2, 2), (0, 0, 3), (0, 61, 2147483647), xv_ti, xv_ti],
  [xv_ti, (0, 2, 2), (0, 4, 2147483647), (0, (-2147483648), 2147483647), xv_ti, xv_ti],
  [xv_ti, (0, 3, 3), (0, (-2147483648), (-1)), (0, (-2147483648), 2147483647), xv_ti, xv_ti],
  [xv_ti, (0, 3, 3), (0, 0, 3), (0, (-2147483648), (-1)), xv_ti, xv_ti],
  [xv_ti, (0, 3, 3), (0, 0, 3), (0, 0, 7), xv_ti, xv_ti],
  [xv_ti, (0, 3, 3), (0, 0, 3), (0, 8, 15), xv_ti, xv_ti],
  [xv_ti, (0, 3, 3), (0, 0, 3), (0, 16, 23), xv_ti, xv_ti],
  [xv_ti, (0, 3, 3), (0, 0, 3), (0, 24, 31), xv_ti, xv_ti],
  [xv_ti, (0, 3, 3), (0, 0, 3), (0, 32, 39), xv_ti, xv_ti],
  [xv_ti, (0, 3, 3), (0, 0, 3), (0, 40, 47), xv_ti, xv_ti],
  [xv_ti, (0, 3, 3), (0, 0, 3), (0, 48, 55), xv_ti, xv_ti],
  [xv_ti, (0, 3, 3), (0, 0, 3), (0, 56, 60), xv_ti, xv_ti],
  [xv_ti, (0, 3, 3), (0, 0, 3), (0, 61, 2147483647), xv_ti, xv_ti],
  [xv_ti, (0, 3, 3), (0, 4, 2147483647), (0, (-2147483648), 2147483647), xv_ti, xv_ti],
  [xv_ti, (0, 4, 2147483647), (0, (-2147483648), 2147483647), (0, (-2147483648), 2147483647), xv_ti, xv_ti]]
set_option maxRecDepth 100000 in
set_option maxHeartbeats 4000000 in
theorem xq_top : (match xq_tree (fun b => decide (b ∈ xq_subs)) 100000 [(1, (-1)), (0, 0), (1, 0), (2, (-1)), (0, 0), (2, 3), (3, (-1)), (0, 0), (3, 7), (0, 0), (3, 15), (0, 0), (3, 23), (0, 0), (3, 31), (0, 0), (3, 39), (0, 0), (3, 47), (0, 0), (3, 55), (0, 0), (3, 60), (0, 0), (0, 0), (0, 0), (1, 1), (2, (-1)), (0, 0), (2, 3), (3, (-1)), (0, 0), (3, 7), (0, 0), (3, 15), (0, 0), (3, 23), (0, 0), (3, 31), (0, 0), (3, 39), (0, 0), (3, 47), (0, 0), (3, 55), (0, 0), (3, 60), (0, 0), (0, 0), (0, 0), (1, 2), (2, (-1)), (0, 0), (2, 3), (3, (-1)), (0, 0), (3, 7), (0, 0), (3, 15), (0, 0), (3, 23), (0, 0), (3, 31), (0, 0), (3, 39), (0, 0), (3, 47), (0, 0), (3, 55), (0, 0), (3, 60), (0, 0), (0, 0), (0, 0), (1, 3), (2, (-1)), (0, 0), (2, 3), (3, (-1)), (0, 0), (3, 7), (0, 0), (3, 15), (0, 0), (3, 23), (0, 0), (3, 31), (0, 0), (3, 39), (0, 0), (3, 47), (0, 0), (3, 55), (0, 0), (3, 60), (0, 0), (0, 0), (0, 0), (0, 0)] xq_all with
  | some _ => true
  | none => false) = true := by decide +kernel
theorem xq_row {r : xv_R} {xs : Nat → Int32} (hr : xq_1 = some r) (hx : xq_in xq_all xs) : ∃ box, box.length = 6 ∧ xq_go r 64 64 box = true ∧ xq_in box xs := by
  have h := xq_top
  cases ht : xq_tree (fun b => decide (b ∈ xq_subs)) 100000 [(1, (-1)), (0, 0), (1, 0), (2, (-1)), (0, 0), (2, 3), (3, (-1)), (0, 0), (3, 7), (0, 0), (3, 15), (0, 0), (3, 23), (0, 0), (3, 31), (0, 0), (3, 39), (0, 0), (3, 47), (0, 0), (3, 55), (0, 0), (3, 60), (0, 0), (0, 0), (0, 0), (1, 1), (2, (-1)), (0, 0), (2, 3), (3, (-1)), (0, 0), (3, 7), (0, 0), (3, 15), (0, 0), (3, 23), (0, 0), (3, 31), (0, 0), (3, 39), (0, 0), (3, 47), (0, 0), (3, 55), (0, 0), (3, 60), (0, 0), (0, 0), (0, 0), (1, 2), (2, (-1)), (0, 0), (2, 3), (3, (-1)), (0, 0), (3, 7), (0, 0), (3, 15), (0, 0), (3, 23), (0, 0), (3, 31), (0, 0), (3, 39), (0, 0), (3, 47), (0, 0), (3, 55), (0, 0), (3, 60), (0, 0), (0, 0), (0, 0), (1, 3), (2, (-1)), (0, 0), (2, 3), (3, (-1)), (0, 0), (3, 7), (0, 0), (3, 15), (0, 0), (3, 23), (0, 0), (3, 31), (0, 0), (3, 39), (0, 0), (3, 47), (0, 0), (3, 55), (0, 0), (3, 60), (0, 0), (0, 0), (0, 0), (0, 0)] xq_all with
  | none => rw [ht] at h; cases h
  | some rest =>
    obtain ⟨b, h1, h2, h3⟩ := xq_tree_ok _ _ _ _ _ ht hx
    have h2 := of_decide_eq_true h2
    have hlen : b.length = 6 := h1
    have key : ∃ prog, xq_C 64 64 prog b = true := by
      unfold xq_subs at h2
      simp only [List.mem_cons, List.not_mem_nil, or_false] at h2
      rcases h2 with rfl | rfl | rfl | rfl | rfl | rfl | rfl | rfl | rfl | rfl | rfl | rfl | rfl | rfl | rfl | rfl | rfl | rfl | rfl | rfl | rfl | rfl | rfl | rfl | rfl | rfl | rfl | rfl | rfl | rfl | rfl | rfl | rfl | rfl | rfl | rfl | rfl | rfl | rfl | rfl | rfl | rfl | rfl | rfl | rfl | rfl | rfl | rfl | rfl | rfl
      · exact ⟨_, xq_r0⟩
      · exact ⟨_, xq_r1⟩
      · exact ⟨_, xq_r2⟩
      · exact ⟨_, xq_r3⟩
      · exact ⟨_, xq_r4⟩
      · exact ⟨_, xq_r5⟩
      · exact ⟨_, xq_r6⟩
      · exact ⟨_, xq_r7⟩
      · exact ⟨_, xq_r8⟩
      · exact ⟨_, xq_r9⟩
      · exact ⟨_, xq_r10⟩
      · exact ⟨_, xq_r11⟩
      · exact ⟨_, xq_r12⟩
      · exact ⟨_, xq_r13⟩
      · exact ⟨_, xq_r14⟩
      · exact ⟨_, xq_r15⟩
      · exact ⟨_, xq_r16⟩
      · exact ⟨_, xq_r17⟩
      · exact ⟨_, xq_r18⟩
      · exact ⟨_, xq_r19⟩
      · exact ⟨_, xq_r20⟩
      · exact ⟨_, xq_r21⟩
      · exact ⟨_, xq_r22⟩
      · exact ⟨_, xq_r23⟩
      · exact ⟨_, xq_r24⟩
      · exact ⟨_, xq_r25⟩
      · exact ⟨_, xq_r26⟩
      · exact ⟨_, xq_r27⟩
      · exact ⟨_, xq_r28⟩
      · exact ⟨_, xq_r29⟩
      · exact ⟨_, xq_r30⟩
      · exact ⟨_, xq_r31⟩
      · exact ⟨_, xq_r32⟩
      · exact ⟨_, xq_r33⟩
      · exact ⟨_, xq_r34⟩
      · exact ⟨_, xq_r35⟩
      · exact ⟨_, xq_r36⟩
      · exact ⟨_, xq_r37⟩
      · exact ⟨_, xq_r38⟩
      · exact ⟨_, xq_r39⟩
      · exact ⟨_, xq_r40⟩
      · exact ⟨_, xq_r41⟩
      · exact ⟨_, xq_r42⟩
      · exact ⟨_, xq_r43⟩
      · exact ⟨_, xq_r44⟩
      · exact ⟨_, xq_r45⟩
      · exact ⟨_, xq_r46⟩
      · exact ⟨_, xq_r47⟩
      · exact ⟨_, xq_r48⟩
      · exact ⟨_, xq_r49⟩
    obtain ⟨prog, hp⟩ := key
    obtain ⟨b2, g1, g2, g3⟩ := xq_C_ok hr hp h3
    exact ⟨b2, g1.trans hlen, g2, g3⟩
theorem xq_calls {r : xv_R} {xs : Nat → Int32} (hr : xq_1 = some r) (hx : xq_in xq_all xs) : ∀ op : Nat, op < 128 → ∃ (lo hi : Int) (box : List xv_V), lo ≤ (op : Int) ∧ (op : Int) ≤ hi ∧ box.length = 6 ∧ xq_go r lo hi box = true ∧ xq_in box xs := by
  intro op hop
  have g : ∀ (lo hi : Int) (prog : List (Nat × Int)), xq_C lo hi prog xq_all = true → lo ≤ (op : Int) → (op : Int) ≤ hi → ∃ (lo hi : Int) (box : List xv_V), lo ≤ (op : Int) ∧ (op : Int) ≤ hi ∧ box.length = 6 ∧ xq_go r lo hi box = true ∧ xq_in box xs := fun lo hi prog h h1 h2 => by
    obtain ⟨b, e1, e2, e3⟩ := xq_C_ok hr h hx
    exact ⟨lo, hi, b, h1, h2, e1, e2, e3⟩
  by_cases h67 : op < 67
  · match op, h67 with
    | 0, _ => exact g _ _ _ xq_o0 (by decide) (by decide)
    | 1, _ => exact g _ _ _ xq_o1 (by decide) (by decide)
    | 2, _ => exact g _ _ _ xq_o2 (by decide) (by decide)
    | 3, _ => exact g _ _ _ xq_o3 (by decide) (by decide)
    | 4, _ => exact g _ _ _ xq_o4 (by decide) (by decide)
    | 5, _ => exact g _ _ _ xq_o5 (by decide) (by decide)
    | 6, _ => exact g _ _ _ xq_o6 (by decide) (by decide)
    | 7, _ => exact g _ _ _ xq_o7 (by decide) (by decide)
    | 8, _ => exact g _ _ _ xq_o8 (by decide) (by decide)
    | 9, _ => exact g _ _ _ xq_o9 (by decide) (by decide)
    | 10, _ => exact g _ _ _ xq_o10 (by decide) (by decide)
    | 11, _ => exact g _ _ _ xq_o11 (by decide) (by decide)
    | 12, _ => exact g _ _ _ xq_o12 (by decide) (by decide)
    | 13, _ => exact g _ _ _ xq_o13 (by decide) (by decide)
    | 14, _ => exact g _ _ _ xq_o14 (by decide) (by decide)
    | 15, _ => exact g _ _ _ xq_o15 (by decide) (by decide)
    | 16, _ => exact g _ _ _ xq_o16 (by decide) (by decide)
    | 17, _ => exact g _ _ _ xq_o17 (by decide) (by decide)
    | 18, _ => exact g _ _ _ xq_o18 (by decide) (by decide)
    | 19, _ => exact g _ _ _ xq_o19 (by decide) (by decide)
    | 20, _ => exact g _ _ _ xq_o20 (by decide) (by decide)
    | 21, _ => exact g _ _ _ xq_o21 (by decide) (by decide)
    | 22, _ => exact g _ _ _ xq_o22 (by decide) (by decide)
    | 23, _ => exact g _ _ _ xq_o23 (by decide) (by decide)
    | 24, _ => exact g _ _ _ xq_o24 (by decide) (by decide)
    | 25, _ => exact g _ _ _ xq_o25 (by decide) (by decide)
    | 26, _ => exact g _ _ _ xq_o26 (by decide) (by decide)
    | 27, _ => exact g _ _ _ xq_o27 (by decide) (by decide)
    | 28, _ => exact g _ _ _ xq_o28 (by decide) (by decide)
    | 29, _ => exact g _ _ _ xq_o29 (by decide) (by decide)
    | 30, _ => exact g _ _ _ xq_o30 (by decide) (by decide)
    | 31, _ => exact g _ _ _ xq_o31 (by decide) (by decide)
    | 32, _ => exact g _ _ _ xq_o32 (by decide) (by decide)
    | 33, _ => exact g _ _ _ xq_o33 (by decide) (by decide)
    | 34, _ => exact g _ _ _ xq_o34 (by decide) (by decide)
    | 35, _ => exact g _ _ _ xq_o35 (by decide) (by decide)
    | 36, _ => exact g _ _ _ xq_o36 (by decide) (by decide)
    | 37, _ => exact g _ _ _ xq_o37 (by decide) (by decide)
    | 38, _ => exact g _ _ _ xq_o38 (by decide) (by decide)
    | 39, _ => exact g _ _ _ xq_o39 (by decide) (by decide)
    | 40, _ => exact g _ _ _ xq_o40 (by decide) (by decide)
    | 41, _ => exact g _ _ _ xq_o41 (by decide) (by decide)
    | 42, _ => exact g _ _ _ xq_o42 (by decide) (by decide)
    | 43, _ => exact g _ _ _ xq_o43 (by decide) (by decide)
    | 44, _ => exact g _ _ _ xq_o44 (by decide) (by decide)
    | 45, _ => exact g _ _ _ xq_o45 (by decide) (by decide)
    | 46, _ => exact g _ _ _ xq_o46 (by decide) (by decide)
    | 47, _ => exact g _ _ _ xq_o47 (by decide) (by decide)
    | 48, _ => exact g _ _ _ xq_o48 (by decide) (by decide)
    | 49, _ => exact g _ _ _ xq_o49 (by decide) (by decide)
    | 50, _ => exact g _ _ _ xq_o50 (by decide) (by decide)
    | 51, _ => exact g _ _ _ xq_o51 (by decide) (by decide)
    | 52, _ => exact g _ _ _ xq_o52 (by decide) (by decide)
    | 53, _ => exact g _ _ _ xq_o53 (by decide) (by decide)
    | 54, _ => exact g _ _ _ xq_o54 (by decide) (by decide)
    | 55, _ => exact g _ _ _ xq_o55 (by decide) (by decide)
    | 56, _ => exact g _ _ _ xq_o56 (by decide) (by decide)
    | 57, _ => exact g _ _ _ xq_o57 (by decide) (by decide)
    | 58, _ => exact g _ _ _ xq_o58 (by decide) (by decide)
    | 59, _ => exact g _ _ _ xq_o59 (by decide) (by decide)
    | 60, _ => exact g _ _ _ xq_o60 (by decide) (by decide)
    | 61, _ => exact g _ _ _ xq_o61 (by decide) (by decide)
    | 62, _ => exact g _ _ _ xq_o62 (by decide) (by decide)
    | 63, _ => exact g _ _ _ xq_o63 (by decide) (by decide)
    | 64, _ => obtain ⟨b, e1, e2, e3⟩ := xq_row hr hx; exact ⟨64, 64, b, by decide, by decide, e1, e2, e3⟩
    | 65, _ => exact g _ _ _ xq_o65 (by decide) (by decide)
    | 66, _ => exact g _ _ _ xq_o66 (by decide) (by decide)
    | n + 67, h => exact absurd h (by omega)
  · exact g _ _ _ xq_o67 (by omega) (by omega)
