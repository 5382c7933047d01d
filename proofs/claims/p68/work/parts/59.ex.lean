/-! the tables once more: what the second form asks beside -/
def xw_exB (own : String) (e : xv_E) : Bool := decide (xw_ln e.2.1 = 0 ∨ xw_ln e.2.1 = e.2.2.1) && (match e.2.1 with
  | .ldc idx => (decide (e.2.2.2.2.1 = 6) && decide ((own, idx) ∈ xw_strs)) || (decide (e.2.2.2.2.1 ≠ 6) && xv_at e.2.2.2.2.2.1 (.constant own idx (Int32.ofInt e.2.2.2.2.2.2)))
  | _ => true)
theorem xw_exB_ok {own : String} {e : xv_E} (h : xw_exB own e = true) : xw_ex own e := by
  obtain ⟨h1, h2⟩ := xv_and_t h
  refine ⟨of_decide_eq_true h1, ?_⟩
  obtain ⟨pc, ins, len, a, b, p, v⟩ := e
  cases ins
  case ldc i =>
    rcases (Bool.or_eq_true _ _).mp h2 with h2 | h2
    · obtain ⟨c1, c2⟩ := xv_and_t h2
      exact Or.inl ⟨of_decide_eq_true c1, of_decide_eq_true c2⟩
    · obtain ⟨c1, c2⟩ := xv_and_t h2
      exact Or.inr ⟨of_decide_eq_true c1, xv_at_ok c2⟩
  all_goals exact True.intro
noncomputable def xw_mxB (M : xv_M) (J : Nat → Option xv_J) (id : Nat) : Bool := match xv_get 20 M id, J id with
  | some q, some j => q.1.all (fun e => xw_exB j.1.1.cls e)
  | _, _ => true
theorem xw_mok {M : xv_M} {J : Nat → Option xv_J} (h1 : xv_MOK M (xv_JI J)) (h : ∀ id, xw_mxB M J id = true) : xw_MOK M (xv_JI J) := fun id q hq => by
  obtain ⟨i, hi, k1, k2, k3, k4⟩ := h1 id q hq
  refine ⟨i, hi, k1, k2, k3, fun x hx => ⟨k4 x hx, ?_⟩⟩
  have := h id
  unfold xw_mxB at this
  obtain ⟨j, hj, rfl⟩ := xv_JI_eq hi
  rw [hq, hj] at this
  exact xw_exB_ok (List.all_eq_true.mp this x hx)
