/-! .. put together -/
theorem xv_drop {l : List xv_E} {f : xv_E → Bool} (a n : Nat) (h : ((l.drop a).take n).all f = true) (h2 : ∀ x ∈ l.drop (a + n), f x = true) : ∀ x ∈ l.drop a, f x = true := fun x hx => by
  rw [← List.take_append_drop n (l.drop a), List.drop_drop] at hx
  rcases List.mem_append.mp hx with hx | hx
  · exact List.all_eq_true.mp h x hx
  · exact h2 x (by first | exact hx | (rw [Nat.add_comm]; exact hx))
theorem xt_law : ∀ x ∈ xt_332, xv_okE code RL "law" (some .boolean) (xv_JI xt_J) x := by
  have h1680 : ∀ x ∈ xt_332.drop 1680, xv_eB code RL "law" (some .boolean) xt_J x = true := fun x hx => by
    rw [List.drop_eq_nil_of_le (by decide +kernel)] at hx
    cases hx
  have h1440 := xv_drop 1440 240 xt_l1440 h1680
  have h1200 := xv_drop 1200 240 xt_l1200 h1440
  have h960 := xv_drop 960 240 xt_l960 h1200
  have h720 := xv_drop 720 240 xt_l720 h960
  have h480 := xv_drop 480 240 xt_l480 h720
  have h240 := xv_drop 240 240 xt_l240 h480
  have h0 := xv_drop 0 240 xt_l0 h240
  exact fun x hx => xv_e_ok xt_ok.1 (h0 x hx)
