/-! .. put together -/
theorem xv_drop {l : List xv_E} {f : xv_E → Bool} (a n : Nat) (h : ((l.drop a).take n).all f = true) (h2 : ∀ x ∈ l.drop (a + n), f x = true) : ∀ x ∈ l.drop a, f x = true := fun x hx => by
  rw [← List.take_append_drop n (l.drop a), List.drop_drop] at hx
  rcases List.mem_append.mp hx with hx | hx
  · exact List.all_eq_true.mp h x hx
  · exact h2 x (by first | exact hx | (rw [Nat.add_comm]; exact hx))
theorem xt_law : ∀ x ∈ xt_332, xv_okE code RL "law" (some .boolean) (xv_JI xt_J) x := by
  have h1500 : ∀ x ∈ xt_332.drop 1500, xv_eB code RL "law" (some .boolean) xt_J x = true := fun x hx => by
    rw [List.drop_eq_nil_of_le (by decide +kernel)] at hx
    cases hx
  have h1440 := xv_drop 1440 60 xt_l1440 h1500
  have h1380 := xv_drop 1380 60 xt_l1380 h1440
  have h1320 := xv_drop 1320 60 xt_l1320 h1380
  have h1260 := xv_drop 1260 60 xt_l1260 h1320
  have h1200 := xv_drop 1200 60 xt_l1200 h1260
  have h1140 := xv_drop 1140 60 xt_l1140 h1200
  have h1080 := xv_drop 1080 60 xt_l1080 h1140
  have h1020 := xv_drop 1020 60 xt_l1020 h1080
  have h960 := xv_drop 960 60 xt_l960 h1020
  have h900 := xv_drop 900 60 xt_l900 h960
  have h840 := xv_drop 840 60 xt_l840 h900
  have h780 := xv_drop 780 60 xt_l780 h840
  have h720 := xv_drop 720 60 xt_l720 h780
  have h660 := xv_drop 660 60 xt_l660 h720
  have h600 := xv_drop 600 60 xt_l600 h660
  have h540 := xv_drop 540 60 xt_l540 h600
  have h480 := xv_drop 480 60 xt_l480 h540
  have h420 := xv_drop 420 60 xt_l420 h480
  have h360 := xv_drop 360 60 xt_l360 h420
  have h300 := xv_drop 300 60 xt_l300 h360
  have h240 := xv_drop 240 60 xt_l240 h300
  have h180 := xv_drop 180 60 xt_l180 h240
  have h120 := xv_drop 120 60 xt_l120 h180
  have h60 := xv_drop 60 60 xt_l60 h120
  have h0 := xv_drop 0 60 xt_l0 h60
  exact fun x hx => xv_e_ok xt_ok.1 (h0 x hx)
