/-! the texts, one by one -/
set_option maxRecDepth 100000 in
set_option maxHeartbeats 4000000 in
theorem xl_t57 {b : Nat} {s : State} {A : Nat → Prop} (hgv : (Jvm.Cond.and given_1 narrow_1).before #[Value.ref b] s = true) (hts : ∀ w ∈ lw_tbl, w.before #[Value.ref b] s = true) (hA : ∀ a : Nat, a < s.heap.size → ¬ A a) (hz : va_Z "java/lang/String" "COMPACT_STRINGS" "Z" (.int 1) A s s.heap) (hq : va_Zq "jdk/internal/util/Preconditions" "SIOOBE_FORMATTER" "Ljava/util/function/BiFunction;" A s s.heap) : ∃ a, (∃ tx, vk_R "PassedPenance$Reader" 57 tx a s) ∧ xw_Tx a A s := by
  have hs := flat_of_before _ hgv
  obtain ⟨a, h1, h2⟩ := xl_tx1 (n := 7) (byt := [112, 101, 110, 97, 110, 99, 101]) (by decide) (hs _ (by decide +kernel)) (hs _ (by decide +kernel)) (hs _ (by decide +kernel)) (hs _ (by decide +kernel)) (own := "PassedPenance$Reader") (idx := 57) (fun j hj => by
    match j, hj with
    | 0, _ => exact hs _ (by decide +kernel)
    | 1, _ => exact hs _ (by decide +kernel)
    | 2, _ => exact hs _ (by decide +kernel)
    | 3, _ => exact hs _ (by decide +kernel)
    | 4, _ => exact hs _ (by decide +kernel)
    | 5, _ => exact hs _ (by decide +kernel)
    | 6, _ => exact hs _ (by decide +kernel)
    | j + 7, hj => exact absurd hj (by omega)) hA hz hq
  exact ⟨a, ⟨"penance", vk_R.of (hts _ (by decide +kernel)) h1⟩, h2⟩
set_option maxRecDepth 100000 in
set_option maxHeartbeats 4000000 in
theorem xl_t66 {b : Nat} {s : State} {A : Nat → Prop} (hgv : (Jvm.Cond.and given_1 narrow_1).before #[Value.ref b] s = true) (hts : ∀ w ∈ lw_tbl, w.before #[Value.ref b] s = true) (hA : ∀ a : Nat, a < s.heap.size → ¬ A a) (hz : va_Z "java/lang/String" "COMPACT_STRINGS" "Z" (.int 1) A s s.heap) (hq : va_Zq "jdk/internal/util/Preconditions" "SIOOBE_FORMATTER" "Ljava/util/function/BiFunction;" A s s.heap) : ∃ a, (∃ tx, vk_R "PassedPenance$Reader" 66 tx a s) ∧ xw_Tx a A s := by
  have hs := flat_of_before _ hgv
  obtain ⟨a, h1, h2⟩ := xl_tx1 (n := 6) (byt := [112, 101, 114, 115, 111, 110]) (by decide) (hs _ (by decide +kernel)) (hs _ (by decide +kernel)) (hs _ (by decide +kernel)) (hs _ (by decide +kernel)) (own := "PassedPenance$Reader") (idx := 66) (fun j hj => by
    match j, hj with
    | 0, _ => exact hs _ (by decide +kernel)
    | 1, _ => exact hs _ (by decide +kernel)
    | 2, _ => exact hs _ (by decide +kernel)
    | 3, _ => exact hs _ (by decide +kernel)
    | 4, _ => exact hs _ (by decide +kernel)
    | 5, _ => exact hs _ (by decide +kernel)
    | j + 6, hj => exact absurd hj (by omega)) hA hz hq
  exact ⟨a, ⟨"person", vk_R.of (hts _ (by decide +kernel)) h1⟩, h2⟩
set_option maxRecDepth 100000 in
set_option maxHeartbeats 4000000 in
theorem xl_t74 {b : Nat} {s : State} {A : Nat → Prop} (hgv : (Jvm.Cond.and given_1 narrow_1).before #[Value.ref b] s = true) (hts : ∀ w ∈ lw_tbl, w.before #[Value.ref b] s = true) (hA : ∀ a : Nat, a < s.heap.size → ¬ A a) (hz : va_Z "java/lang/String" "COMPACT_STRINGS" "Z" (.int 1) A s s.heap) (hq : va_Zq "jdk/internal/util/Preconditions" "SIOOBE_FORMATTER" "Ljava/util/function/BiFunction;" A s s.heap) : ∃ a, (∃ tx, vk_R "PassedPenance$Reader" 74 tx a s) ∧ xw_Tx a A s := by
  have hs := flat_of_before _ hgv
  obtain ⟨a, h1, h2⟩ := xl_tx1 (n := 4) (byt := [108, 101, 102, 116]) (by decide) (hs _ (by decide +kernel)) (hs _ (by decide +kernel)) (hs _ (by decide +kernel)) (hs _ (by decide +kernel)) (own := "PassedPenance$Reader") (idx := 74) (fun j hj => by
    match j, hj with
    | 0, _ => exact hs _ (by decide +kernel)
    | 1, _ => exact hs _ (by decide +kernel)
    | 2, _ => exact hs _ (by decide +kernel)
    | 3, _ => exact hs _ (by decide +kernel)
    | j + 4, hj => exact absurd hj (by omega)) hA hz hq
  exact ⟨a, ⟨"left", vk_R.of (hts _ (by decide +kernel)) h1⟩, h2⟩
set_option maxRecDepth 100000 in
set_option maxHeartbeats 4000000 in
theorem xl_t83 {b : Nat} {s : State} {A : Nat → Prop} (hgv : (Jvm.Cond.and given_1 narrow_1).before #[Value.ref b] s = true) (hts : ∀ w ∈ lw_tbl, w.before #[Value.ref b] s = true) (hA : ∀ a : Nat, a < s.heap.size → ¬ A a) (hz : va_Z "java/lang/String" "COMPACT_STRINGS" "Z" (.int 1) A s s.heap) (hq : va_Zq "jdk/internal/util/Preconditions" "SIOOBE_FORMATTER" "Ljava/util/function/BiFunction;" A s s.heap) : ∃ a, (∃ tx, vk_R "PassedPenance$Reader" 83 tx a s) ∧ xw_Tx a A s := by
  have hs := flat_of_before _ hgv
  obtain ⟨a, h1, h2⟩ := xl_tx1 (n := 6) (byt := [99, 104, 117, 114, 99, 104]) (by decide) (hs _ (by decide +kernel)) (hs _ (by decide +kernel)) (hs _ (by decide +kernel)) (hs _ (by decide +kernel)) (own := "PassedPenance$Reader") (idx := 83) (fun j hj => by
    match j, hj with
    | 0, _ => exact hs _ (by decide +kernel)
    | 1, _ => exact hs _ (by decide +kernel)
    | 2, _ => exact hs _ (by decide +kernel)
    | 3, _ => exact hs _ (by decide +kernel)
    | 4, _ => exact hs _ (by decide +kernel)
    | 5, _ => exact hs _ (by decide +kernel)
    | j + 6, hj => exact absurd hj (by omega)) hA hz hq
  exact ⟨a, ⟨"church", vk_R.of (hts _ (by decide +kernel)) h1⟩, h2⟩
set_option maxRecDepth 100000 in
set_option maxHeartbeats 4000000 in
theorem xl_t88 {b : Nat} {s : State} {A : Nat → Prop} (hgv : (Jvm.Cond.and given_1 narrow_1).before #[Value.ref b] s = true) (hts : ∀ w ∈ lw_tbl, w.before #[Value.ref b] s = true) (hA : ∀ a : Nat, a < s.heap.size → ¬ A a) (hz : va_Z "java/lang/String" "COMPACT_STRINGS" "Z" (.int 1) A s s.heap) (hq : va_Zq "jdk/internal/util/Preconditions" "SIOOBE_FORMATTER" "Ljava/util/function/BiFunction;" A s s.heap) : ∃ a, (∃ tx, vk_R "PassedPenance$Reader" 88 tx a s) ∧ xw_Tx a A s := by
  have hs := flat_of_before _ hgv
  obtain ⟨a, h1, h2⟩ := xl_tx1 (n := 5) (byt := [104, 111, 117, 114, 115]) (by decide) (hs _ (by decide +kernel)) (hs _ (by decide +kernel)) (hs _ (by decide +kernel)) (hs _ (by decide +kernel)) (own := "PassedPenance$Reader") (idx := 88) (fun j hj => by
    match j, hj with
    | 0, _ => exact hs _ (by decide +kernel)
    | 1, _ => exact hs _ (by decide +kernel)
    | 2, _ => exact hs _ (by decide +kernel)
    | 3, _ => exact hs _ (by decide +kernel)
    | 4, _ => exact hs _ (by decide +kernel)
    | j + 5, hj => exact absurd hj (by omega)) hA hz hq
  exact ⟨a, ⟨"hours", vk_R.of (hts _ (by decide +kernel)) h1⟩, h2⟩
set_option maxRecDepth 100000 in
set_option maxHeartbeats 4000000 in
theorem xl_t100 {b : Nat} {s : State} {A : Nat → Prop} (hgv : (Jvm.Cond.and given_1 narrow_1).before #[Value.ref b] s = true) (hts : ∀ w ∈ lw_tbl, w.before #[Value.ref b] s = true) (hA : ∀ a : Nat, a < s.heap.size → ¬ A a) (hz : va_Z "java/lang/String" "COMPACT_STRINGS" "Z" (.int 1) A s s.heap) (hq : va_Zq "jdk/internal/util/Preconditions" "SIOOBE_FORMATTER" "Ljava/util/function/BiFunction;" A s s.heap) : ∃ a, (∃ tx, vk_R "PassedPenance$Reader" 100 tx a s) ∧ xw_Tx a A s := by
  have hs := flat_of_before _ hgv
  obtain ⟨a, h1, h2⟩ := xl_tx1 (n := 5) (byt := [98, 111, 120, 101, 115]) (by decide) (hs _ (by decide +kernel)) (hs _ (by decide +kernel)) (hs _ (by decide +kernel)) (hs _ (by decide +kernel)) (own := "PassedPenance$Reader") (idx := 100) (fun j hj => by
    match j, hj with
    | 0, _ => exact hs _ (by decide +kernel)
    | 1, _ => exact hs _ (by decide +kernel)
    | 2, _ => exact hs _ (by decide +kernel)
    | 3, _ => exact hs _ (by decide +kernel)
    | 4, _ => exact hs _ (by decide +kernel)
    | j + 5, hj => exact absurd hj (by omega)) hA hz hq
  exact ⟨a, ⟨"boxes", vk_R.of (hts _ (by decide +kernel)) h1⟩, h2⟩
set_option maxRecDepth 100000 in
set_option maxHeartbeats 4000000 in
theorem xl_t104 {b : Nat} {s : State} {A : Nat → Prop} (hgv : (Jvm.Cond.and given_1 narrow_1).before #[Value.ref b] s = true) (hts : ∀ w ∈ lw_tbl, w.before #[Value.ref b] s = true) (hA : ∀ a : Nat, a < s.heap.size → ¬ A a) (hz : va_Z "java/lang/String" "COMPACT_STRINGS" "Z" (.int 1) A s s.heap) (hq : va_Zq "jdk/internal/util/Preconditions" "SIOOBE_FORMATTER" "Ljava/util/function/BiFunction;" A s s.heap) : ∃ a, (∃ tx, vk_R "PassedPenance$Reader" 104 tx a s) ∧ xw_Tx a A s := by
  have hs := flat_of_before _ hgv
  obtain ⟨a, h1, h2⟩ := xl_tx1 (n := 4) (byt := [111, 100, 100, 115]) (by decide) (hs _ (by decide +kernel)) (hs _ (by decide +kernel)) (hs _ (by decide +kernel)) (hs _ (by decide +kernel)) (own := "PassedPenance$Reader") (idx := 104) (fun j hj => by
    match j, hj with
    | 0, _ => exact hs _ (by decide +kernel)
    | 1, _ => exact hs _ (by decide +kernel)
    | 2, _ => exact hs _ (by decide +kernel)
    | 3, _ => exact hs _ (by decide +kernel)
    | j + 4, hj => exact absurd hj (by omega)) hA hz hq
  exact ⟨a, ⟨"odds", vk_R.of (hts _ (by decide +kernel)) h1⟩, h2⟩
set_option maxRecDepth 100000 in
set_option maxHeartbeats 4000000 in
theorem xl_t111 {b : Nat} {s : State} {A : Nat → Prop} (hgv : (Jvm.Cond.and given_1 narrow_1).before #[Value.ref b] s = true) (hts : ∀ w ∈ lw_tbl, w.before #[Value.ref b] s = true) (hA : ∀ a : Nat, a < s.heap.size → ¬ A a) (hz : va_Z "java/lang/String" "COMPACT_STRINGS" "Z" (.int 1) A s s.heap) (hq : va_Zq "jdk/internal/util/Preconditions" "SIOOBE_FORMATTER" "Ljava/util/function/BiFunction;" A s s.heap) : ∃ a, (∃ tx, vk_R "PassedPenance$Reader" 111 tx a s) ∧ xw_Tx a A s := by
  have hs := flat_of_before _ hgv
  obtain ⟨a, h1, h2⟩ := xl_tx1 (n := 4) (byt := [100, 97, 121, 115]) (by decide) (hs _ (by decide +kernel)) (hs _ (by decide +kernel)) (hs _ (by decide +kernel)) (hs _ (by decide +kernel)) (own := "PassedPenance$Reader") (idx := 111) (fun j hj => by
    match j, hj with
    | 0, _ => exact hs _ (by decide +kernel)
    | 1, _ => exact hs _ (by decide +kernel)
    | 2, _ => exact hs _ (by decide +kernel)
    | 3, _ => exact hs _ (by decide +kernel)
    | j + 4, hj => exact absurd hj (by omega)) hA hz hq
  exact ⟨a, ⟨"days", vk_R.of (hts _ (by decide +kernel)) h1⟩, h2⟩
set_option maxRecDepth 100000 in
set_option maxHeartbeats 4000000 in
theorem xl_t118 {b : Nat} {s : State} {A : Nat → Prop} (hgv : (Jvm.Cond.and given_1 narrow_1).before #[Value.ref b] s = true) (hts : ∀ w ∈ lw_tbl, w.before #[Value.ref b] s = true) (hA : ∀ a : Nat, a < s.heap.size → ¬ A a) (hz : va_Z "java/lang/String" "COMPACT_STRINGS" "Z" (.int 1) A s s.heap) (hq : va_Zq "jdk/internal/util/Preconditions" "SIOOBE_FORMATTER" "Ljava/util/function/BiFunction;" A s s.heap) : ∃ a, (∃ tx, vk_R "PassedPenance$Reader" 118 tx a s) ∧ xw_Tx a A s := by
  have hs := flat_of_before _ hgv
  obtain ⟨a, h1, h2⟩ := xl_tx1 (n := 3) (byt := [115, 105, 110]) (by decide) (hs _ (by decide +kernel)) (hs _ (by decide +kernel)) (hs _ (by decide +kernel)) (hs _ (by decide +kernel)) (own := "PassedPenance$Reader") (idx := 118) (fun j hj => by
    match j, hj with
    | 0, _ => exact hs _ (by decide +kernel)
    | 1, _ => exact hs _ (by decide +kernel)
    | 2, _ => exact hs _ (by decide +kernel)
    | j + 3, hj => exact absurd hj (by omega)) hA hz hq
  exact ⟨a, ⟨"sin", vk_R.of (hts _ (by decide +kernel)) h1⟩, h2⟩
set_option maxRecDepth 100000 in
set_option maxHeartbeats 4000000 in
theorem xl_t122 {b : Nat} {s : State} {A : Nat → Prop} (hgv : (Jvm.Cond.and given_1 narrow_1).before #[Value.ref b] s = true) (hts : ∀ w ∈ lw_tbl, w.before #[Value.ref b] s = true) (hA : ∀ a : Nat, a < s.heap.size → ¬ A a) (hz : va_Z "java/lang/String" "COMPACT_STRINGS" "Z" (.int 1) A s s.heap) (hq : va_Zq "jdk/internal/util/Preconditions" "SIOOBE_FORMATTER" "Ljava/util/function/BiFunction;" A s s.heap) : ∃ a, (∃ tx, vk_R "PassedPenance$Reader" 122 tx a s) ∧ xw_Tx a A s := by
  have hs := flat_of_before _ hgv
  obtain ⟨a, h1, h2⟩ := xl_tx1 (n := 2) (byt := [97, 116]) (by decide) (hs _ (by decide +kernel)) (hs _ (by decide +kernel)) (hs _ (by decide +kernel)) (hs _ (by decide +kernel)) (own := "PassedPenance$Reader") (idx := 122) (fun j hj => by
    match j, hj with
    | 0, _ => exact hs _ (by decide +kernel)
    | 1, _ => exact hs _ (by decide +kernel)
    | j + 2, hj => exact absurd hj (by omega)) hA hz hq
  exact ⟨a, ⟨"at", vk_R.of (hts _ (by decide +kernel)) h1⟩, h2⟩
set_option maxRecDepth 100000 in
set_option maxHeartbeats 4000000 in
theorem xl_t130 {b : Nat} {s : State} {A : Nat → Prop} (hgv : (Jvm.Cond.and given_1 narrow_1).before #[Value.ref b] s = true) (hts : ∀ w ∈ lw_tbl, w.before #[Value.ref b] s = true) (hA : ∀ a : Nat, a < s.heap.size → ¬ A a) (hz : va_Z "java/lang/String" "COMPACT_STRINGS" "Z" (.int 1) A s s.heap) (hq : va_Zq "jdk/internal/util/Preconditions" "SIOOBE_FORMATTER" "Ljava/util/function/BiFunction;" A s s.heap) : ∃ a, (∃ tx, vk_R "PassedPenance$Reader" 130 tx a s) ∧ xw_Tx a A s := by
  have hs := flat_of_before _ hgv
  obtain ⟨a, h1, h2⟩ := xl_tx1 (n := 3) (byt := [98, 111, 120]) (by decide) (hs _ (by decide +kernel)) (hs _ (by decide +kernel)) (hs _ (by decide +kernel)) (hs _ (by decide +kernel)) (own := "PassedPenance$Reader") (idx := 130) (fun j hj => by
    match j, hj with
    | 0, _ => exact hs _ (by decide +kernel)
    | 1, _ => exact hs _ (by decide +kernel)
    | 2, _ => exact hs _ (by decide +kernel)
    | j + 3, hj => exact absurd hj (by omega)) hA hz hq
  exact ⟨a, ⟨"box", vk_R.of (hts _ (by decide +kernel)) h1⟩, h2⟩
set_option maxRecDepth 100000 in
set_option maxHeartbeats 4000000 in
theorem xl_t132 {b : Nat} {s : State} {A : Nat → Prop} (hgv : (Jvm.Cond.and given_1 narrow_1).before #[Value.ref b] s = true) (hts : ∀ w ∈ lw_tbl, w.before #[Value.ref b] s = true) (hA : ∀ a : Nat, a < s.heap.size → ¬ A a) (hz : va_Z "java/lang/String" "COMPACT_STRINGS" "Z" (.int 1) A s s.heap) (hq : va_Zq "jdk/internal/util/Preconditions" "SIOOBE_FORMATTER" "Ljava/util/function/BiFunction;" A s s.heap) : ∃ a, (∃ tx, vk_R "PassedPenance$Reader" 132 tx a s) ∧ xw_Tx a A s := by
  have hs := flat_of_before _ hgv
  obtain ⟨a, h1, h2⟩ := xl_tx1 (n := 5) (byt := [98, 101, 97, 114, 115]) (by decide) (hs _ (by decide +kernel)) (hs _ (by decide +kernel)) (hs _ (by decide +kernel)) (hs _ (by decide +kernel)) (own := "PassedPenance$Reader") (idx := 132) (fun j hj => by
    match j, hj with
    | 0, _ => exact hs _ (by decide +kernel)
    | 1, _ => exact hs _ (by decide +kernel)
    | 2, _ => exact hs _ (by decide +kernel)
    | 3, _ => exact hs _ (by decide +kernel)
    | 4, _ => exact hs _ (by decide +kernel)
    | j + 5, hj => exact absurd hj (by omega)) hA hz hq
  exact ⟨a, ⟨"bears", vk_R.of (hts _ (by decide +kernel)) h1⟩, h2⟩
set_option maxRecDepth 100000 in
set_option maxHeartbeats 4000000 in
theorem xl_t137 {b : Nat} {s : State} {A : Nat → Prop} (hgv : (Jvm.Cond.and given_1 narrow_1).before #[Value.ref b] s = true) (hts : ∀ w ∈ lw_tbl, w.before #[Value.ref b] s = true) (hA : ∀ a : Nat, a < s.heap.size → ¬ A a) (hz : va_Z "java/lang/String" "COMPACT_STRINGS" "Z" (.int 1) A s s.heap) (hq : va_Zq "jdk/internal/util/Preconditions" "SIOOBE_FORMATTER" "Ljava/util/function/BiFunction;" A s s.heap) : ∃ a, (∃ tx, vk_R "PassedPenance$Reader" 137 tx a s) ∧ xw_Tx a A s := by
  have hs := flat_of_before _ hgv
  obtain ⟨a, h1, h2⟩ := xl_tx1 (n := 5) (byt := [109, 105, 110, 100, 115]) (by decide) (hs _ (by decide +kernel)) (hs _ (by decide +kernel)) (hs _ (by decide +kernel)) (hs _ (by decide +kernel)) (own := "PassedPenance$Reader") (idx := 137) (fun j hj => by
    match j, hj with
    | 0, _ => exact hs _ (by decide +kernel)
    | 1, _ => exact hs _ (by decide +kernel)
    | 2, _ => exact hs _ (by decide +kernel)
    | 3, _ => exact hs _ (by decide +kernel)
    | 4, _ => exact hs _ (by decide +kernel)
    | j + 5, hj => exact absurd hj (by omega)) hA hz hq
  exact ⟨a, ⟨"minds", vk_R.of (hts _ (by decide +kernel)) h1⟩, h2⟩
set_option maxRecDepth 100000 in
set_option maxHeartbeats 4000000 in
theorem xl_texts {b : Nat} {s : State} {A : Nat → Prop} (hgv : (Jvm.Cond.and given_1 narrow_1).before #[Value.ref b] s = true) (hts : ∀ w ∈ lw_tbl, w.before #[Value.ref b] s = true) (hA : ∀ a : Nat, a < s.heap.size → ¬ A a) : ∃ ad, xl_ti ad A s := by
  have hs := flat_of_before _ hgv
  have hz : va_Z "java/lang/String" "COMPACT_STRINGS" "Z" (.int 1) A s s.heap := va_Zof (hts _ (by decide +kernel)) (hts _ (by decide +kernel)) (va_eqi (hs _ (by decide +kernel))) hA
  have hq : va_Zq "jdk/internal/util/Preconditions" "SIOOBE_FORMATTER" "Ljava/util/function/BiFunction;" A s s.heap := va_Zqof (hts _ (by decide +kernel)) (hts _ (by decide +kernel)) (hs _ (by decide +kernel)) hA
  have hex : ∀ q : String × Nat, ∃ a : Nat, q ∈ xw_strs → (∃ tx, vk_R q.1 q.2 tx a s) ∧ xw_Tx a A s := fun q => by
    by_cases hm : q ∈ xw_strs
    · unfold xw_strs at hm
      simp only [List.mem_cons, List.not_mem_nil, or_false] at hm
      rcases hm with rfl | rfl | rfl | rfl | rfl | rfl | rfl | rfl | rfl | rfl | rfl | rfl | rfl
      · obtain ⟨a, ha⟩ := xl_t57 hgv hts hA hz hq; exact ⟨a, fun _ => ha⟩
      · obtain ⟨a, ha⟩ := xl_t66 hgv hts hA hz hq; exact ⟨a, fun _ => ha⟩
      · obtain ⟨a, ha⟩ := xl_t74 hgv hts hA hz hq; exact ⟨a, fun _ => ha⟩
      · obtain ⟨a, ha⟩ := xl_t83 hgv hts hA hz hq; exact ⟨a, fun _ => ha⟩
      · obtain ⟨a, ha⟩ := xl_t88 hgv hts hA hz hq; exact ⟨a, fun _ => ha⟩
      · obtain ⟨a, ha⟩ := xl_t100 hgv hts hA hz hq; exact ⟨a, fun _ => ha⟩
      · obtain ⟨a, ha⟩ := xl_t104 hgv hts hA hz hq; exact ⟨a, fun _ => ha⟩
      · obtain ⟨a, ha⟩ := xl_t111 hgv hts hA hz hq; exact ⟨a, fun _ => ha⟩
      · obtain ⟨a, ha⟩ := xl_t118 hgv hts hA hz hq; exact ⟨a, fun _ => ha⟩
      · obtain ⟨a, ha⟩ := xl_t122 hgv hts hA hz hq; exact ⟨a, fun _ => ha⟩
      · obtain ⟨a, ha⟩ := xl_t130 hgv hts hA hz hq; exact ⟨a, fun _ => ha⟩
      · obtain ⟨a, ha⟩ := xl_t132 hgv hts hA hz hq; exact ⟨a, fun _ => ha⟩
      · obtain ⟨a, ha⟩ := xl_t137 hgv hts hA hz hq; exact ⟨a, fun _ => ha⟩
    · exact ⟨0, fun h => absurd h hm⟩
  obtain ⟨ad, had⟩ := Classical.axiomOfChoice hex
  exact ⟨ad, fun q hqm => had q hqm⟩
