/-! the texts at the start -/
def xl_ti (ad : String × Nat → Nat) (A : Nat → Prop) (U : State) : Prop := ∀ q ∈ xw_strs, (∃ tx, vk_R q.1 q.2 tx (ad q) U) ∧ xw_Tx (ad q) A U
def xl_X (b L : Nat) (ad : String × Nat → Nat) : xw_X := (b, L, fun a => ∃ q ∈ xw_strs, a = ad q, True, xl_ti ad)
theorem xl_TxG {a : Nat} {A B : Nat → Prop} {U U' : State} (hAB : ∀ q, B q → A q) (hq : ∀ a, a < U.heap.size → ¬ A a → U'.heap[a]? = U.heap[a]?) (hvm : U.vm.Alike U'.vm) (h : xw_Tx a A U) : xw_Tx a B U' := by
  obtain ⟨v, n, f, h1, h2, h3, h4, h5, h6, h7⟩ := h
  exact ⟨v, n, f, va_O.moved hvm ((h1.kept hq).narrow hAB), va_OF.moved hvm ((h2.kept hq).narrow hAB), va_OF.moved hvm ((h3.kept hq).narrow hAB), va_T.moved hvm ((h4.kept hq).narrow hAB), h5, va_Z.moved hvm ((h6.kept hq).narrow hAB), va_Zq.moved hvm ((h7.kept hq).narrow hAB)⟩
theorem xl_Inv (b L : Nat) (ad : String × Nat → Nat) : xw_Inv (xl_X b L ad) := by
  refine ⟨fun A B U U' hBA hq hW h q hqm => ?_, fun A U U' hv hh h q hqm => ?_, fun A U own idx hm h => ?_, fun A U a ha h => ?_⟩
  · obtain ⟨⟨tx, h1⟩, h2⟩ := h q hqm
    exact ⟨⟨tx, h1.warm hW⟩, xl_TxG hBA hq hW.alike h2⟩
  · obtain ⟨⟨tx, h1⟩, h2⟩ := h q hqm
    exact ⟨⟨tx, h1.same hv⟩, xl_TxG (fun _ w => w) (fun a _ _ => by rw [hh]) (by rw [hv]; exact Vm.Alike.refl _) h2⟩
  · obtain ⟨⟨tx, h1⟩, -⟩ := h (own, idx) hm
    exact ⟨tx, ad (own, idx), h1, (own, idx), hm, rfl⟩
  · obtain ⟨q, hqm, rfl⟩ := ha
    exact (h q hqm).2
theorem xl_tx1 {args : Array Value} {s : State} {A : Nat → Prop} {own : String} {idx n : Nat} {byt : List Int32} (hn : n ≤ 1000) (hex : (Cond.exactly (.string own idx) "java/lang/String").before args s = true) (hco : (Cond.eq (.field (.string own idx) "java/lang/String" "coder" "B") (.int 0)).before args s = true) (har : (Cond.arrayOf (.field (.string own idx) "java/lang/String" "value" "[B") .byte).before args s = true) (hle : (Cond.eq (.length (.field (.string own idx) "java/lang/String" "value" "[B")) (.int (Int32.ofNat n))).before args s = true)
    (hel : ∀ j : Nat, j < n → (Cond.eq (.elem (.field (.string own idx) "java/lang/String" "value" "[B") (.int (Int32.ofNat j))) (.int (byt.getD j 0))).before args s = true) (hA : ∀ a : Nat, a < s.heap.size → ¬ A a) (hz : va_Z "java/lang/String" "COMPACT_STRINGS" "Z" (.int 1) A s s.heap) (hq : va_Zq "jdk/internal/util/Preconditions" "SIOOBE_FORMATTER" "Ljava/util/function/BiFunction;" A s s.heap) : ∃ a, (Term.string own idx).eval args s none [] s = some (.ref a) ∧ xw_Tx a A s := by
  obtain ⟨adK, adV, h1, h2⟩ := vk_Sof (N := 1) (tm := fun _ => .string own idx) (len := [n]) (byt := [byt]) (A := A) (fun i hi => by
    have e : i = 0 := by omega
    subst e
    show n < 2 ^ 31
    omega) (fun _ _ => hex) (fun _ _ => hco) (fun _ _ => har) (fun i hi => by
    have e : i = 0 := by omega
    subst e
    exact hle) (fun i hi j hj => by
    have e : i = 0 := by omega
    subst e
    exact hel j hj) (fun i j hi hj h => absurd (by omega) h) hA
  obtain ⟨k1, k2, k3, k4⟩ := h1.1 0 (by decide)
  exact ⟨adK 0, h2 0 (by decide), adV 0, n, fun j => byt.getD j 0, k1, k2, k3, k4, hn, hz, hq⟩
