/-! texts -/
theorem xd_J3_checkIndex_8e157_0 : decode cJ3_checkIndex_8e157 0 = .ok (.iload_n 0, 1) := by decide +kernel
theorem xd_J3_checkIndex_8e157_1 : decode cJ3_checkIndex_8e157 1 = .ok (.ifCond .lt 8, 3) := by decide +kernel
theorem xd_J3_checkIndex_8e157_4 : decode cJ3_checkIndex_8e157 4 = .ok (.iload_n 0, 1) := by decide +kernel
theorem xd_J3_checkIndex_8e157_5 : decode cJ3_checkIndex_8e157 5 = .ok (.iload_n 1, 1) := by decide +kernel
theorem xd_J3_checkIndex_8e157_6 : decode cJ3_checkIndex_8e157 6 = .ok (.if_icmp .lt 10, 3) := by decide +kernel
theorem xd_J3_checkIndex_8e157_9 : decode cJ3_checkIndex_8e157 9 = .ok (.aload_n 2, 1) := by decide +kernel
theorem xd_J3_checkIndex_8e157_10 : decode cJ3_checkIndex_8e157 10 = .ok (.iload_n 0, 1) := by decide +kernel
theorem xd_J3_checkIndex_8e157_11 : decode cJ3_checkIndex_8e157 11 = .ok (.iload_n 1, 1) := by decide +kernel
theorem xd_J3_checkIndex_8e157_12 : decode cJ3_checkIndex_8e157 12 = .ok (.invokestatic 95, 3) := by decide +kernel
theorem xd_J3_checkIndex_8e157_15 : decode cJ3_checkIndex_8e157 15 = .ok (.athrow, 1) := by decide +kernel
theorem xd_J3_checkIndex_8e157_16 : decode cJ3_checkIndex_8e157 16 = .ok (.iload_n 0, 1) := by decide +kernel
theorem xd_J3_checkIndex_8e157_17 : decode cJ3_checkIndex_8e157 17 = .ok (.ireturn, 1) := by decide +kernel
theorem xd_J0_checkIndex_df160_0 : decode cJ0_checkIndex_df160 0 = .ok (.iload_n 0, 1) := by decide +kernel
theorem xd_J0_checkIndex_df160_1 : decode cJ0_checkIndex_df160 1 = .ok (.iload_n 1, 1) := by decide +kernel
theorem xd_J0_checkIndex_df160_2 : decode cJ0_checkIndex_df160 2 = .ok (.getstatic 1053, 3) := by decide +kernel
theorem xd_J0_checkIndex_df160_5 : decode cJ0_checkIndex_df160 5 = .ok (.invokestatic 1059, 3) := by decide +kernel
theorem xd_J0_checkIndex_df160_8 : decode cJ0_checkIndex_df160 8 = .ok (.pop, 1) := by decide +kernel
theorem xd_J0_checkIndex_df160_9 : decode cJ0_checkIndex_df160 9 = .ok (.return_, 1) := by decide +kernel
theorem xd_J1_charAt_3b067_0 : decode cJ1_charAt_3b067 0 = .ok (.iload_n 1, 1) := by decide +kernel
theorem xd_J1_charAt_3b067_1 : decode cJ1_charAt_3b067 1 = .ok (.aload_n 0, 1) := by decide +kernel
theorem xd_J1_charAt_3b067_2 : decode cJ1_charAt_3b067 2 = .ok (.arraylength, 1) := by decide +kernel
theorem xd_J1_charAt_3b067_3 : decode cJ1_charAt_3b067 3 = .ok (.invokestatic 9, 3) := by decide +kernel
theorem xd_J1_charAt_3b067_6 : decode cJ1_charAt_3b067 6 = .ok (.aload_n 0, 1) := by decide +kernel
theorem xd_J1_charAt_3b067_7 : decode cJ1_charAt_3b067 7 = .ok (.iload_n 1, 1) := by decide +kernel
theorem xd_J1_charAt_3b067_8 : decode cJ1_charAt_3b067 8 = .ok (.baload, 1) := by decide +kernel
theorem xd_J1_charAt_3b067_9 : decode cJ1_charAt_3b067 9 = .ok (.sipush 255, 3) := by decide +kernel
theorem xd_J1_charAt_3b067_12 : decode cJ1_charAt_3b067 12 = .ok (.iand, 1) := by decide +kernel
theorem xd_J1_charAt_3b067_13 : decode cJ1_charAt_3b067 13 = .ok (.i2c, 1) := by decide +kernel
theorem xd_J1_charAt_3b067_14 : decode cJ1_charAt_3b067 14 = .ok (.ireturn, 1) := by decide +kernel
theorem xd_J0_isLatin1_aae02_0 : decode cJ0_isLatin1_aae02 0 = .ok (.getstatic 38, 3) := by decide +kernel
theorem xd_J0_isLatin1_aae02_3 : decode cJ0_isLatin1_aae02 3 = .ok (.ifCond .eq 14, 3) := by decide +kernel
theorem xd_J0_isLatin1_aae02_6 : decode cJ0_isLatin1_aae02 6 = .ok (.aload_n 0, 1) := by decide +kernel
theorem xd_J0_isLatin1_aae02_7 : decode cJ0_isLatin1_aae02 7 = .ok (.getfield 15, 3) := by decide +kernel
theorem xd_J0_isLatin1_aae02_10 : decode cJ0_isLatin1_aae02 10 = .ok (.ifCond .ne 7, 3) := by decide +kernel
theorem xd_J0_isLatin1_aae02_13 : decode cJ0_isLatin1_aae02 13 = .ok (.iconst 1, 1) := by decide +kernel
theorem xd_J0_isLatin1_aae02_14 : decode cJ0_isLatin1_aae02 14 = .ok (.goto 4, 3) := by decide +kernel
theorem xd_J0_isLatin1_aae02_17 : decode cJ0_isLatin1_aae02 17 = .ok (.iconst 0, 1) := by decide +kernel
theorem xd_J0_isLatin1_aae02_18 : decode cJ0_isLatin1_aae02 18 = .ok (.ireturn, 1) := by decide +kernel
theorem xd_J0_coder_7d493_0 : decode cJ0_coder_7d493 0 = .ok (.getstatic 38, 3) := by decide +kernel
theorem xd_J0_coder_7d493_3 : decode cJ0_coder_7d493 3 = .ok (.ifCond .eq 10, 3) := by decide +kernel
theorem xd_J0_coder_7d493_6 : decode cJ0_coder_7d493 6 = .ok (.aload_n 0, 1) := by decide +kernel
theorem xd_J0_coder_7d493_7 : decode cJ0_coder_7d493 7 = .ok (.getfield 15, 3) := by decide +kernel
theorem xd_J0_coder_7d493_10 : decode cJ0_coder_7d493 10 = .ok (.goto 4, 3) := by decide +kernel
theorem xd_J0_coder_7d493_13 : decode cJ0_coder_7d493 13 = .ok (.iconst 1, 1) := by decide +kernel
theorem xd_J0_coder_7d493_14 : decode cJ0_coder_7d493 14 = .ok (.ireturn, 1) := by decide +kernel
theorem xd_J0_length_8abf5_0 : decode cJ0_length_8abf5 0 = .ok (.aload_n 0, 1) := by decide +kernel
theorem xd_J0_length_8abf5_1 : decode cJ0_length_8abf5 1 = .ok (.getfield 9, 3) := by decide +kernel
theorem xd_J0_length_8abf5_4 : decode cJ0_length_8abf5 4 = .ok (.arraylength, 1) := by decide +kernel
theorem xd_J0_length_8abf5_5 : decode cJ0_length_8abf5 5 = .ok (.aload_n 0, 1) := by decide +kernel
theorem xd_J0_length_8abf5_6 : decode cJ0_length_8abf5 6 = .ok (.invokevirtual 335, 3) := by decide +kernel
theorem xd_J0_length_8abf5_9 : decode cJ0_length_8abf5 9 = .ok (.ishr, 1) := by decide +kernel
theorem xd_J0_length_8abf5_10 : decode cJ0_length_8abf5 10 = .ok (.ireturn, 1) := by decide +kernel
theorem xd_J0_charAt_5068e_0 : decode cJ0_charAt_5068e 0 = .ok (.aload_n 0, 1) := by decide +kernel
theorem xd_J0_charAt_5068e_1 : decode cJ0_charAt_5068e 1 = .ok (.invokevirtual 492, 3) := by decide +kernel
theorem xd_J0_charAt_5068e_4 : decode cJ0_charAt_5068e 4 = .ok (.ifCond .eq 12, 3) := by decide +kernel
theorem xd_J0_charAt_5068e_7 : decode cJ0_charAt_5068e 7 = .ok (.aload_n 0, 1) := by decide +kernel
theorem xd_J0_charAt_5068e_8 : decode cJ0_charAt_5068e 8 = .ok (.getfield 9, 3) := by decide +kernel
theorem xd_J0_charAt_5068e_11 : decode cJ0_charAt_5068e 11 = .ok (.iload_n 1, 1) := by decide +kernel
theorem xd_J0_charAt_5068e_12 : decode cJ0_charAt_5068e 12 = .ok (.invokestatic 495, 3) := by decide +kernel
theorem xd_J0_charAt_5068e_15 : decode cJ0_charAt_5068e 15 = .ok (.ireturn, 1) := by decide +kernel
theorem xd_J0_charAt_5068e_16 : decode cJ0_charAt_5068e 16 = .ok (.aload_n 0, 1) := by decide +kernel
theorem xd_J0_charAt_5068e_17 : decode cJ0_charAt_5068e 17 = .ok (.getfield 9, 3) := by decide +kernel
theorem xd_J0_charAt_5068e_20 : decode cJ0_charAt_5068e 20 = .ok (.iload_n 1, 1) := by decide +kernel
theorem xd_J0_charAt_5068e_21 : decode cJ0_charAt_5068e 21 = .ok (.invokestatic 498, 3) := by decide +kernel
theorem xd_J0_charAt_5068e_24 : decode cJ0_charAt_5068e 24 = .ok (.ireturn, 1) := by decide +kernel
theorem xd_X7_isWord_0 : decode cX7_isWord 0 = .ok (.aload_n 0, 1) := by decide +kernel
theorem xd_X7_isWord_1 : decode cX7_isWord 1 = .ok (.getfield 41, 3) := by decide +kernel
theorem xd_X7_isWord_4 : decode cX7_isWord 4 = .ok (.iconst 1, 1) := by decide +kernel
theorem xd_X7_isWord_5 : decode cX7_isWord 5 = .ok (.if_icmp .ne 19, 3) := by decide +kernel
theorem xd_X7_isWord_8 : decode cX7_isWord 8 = .ok (.aload_n 0, 1) := by decide +kernel
theorem xd_X7_isWord_9 : decode cX7_isWord 9 = .ok (.getfield 35, 3) := by decide +kernel
theorem xd_X7_isWord_12 : decode cX7_isWord 12 = .ok (.aload_n 0, 1) := by decide +kernel
theorem xd_X7_isWord_13 : decode cX7_isWord 13 = .ok (.getfield 148, 3) := by decide +kernel
theorem xd_X7_isWord_16 : decode cX7_isWord 16 = .ok (.isub, 1) := by decide +kernel
theorem xd_X7_isWord_17 : decode cX7_isWord 17 = .ok (.aload_n 1, 1) := by decide +kernel
theorem xd_X7_isWord_18 : decode cX7_isWord 18 = .ok (.invokevirtual 151, 3) := by decide +kernel
theorem xd_X7_isWord_21 : decode cX7_isWord 21 = .ok (.if_icmp .eq 5, 3) := by decide +kernel
theorem xd_X7_isWord_24 : decode cX7_isWord 24 = .ok (.iconst 0, 1) := by decide +kernel
theorem xd_X7_isWord_25 : decode cX7_isWord 25 = .ok (.ireturn, 1) := by decide +kernel
theorem xd_X7_isWord_26 : decode cX7_isWord 26 = .ok (.aload_n 0, 1) := by decide +kernel
theorem xd_X7_isWord_27 : decode cX7_isWord 27 = .ok (.getfield 148, 3) := by decide +kernel
theorem xd_X7_isWord_30 : decode cX7_isWord 30 = .ok (.istore_n 2, 1) := by decide +kernel
theorem xd_X7_isWord_31 : decode cX7_isWord 31 = .ok (.iload_n 2, 1) := by decide +kernel
theorem xd_X7_isWord_32 : decode cX7_isWord 32 = .ok (.aload_n 0, 1) := by decide +kernel
theorem xd_X7_isWord_33 : decode cX7_isWord 33 = .ok (.getfield 35, 3) := by decide +kernel
theorem xd_X7_isWord_36 : decode cX7_isWord 36 = .ok (.if_icmp .ge 30, 3) := by decide +kernel
theorem xd_X7_isWord_39 : decode cX7_isWord 39 = .ok (.aload_n 0, 1) := by decide +kernel
theorem xd_X7_isWord_40 : decode cX7_isWord 40 = .ok (.getfield 25, 3) := by decide +kernel
theorem xd_X7_isWord_43 : decode cX7_isWord 43 = .ok (.iload_n 2, 1) := by decide +kernel
theorem xd_X7_isWord_44 : decode cX7_isWord 44 = .ok (.iaload, 1) := by decide +kernel
theorem xd_X7_isWord_45 : decode cX7_isWord 45 = .ok (.aload_n 1, 1) := by decide +kernel
theorem xd_X7_isWord_46 : decode cX7_isWord 46 = .ok (.iload_n 2, 1) := by decide +kernel
theorem xd_X7_isWord_47 : decode cX7_isWord 47 = .ok (.aload_n 0, 1) := by decide +kernel
theorem xd_X7_isWord_48 : decode cX7_isWord 48 = .ok (.getfield 148, 3) := by decide +kernel
theorem xd_X7_isWord_51 : decode cX7_isWord 51 = .ok (.isub, 1) := by decide +kernel
theorem xd_X7_isWord_52 : decode cX7_isWord 52 = .ok (.invokevirtual 155, 3) := by decide +kernel
theorem xd_X7_isWord_55 : decode cX7_isWord 55 = .ok (.if_icmp .eq 5, 3) := by decide +kernel
theorem xd_X7_isWord_58 : decode cX7_isWord 58 = .ok (.iconst 0, 1) := by decide +kernel
theorem xd_X7_isWord_59 : decode cX7_isWord 59 = .ok (.ireturn, 1) := by decide +kernel
theorem xd_X7_isWord_60 : decode cX7_isWord 60 = .ok (.iinc 2 1, 3) := by decide +kernel
theorem xd_X7_isWord_63 : decode cX7_isWord 63 = .ok (.goto (-32), 3) := by decide +kernel
theorem xd_X7_isWord_66 : decode cX7_isWord 66 = .ok (.iconst 1, 1) := by decide +kernel
theorem xd_X7_isWord_67 : decode cX7_isWord 67 = .ok (.ireturn, 1) := by decide +kernel
/-! texts: the machine's own methods -/
def xj_F : Nat → Prop := fun _ => False
def xj_Q (a v n : Nat) (f : Nat → Int32) (A : Nat → Prop) (U : State) (H : Heap) : Prop := va_O "java/lang/String" a A U H ∧ va_OF "java/lang/String" "coder" "B" (.int 0) a A U H ∧ va_OF "java/lang/String" "value" "[B" (.ref v) a A U H ∧ va_T .byte v n (fun j => .int (f j)) A U H ∧ va_Z "java/lang/String" "COMPACT_STRINGS" "Z" (.int 1) A U H ∧ va_Zq "jdk/internal/util/Preconditions" "SIOOBE_FORMATTER" "Ljava/util/function/BiFunction;" A U H
theorem xj_Q.kept {a v n : Nat} {f : Nat → Int32} {A : Nat → Prop} {U : State} {H H1 : Heap} (h : xj_Q a v n f A U H) (hq : ∀ a : Nat, a < H.size → ¬ A a → H1[a]? = H[a]?) : xj_Q a v n f A U H1 := ⟨h.1.kept hq, h.2.1.kept hq, h.2.2.1.kept hq, h.2.2.2.1.kept hq, h.2.2.2.2.1.kept hq, h.2.2.2.2.2.kept hq⟩
theorem xj_Q.moved {a v n : Nat} {f : Nat → Int32} {A : Nat → Prop} {u U : State} {H : Heap} (hvm : u.vm.Alike U.vm) (h : xj_Q a v n f A u H) : xj_Q a v n f A U H := ⟨va_O.moved hvm h.1, va_OF.moved hvm h.2.1, va_OF.moved hvm h.2.2.1, va_T.moved hvm h.2.2.2.1, va_Z.moved hvm h.2.2.2.2.1, va_Zq.moved hvm h.2.2.2.2.2⟩
theorem xj_Q.narrow {a v n : Nat} {f : Nat → Int32} {A B : Nat → Prop} {U : State} {H : Heap} (h : xj_Q a v n f A U H) (hAB : ∀ q, B q → A q) : xj_Q a v n f B U H := ⟨h.1.narrow hAB, h.2.1.narrow hAB, h.2.2.1.narrow hAB, h.2.2.2.1.narrow hAB, h.2.2.2.2.1.narrow hAB, h.2.2.2.2.2.narrow hAB⟩
theorem xj_of {a : Nat} {A : Nat → Prop} {U : State} (h : xw_Tx a A U) : ∃ v n f, n ≤ 1000 ∧ xj_Q a v n f A U U.heap := by
  obtain ⟨v, n, f, h1, h2, h3, h4, h5, h6, h7⟩ := h
  exact ⟨v, n, f, h5, h1, h2, h3, h4, h6, h7⟩
def xj_Pc (vs : List Value) (a v n : Nat) (f : Nat → Int32) : Array Value → State → Prop := fun args U => args = vs.toArray ∧ xj_Q a v n f xj_F U U.heap
def xj_Qc (Po : Option Value → Prop) : Array Value → State → Outcome → State → Prop := fun _ st oc tt => ∃ r, oc = .returned r ∧ Po r ∧ tt.heap = st.heap
def xj_M (l : Launch) (y : MethodName) (cc : ByteArray) (mL : Nat) (ret : Option FieldType) (fr : Nat) (vs : List Value) (a v n : Nat) (f : Nat → Int32) (Po : Option Value → Prop) : Prop := Met l y (Cond.code y cc mL ret :: xv_tb) { frames := fr, cells := 0, slots := 0, locals := 60 * fr } (xj_Pc vs a v n f) (xj_Qc Po) 0 0 xj_F
theorem xj_blind {vs : List Value} {a v n : Nat} {f : Nat → Int32} : FrameBlind (xj_Pc vs a v n f) := fun aa U g mk q => ⟨q.1, xj_Q.moved (u := U) (U := U.calling g mk aa) (Vm.Alike.refl U.vm) q.2⟩
section XJ
variable {p : Program} {l : Launch} {e : Env} {R : Room} {s : State} {m : MethodId} {args : Array Value} {below : List Frame} {meth : Method} {c : Code} {H : Heap} {locs : List Loc} {cs sl : Nat} {Q : State → Prop} {cc : ByteArray} {pc nL : Nat} {ls : Array Slot} {rest vst : List Value} {own : String}
theorem xj_behind {Po : Option Value → Prop} {aa : Array Value} (hrun : va_Run p l e R s m args below meth c H locs cs sl 0 0 (F0 m pc ls vst) rest (xj_Qc Po aa) xj_F) (kk : ∀ r, Po r → W p l e R s m args below meth c H locs cs sl Q (F0 m (pc + 3) ls (r.toList ++ rest))) : W p l e R s m args below meth c H locs cs sl Q (F0 m pc ls vst) := by
  intro T hT XX
  obtain ⟨v, st₀, t1, T', L', h0, X', hL, e1, e2, ⟨r, hr, hPo, hh⟩, hgo⟩ := hrun T hT XX
  cases hr
  have eL : L' = [] := by
    cases L' with
    | nil => rfl
    | cons q L' => exact False.elim (hL q List.mem_cons_self)
  subst eL
  rw [List.append_nil] at X'
  obtain ⟨tt, a1, b1⟩ := kk v hPo T' (by rw [e1, hh, h0]) X'
  exact ⟨tt, hgo tt a1, b1⟩
theorem xj_callS {y : MethodName} {bytes : ByteArray} {maxL dF index : Nat} {ret : Option FieldType} {vs : List Value} {a v n : Nat} {f : Nat → Int32} {Po : Option Value → Prop} (F : CallFix p m c cc nL s args xv_tb own) (hM : xj_M l y bytes maxL ret dF vs a v n f Po) (hc : Cond.code y bytes maxL ret ∈ xv_tb) (hin : Cond.initialized y.cls ∈ xv_tb) (hst : Cond.static y ∈ xv_tb) (hlk : Cond.methodLink own index y ∈ xv_tb) (hdesc : y.cls ≠ "java/lang/invoke/MethodHandle" ∧ y.cls ≠ "java/lang/invoke/VarHandle" ∧ (parseMethodDescriptor y.desc).map (fun d => d.parameters.length) = some vs.length) (hmL : maxL ≤ 41) (hRm : dF + 1 ≤ R.frames ∧ 60 * dF + 60 ≤ R.locals) (hCS : cs ≤ R.cells ∧ sl ≤ R.slots)
    (hP : ∀ U : State, U.heap = H → s.WarmedH U.vm → xj_Q a v n f xj_F U U.heap) (hls : ls.size = nL) (hcat : (rest.map (fun v => v.category)).sum ≤ 8) (hd : decode cc pc = .ok (.invokestatic index, 3)) (kk : ∀ r, Po r → W p l e R s m args below meth c H locs cs sl Q (F0 m (pc + 3) ls (r.toList ++ rest))) : W p l e R s m args below meth c H locs cs sl Q (F0 m pc ls (vs.reverse ++ rest)) := by
  obtain ⟨f1, f2, f3, f4, f5⟩ := id F
  exact xj_behind (va_runS (As := vs) (n := vs.length) (own := own) (Ts := xv_tb) (nL := nL) (index := index) F hM ⟨callB_of vs.length f5 (xv_goodIn hc) rfl rfl rfl (f5 _ hin) (f5 _ hlk) hdesc ⟨hRm.1, by show 8 + (_ + 11) + 60 * dF ≤ _; omega⟩, f5 _ hst⟩ ⟨xj_blind, fun U hU hW => ⟨rfl, hP U hU hW⟩⟩ rfl rfl hls rfl (lv_room (by omega)) hd ⟨by omega, by omega⟩) kk
theorem xj_callV {y : MethodName} {bytes : ByteArray} {maxL dF index b : Nat} {ret : Option FieldType} {As : List Value} {a v n : Nat} {f : Nat → Int32} {Po : Option Value → Prop} (F : CallFix p m c cc nL s args xv_tb own) (hM : xj_M l y bytes maxL ret dF (.ref b :: As) a v n f Po) (hc : Cond.code y bytes maxL ret ∈ xv_tb) (hin : Cond.initialized y.cls ∈ xv_tb) (hi2 : Cond.instanceMethod y ∈ xv_tb) (hse : Cond.selects "java/lang/String" y y ∈ xv_tb) (hlk : Cond.methodLink own index y ∈ xv_tb) (hdesc : y.cls ≠ "java/lang/invoke/MethodHandle" ∧ y.cls ≠ "java/lang/invoke/VarHandle" ∧ (parseMethodDescriptor y.desc).map (fun d => d.parameters.length) = some As.length) (hmL : maxL ≤ 41) (hRm : dF + 1 ≤ R.frames ∧ 60 * dF + 60 ≤ R.locals) (hCS : cs ≤ R.cells ∧ sl ≤ R.slots)
    (hP : ∀ U : State, U.heap = H → s.WarmedH U.vm → xj_Q a v n f xj_F U U.heap) (hrec : ∃ cell : Cell, H[b]? = some cell ∧ cell.vm.isStatics = false ∧ s.vm.findClass "java/lang/String" = some cell.cls) (hls : ls.size = nL) (hcat : (rest.map (fun v => v.category)).sum ≤ 8) (hd : decode cc pc = .ok (.invokevirtual index, 3)) (kk : ∀ r, Po r → W p l e R s m args below meth c H locs cs sl Q (F0 m (pc + 3) ls (r.toList ++ rest))) : W p l e R s m args below meth c H locs cs sl Q (F0 m pc ls (As.reverse ++ .ref b :: rest)) := by
  obtain ⟨f1, f2, f3, f4, f5⟩ := id F
  exact xj_behind (va_runV (C := "java/lang/String") (As := As) (n := As.length) (own := own) (Ts := xv_tb) (nL := nL) (index := index) F hM ⟨callB_of As.length f5 (xv_goodIn hc) rfl rfl rfl (f5 _ hin) (f5 _ hlk) hdesc ⟨hRm.1, by show 8 + (_ + 11) + 60 * dF ≤ _; omega⟩, f5 _ hi2, f5 _ hse⟩ ⟨xj_blind, hrec, fun U hU hW => ⟨rfl, hP U hU hW⟩⟩ rfl rfl hls rfl (lv_room (by omega)) hd ⟨by omega, by omega⟩) kk
end XJ
theorem xj_meth {l : Launch} {y : MethodName} {cc : ByteArray} {mL d : Nat} {ret : Option FieldType} {vs : List Value} {a v n : Nat} {f : Nat → Int32} {Po : Option Value → Prop} (hy : plainFor y = true) (hsl : (lg_sl vs).length ≤ mL)
    (body : ∀ (p : Program) (e : Env) (s : State) (m : MethodId) (args : Array Value) (below : List Frame) (meth : Method) (c : Code) (R : Room) (Q : State → Prop), CallFix p m c cc mL s args xv_tb y.cls → (d + 1 ≤ R.frames ∧ 60 * d + 60 ≤ R.locals) → xj_Q a v n f xj_F s s.heap →
      (∀ (pc : Nat) (ls : Array Slot) (x : Int32) (ty : FieldType), decode cc pc = .ok (.ireturn, 1) → ret = some ty → narrow ty (.int x) = .int x → Po (some (.int x)) → W p l e R s m args below meth c s.heap [] 0 0 Q (F0 m pc ls [.int x])) →
      (∀ (pc : Nat) (ls : Array Slot), decode cc pc = .ok (.return_, 1) → ret = none → Po none → W p l e R s m args below meth c s.heap [] 0 0 Q (F0 m pc ls [])) →
      ∀ ls, lv_has ls mL (lv_args 0 vs) → W p l e R s m args below meth c s.heap [] 0 0 Q (F0 m 0 ls [])) : xj_M l y cc mL ret (d + 1) vs a v n f Po := by
  refine va_MetF (cc := cc) (maxL := mL) (ret := ret) hy rfl ?_
  intro p e s m args below meth c s₁ B hml hv
  obtain ⟨hargs, hq⟩ := hv
  subst hargs
  have hts := atoms_spec (ws := Cond.code y cc mL ret :: xv_tb) B.pre
  have hown : s.vm.findClass y.cls = some m.cls := findClass_of_methodNamed B.named
  rw [lg_entry_eq]
  exact body p e s m vs.toArray below meth c _ _ ⟨B.exec, B.bytes, hml, hown, fun w hw => hts w (List.mem_cons_of_mem _ hw)⟩ ⟨Nat.le_refl _, by show 60 * d + 60 ≤ 60 * (d + 1); omega⟩ hq (fun pc ls x ty hd hrt hn hPo => W.zret (ty := ty) B.exec B.bytes (by rw [B.returns, hrt]) hn (fun tt htt _ => ⟨_, rfl, hPo, htt⟩) (fun _ h => by cases h) hd) (fun pc ls hd hrt hPo => W.vret B.exec B.bytes (by rw [B.returns, hrt]) (fun tt htt _ => ⟨_, rfl, hPo, htt⟩) (fun _ h => by cases h) hd) _ (lv_entry vs (n := mL) hsl)
/-! one by one -/
theorem xj_lt0 {i : Int32} (h : 0 ≤ i.toInt) : ¬ i < 0 := fun w => by
  have := Int32.lt_iff_toInt_lt.mp w
  have z : (0 : Int32).toInt = 0 := by decide
  omega
theorem xj_pre {s : State} {a v n : Nat} {f : Nat → Int32} (h : xj_Q a v n f xj_F s s.heap) : ∀ U : State, U.heap = s.heap → s.WarmedH U.vm → xj_Q a v n f xj_F U U.heap := fun U hU hW => by rw [hU]; exact h.moved hW.alike
theorem xj_S (s : State) : va_S xj_F s.heap s.heap [] := va_S.rf
theorem xj_ofN {n : Nat} (h : n ≤ 1000) : (Int32.ofNat n).toInt = (n : Int) := Int32.toInt_ofNat_of_lt (by omega)
/-- Preconditions.checkIndex -/
theorem xj_3 (l : Launch) (d : Nat) {i k : Int32} {w : Value} {a v n : Nat} {f : Nat → Int32} (h0 : 0 ≤ i.toInt) (h1 : i.toInt < k.toInt) (hw : w = .null ∨ ∃ q, w = .ref q) : xj_M l yJ3_checkIndex_8e157 cJ3_checkIndex_8e157 3 (some .int) (d + 1) [.int i, .int k, w] a v n f (fun r => r = some (.int i)) := by
  refine xj_meth (by decide +kernel) (by rcases hw with rfl | ⟨q, rfl⟩ <;> (show 3 ≤ 3; decide)) ?_
  intro p e s m args below meth c R Q F hR hP hret hvret ls hls
  obtain ⟨hx, hb, -, -, -⟩ := id F
  have l0 : ls[0]? = some (.val (.int i)) := hls.2.2 (0, .int i) List.mem_cons_self
  have l1 : ls[1]? = some (.val (.int k)) := hls.2.2 (1, .int k) (List.mem_cons_of_mem _ List.mem_cons_self)
  refine lv_iload_n hx hb xd_J3_checkIndex_8e157_0 rfl l0 ?_
  refine lv_if_lt (tgt := 9) hx hb xd_J3_checkIndex_8e157_1 (by decide) (fun w => absurd w (xj_lt0 h0)) (fun _ => ?_)
  refine lv_iload_n hx hb xd_J3_checkIndex_8e157_4 rfl l0 ?_
  refine lv_iload_n hx hb xd_J3_checkIndex_8e157_5 rfl l1 ?_
  refine lv_icmp_lt (tgt := 16) hx hb xd_J3_checkIndex_8e157_6 (by decide) (fun _ => ?_) (fun w => absurd (Int32.lt_iff_toInt_lt.mpr h1) w)
  refine lv_iload_n hx hb xd_J3_checkIndex_8e157_16 rfl l0 ?_
  exact hret 17 ls i .int xd_J3_checkIndex_8e157_17 rfl rfl rfl
/-- String.checkIndex -/
theorem xj_0c (l : Launch) (d : Nat) {i k : Int32} {a v n : Nat} {f : Nat → Int32} (h0 : 0 ≤ i.toInt) (h1 : i.toInt < k.toInt) : xj_M l yJ0_checkIndex_df160 cJ0_checkIndex_df160 2 none (d + 2) [.int i, .int k] a v n f (fun r => r = none) := by
  refine xj_meth (by decide +kernel) (by show 2 ≤ 2; decide) ?_
  intro p e s m args below meth c R Q F hR hP hret hvret ls hls
  obtain ⟨hx, hb, -, hown, hts⟩ := id F
  have l0 : ls[0]? = some (.val (.int i)) := hls.2.2 (0, .int i) List.mem_cons_self
  have l1 : ls[1]? = some (.val (.int k)) := hls.2.2 (1, .int k) (List.mem_cons_of_mem _ List.mem_cons_self)
  refine lv_iload_n hx hb xd_J0_checkIndex_df160_0 rfl l0 ?_
  refine lv_iload_n hx hb xd_J0_checkIndex_df160_1 rfl l1 ?_
  have go : ∀ w : Value, (w = .null ∨ ∃ q, w = .ref q) → va_Z "jdk/internal/util/Preconditions" "SIOOBE_FORMATTER" "Ljava/util/function/BiFunction;" w xj_F s s.heap → W p l e R s m args below meth c s.heap [] 0 0 Q (F0 m 2 ls [.int k, .int i]) := fun w hw hZ => by
    refine va_gets hx hb hZ (xj_S s) hown (hts _ (xv_at_ok (p := 595) (by decide +kernel))) (fun _ h => h) xd_J0_checkIndex_df160_2 ?_
    refine xj_callS (vs := [.int i, .int k, w]) (rest := []) F (xj_3 l d h0 h1 hw) (xv_at_ok (p := 599) (by decide +kernel)) (xv_at_ok (p := 116) (by decide +kernel)) (xv_at_ok (p := 598) (by decide +kernel)) (xv_at_ok (p := 597) (by decide +kernel)) ⟨by decide, by decide, by show _ = some 3; decide +kernel⟩ (by decide) hR ⟨Nat.zero_le _, Nat.zero_le _⟩ (xj_pre hP) hls.1 (by decide) xd_J0_checkIndex_df160_5 ?_
    intro r hr
    subst hr
    refine lv_pop hx hb xd_J0_checkIndex_df160_8 rfl ?_
    exact hvret 9 ls xd_J0_checkIndex_df160_9 rfl rfl
  rcases hP.2.2.2.2.2 with hz | ⟨q, hz⟩
  · exact go _ (Or.inl rfl) hz
  · exact go _ (Or.inr ⟨q, rfl⟩) hz
def xj_ch (r : Option Value) : Prop := ∃ x : Int32, r = some (.int x) ∧ 0 ≤ x.toInt ∧ x.toInt ≤ 255
theorem xj_nc {x : Int32} (h0 : 0 ≤ x.toInt) (h1 : x.toInt ≤ 255) : narrow .char (.int x) = .int x := by
  show Value.int _ = _
  rw [lg_i2c_small h0 (by omega)]
/-- StringLatin1.charAt -/
theorem xj_1 (l : Launch) (d : Nat) {i : Int32} {a v n : Nat} {f : Nat → Int32} (hn : n ≤ 1000) (h0 : 0 ≤ i.toInt) (h1 : i.toInt < (n : Int)) : xj_M l yJ1_charAt_3b067 cJ1_charAt_3b067 2 (some .char) (d + 3) [.ref v, .int i] a v n f xj_ch := by
  refine xj_meth (by decide +kernel) (by show 2 ≤ 2; decide) ?_
  intro p e s m args below meth c R Q F hR hP hret hvret ls hls
  obtain ⟨hx, hb, -, hown, hts⟩ := id F
  have l0 : ls[0]? = some (.val (.ref v)) := hls.2.2 (0, .ref v) List.mem_cons_self
  have l1 : ls[1]? = some (.val (.int i)) := hls.2.2 (1, .int i) (List.mem_cons_of_mem _ List.mem_cons_self)
  refine lv_iload_n hx hb xd_J1_charAt_3b067_0 rfl l1 ?_
  refine lv_aload_n hx hb xd_J1_charAt_3b067_1 rfl l0 ?_
  refine va_tlen hx hb hP.2.2.2.1 (xj_S s) rfl xd_J1_charAt_3b067_2 ?_
  refine xj_callS (vs := [.int i, .int (Int32.ofNat n)]) (rest := []) F (xj_0c l d h0 (by rw [xj_ofN hn]; exact h1)) (xv_at_ok (p := 594) (by decide +kernel)) (xv_at_ok (p := 114) (by decide +kernel)) (xv_at_ok (p := 593) (by decide +kernel)) (xv_at_ok (p := 592) (by decide +kernel)) ⟨by decide, by decide, by show _ = some 2; decide +kernel⟩ (by decide) hR ⟨Nat.zero_le _, Nat.zero_le _⟩ (xj_pre hP) hls.1 (by decide) xd_J1_charAt_3b067_3 ?_
  intro r hr
  subst hr
  refine lv_aload_n hx hb xd_J1_charAt_3b067_6 rfl l0 ?_
  refine lv_iload_n hx hb xd_J1_charAt_3b067_7 rfl l1 ?_
  obtain ⟨q1, q2, q3⟩ := xy_idx (x := i) (n := n) h0 (by omega)
  refine va_tb hx hb hP.2.2.2.1 (xj_S s) q1 rfl xd_J1_charAt_3b067_8 ?_
  refine lv_sipush (v := 255) hx hb xd_J1_charAt_3b067_9 (by decide) ?_
  refine lv_iand hx hb xd_J1_charAt_3b067_12 ?_
  have hand := xv_and_ok (f i.toNatClampNeg) 255 (by decide)
  have e255 : (255 : Int32).toInt = 255 := by decide
  rw [e255] at hand
  refine lv_i2c hx hb xd_J1_charAt_3b067_13 (lg_i2c_word hand.1 (by omega)) ?_
  exact hret 14 ls _ .char xd_J1_charAt_3b067_14 rfl (xj_nc hand.1 hand.2) ⟨_, rfl, hand.1, hand.2⟩
/-- String.isLatin1 -/
theorem xj_il (l : Launch) (d : Nat) {a v n : Nat} {f : Nat → Int32} : xj_M l yJ0_isLatin1_aae02 cJ0_isLatin1_aae02 1 (some .boolean) (d + 1) [.ref a] a v n f (fun r => r = some (.int 1)) := by
  refine xj_meth (by decide +kernel) (by show 1 ≤ 1; decide) ?_
  intro p e s m args below meth c R Q F hR hP hret hvret ls hls
  obtain ⟨hx, hb, -, hown, hts⟩ := id F
  have l0 : ls[0]? = some (.val (.ref a)) := hls.2.2 (0, .ref a) List.mem_cons_self
  refine va_gets hx hb hP.2.2.2.2.1 (xj_S s) hown (hts _ (xv_at_ok (p := 579) (by decide +kernel))) (fun _ h => h) xd_J0_isLatin1_aae02_0 ?_
  refine lv_if_eq (tgt := 17) hx hb xd_J0_isLatin1_aae02_3 (by decide) (fun w => absurd w (by decide)) (fun _ => ?_)
  refine lv_aload_n hx hb xd_J0_isLatin1_aae02_6 rfl l0 ?_
  refine vk_getf hx hb hP.2.1 (xj_S s) hown (hts _ (xv_at_ok (p := 2062) (by decide +kernel))) (fun _ h => h) xd_J0_isLatin1_aae02_7 ?_
  refine lv_if_ne (tgt := 17) hx hb xd_J0_isLatin1_aae02_10 (by decide) (fun w => absurd rfl w) (fun _ => ?_)
  refine lv_iconst (v := 1) hx hb xd_J0_isLatin1_aae02_13 (by decide) ?_
  refine lv_goto (tgt := 18) hx hb xd_J0_isLatin1_aae02_14 (by decide) ?_
  exact hret 18 ls 1 .boolean xd_J0_isLatin1_aae02_18 rfl (by decide) rfl
/-- String.coder -/
theorem xj_cd (l : Launch) (d : Nat) {a v n : Nat} {f : Nat → Int32} : xj_M l yJ0_coder_7d493 cJ0_coder_7d493 1 (some .byte) (d + 1) [.ref a] a v n f (fun r => r = some (.int 0)) := by
  refine xj_meth (by decide +kernel) (by show 1 ≤ 1; decide) ?_
  intro p e s m args below meth c R Q F hR hP hret hvret ls hls
  obtain ⟨hx, hb, -, hown, hts⟩ := id F
  have l0 : ls[0]? = some (.val (.ref a)) := hls.2.2 (0, .ref a) List.mem_cons_self
  refine va_gets hx hb hP.2.2.2.2.1 (xj_S s) hown (hts _ (xv_at_ok (p := 579) (by decide +kernel))) (fun _ h => h) xd_J0_coder_7d493_0 ?_
  refine lv_if_eq (tgt := 13) hx hb xd_J0_coder_7d493_3 (by decide) (fun w => absurd w (by decide)) (fun _ => ?_)
  refine lv_aload_n hx hb xd_J0_coder_7d493_6 rfl l0 ?_
  refine vk_getf hx hb hP.2.1 (xj_S s) hown (hts _ (xv_at_ok (p := 2062) (by decide +kernel))) (fun _ h => h) xd_J0_coder_7d493_7 ?_
  refine lv_goto (tgt := 14) hx hb xd_J0_coder_7d493_10 (by decide) ?_
  exact hret 14 ls 0 .byte xd_J0_coder_7d493_14 rfl (by decide) rfl
theorem xj_rec {s : State} {a v n : Nat} {f : Nat → Int32} {A : Nat → Prop} {H : Heap} (h : xj_Q a v n f A s H) : ∃ cell : Cell, H[a]? = some cell ∧ cell.vm.isStatics = false ∧ s.vm.findClass "java/lang/String" = some cell.cls := by
  obtain ⟨cell, h1, h2, h3, -⟩ := h.1
  exact ⟨cell, h1, h2, h3⟩
/-- String.length -/
theorem xj_ln (l : Launch) (d : Nat) {a v n : Nat} {f : Nat → Int32} : xj_M l yJ0_length_8abf5 cJ0_length_8abf5 1 (some .int) (d + 2) [.ref a] a v n f (fun r => r = some (.int (Int32.ofNat n))) := by
  refine xj_meth (by decide +kernel) (by show 1 ≤ 1; decide) ?_
  intro p e s m args below meth c R Q F hR hP hret hvret ls hls
  obtain ⟨hx, hb, -, hown, hts⟩ := id F
  have l0 : ls[0]? = some (.val (.ref a)) := hls.2.2 (0, .ref a) List.mem_cons_self
  refine lv_aload_n hx hb xd_J0_length_8abf5_0 rfl l0 ?_
  refine vk_getf hx hb hP.2.2.1 (xj_S s) hown (hts _ (xv_at_ok (p := 2061) (by decide +kernel))) (fun _ h => h) xd_J0_length_8abf5_1 ?_
  refine va_tlen hx hb hP.2.2.2.1 (xj_S s) rfl xd_J0_length_8abf5_4 ?_
  refine lv_aload_n hx hb xd_J0_length_8abf5_5 rfl l0 ?_
  refine xj_callV (As := []) (b := a) (rest := [.int (Int32.ofNat n)]) F (xj_cd l d) (xv_at_ok (p := 578) (by decide +kernel)) (xv_at_ok (p := 114) (by decide +kernel)) (xv_at_ok (p := 576) (by decide +kernel)) (xv_at_ok (p := 577) (by decide +kernel)) (xv_at_ok (p := 575) (by decide +kernel)) ⟨by decide, by decide, by show _ = some 0; decide +kernel⟩ (by decide) hR ⟨Nat.zero_le _, Nat.zero_le _⟩ (xj_pre hP) (xj_rec hP) hls.1 (Nat.le_of_ble_eq_true rfl) xd_J0_length_8abf5_6 ?_
  intro r hr
  subst hr
  refine lv_ishr hx hb xd_J0_length_8abf5_9 ?_
  have es : Int32.ofNat n >>> ((0 : Int32) &&& 31) = Int32.ofNat n := by
    rw [show (0 : Int32) &&& 31 = 0 by decide]
    apply Int32.toBitVec_inj.mp
    simp
  rw [es]
  exact hret 10 ls _ .int xd_J0_length_8abf5_10 rfl rfl rfl
/-- String.charAt -/
theorem xj_ca (l : Launch) (d : Nat) {i : Int32} {a v n : Nat} {f : Nat → Int32} (hn : n ≤ 1000) (h0 : 0 ≤ i.toInt) (h1 : i.toInt < (n : Int)) : xj_M l yJ0_charAt_5068e cJ0_charAt_5068e 2 (some .char) (d + 4) [.ref a, .int i] a v n f xj_ch := by
  refine xj_meth (by decide +kernel) (by show 2 ≤ 2; decide) ?_
  intro p e s m args below meth c R Q F hR hP hret hvret ls hls
  obtain ⟨hx, hb, -, hown, hts⟩ := id F
  have l0 : ls[0]? = some (.val (.ref a)) := hls.2.2 (0, .ref a) List.mem_cons_self
  have l1 : ls[1]? = some (.val (.int i)) := hls.2.2 (1, .int i) (List.mem_cons_of_mem _ List.mem_cons_self)
  refine lv_aload_n hx hb xd_J0_charAt_5068e_0 rfl l0 ?_
  refine xj_callV (As := []) (b := a) (rest := []) F (xj_il l (d + 2)) (xv_at_ok (p := 588) (by decide +kernel)) (xv_at_ok (p := 114) (by decide +kernel)) (xv_at_ok (p := 586) (by decide +kernel)) (xv_at_ok (p := 587) (by decide +kernel)) (xv_at_ok (p := 585) (by decide +kernel)) ⟨by decide, by decide, by show _ = some 0; decide +kernel⟩ (by decide) hR ⟨Nat.zero_le _, Nat.zero_le _⟩ (xj_pre hP) (xj_rec hP) hls.1 (by decide) xd_J0_charAt_5068e_1 ?_
  intro r hr
  subst hr
  refine lv_if_eq (tgt := 16) hx hb xd_J0_charAt_5068e_4 (by decide) (fun w => absurd w (by decide)) (fun _ => ?_)
  refine lv_aload_n hx hb xd_J0_charAt_5068e_7 rfl l0 ?_
  refine vk_getf hx hb hP.2.2.1 (xj_S s) hown (hts _ (xv_at_ok (p := 2061) (by decide +kernel))) (fun _ h => h) xd_J0_charAt_5068e_8 ?_
  refine lv_iload_n hx hb xd_J0_charAt_5068e_11 rfl l1 ?_
  refine xj_callS (vs := [.ref v, .int i]) (rest := []) F (xj_1 l d hn h0 h1) (xv_at_ok (p := 591) (by decide +kernel)) (xv_at_ok (p := 115) (by decide +kernel)) (xv_at_ok (p := 590) (by decide +kernel)) (xv_at_ok (p := 589) (by decide +kernel)) ⟨by decide, by decide, by show _ = some 2; decide +kernel⟩ (by decide) hR ⟨Nat.zero_le _, Nat.zero_le _⟩ (xj_pre hP) hls.1 (by decide) xd_J0_charAt_5068e_12 ?_
  intro r hr
  obtain ⟨x, rfl, x0, x1⟩ := hr
  exact hret 15 ls x .char xd_J0_charAt_5068e_15 rfl (xj_nc x0 x1) ⟨x, rfl, x0, x1⟩
/-! isWord -/
set_option maxHeartbeats 4000000 in
theorem xj_word {l : Launch} {I : Nat → Option xv_I} (hJI : I = xv_JI xt_J) (hM : xw_MOK xt_M I) : ∃ i : xv_I, I 79 = some i ∧ ∀ d, 6 ≤ d → ∀ (D : va_G) (t : Nat → ClassId) (X : xw_X) (xs : Nat → Int32) (ws : va_W) (sz ad aw : Nat), xw_Inv X → xw_Wd xz_hl xz_G t X (xw_mu xs ws) ws → va_D (fun _ => True) ws → (ws.map Prod.fst)[1]? = some ad → X.2.2.1 aw →
    Met l i.1 (Cond.code i.1 i.2.1 i.2.2.1 i.2.2.2 :: xv_tb) { frames := d, cells := 0, slots := 0, locals := 60 * d } (xw_Pr D t X xs ws [.ref ad, .ref aw] sz) (xh_Q D t xz_hl xz_G X xs ws sz [] (fun _ rv => ∃ a : Int32, rv = some (.int a) ∧ (a = 0 ∨ a = 1))) 0 0 (va_A ws sz) := by
  obtain ⟨⟨y, cc, mL, ret⟩, hi, hok⟩ := hM 79 (xt_79, 3) rfl
  have hy : I 79 = some (yX7_isWord, cX7_isWord, 3, some .boolean) := by rw [hJI]; rfl
  rw [hy] at hi
  cases hi
  refine ⟨_, hy, fun d hd D t X xs ws sz ad aw hI hWd hD0 had haw => ?_⟩
  obtain ⟨d, rfl⟩ : ∃ d', d = d' + 4 + 1 := ⟨d - 5, by omega⟩
  obtain ⟨e1, hmL, hpn, hfull⟩ := id hok
  refine xh_methZ xz_9 hok hI hWd hD0 (by show 2 ≤ 3; decide) ?_
  intro p e s m args below meth c R Q hR hCS C hnm hret ls hls hWo
  dsimp only at C hnm hls hfull hret
  have hrt : (some FieldType.boolean) = some .boolean := rfl
  have hcl : xv_get 14 xz_G 1 = some (0, 7, 9, [[(2, 2, 0), (0, 0, 1200), (0, 0, 3), (0, (-1), 1200), (2, 17, 0), (0, 0, 1200), (0, 0, 1200), (0, 0, 5)], [(0, (-2147483648), 2147483647)]]) := rfl
  have F : CallFix p m c cX7_isWord 3 s args xv_tb RX7 := ⟨C.1, C.2.1, C.2.2.1, C.2.2.2.1, C.2.2.2.2.1⟩
  obtain ⟨v, n, f, hn, hq⟩ := xj_of (hI.2.2.2 (va_A ws sz) s aw haw C.2.2.2.2.2.2.2.2.2.1)
  have hqU : ∀ U : State, U.heap = s.heap → s.WarmedH U.vm → xj_Q aw v n f xj_F U U.heap := fun U hU hW => by rw [hU]; exact (hq.moved hW.alike).narrow (fun _ h => False.elim h)
  have l0 : ls[0]? = some (.val (.ref ad)) := hls.2.2 (0, .ref ad) List.mem_cons_self
  have l1 : ls[1]? = some (.val (.ref aw)) := hls.2.2 (1, .ref aw) (List.mem_cons_of_mem _ List.mem_cons_self)
  have rt0 : ∀ (pc : Nat) (ls : Array Slot), decode cX7_isWord pc = .ok (.iconst 0, 1) → decode cX7_isWord (pc + 1) = .ok (.ireturn, 1) → W p l e R s m args below meth c s.heap [] 0 0 Q (F0 m pc ls []) := fun pc ls h1 h2 => lv_iconst (v := 0) C.1 C.2.1 h1 (by decide) (hret (pc + 1) ls s.heap [] ws 0 hrt h2 (Or.inl rfl) hWo xh_B.rf ⟨0, rfl, Or.inl rfl⟩)
  refine lv_aload_n C.1 C.2.1 (xh_dec hfull 0 (e := (0, .aload_n 0, 1, 0, 0, 0, 0)) rfl) rfl l0 ?_
  refine xh_getI (r := 1) (b := 7) C hWo (xh_dec hfull 1 (e := (1, .getfield 41, 3, 7, 7, 233, 0)) rfl) (a := 7) (q := (RX7, TX7, 9)) rfl (by decide) (xv_at_ok (p := 233) (by decide +kernel)) hcl rfl rfl (by decide) rfl had ?_
  intro kd _ _ _
  refine lv_iconst (v := 1) C.1 C.2.1 (xh_dec hfull 2 (e := (4, .iconst 1, 1, 0, 0, 0, 0)) rfl) (by decide) ?_
  refine lv_icmp_ne (tgt := 24) C.1 C.2.1 (xh_dec hfull 3 (e := (5, .if_icmp .ne 19, 3, 0, 0, 0, 0)) rfl) (by decide) (fun _ => rt0 24 ls (xh_dec hfull 12 (e := (24, .iconst 0, 1, 0, 0, 0, 0)) rfl) (xh_dec hfull 13 (e := (25, .ireturn, 1, 1, 0, 0, 0)) rfl)) (fun _ => ?_)
  refine lv_aload_n C.1 C.2.1 (xh_dec hfull 4 (e := (8, .aload_n 0, 1, 0, 0, 0, 0)) rfl) rfl l0 ?_
  refine xh_getI (r := 1) (b := 6) C hWo (xh_dec hfull 5 (e := (9, .getfield 35, 3, 7, 6, 232, 0)) rfl) (a := 7) (q := (RX7, TX7, 9)) rfl (by decide) (xv_at_ok (p := 232) (by decide +kernel)) hcl rfl rfl (by decide) rfl had ?_
  intro bh ebh hbh0 hbh1
  refine lv_aload_n C.1 C.2.1 (xh_dec hfull 6 (e := (12, .aload_n 0, 1, 0, 0, 0, 0)) rfl) rfl l0 ?_
  refine xh_getI (r := 1) (b := 5) C hWo (xh_dec hfull 7 (e := (13, .getfield 148, 3, 7, 5, 231, 0)) rfl) (a := 7) (q := (RX7, TX7, 9)) rfl (by decide) (xv_at_ok (p := 231) (by decide +kernel)) hcl rfl rfl (by decide) rfl had ?_
  intro st est hst0 hst1
  refine lv_isub C.1 C.2.1 (xh_dec hfull 8 (e := (16, .isub, 1, 0, 0, 0, 0)) rfl) ?_
  refine lv_aload_n C.1 C.2.1 (xh_dec hfull 9 (e := (17, .aload_n 1, 1, 0, 0, 0, 0)) rfl) rfl l1 ?_
  refine xj_callV (As := []) (b := aw) (rest := [.int (bh - st)]) F (xj_ln l (d + 2)) (xv_at_ok (p := 574) (by decide +kernel)) (xv_at_ok (p := 114) (by decide +kernel)) (xv_at_ok (p := 572) (by decide +kernel)) (xv_at_ok (p := 573) (by decide +kernel)) (xv_at_ok (p := 571) (by decide +kernel)) ⟨by decide, by decide, by show _ = some 0; decide +kernel⟩ (by decide) hR hCS hqU (xj_rec hq) hls.1 (Nat.le_of_ble_eq_true rfl) (xh_dec hfull 10 (e := (18, .invokevirtual 151, 3, 9990, 0, 571, 99)) rfl) ?_
  intro r hr
  subst hr
  refine lv_icmp_eq (tgt := 26) C.1 C.2.1 (xh_dec hfull 11 (e := (21, .if_icmp .eq 5, 3, 0, 0, 0, 0)) rfl) (by decide) (fun hlen => ?_) (fun _ => rt0 24 ls (xh_dec hfull 12 (e := (24, .iconst 0, 1, 0, 0, 0, 0)) rfl) (xh_dec hfull 13 (e := (25, .ireturn, 1, 1, 0, 0, 0)) rfl))
  have hlen' : bh.toInt - st.toInt = (n : Int) := by
    have h1 : (bh - st).toInt = bh.toInt - st.toInt := by
      rw [Int32.toInt_sub]
      exact Int.bmod_eq_of_le (by omega) (by omega)
    rw [← h1, hlen, xj_ofN hn]
  -- the loop
  have k31 : ∀ (N : Nat) (ii : Int32) (ls : Array Slot), ii.toInt + (N : Int) = bh.toInt → st.toInt ≤ ii.toInt → lv_has ls 3 [(2, .int ii), (0, .ref ad), (1, .ref aw)] → W p l e R s m args below meth c s.heap [] 0 0 Q (F0 m 31 ls []) := by
    intro N
    induction N with
    | zero =>
      intro ii ls hN his hls3
      have l2 : ls[2]? = some (.val (.int ii)) := hls3.2.2 (2, .int ii) List.mem_cons_self
      have l0 : ls[0]? = some (.val (.ref ad)) := hls3.2.2 (0, .ref ad) (List.mem_cons_of_mem _ List.mem_cons_self)
      have l1 : ls[1]? = some (.val (.ref aw)) := hls3.2.2 (1, .ref aw) (List.mem_cons_of_mem _ (List.mem_cons_of_mem _ List.mem_cons_self))
      refine lv_iload_n C.1 C.2.1 (xh_dec hfull 17 (e := (31, .iload_n 2, 1, 0, 0, 0, 0)) rfl) rfl l2 ?_
      refine lv_aload_n C.1 C.2.1 (xh_dec hfull 18 (e := (32, .aload_n 0, 1, 0, 0, 0, 0)) rfl) rfl l0 ?_
      refine xh_getI (r := 1) (b := 6) C hWo (xh_dec hfull 19 (e := (33, .getfield 35, 3, 7, 6, 232, 0)) rfl) (a := 7) (q := (RX7, TX7, 9)) rfl (by decide) (xv_at_ok (p := 232) (by decide +kernel)) hcl rfl rfl (by decide) rfl had ?_
      intro bh' ebh' _ _
      have ebb : bh' = bh := by rw [ebh] at ebh'; cases ebh'; rfl
      subst ebb
      refine lv_icmp_ge (tgt := 66) C.1 C.2.1 (xh_dec hfull 20 (e := (36, .if_icmp .ge 30, 3, 0, 0, 0, 0)) rfl) (by decide) (fun _ => ?_) (fun w => absurd (Int32.le_iff_toInt_le.mpr (by omega)) w)
      refine lv_iconst (v := 1) C.1 C.2.1 (xh_dec hfull 36 (e := (66, .iconst 1, 1, 0, 0, 0, 0)) rfl) (by decide) ?_
      exact hret 67 ls s.heap [] ws 1 hrt (xh_dec hfull 37 (e := (67, .ireturn, 1, 1, 0, 0, 0)) rfl) (Or.inr rfl) hWo xh_B.rf ⟨1, rfl, Or.inr rfl⟩
    | succ N ih =>
      intro ii ls hN his hls3
      have l2 : ls[2]? = some (.val (.int ii)) := hls3.2.2 (2, .int ii) List.mem_cons_self
      have l0 : ls[0]? = some (.val (.ref ad)) := hls3.2.2 (0, .ref ad) (List.mem_cons_of_mem _ List.mem_cons_self)
      have l1 : ls[1]? = some (.val (.ref aw)) := hls3.2.2 (1, .ref aw) (List.mem_cons_of_mem _ (List.mem_cons_of_mem _ List.mem_cons_self))
      refine lv_iload_n C.1 C.2.1 (xh_dec hfull 17 (e := (31, .iload_n 2, 1, 0, 0, 0, 0)) rfl) rfl l2 ?_
      refine lv_aload_n C.1 C.2.1 (xh_dec hfull 18 (e := (32, .aload_n 0, 1, 0, 0, 0, 0)) rfl) rfl l0 ?_
      refine xh_getI (r := 1) (b := 6) C hWo (xh_dec hfull 19 (e := (33, .getfield 35, 3, 7, 6, 232, 0)) rfl) (a := 7) (q := (RX7, TX7, 9)) rfl (by decide) (xv_at_ok (p := 232) (by decide +kernel)) hcl rfl rfl (by decide) rfl had ?_
      intro bh' ebh' _ _
      have ebb : bh' = bh := by rw [ebh] at ebh'; cases ebh'; rfl
      subst ebb
      refine lv_icmp_ge (tgt := 66) C.1 C.2.1 (xh_dec hfull 20 (e := (36, .if_icmp .ge 30, 3, 0, 0, 0, 0)) rfl) (by decide) (fun w => absurd (Int32.le_iff_toInt_le.mp w) (by omega)) (fun _ => ?_)
      refine lv_aload_n C.1 C.2.1 (xh_dec hfull 21 (e := (39, .aload_n 0, 1, 0, 0, 0, 0)) rfl) rfl l0 ?_
      refine xh_getR (r := 1) (b := 4) (k' := 17) C hWo (xh_dec hfull 22 (e := (40, .getfield 25, 3, 7, 4, 230, 2)) rfl) (a := 7) (q := (RX7, TX7, 9)) rfl (by decide) (xv_at_ok (p := 230) (by decide +kernel)) hcl rfl rfl (by decide) rfl had ?_
      intro ab hab
      refine lv_iload_n C.1 C.2.1 (xh_dec hfull 23 (e := (43, .iload_n 2, 1, 0, 0, 0, 0)) rfl) rfl l2 ?_
      refine xh_iald (r := 17) C hWo (xh_dec hfull 24 (e := (44, .iaload, 1, 0, 0, 0, 0)) rfl) (cl := (1, 1200, 1, [[(0, 0, 255)]])) rfl rfl hab (by omega) (by show _ < 1200; omega) ?_
      intro bv
      refine lv_aload_n C.1 C.2.1 (xh_dec hfull 25 (e := (45, .aload_n 1, 1, 0, 0, 0, 0)) rfl) rfl l1 ?_
      refine lv_iload_n C.1 C.2.1 (xh_dec hfull 26 (e := (46, .iload_n 2, 1, 0, 0, 0, 0)) rfl) rfl l2 ?_
      refine lv_aload_n C.1 C.2.1 (xh_dec hfull 27 (e := (47, .aload_n 0, 1, 0, 0, 0, 0)) rfl) rfl l0 ?_
      refine xh_getI (r := 1) (b := 5) C hWo (xh_dec hfull 28 (e := (48, .getfield 148, 3, 7, 5, 231, 0)) rfl) (a := 7) (q := (RX7, TX7, 9)) rfl (by decide) (xv_at_ok (p := 231) (by decide +kernel)) hcl rfl rfl (by decide) rfl had ?_
      intro st' est' _ _
      have ess : st' = st := by rw [est] at est'; cases est'; rfl
      subst ess
      refine lv_isub C.1 C.2.1 (xh_dec hfull 29 (e := (51, .isub, 1, 0, 0, 0, 0)) rfl) ?_
      have hsub : (ii - st').toInt = ii.toInt - st'.toInt := by
        rw [Int32.toInt_sub]
        exact Int.bmod_eq_of_le (by omega) (by omega)
      refine xj_callV (As := [.int (ii - st')]) (b := aw) (rest := [.int bv]) F (xj_ca l d hn (by omega) (by omega)) (xv_at_ok (p := 584) (by decide +kernel)) (xv_at_ok (p := 114) (by decide +kernel)) (xv_at_ok (p := 582) (by decide +kernel)) (xv_at_ok (p := 583) (by decide +kernel)) (xv_at_ok (p := 581) (by decide +kernel)) ⟨by decide, by decide, by show _ = some 1; decide +kernel⟩ (by decide) hR hCS hqU (xj_rec hq) hls3.1 (Nat.le_of_ble_eq_true rfl) (xh_dec hfull 30 (e := (52, .invokevirtual 155, 3, 9990, 1, 581, 99)) rfl) ?_
      intro r hr
      obtain ⟨ch, rfl, -, -⟩ := hr
      refine lv_icmp_eq (tgt := 60) C.1 C.2.1 (xh_dec hfull 31 (e := (55, .if_icmp .eq 5, 3, 0, 0, 0, 0)) rfl) (by decide) (fun _ => ?_) (fun _ => rt0 58 ls (xh_dec hfull 32 (e := (58, .iconst 0, 1, 0, 0, 0, 0)) rfl) (xh_dec hfull 33 (e := (59, .ireturn, 1, 1, 0, 0, 0)) rfl))
      refine lv_iinc (k := 0) (v := ii + 1) C.1 C.2.1 (xh_dec hfull 34 (e := (60, .iinc 2 1, 3, 0, 0, 0, 0)) rfl) hls3 rfl rfl (by decide) rfl ?_
      intro ls' hls'
      refine lv_goto (tgt := 31) C.1 C.2.1 (xh_dec hfull 35 (e := (63, .goto (-32), 3, 0, 0, 0, 0)) rfl) (by decide) ?_
      have hp1 : (ii + 1).toInt = ii.toInt + 1 := by
        have e1 : (1 : Int32).toInt = 1 := by decide
        rw [Int32.toInt_add, e1]
        exact Int.bmod_eq_of_le (by omega) (by omega)
      exact ih (ii + 1) ls' (by omega) (by omega) hls'
  refine lv_aload_n C.1 C.2.1 (xh_dec hfull 14 (e := (26, .aload_n 0, 1, 0, 0, 0, 0)) rfl) rfl l0 ?_
  refine xh_getI (r := 1) (b := 5) C hWo (xh_dec hfull 15 (e := (27, .getfield 148, 3, 7, 5, 231, 0)) rfl) (a := 7) (q := (RX7, TX7, 9)) rfl (by decide) (xv_at_ok (p := 231) (by decide +kernel)) hcl rfl rfl (by decide) rfl had ?_
  intro st' est' _ _
  have ess : st' = st := by rw [est] at est'; cases est'; rfl
  subst ess
  refine lv_istore_n C.1 C.2.1 (xh_dec hfull 16 (e := (30, .istore_n 2, 1, 0, 0, 0, 0)) rfl) rfl hls (by decide) rfl ?_
  intro ls' hls'
  exact k31 n st' ls' (by omega) (by omega) hls'
