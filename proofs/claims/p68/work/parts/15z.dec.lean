/-! decoding, by opcode -/
def xv_byt (code : ByteArray) (p : Nat) : Option Nat := match (match p / 64 with
  | 0 => code.data.toList
  | k + 1 => code.data.toList.drop (64 * (k + 1)))[p % 64]? with
  | some b => some b.toNat
  | none => none
theorem xv_byt_ok {code : ByteArray} {p n : Nat} (h : xv_byt code p = some n) : (Jvm.ClassFile.Reader.u1 : Jvm.ClassFile.Decoder Nat).runAt code p = .ok (n, p + 1) := by
  unfold xv_byt at h
  have e : (match p / 64 with
    | 0 => code.data.toList
    | k + 1 => code.data.toList.drop (64 * (k + 1)))[p % 64]? = code.data.toList[p]? := by
    have hp := Nat.div_add_mod p 64
    cases hq : p / 64 with
    | zero => rw [hq] at hp; dsimp only; rw [show p % 64 = p by omega]
    | succ k => rw [hq] at hp; dsimp only; rw [List.getElem?_drop, hp]
  rw [e] at h
  cases hb : code.data.toList[p]? with
  | none => rw [hb] at h; cases h
  | some b =>
    rw [hb] at h
    have hn : b.toNat = n := Option.some.inj h
    obtain ⟨hlt, hg⟩ := List.getElem?_eq_some_iff.mp hb
    have hlt : p < code.size := hlt
    have hg : code[p] = b := hg
    show Jvm.ClassFile.Reader.runAt (if h : p < code.size then (do set (p + 1); pure code[p].toNat) else throw (Jvm.ClassFile.HasTruncated.truncated p) : Jvm.ClassFile.Decoder Nat) code p = _
    rw [dif_pos hlt]
    show Except.ok (code[p].toNat, p + 1) = _
    rw [hg, hn]
theorem xv_bd {α β : Type} {code : ByteArray} {p q : Nat} {a : α} {r : Jvm.ClassFile.Decoder α} {f : α → Jvm.ClassFile.Decoder β} (h : r.runAt code p = .ok (a, q)) : (r >>= f).runAt code p = (f a).runAt code q := by
  show (Except.bind (r.runAt code p) (fun x => (f x.1).runAt code x.2)) = _
  rw [h]
  rfl
theorem xv_mp {α β : Type} {code : ByteArray} {p q : Nat} {a : α} {r : Jvm.ClassFile.Decoder α} {f : α → β} (h : r.runAt code p = .ok (a, q)) : (f <$> r).runAt code p = .ok (f a, q) := by
  show (Except.bind (r.runAt code p) (fun x => Except.ok (f x.1, x.2))) = _
  rw [h]
  rfl
theorem xv_u2 {code : ByteArray} {p a b : Nat} (h1 : (Jvm.ClassFile.Reader.u1 : Jvm.ClassFile.Decoder Nat).runAt code p = .ok (a, p + 1)) (h2 : (Jvm.ClassFile.Reader.u1 : Jvm.ClassFile.Decoder Nat).runAt code (p + 1) = .ok (b, p + 2)) : (Jvm.ClassFile.Reader.u2 : Jvm.ClassFile.Decoder Nat).runAt code p = .ok (a * 256 + b, p + 2) := by
  unfold Jvm.ClassFile.Reader.u2
  rw [xv_bd h1, xv_bd h2]
  rfl
def xv_is (code : ByteArray) (p n : Nat) : Bool := match xv_byt code p with
  | some b => Nat.beq b n
  | none => false
theorem xv_is_ok {code : ByteArray} {p n : Nat} (h : xv_is code p n = true) : (Jvm.ClassFile.Reader.u1 : Jvm.ClassFile.Decoder Nat).runAt code p = .ok (n, p + 1) := by
  unfold xv_is at h
  cases hb : xv_byt code p with
  | none => rw [hb] at h; cases h
  | some b =>
    rw [hb] at h
    rw [← xv_beq h]
    exact xv_byt_ok hb
def xv_w2 (code : ByteArray) (p : Nat) : Option Nat := match xv_byt code p, xv_byt code (p + 1) with
  | some a, some b => some (a * 256 + b)
  | _, _ => none
theorem xv_w2_ok {code : ByteArray} {p v : Nat} (h : xv_w2 code p = some v) : (Jvm.ClassFile.Reader.u2 : Jvm.ClassFile.Decoder Nat).runAt code p = .ok (v, p + 2) := by
  unfold xv_w2 at h
  cases h1 : xv_byt code p with
  | none => rw [h1] at h; cases h
  | some a =>
    cases h2 : xv_byt code (p + 1) with
    | none => rw [h1, h2] at h; cases h
    | some b =>
      rw [h1, h2] at h
      have h : a * 256 + b = v := Option.some.inj h
      rw [← h]
      exact xv_u2 (xv_byt_ok h1) (xv_byt_ok h2)
theorem xv_fin {code : ByteArray} {pc n : Nat} {I : Instr} (h : (Jvm.ClassFile.Decoder.instr pc).runAt code pc = .ok (I, pc + n)) : decode code pc = .ok (I, n) := by
  unfold decode
  rw [h]
  show Except.ok (I, pc + n - pc) = _
  rw [Nat.add_sub_cancel_left]
def xv_b0 (code : ByteArray) (pc n len : Nat) : Bool := Nat.beq len 1 && xv_is code pc n
def xv_b1 (code : ByteArray) (pc n v len : Nat) : Bool := Nat.beq len 2 && (xv_is code pc n && xv_is code (pc + 1) v)
def xv_s1 (code : ByteArray) (pc n : Nat) (v : Int) (len : Nat) : Bool := Nat.beq len 2 && (xv_is code pc n && (match xv_byt code (pc + 1) with
  | some a => decide (Jvm.ClassFile.Reader.signed 8 a = v)
  | none => false))
def xv_b2 (code : ByteArray) (pc n v len : Nat) : Bool := Nat.beq len 3 && (xv_is code pc n && (match xv_w2 code (pc + 1) with
  | some a => Nat.beq a v
  | none => false))
def xv_s2 (code : ByteArray) (pc n : Nat) (v : Int) (len : Nat) : Bool := Nat.beq len 3 && (xv_is code pc n && (match xv_w2 code (pc + 1) with
  | some a => decide (Jvm.ClassFile.Reader.signed 16 a = v)
  | none => false))
def xv_bi (code : ByteArray) (pc n v : Nat) (w : Int) (len : Nat) : Bool := Nat.beq len 3 && (xv_is code pc n && (xv_is code (pc + 1) v && (match xv_byt code (pc + 2) with
  | some a => decide (Jvm.ClassFile.Reader.signed 8 a = w)
  | none => false)))
abbrev xv_U (code : ByteArray) (p n : Nat) : Prop := (Jvm.ClassFile.Reader.u1 : Jvm.ClassFile.Decoder Nat).runAt code p = .ok (n, p + 1)
theorem xv_f0 {code : ByteArray} {pc n len : Nat} {I : Instr} (h : xv_b0 code pc n len = true) (g : xv_U code pc n → (Jvm.ClassFile.Decoder.instr pc).runAt code pc = .ok (I, pc + 1)) : decode code pc = .ok (I, len) := by
  obtain ⟨h1, h2⟩ := xv_and_t h
  rw [xv_beq h1]
  exact xv_fin (g (xv_is_ok h2))
theorem xv_f1 {code : ByteArray} {pc n v len : Nat} {I : Instr} (h : xv_b1 code pc n v len = true) (g : xv_U code pc n → xv_U code (pc + 1) v → (Jvm.ClassFile.Decoder.instr pc).runAt code pc = .ok (I, pc + 2)) : decode code pc = .ok (I, len) := by
  obtain ⟨h1, h2⟩ := xv_and_t h
  obtain ⟨h2, h3⟩ := xv_and_t h2
  rw [xv_beq h1]
  exact xv_fin (g (xv_is_ok h2) (xv_is_ok h3))
theorem xv_f1s {code : ByteArray} {pc n len : Nat} {v : Int} {I : Instr} (h : xv_s1 code pc n v len = true) (g : xv_U code pc n → (Jvm.ClassFile.Reader.s1 : Jvm.ClassFile.Decoder Int).runAt code (pc + 1) = .ok (v, pc + 2) → (Jvm.ClassFile.Decoder.instr pc).runAt code pc = .ok (I, pc + 2)) : decode code pc = .ok (I, len) := by
  obtain ⟨h1, h2⟩ := xv_and_t h
  obtain ⟨h2, h3⟩ := xv_and_t h2
  rw [xv_beq h1]
  refine xv_fin (g (xv_is_ok h2) ?_)
  cases hb : xv_byt code (pc + 1) with
  | none => rw [hb] at h3; cases h3
  | some a =>
    rw [hb] at h3
    have h3 : Jvm.ClassFile.Reader.signed 8 a = v := of_decide_eq_true h3
    rw [← h3]
    exact xv_mp (xv_byt_ok hb)
theorem xv_f2 {code : ByteArray} {pc n v len : Nat} {I : Instr} (h : xv_b2 code pc n v len = true) (g : xv_U code pc n → (Jvm.ClassFile.Reader.u2 : Jvm.ClassFile.Decoder Nat).runAt code (pc + 1) = .ok (v, pc + 3) → (Jvm.ClassFile.Decoder.instr pc).runAt code pc = .ok (I, pc + 3)) : decode code pc = .ok (I, len) := by
  obtain ⟨h1, h2⟩ := xv_and_t h
  obtain ⟨h2, h3⟩ := xv_and_t h2
  rw [xv_beq h1]
  refine xv_fin (g (xv_is_ok h2) ?_)
  cases hb : xv_w2 code (pc + 1) with
  | none => rw [hb] at h3; cases h3
  | some a =>
    rw [hb] at h3
    have h3 : a = v := xv_beq h3
    rw [← h3]
    exact xv_w2_ok hb
theorem xv_f2s {code : ByteArray} {pc n len : Nat} {v : Int} {I : Instr} (h : xv_s2 code pc n v len = true) (g : xv_U code pc n → (Jvm.ClassFile.Reader.s2 : Jvm.ClassFile.Decoder Int).runAt code (pc + 1) = .ok (v, pc + 3) → (Jvm.ClassFile.Decoder.instr pc).runAt code pc = .ok (I, pc + 3)) : decode code pc = .ok (I, len) := by
  obtain ⟨h1, h2⟩ := xv_and_t h
  obtain ⟨h2, h3⟩ := xv_and_t h2
  rw [xv_beq h1]
  refine xv_fin (g (xv_is_ok h2) ?_)
  cases hb : xv_w2 code (pc + 1) with
  | none => rw [hb] at h3; cases h3
  | some a =>
    rw [hb] at h3
    have h3 : Jvm.ClassFile.Reader.signed 16 a = v := of_decide_eq_true h3
    rw [← h3]
    exact xv_mp (xv_w2_ok hb)
theorem xv_fi {code : ByteArray} {pc n v len : Nat} {w : Int} {I : Instr} (h : xv_bi code pc n v w len = true) (g : xv_U code pc n → xv_U code (pc + 1) v → (Jvm.ClassFile.Reader.s1 : Jvm.ClassFile.Decoder Int).runAt code (pc + 2) = .ok (w, pc + 3) → (Jvm.ClassFile.Decoder.instr pc).runAt code pc = .ok (I, pc + 3)) : decode code pc = .ok (I, len) := by
  obtain ⟨h1, h2⟩ := xv_and_t h
  obtain ⟨h2, h3⟩ := xv_and_t h2
  obtain ⟨h3, h4⟩ := xv_and_t h3
  rw [xv_beq h1]
  refine xv_fin (g (xv_is_ok h2) (xv_is_ok h3) ?_)
  cases hb : xv_byt code (pc + 2) with
  | none => rw [hb] at h4; cases h4
  | some a =>
    rw [hb] at h4
    have h4 : Jvm.ClassFile.Reader.signed 8 a = w := of_decide_eq_true h4
    rw [← h4]
    exact xv_mp (xv_byt_ok hb)
set_option maxRecDepth 100000 in
set_option maxHeartbeats 4000000 in
theorem xv_o46 {code : ByteArray} {pc len : Nat} (h : xv_b0 code pc 46 len = true) : decode code pc = .ok (.iaload, len) := xv_f0 h (fun h1 => by
  unfold Jvm.ClassFile.Decoder.instr
  rw [xv_bd h1]
  rfl)
set_option maxRecDepth 100000 in
set_option maxHeartbeats 4000000 in
theorem xv_o172 {code : ByteArray} {pc len : Nat} (h : xv_b0 code pc 172 len = true) : decode code pc = .ok (.ireturn, len) := xv_f0 h (fun h1 => by
  unfold Jvm.ClassFile.Decoder.instr
  rw [xv_bd h1]
  rfl)
set_option maxRecDepth 100000 in
set_option maxHeartbeats 4000000 in
theorem xv_o96 {code : ByteArray} {pc len : Nat} (h : xv_b0 code pc 96 len = true) : decode code pc = .ok (.iadd, len) := xv_f0 h (fun h1 => by
  unfold Jvm.ClassFile.Decoder.instr
  rw [xv_bd h1]
  rfl)
set_option maxRecDepth 100000 in
set_option maxHeartbeats 4000000 in
theorem xv_o87 {code : ByteArray} {pc len : Nat} (h : xv_b0 code pc 87 len = true) : decode code pc = .ok (.pop, len) := xv_f0 h (fun h1 => by
  unfold Jvm.ClassFile.Decoder.instr
  rw [xv_bd h1]
  rfl)
set_option maxRecDepth 100000 in
set_option maxHeartbeats 4000000 in
theorem xv_o79 {code : ByteArray} {pc len : Nat} (h : xv_b0 code pc 79 len = true) : decode code pc = .ok (.iastore, len) := xv_f0 h (fun h1 => by
  unfold Jvm.ClassFile.Decoder.instr
  rw [xv_bd h1]
  rfl)
set_option maxRecDepth 100000 in
set_option maxHeartbeats 4000000 in
theorem xv_o133 {code : ByteArray} {pc len : Nat} (h : xv_b0 code pc 133 len = true) : decode code pc = .ok (.i2l, len) := xv_f0 h (fun h1 => by
  unfold Jvm.ClassFile.Decoder.instr
  rw [xv_bd h1]
  rfl)
set_option maxRecDepth 100000 in
set_option maxHeartbeats 4000000 in
theorem xv_o177 {code : ByteArray} {pc len : Nat} (h : xv_b0 code pc 177 len = true) : decode code pc = .ok (.return_, len) := xv_f0 h (fun h1 => by
  unfold Jvm.ClassFile.Decoder.instr
  rw [xv_bd h1]
  rfl)
set_option maxRecDepth 100000 in
set_option maxHeartbeats 4000000 in
theorem xv_o104 {code : ByteArray} {pc len : Nat} (h : xv_b0 code pc 104 len = true) : decode code pc = .ok (.imul, len) := xv_f0 h (fun h1 => by
  unfold Jvm.ClassFile.Decoder.instr
  rw [xv_bd h1]
  rfl)
set_option maxRecDepth 100000 in
set_option maxHeartbeats 4000000 in
theorem xv_o120 {code : ByteArray} {pc len : Nat} (h : xv_b0 code pc 120 len = true) : decode code pc = .ok (.ishl, len) := xv_f0 h (fun h1 => by
  unfold Jvm.ClassFile.Decoder.instr
  rw [xv_bd h1]
  rfl)
set_option maxRecDepth 100000 in
set_option maxHeartbeats 4000000 in
theorem xv_o89 {code : ByteArray} {pc len : Nat} (h : xv_b0 code pc 89 len = true) : decode code pc = .ok (.dup, len) := xv_f0 h (fun h1 => by
  unfold Jvm.ClassFile.Decoder.instr
  rw [xv_bd h1]
  rfl)
set_option maxRecDepth 100000 in
set_option maxHeartbeats 4000000 in
theorem xv_o100 {code : ByteArray} {pc len : Nat} (h : xv_b0 code pc 100 len = true) : decode code pc = .ok (.isub, len) := xv_f0 h (fun h1 => by
  unfold Jvm.ClassFile.Decoder.instr
  rw [xv_bd h1]
  rfl)
set_option maxRecDepth 100000 in
set_option maxHeartbeats 4000000 in
theorem xv_o126 {code : ByteArray} {pc len : Nat} (h : xv_b0 code pc 126 len = true) : decode code pc = .ok (.iand, len) := xv_f0 h (fun h1 => by
  unfold Jvm.ClassFile.Decoder.instr
  rw [xv_bd h1]
  rfl)
set_option maxRecDepth 100000 in
set_option maxHeartbeats 4000000 in
theorem xv_o128 {code : ByteArray} {pc len : Nat} (h : xv_b0 code pc 128 len = true) : decode code pc = .ok (.ior, len) := xv_f0 h (fun h1 => by
  unfold Jvm.ClassFile.Decoder.instr
  rw [xv_bd h1]
  rfl)
set_option maxRecDepth 100000 in
set_option maxHeartbeats 4000000 in
theorem xv_o148 {code : ByteArray} {pc len : Nat} (h : xv_b0 code pc 148 len = true) : decode code pc = .ok (.lcmp, len) := xv_f0 h (fun h1 => by
  unfold Jvm.ClassFile.Decoder.instr
  rw [xv_bd h1]
  rfl)
set_option maxRecDepth 100000 in
set_option maxHeartbeats 4000000 in
theorem xv_o26 {code : ByteArray} {pc len : Nat} (h : xv_b0 code pc 26 len = true) : decode code pc = .ok (.iload_n 0, len) := xv_f0 h (fun h1 => by
  unfold Jvm.ClassFile.Decoder.instr
  rw [xv_bd h1]
  rfl)
set_option maxRecDepth 100000 in
set_option maxHeartbeats 4000000 in
theorem xv_o27 {code : ByteArray} {pc len : Nat} (h : xv_b0 code pc 27 len = true) : decode code pc = .ok (.iload_n 1, len) := xv_f0 h (fun h1 => by
  unfold Jvm.ClassFile.Decoder.instr
  rw [xv_bd h1]
  rfl)
set_option maxRecDepth 100000 in
set_option maxHeartbeats 4000000 in
theorem xv_o28 {code : ByteArray} {pc len : Nat} (h : xv_b0 code pc 28 len = true) : decode code pc = .ok (.iload_n 2, len) := xv_f0 h (fun h1 => by
  unfold Jvm.ClassFile.Decoder.instr
  rw [xv_bd h1]
  rfl)
set_option maxRecDepth 100000 in
set_option maxHeartbeats 4000000 in
theorem xv_o29 {code : ByteArray} {pc len : Nat} (h : xv_b0 code pc 29 len = true) : decode code pc = .ok (.iload_n 3, len) := xv_f0 h (fun h1 => by
  unfold Jvm.ClassFile.Decoder.instr
  rw [xv_bd h1]
  rfl)
set_option maxRecDepth 100000 in
set_option maxHeartbeats 4000000 in
theorem xv_o42 {code : ByteArray} {pc len : Nat} (h : xv_b0 code pc 42 len = true) : decode code pc = .ok (.aload_n 0, len) := xv_f0 h (fun h1 => by
  unfold Jvm.ClassFile.Decoder.instr
  rw [xv_bd h1]
  rfl)
set_option maxRecDepth 100000 in
set_option maxHeartbeats 4000000 in
theorem xv_o43 {code : ByteArray} {pc len : Nat} (h : xv_b0 code pc 43 len = true) : decode code pc = .ok (.aload_n 1, len) := xv_f0 h (fun h1 => by
  unfold Jvm.ClassFile.Decoder.instr
  rw [xv_bd h1]
  rfl)
set_option maxRecDepth 100000 in
set_option maxHeartbeats 4000000 in
theorem xv_o44 {code : ByteArray} {pc len : Nat} (h : xv_b0 code pc 44 len = true) : decode code pc = .ok (.aload_n 2, len) := xv_f0 h (fun h1 => by
  unfold Jvm.ClassFile.Decoder.instr
  rw [xv_bd h1]
  rfl)
set_option maxRecDepth 100000 in
set_option maxHeartbeats 4000000 in
theorem xv_o45 {code : ByteArray} {pc len : Nat} (h : xv_b0 code pc 45 len = true) : decode code pc = .ok (.aload_n 3, len) := xv_f0 h (fun h1 => by
  unfold Jvm.ClassFile.Decoder.instr
  rw [xv_bd h1]
  rfl)
set_option maxRecDepth 100000 in
set_option maxHeartbeats 4000000 in
theorem xv_o59 {code : ByteArray} {pc len : Nat} (h : xv_b0 code pc 59 len = true) : decode code pc = .ok (.istore_n 0, len) := xv_f0 h (fun h1 => by
  unfold Jvm.ClassFile.Decoder.instr
  rw [xv_bd h1]
  rfl)
set_option maxRecDepth 100000 in
set_option maxHeartbeats 4000000 in
theorem xv_o60 {code : ByteArray} {pc len : Nat} (h : xv_b0 code pc 60 len = true) : decode code pc = .ok (.istore_n 1, len) := xv_f0 h (fun h1 => by
  unfold Jvm.ClassFile.Decoder.instr
  rw [xv_bd h1]
  rfl)
set_option maxRecDepth 100000 in
set_option maxHeartbeats 4000000 in
theorem xv_o61 {code : ByteArray} {pc len : Nat} (h : xv_b0 code pc 61 len = true) : decode code pc = .ok (.istore_n 2, len) := xv_f0 h (fun h1 => by
  unfold Jvm.ClassFile.Decoder.instr
  rw [xv_bd h1]
  rfl)
set_option maxRecDepth 100000 in
set_option maxHeartbeats 4000000 in
theorem xv_o62 {code : ByteArray} {pc len : Nat} (h : xv_b0 code pc 62 len = true) : decode code pc = .ok (.istore_n 3, len) := xv_f0 h (fun h1 => by
  unfold Jvm.ClassFile.Decoder.instr
  rw [xv_bd h1]
  rfl)
set_option maxRecDepth 100000 in
set_option maxHeartbeats 4000000 in
theorem xv_o30 {code : ByteArray} {pc len : Nat} (h : xv_b0 code pc 30 len = true) : decode code pc = .ok (.lload_n 0, len) := xv_f0 h (fun h1 => by
  unfold Jvm.ClassFile.Decoder.instr
  rw [xv_bd h1]
  rfl)
set_option maxRecDepth 100000 in
set_option maxHeartbeats 4000000 in
theorem xv_o31 {code : ByteArray} {pc len : Nat} (h : xv_b0 code pc 31 len = true) : decode code pc = .ok (.lload_n 1, len) := xv_f0 h (fun h1 => by
  unfold Jvm.ClassFile.Decoder.instr
  rw [xv_bd h1]
  rfl)
set_option maxRecDepth 100000 in
set_option maxHeartbeats 4000000 in
theorem xv_o32 {code : ByteArray} {pc len : Nat} (h : xv_b0 code pc 32 len = true) : decode code pc = .ok (.lload_n 2, len) := xv_f0 h (fun h1 => by
  unfold Jvm.ClassFile.Decoder.instr
  rw [xv_bd h1]
  rfl)
set_option maxRecDepth 100000 in
set_option maxHeartbeats 4000000 in
theorem xv_o33 {code : ByteArray} {pc len : Nat} (h : xv_b0 code pc 33 len = true) : decode code pc = .ok (.lload_n 3, len) := xv_f0 h (fun h1 => by
  unfold Jvm.ClassFile.Decoder.instr
  rw [xv_bd h1]
  rfl)
set_option maxRecDepth 100000 in
set_option maxHeartbeats 4000000 in
theorem xv_o2 {code : ByteArray} {pc len : Nat} (h : xv_b0 code pc 2 len = true) : decode code pc = .ok (.iconst (-1), len) := xv_f0 h (fun h1 => by
  unfold Jvm.ClassFile.Decoder.instr
  rw [xv_bd h1]
  rfl)
set_option maxRecDepth 100000 in
set_option maxHeartbeats 4000000 in
theorem xv_o3 {code : ByteArray} {pc len : Nat} (h : xv_b0 code pc 3 len = true) : decode code pc = .ok (.iconst 0, len) := xv_f0 h (fun h1 => by
  unfold Jvm.ClassFile.Decoder.instr
  rw [xv_bd h1]
  rfl)
set_option maxRecDepth 100000 in
set_option maxHeartbeats 4000000 in
theorem xv_o4 {code : ByteArray} {pc len : Nat} (h : xv_b0 code pc 4 len = true) : decode code pc = .ok (.iconst 1, len) := xv_f0 h (fun h1 => by
  unfold Jvm.ClassFile.Decoder.instr
  rw [xv_bd h1]
  rfl)
set_option maxRecDepth 100000 in
set_option maxHeartbeats 4000000 in
theorem xv_o5 {code : ByteArray} {pc len : Nat} (h : xv_b0 code pc 5 len = true) : decode code pc = .ok (.iconst 2, len) := xv_f0 h (fun h1 => by
  unfold Jvm.ClassFile.Decoder.instr
  rw [xv_bd h1]
  rfl)
set_option maxRecDepth 100000 in
set_option maxHeartbeats 4000000 in
theorem xv_o6 {code : ByteArray} {pc len : Nat} (h : xv_b0 code pc 6 len = true) : decode code pc = .ok (.iconst 3, len) := xv_f0 h (fun h1 => by
  unfold Jvm.ClassFile.Decoder.instr
  rw [xv_bd h1]
  rfl)
set_option maxRecDepth 100000 in
set_option maxHeartbeats 4000000 in
theorem xv_o7 {code : ByteArray} {pc len : Nat} (h : xv_b0 code pc 7 len = true) : decode code pc = .ok (.iconst 4, len) := xv_f0 h (fun h1 => by
  unfold Jvm.ClassFile.Decoder.instr
  rw [xv_bd h1]
  rfl)
set_option maxRecDepth 100000 in
set_option maxHeartbeats 4000000 in
theorem xv_o8 {code : ByteArray} {pc len : Nat} (h : xv_b0 code pc 8 len = true) : decode code pc = .ok (.iconst 5, len) := xv_f0 h (fun h1 => by
  unfold Jvm.ClassFile.Decoder.instr
  rw [xv_bd h1]
  rfl)
set_option maxRecDepth 100000 in
set_option maxHeartbeats 4000000 in
theorem xv_o180 {code : ByteArray} {pc len v : Nat} (h : xv_b2 code pc 180 v len = true) : decode code pc = .ok (Instr.getfield v, len) := xv_f2 h (fun h1 h2 => by
  unfold Jvm.ClassFile.Decoder.instr
  rw [xv_bd h1]
  exact (xv_bd (f := fun x => pure (Instr.getfield x)) h2).trans rfl)
set_option maxRecDepth 100000 in
set_option maxHeartbeats 4000000 in
theorem xv_o181 {code : ByteArray} {pc len v : Nat} (h : xv_b2 code pc 181 v len = true) : decode code pc = .ok (Instr.putfield v, len) := xv_f2 h (fun h1 h2 => by
  unfold Jvm.ClassFile.Decoder.instr
  rw [xv_bd h1]
  exact (xv_bd (f := fun x => pure (Instr.putfield x)) h2).trans rfl)
set_option maxRecDepth 100000 in
set_option maxHeartbeats 4000000 in
theorem xv_o182 {code : ByteArray} {pc len v : Nat} (h : xv_b2 code pc 182 v len = true) : decode code pc = .ok (Instr.invokevirtual v, len) := xv_f2 h (fun h1 h2 => by
  unfold Jvm.ClassFile.Decoder.instr
  rw [xv_bd h1]
  exact (xv_bd (f := fun x => pure (Instr.invokevirtual x)) h2).trans rfl)
set_option maxRecDepth 100000 in
set_option maxHeartbeats 4000000 in
theorem xv_o183 {code : ByteArray} {pc len v : Nat} (h : xv_b2 code pc 183 v len = true) : decode code pc = .ok (Instr.invokespecial v, len) := xv_f2 h (fun h1 h2 => by
  unfold Jvm.ClassFile.Decoder.instr
  rw [xv_bd h1]
  exact (xv_bd (f := fun x => pure (Instr.invokespecial x)) h2).trans rfl)
set_option maxRecDepth 100000 in
set_option maxHeartbeats 4000000 in
theorem xv_o184 {code : ByteArray} {pc len v : Nat} (h : xv_b2 code pc 184 v len = true) : decode code pc = .ok (Instr.invokestatic v, len) := xv_f2 h (fun h1 h2 => by
  unfold Jvm.ClassFile.Decoder.instr
  rw [xv_bd h1]
  exact (xv_bd (f := fun x => pure (Instr.invokestatic x)) h2).trans rfl)
set_option maxRecDepth 100000 in
set_option maxHeartbeats 4000000 in
theorem xv_o187 {code : ByteArray} {pc len v : Nat} (h : xv_b2 code pc 187 v len = true) : decode code pc = .ok (Instr.new v, len) := xv_f2 h (fun h1 h2 => by
  unfold Jvm.ClassFile.Decoder.instr
  rw [xv_bd h1]
  exact (xv_bd (f := fun x => pure (Instr.new x)) h2).trans rfl)
set_option maxRecDepth 100000 in
set_option maxHeartbeats 4000000 in
theorem xv_o20 {code : ByteArray} {pc len v : Nat} (h : xv_b2 code pc 20 v len = true) : decode code pc = .ok (Instr.ldc2_w v, len) := xv_f2 h (fun h1 h2 => by
  unfold Jvm.ClassFile.Decoder.instr
  rw [xv_bd h1]
  exact (xv_bd (f := fun x => pure (Instr.ldc2_w x)) h2).trans rfl)
set_option maxRecDepth 100000 in
set_option maxHeartbeats 4000000 in
theorem xv_o21 {code : ByteArray} {pc len v : Nat} (h : xv_b1 code pc 21 v len = true) : decode code pc = .ok (Instr.iload v, len) := xv_f1 h (fun h1 h2 => by
  unfold Jvm.ClassFile.Decoder.instr
  rw [xv_bd h1]
  exact (xv_bd (f := fun x => pure (Instr.iload x)) h2).trans rfl)
set_option maxRecDepth 100000 in
set_option maxHeartbeats 4000000 in
theorem xv_o54 {code : ByteArray} {pc len v : Nat} (h : xv_b1 code pc 54 v len = true) : decode code pc = .ok (Instr.istore v, len) := xv_f1 h (fun h1 h2 => by
  unfold Jvm.ClassFile.Decoder.instr
  rw [xv_bd h1]
  exact (xv_bd (f := fun x => pure (Instr.istore x)) h2).trans rfl)
set_option maxRecDepth 100000 in
set_option maxHeartbeats 4000000 in
theorem xv_o22 {code : ByteArray} {pc len v : Nat} (h : xv_b1 code pc 22 v len = true) : decode code pc = .ok (Instr.lload v, len) := xv_f1 h (fun h1 h2 => by
  unfold Jvm.ClassFile.Decoder.instr
  rw [xv_bd h1]
  exact (xv_bd (f := fun x => pure (Instr.lload x)) h2).trans rfl)
set_option maxRecDepth 100000 in
set_option maxHeartbeats 4000000 in
theorem xv_o16 {code : ByteArray} {pc len : Nat} {v : Int} (h : xv_s1 code pc 16 v len = true) : decode code pc = .ok (Instr.bipush v, len) := xv_f1s h (fun h1 h2 => by
  unfold Jvm.ClassFile.Decoder.instr
  rw [xv_bd h1]
  exact (xv_bd (f := fun x => pure (Instr.bipush x)) h2).trans rfl)
set_option maxRecDepth 100000 in
set_option maxHeartbeats 4000000 in
theorem xv_o17 {code : ByteArray} {pc len : Nat} {v : Int} (h : xv_s2 code pc 17 v len = true) : decode code pc = .ok (Instr.sipush v, len) := xv_f2s h (fun h1 h2 => by
  unfold Jvm.ClassFile.Decoder.instr
  rw [xv_bd h1]
  exact (xv_bd (f := fun x => pure (Instr.sipush x)) h2).trans rfl)
set_option maxRecDepth 100000 in
set_option maxHeartbeats 4000000 in
theorem xv_o167 {code : ByteArray} {pc len : Nat} {v : Int} (h : xv_s2 code pc 167 v len = true) : decode code pc = .ok (Instr.goto v, len) := xv_f2s h (fun h1 h2 => by
  unfold Jvm.ClassFile.Decoder.instr
  rw [xv_bd h1]
  exact (xv_bd (f := fun x => pure (Instr.goto x)) h2).trans rfl)
set_option maxRecDepth 100000 in
set_option maxHeartbeats 4000000 in
theorem xv_o153 {code : ByteArray} {pc len : Nat} {v : Int} (h : xv_s2 code pc 153 v len = true) : decode code pc = .ok (Instr.ifCond .eq v, len) := xv_f2s h (fun h1 h2 => by
  unfold Jvm.ClassFile.Decoder.instr
  rw [xv_bd h1]
  exact (xv_bd (f := fun x => pure (Instr.ifCond .eq x)) h2).trans rfl)
set_option maxRecDepth 100000 in
set_option maxHeartbeats 4000000 in
theorem xv_o154 {code : ByteArray} {pc len : Nat} {v : Int} (h : xv_s2 code pc 154 v len = true) : decode code pc = .ok (Instr.ifCond .ne v, len) := xv_f2s h (fun h1 h2 => by
  unfold Jvm.ClassFile.Decoder.instr
  rw [xv_bd h1]
  exact (xv_bd (f := fun x => pure (Instr.ifCond .ne x)) h2).trans rfl)
set_option maxRecDepth 100000 in
set_option maxHeartbeats 4000000 in
theorem xv_o155 {code : ByteArray} {pc len : Nat} {v : Int} (h : xv_s2 code pc 155 v len = true) : decode code pc = .ok (Instr.ifCond .lt v, len) := xv_f2s h (fun h1 h2 => by
  unfold Jvm.ClassFile.Decoder.instr
  rw [xv_bd h1]
  exact (xv_bd (f := fun x => pure (Instr.ifCond .lt x)) h2).trans rfl)
set_option maxRecDepth 100000 in
set_option maxHeartbeats 4000000 in
theorem xv_o156 {code : ByteArray} {pc len : Nat} {v : Int} (h : xv_s2 code pc 156 v len = true) : decode code pc = .ok (Instr.ifCond .ge v, len) := xv_f2s h (fun h1 h2 => by
  unfold Jvm.ClassFile.Decoder.instr
  rw [xv_bd h1]
  exact (xv_bd (f := fun x => pure (Instr.ifCond .ge x)) h2).trans rfl)
set_option maxRecDepth 100000 in
set_option maxHeartbeats 4000000 in
theorem xv_o157 {code : ByteArray} {pc len : Nat} {v : Int} (h : xv_s2 code pc 157 v len = true) : decode code pc = .ok (Instr.ifCond .gt v, len) := xv_f2s h (fun h1 h2 => by
  unfold Jvm.ClassFile.Decoder.instr
  rw [xv_bd h1]
  exact (xv_bd (f := fun x => pure (Instr.ifCond .gt x)) h2).trans rfl)
set_option maxRecDepth 100000 in
set_option maxHeartbeats 4000000 in
theorem xv_o158 {code : ByteArray} {pc len : Nat} {v : Int} (h : xv_s2 code pc 158 v len = true) : decode code pc = .ok (Instr.ifCond .le v, len) := xv_f2s h (fun h1 h2 => by
  unfold Jvm.ClassFile.Decoder.instr
  rw [xv_bd h1]
  exact (xv_bd (f := fun x => pure (Instr.ifCond .le x)) h2).trans rfl)
set_option maxRecDepth 100000 in
set_option maxHeartbeats 4000000 in
theorem xv_o159 {code : ByteArray} {pc len : Nat} {v : Int} (h : xv_s2 code pc 159 v len = true) : decode code pc = .ok (Instr.if_icmp .eq v, len) := xv_f2s h (fun h1 h2 => by
  unfold Jvm.ClassFile.Decoder.instr
  rw [xv_bd h1]
  exact (xv_bd (f := fun x => pure (Instr.if_icmp .eq x)) h2).trans rfl)
set_option maxRecDepth 100000 in
set_option maxHeartbeats 4000000 in
theorem xv_o160 {code : ByteArray} {pc len : Nat} {v : Int} (h : xv_s2 code pc 160 v len = true) : decode code pc = .ok (Instr.if_icmp .ne v, len) := xv_f2s h (fun h1 h2 => by
  unfold Jvm.ClassFile.Decoder.instr
  rw [xv_bd h1]
  exact (xv_bd (f := fun x => pure (Instr.if_icmp .ne x)) h2).trans rfl)
set_option maxRecDepth 100000 in
set_option maxHeartbeats 4000000 in
theorem xv_o161 {code : ByteArray} {pc len : Nat} {v : Int} (h : xv_s2 code pc 161 v len = true) : decode code pc = .ok (Instr.if_icmp .lt v, len) := xv_f2s h (fun h1 h2 => by
  unfold Jvm.ClassFile.Decoder.instr
  rw [xv_bd h1]
  exact (xv_bd (f := fun x => pure (Instr.if_icmp .lt x)) h2).trans rfl)
set_option maxRecDepth 100000 in
set_option maxHeartbeats 4000000 in
theorem xv_o162 {code : ByteArray} {pc len : Nat} {v : Int} (h : xv_s2 code pc 162 v len = true) : decode code pc = .ok (Instr.if_icmp .ge v, len) := xv_f2s h (fun h1 h2 => by
  unfold Jvm.ClassFile.Decoder.instr
  rw [xv_bd h1]
  exact (xv_bd (f := fun x => pure (Instr.if_icmp .ge x)) h2).trans rfl)
set_option maxRecDepth 100000 in
set_option maxHeartbeats 4000000 in
theorem xv_o163 {code : ByteArray} {pc len : Nat} {v : Int} (h : xv_s2 code pc 163 v len = true) : decode code pc = .ok (Instr.if_icmp .gt v, len) := xv_f2s h (fun h1 h2 => by
  unfold Jvm.ClassFile.Decoder.instr
  rw [xv_bd h1]
  exact (xv_bd (f := fun x => pure (Instr.if_icmp .gt x)) h2).trans rfl)
set_option maxRecDepth 100000 in
set_option maxHeartbeats 4000000 in
theorem xv_o164 {code : ByteArray} {pc len : Nat} {v : Int} (h : xv_s2 code pc 164 v len = true) : decode code pc = .ok (Instr.if_icmp .le v, len) := xv_f2s h (fun h1 h2 => by
  unfold Jvm.ClassFile.Decoder.instr
  rw [xv_bd h1]
  exact (xv_bd (f := fun x => pure (Instr.if_icmp .le x)) h2).trans rfl)
set_option maxRecDepth 100000 in
set_option maxHeartbeats 4000000 in
theorem xv_o132 {code : ByteArray} {pc len v : Nat} {w : Int} (h : xv_bi code pc 132 v w len = true) : decode code pc = .ok (.iinc v w, len) := xv_fi h (fun h1 h2 h3 => by
  unfold Jvm.ClassFile.Decoder.instr
  rw [xv_bd h1]
  exact ((xv_bd (f := fun x => (Jvm.ClassFile.Reader.s1 : Jvm.ClassFile.Decoder Int) >>= fun y => pure (Instr.iinc x y)) h2).trans (xv_bd (f := fun y => pure (Instr.iinc v y)) h3)).trans rfl)
def xv_cn (c : ClassFile.Cond) : Nat := match c with
  | .eq => 0
  | .ne => 1
  | .lt => 2
  | .ge => 3
  | .gt => 4
  | .le => 5
def xv_dB (code : ByteArray) (pc : Nat) (I : Instr) (len : Nat) : Bool := match I with
  | .iaload => xv_b0 code pc 46 len
  | .ireturn => xv_b0 code pc 172 len
  | .iadd => xv_b0 code pc 96 len
  | .pop => xv_b0 code pc 87 len
  | .iastore => xv_b0 code pc 79 len
  | .i2l => xv_b0 code pc 133 len
  | .return_ => xv_b0 code pc 177 len
  | .imul => xv_b0 code pc 104 len
  | .ishl => xv_b0 code pc 120 len
  | .dup => xv_b0 code pc 89 len
  | .isub => xv_b0 code pc 100 len
  | .iand => xv_b0 code pc 126 len
  | .ior => xv_b0 code pc 128 len
  | .lcmp => xv_b0 code pc 148 len
  | .iload_n j => xv_b0 code pc (26 + j.val) len
  | .aload_n j => xv_b0 code pc (42 + j.val) len
  | .istore_n j => xv_b0 code pc (59 + j.val) len
  | .lload_n j => xv_b0 code pc (30 + j.val) len
  | .iconst n => (xv_le (-1) n && xv_le n 5) && xv_b0 code pc (n + 3).toNat len
  | .getfield v => xv_b2 code pc 180 v len
  | .putfield v => xv_b2 code pc 181 v len
  | .invokevirtual v => xv_b2 code pc 182 v len
  | .invokespecial v => xv_b2 code pc 183 v len
  | .invokestatic v => xv_b2 code pc 184 v len
  | .new v => xv_b2 code pc 187 v len
  | .ldc2_w v => xv_b2 code pc 20 v len
  | .iload v => xv_b1 code pc 21 v len
  | .istore v => xv_b1 code pc 54 v len
  | .lload v => xv_b1 code pc 22 v len
  | .bipush v => xv_s1 code pc 16 v len
  | .sipush v => xv_s2 code pc 17 v len
  | .goto v => xv_s2 code pc 167 v len
  | .ifCond c v => xv_s2 code pc (153 + xv_cn c) v len
  | .if_icmp c v => xv_s2 code pc (159 + xv_cn c) v len
  | .iinc v w => xv_bi code pc 132 v w len
  | I => decide (decode code pc = .ok (I, len))
theorem xv_dB_ok {code : ByteArray} {pc : Nat} {I : Instr} {len : Nat} (h : xv_dB code pc I len = true) : decode code pc = .ok (I, len) := by
  unfold xv_dB at h
  cases I
  case iaload => exact xv_o46 h
  case ireturn => exact xv_o172 h
  case iadd => exact xv_o96 h
  case pop => exact xv_o87 h
  case iastore => exact xv_o79 h
  case i2l => exact xv_o133 h
  case return_ => exact xv_o177 h
  case imul => exact xv_o104 h
  case ishl => exact xv_o120 h
  case dup => exact xv_o89 h
  case isub => exact xv_o100 h
  case iand => exact xv_o126 h
  case ior => exact xv_o128 h
  case lcmp => exact xv_o148 h
  case iload_n j =>
    obtain ⟨j, hj⟩ := j
    rcases (by omega : j = 0 ∨ j = 1 ∨ j = 2 ∨ j = 3) with rfl | rfl | rfl | rfl
    · exact xv_o26 h
    · exact xv_o27 h
    · exact xv_o28 h
    · exact xv_o29 h
  case aload_n j =>
    obtain ⟨j, hj⟩ := j
    rcases (by omega : j = 0 ∨ j = 1 ∨ j = 2 ∨ j = 3) with rfl | rfl | rfl | rfl
    · exact xv_o42 h
    · exact xv_o43 h
    · exact xv_o44 h
    · exact xv_o45 h
  case istore_n j =>
    obtain ⟨j, hj⟩ := j
    rcases (by omega : j = 0 ∨ j = 1 ∨ j = 2 ∨ j = 3) with rfl | rfl | rfl | rfl
    · exact xv_o59 h
    · exact xv_o60 h
    · exact xv_o61 h
    · exact xv_o62 h
  case lload_n j =>
    obtain ⟨j, hj⟩ := j
    rcases (by omega : j = 0 ∨ j = 1 ∨ j = 2 ∨ j = 3) with rfl | rfl | rfl | rfl
    · exact xv_o30 h
    · exact xv_o31 h
    · exact xv_o32 h
    · exact xv_o33 h
  case iconst n =>
    obtain ⟨hn, h⟩ := xv_and_t h
    obtain ⟨n1, n2⟩ := xv_and_t hn
    have n1 := xv_le_iff.mp n1
    have n2 := xv_le_iff.mp n2
    rcases (by omega : n = -1 ∨ n = 0 ∨ n = 1 ∨ n = 2 ∨ n = 3 ∨ n = 4 ∨ n = 5) with rfl | rfl | rfl | rfl | rfl | rfl | rfl
    · exact xv_o2 h
    · exact xv_o3 h
    · exact xv_o4 h
    · exact xv_o5 h
    · exact xv_o6 h
    · exact xv_o7 h
    · exact xv_o8 h
  case getfield v => exact xv_o180 h
  case putfield v => exact xv_o181 h
  case invokevirtual v => exact xv_o182 h
  case invokespecial v => exact xv_o183 h
  case invokestatic v => exact xv_o184 h
  case new v => exact xv_o187 h
  case ldc2_w v => exact xv_o20 h
  case iload v => exact xv_o21 h
  case istore v => exact xv_o54 h
  case lload v => exact xv_o22 h
  case bipush v => exact xv_o16 h
  case sipush v => exact xv_o17 h
  case goto v => exact xv_o167 h
  case ifCond c v =>
    cases c with
    | eq => exact xv_o153 h
    | ne => exact xv_o154 h
    | lt => exact xv_o155 h
    | ge => exact xv_o156 h
    | gt => exact xv_o157 h
    | le => exact xv_o158 h
  case if_icmp c v =>
    cases c with
    | eq => exact xv_o159 h
    | ne => exact xv_o160 h
    | lt => exact xv_o161 h
    | ge => exact xv_o162 h
    | gt => exact xv_o163 h
    | le => exact xv_o164 h
  case iinc v w => exact xv_o132 h
  all_goals exact of_decide_eq_true h
