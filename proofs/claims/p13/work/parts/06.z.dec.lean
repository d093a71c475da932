/-! decode rows by opcodes -/
theorem u1_at {code : ByteArray} {p : Nat} {b : UInt8} (h : code.data.toList[p]? = some b) : (Jvm.ClassFile.Reader.u1 : Jvm.ClassFile.Decoder Nat) code p = .ok (b.toNat, p + 1) := by
  obtain ⟨h1, h2⟩ := List.getElem?_eq_some_iff.mp h
  have hs : p < code.size := h1
  have hb : code[p]'hs = b := h2
  have e : (Jvm.ClassFile.Reader.u1 : Jvm.ClassFile.Decoder Nat) code p = (if h : p < code.size then (do set (p + 1); Pure.pure (code[p]'h).toNat : Jvm.ClassFile.Decoder Nat) else throw (Jvm.ClassFile.HasTruncated.truncated p)) code p := rfl
  rw [e, dif_pos hs, hb]
  rfl
theorem u2_at {code : ByteArray} {p : Nat} {a b : UInt8} (h : code.data.toList[p]? = some a) (h2 : code.data.toList[p + 1]? = some b) : (Jvm.ClassFile.Reader.u2 : Jvm.ClassFile.Decoder Nat) code p = .ok (a.toNat * 256 + b.toNat, p + 2) := by
  unfold Jvm.ClassFile.Reader.u2
  show Except.bind ((Jvm.ClassFile.Reader.u1 : Jvm.ClassFile.Decoder Nat) code p) _ = _
  rw [u1_at h]
  show Except.bind ((Jvm.ClassFile.Reader.u1 : Jvm.ClassFile.Decoder Nat) code (p + 1)) _ = _
  rw [u1_at h2]
  rfl
theorem s1_at {code : ByteArray} {p : Nat} {a : UInt8} (h : code.data.toList[p]? = some a) : (Jvm.ClassFile.Reader.s1 : Jvm.ClassFile.Decoder Int) code p = .ok (Jvm.ClassFile.Reader.signed 8 a.toNat, p + 1) := by
  unfold Jvm.ClassFile.Reader.s1
  show Except.bind ((Jvm.ClassFile.Reader.u1 : Jvm.ClassFile.Decoder Nat) code p) _ = _
  rw [u1_at h]
  rfl
theorem s2_at {code : ByteArray} {p : Nat} {a b : UInt8} (h : code.data.toList[p]? = some a) (h2 : code.data.toList[p + 1]? = some b) : (Jvm.ClassFile.Reader.s2 : Jvm.ClassFile.Decoder Int) code p = .ok (Jvm.ClassFile.Reader.signed 16 (a.toNat * 256 + b.toNat), p + 2) := by
  unfold Jvm.ClassFile.Reader.s2
  show Except.bind ((Jvm.ClassFile.Reader.u2 : Jvm.ClassFile.Decoder Nat) code p) _ = _
  rw [u2_at h h2]
  rfl
theorem sg_p {n : Nat} {m : Int} (h : Nat.ble n 32767 = true) (e : Int.ofNat n = m) : Jvm.ClassFile.Reader.signed 16 n = m := by
  have h1 := Nat.le_of_ble_eq_true h
  unfold Jvm.ClassFile.Reader.signed
  rw [if_pos (show n < 2 ^ (16 - 1) by omega)]
  exact e
theorem sg_n {n k : Nat} {m : Int} (h : Nat.ble 32768 n = true) (hk : n + k = 65536) (e : -(k : Int) = m) : Jvm.ClassFile.Reader.signed 16 n = m := by
  have h1 := Nat.le_of_ble_eq_true h
  unfold Jvm.ClassFile.Reader.signed
  rw [if_neg (show ¬ n < 2 ^ (16 - 1) by omega), ← e]
  have e2 : ((2 ^ 16 : Nat) : Int) = 65536 := rfl
  rw [e2]
  omega
theorem dc_of {code : ByteArray} {p n : Nat} {i : Instr} (h : Jvm.ClassFile.Decoder.instr p code p = .ok (i, p + n)) : decode code p = .ok (i, n) := by
  unfold decode
  show Except.bind (Jvm.ClassFile.Decoder.instr p code p) _ = _
  rw [h]
  show Except.ok (_, p + n - p) = _
  rw [Nat.add_sub_cancel_left]
theorem dc_46 {code : ByteArray} {p : Nat} (h : code.data.toList[p]? = some 46) : decode code p = .ok (.iaload, 1) := by
  have hu := u1_at h
  refine dc_of ?_
  unfold Jvm.ClassFile.Decoder.instr
  show Except.bind ((Jvm.ClassFile.Reader.u1 : Jvm.ClassFile.Decoder Nat) code p) _ = _
  rw [hu]
  rfl
theorem dc_47 {code : ByteArray} {p : Nat} (h : code.data.toList[p]? = some 47) : decode code p = .ok (.laload, 1) := by
  have hu := u1_at h
  refine dc_of ?_
  unfold Jvm.ClassFile.Decoder.instr
  show Except.bind ((Jvm.ClassFile.Reader.u1 : Jvm.ClassFile.Decoder Nat) code p) _ = _
  rw [hu]
  rfl
theorem dc_50 {code : ByteArray} {p : Nat} (h : code.data.toList[p]? = some 50) : decode code p = .ok (.aaload, 1) := by
  have hu := u1_at h
  refine dc_of ?_
  unfold Jvm.ClassFile.Decoder.instr
  show Except.bind ((Jvm.ClassFile.Reader.u1 : Jvm.ClassFile.Decoder Nat) code p) _ = _
  rw [hu]
  rfl
theorem dc_51 {code : ByteArray} {p : Nat} (h : code.data.toList[p]? = some 51) : decode code p = .ok (.baload, 1) := by
  have hu := u1_at h
  refine dc_of ?_
  unfold Jvm.ClassFile.Decoder.instr
  show Except.bind ((Jvm.ClassFile.Reader.u1 : Jvm.ClassFile.Decoder Nat) code p) _ = _
  rw [hu]
  rfl
theorem dc_79 {code : ByteArray} {p : Nat} (h : code.data.toList[p]? = some 79) : decode code p = .ok (.iastore, 1) := by
  have hu := u1_at h
  refine dc_of ?_
  unfold Jvm.ClassFile.Decoder.instr
  show Except.bind ((Jvm.ClassFile.Reader.u1 : Jvm.ClassFile.Decoder Nat) code p) _ = _
  rw [hu]
  rfl
theorem dc_80 {code : ByteArray} {p : Nat} (h : code.data.toList[p]? = some 80) : decode code p = .ok (.lastore, 1) := by
  have hu := u1_at h
  refine dc_of ?_
  unfold Jvm.ClassFile.Decoder.instr
  show Except.bind ((Jvm.ClassFile.Reader.u1 : Jvm.ClassFile.Decoder Nat) code p) _ = _
  rw [hu]
  rfl
theorem dc_84 {code : ByteArray} {p : Nat} (h : code.data.toList[p]? = some 84) : decode code p = .ok (.bastore, 1) := by
  have hu := u1_at h
  refine dc_of ?_
  unfold Jvm.ClassFile.Decoder.instr
  show Except.bind ((Jvm.ClassFile.Reader.u1 : Jvm.ClassFile.Decoder Nat) code p) _ = _
  rw [hu]
  rfl
theorem dc_87 {code : ByteArray} {p : Nat} (h : code.data.toList[p]? = some 87) : decode code p = .ok (.pop, 1) := by
  have hu := u1_at h
  refine dc_of ?_
  unfold Jvm.ClassFile.Decoder.instr
  show Except.bind ((Jvm.ClassFile.Reader.u1 : Jvm.ClassFile.Decoder Nat) code p) _ = _
  rw [hu]
  rfl
theorem dc_88 {code : ByteArray} {p : Nat} (h : code.data.toList[p]? = some 88) : decode code p = .ok (.pop2, 1) := by
  have hu := u1_at h
  refine dc_of ?_
  unfold Jvm.ClassFile.Decoder.instr
  show Except.bind ((Jvm.ClassFile.Reader.u1 : Jvm.ClassFile.Decoder Nat) code p) _ = _
  rw [hu]
  rfl
theorem dc_89 {code : ByteArray} {p : Nat} (h : code.data.toList[p]? = some 89) : decode code p = .ok (.dup, 1) := by
  have hu := u1_at h
  refine dc_of ?_
  unfold Jvm.ClassFile.Decoder.instr
  show Except.bind ((Jvm.ClassFile.Reader.u1 : Jvm.ClassFile.Decoder Nat) code p) _ = _
  rw [hu]
  rfl
theorem dc_92 {code : ByteArray} {p : Nat} (h : code.data.toList[p]? = some 92) : decode code p = .ok (.dup2, 1) := by
  have hu := u1_at h
  refine dc_of ?_
  unfold Jvm.ClassFile.Decoder.instr
  show Except.bind ((Jvm.ClassFile.Reader.u1 : Jvm.ClassFile.Decoder Nat) code p) _ = _
  rw [hu]
  rfl
theorem dc_96 {code : ByteArray} {p : Nat} (h : code.data.toList[p]? = some 96) : decode code p = .ok (.iadd, 1) := by
  have hu := u1_at h
  refine dc_of ?_
  unfold Jvm.ClassFile.Decoder.instr
  show Except.bind ((Jvm.ClassFile.Reader.u1 : Jvm.ClassFile.Decoder Nat) code p) _ = _
  rw [hu]
  rfl
theorem dc_97 {code : ByteArray} {p : Nat} (h : code.data.toList[p]? = some 97) : decode code p = .ok (.ladd, 1) := by
  have hu := u1_at h
  refine dc_of ?_
  unfold Jvm.ClassFile.Decoder.instr
  show Except.bind ((Jvm.ClassFile.Reader.u1 : Jvm.ClassFile.Decoder Nat) code p) _ = _
  rw [hu]
  rfl
theorem dc_100 {code : ByteArray} {p : Nat} (h : code.data.toList[p]? = some 100) : decode code p = .ok (.isub, 1) := by
  have hu := u1_at h
  refine dc_of ?_
  unfold Jvm.ClassFile.Decoder.instr
  show Except.bind ((Jvm.ClassFile.Reader.u1 : Jvm.ClassFile.Decoder Nat) code p) _ = _
  rw [hu]
  rfl
theorem dc_101 {code : ByteArray} {p : Nat} (h : code.data.toList[p]? = some 101) : decode code p = .ok (.lsub, 1) := by
  have hu := u1_at h
  refine dc_of ?_
  unfold Jvm.ClassFile.Decoder.instr
  show Except.bind ((Jvm.ClassFile.Reader.u1 : Jvm.ClassFile.Decoder Nat) code p) _ = _
  rw [hu]
  rfl
theorem dc_104 {code : ByteArray} {p : Nat} (h : code.data.toList[p]? = some 104) : decode code p = .ok (.imul, 1) := by
  have hu := u1_at h
  refine dc_of ?_
  unfold Jvm.ClassFile.Decoder.instr
  show Except.bind ((Jvm.ClassFile.Reader.u1 : Jvm.ClassFile.Decoder Nat) code p) _ = _
  rw [hu]
  rfl
theorem dc_105 {code : ByteArray} {p : Nat} (h : code.data.toList[p]? = some 105) : decode code p = .ok (.lmul, 1) := by
  have hu := u1_at h
  refine dc_of ?_
  unfold Jvm.ClassFile.Decoder.instr
  show Except.bind ((Jvm.ClassFile.Reader.u1 : Jvm.ClassFile.Decoder Nat) code p) _ = _
  rw [hu]
  rfl
theorem dc_108 {code : ByteArray} {p : Nat} (h : code.data.toList[p]? = some 108) : decode code p = .ok (.idiv, 1) := by
  have hu := u1_at h
  refine dc_of ?_
  unfold Jvm.ClassFile.Decoder.instr
  show Except.bind ((Jvm.ClassFile.Reader.u1 : Jvm.ClassFile.Decoder Nat) code p) _ = _
  rw [hu]
  rfl
theorem dc_109 {code : ByteArray} {p : Nat} (h : code.data.toList[p]? = some 109) : decode code p = .ok (.ldiv, 1) := by
  have hu := u1_at h
  refine dc_of ?_
  unfold Jvm.ClassFile.Decoder.instr
  show Except.bind ((Jvm.ClassFile.Reader.u1 : Jvm.ClassFile.Decoder Nat) code p) _ = _
  rw [hu]
  rfl
theorem dc_112 {code : ByteArray} {p : Nat} (h : code.data.toList[p]? = some 112) : decode code p = .ok (.irem, 1) := by
  have hu := u1_at h
  refine dc_of ?_
  unfold Jvm.ClassFile.Decoder.instr
  show Except.bind ((Jvm.ClassFile.Reader.u1 : Jvm.ClassFile.Decoder Nat) code p) _ = _
  rw [hu]
  rfl
theorem dc_113 {code : ByteArray} {p : Nat} (h : code.data.toList[p]? = some 113) : decode code p = .ok (.lrem, 1) := by
  have hu := u1_at h
  refine dc_of ?_
  unfold Jvm.ClassFile.Decoder.instr
  show Except.bind ((Jvm.ClassFile.Reader.u1 : Jvm.ClassFile.Decoder Nat) code p) _ = _
  rw [hu]
  rfl
theorem dc_120 {code : ByteArray} {p : Nat} (h : code.data.toList[p]? = some 120) : decode code p = .ok (.ishl, 1) := by
  have hu := u1_at h
  refine dc_of ?_
  unfold Jvm.ClassFile.Decoder.instr
  show Except.bind ((Jvm.ClassFile.Reader.u1 : Jvm.ClassFile.Decoder Nat) code p) _ = _
  rw [hu]
  rfl
theorem dc_121 {code : ByteArray} {p : Nat} (h : code.data.toList[p]? = some 121) : decode code p = .ok (.lshl, 1) := by
  have hu := u1_at h
  refine dc_of ?_
  unfold Jvm.ClassFile.Decoder.instr
  show Except.bind ((Jvm.ClassFile.Reader.u1 : Jvm.ClassFile.Decoder Nat) code p) _ = _
  rw [hu]
  rfl
theorem dc_122 {code : ByteArray} {p : Nat} (h : code.data.toList[p]? = some 122) : decode code p = .ok (.ishr, 1) := by
  have hu := u1_at h
  refine dc_of ?_
  unfold Jvm.ClassFile.Decoder.instr
  show Except.bind ((Jvm.ClassFile.Reader.u1 : Jvm.ClassFile.Decoder Nat) code p) _ = _
  rw [hu]
  rfl
theorem dc_124 {code : ByteArray} {p : Nat} (h : code.data.toList[p]? = some 124) : decode code p = .ok (.iushr, 1) := by
  have hu := u1_at h
  refine dc_of ?_
  unfold Jvm.ClassFile.Decoder.instr
  show Except.bind ((Jvm.ClassFile.Reader.u1 : Jvm.ClassFile.Decoder Nat) code p) _ = _
  rw [hu]
  rfl
theorem dc_126 {code : ByteArray} {p : Nat} (h : code.data.toList[p]? = some 126) : decode code p = .ok (.iand, 1) := by
  have hu := u1_at h
  refine dc_of ?_
  unfold Jvm.ClassFile.Decoder.instr
  show Except.bind ((Jvm.ClassFile.Reader.u1 : Jvm.ClassFile.Decoder Nat) code p) _ = _
  rw [hu]
  rfl
theorem dc_128 {code : ByteArray} {p : Nat} (h : code.data.toList[p]? = some 128) : decode code p = .ok (.ior, 1) := by
  have hu := u1_at h
  refine dc_of ?_
  unfold Jvm.ClassFile.Decoder.instr
  show Except.bind ((Jvm.ClassFile.Reader.u1 : Jvm.ClassFile.Decoder Nat) code p) _ = _
  rw [hu]
  rfl
theorem dc_129 {code : ByteArray} {p : Nat} (h : code.data.toList[p]? = some 129) : decode code p = .ok (.lor, 1) := by
  have hu := u1_at h
  refine dc_of ?_
  unfold Jvm.ClassFile.Decoder.instr
  show Except.bind ((Jvm.ClassFile.Reader.u1 : Jvm.ClassFile.Decoder Nat) code p) _ = _
  rw [hu]
  rfl
theorem dc_130 {code : ByteArray} {p : Nat} (h : code.data.toList[p]? = some 130) : decode code p = .ok (.ixor, 1) := by
  have hu := u1_at h
  refine dc_of ?_
  unfold Jvm.ClassFile.Decoder.instr
  show Except.bind ((Jvm.ClassFile.Reader.u1 : Jvm.ClassFile.Decoder Nat) code p) _ = _
  rw [hu]
  rfl
theorem dc_133 {code : ByteArray} {p : Nat} (h : code.data.toList[p]? = some 133) : decode code p = .ok (.i2l, 1) := by
  have hu := u1_at h
  refine dc_of ?_
  unfold Jvm.ClassFile.Decoder.instr
  show Except.bind ((Jvm.ClassFile.Reader.u1 : Jvm.ClassFile.Decoder Nat) code p) _ = _
  rw [hu]
  rfl
theorem dc_136 {code : ByteArray} {p : Nat} (h : code.data.toList[p]? = some 136) : decode code p = .ok (.l2i, 1) := by
  have hu := u1_at h
  refine dc_of ?_
  unfold Jvm.ClassFile.Decoder.instr
  show Except.bind ((Jvm.ClassFile.Reader.u1 : Jvm.ClassFile.Decoder Nat) code p) _ = _
  rw [hu]
  rfl
theorem dc_145 {code : ByteArray} {p : Nat} (h : code.data.toList[p]? = some 145) : decode code p = .ok (.i2b, 1) := by
  have hu := u1_at h
  refine dc_of ?_
  unfold Jvm.ClassFile.Decoder.instr
  show Except.bind ((Jvm.ClassFile.Reader.u1 : Jvm.ClassFile.Decoder Nat) code p) _ = _
  rw [hu]
  rfl
theorem dc_146 {code : ByteArray} {p : Nat} (h : code.data.toList[p]? = some 146) : decode code p = .ok (.i2c, 1) := by
  have hu := u1_at h
  refine dc_of ?_
  unfold Jvm.ClassFile.Decoder.instr
  show Except.bind ((Jvm.ClassFile.Reader.u1 : Jvm.ClassFile.Decoder Nat) code p) _ = _
  rw [hu]
  rfl
theorem dc_148 {code : ByteArray} {p : Nat} (h : code.data.toList[p]? = some 148) : decode code p = .ok (.lcmp, 1) := by
  have hu := u1_at h
  refine dc_of ?_
  unfold Jvm.ClassFile.Decoder.instr
  show Except.bind ((Jvm.ClassFile.Reader.u1 : Jvm.ClassFile.Decoder Nat) code p) _ = _
  rw [hu]
  rfl
theorem dc_172 {code : ByteArray} {p : Nat} (h : code.data.toList[p]? = some 172) : decode code p = .ok (.ireturn, 1) := by
  have hu := u1_at h
  refine dc_of ?_
  unfold Jvm.ClassFile.Decoder.instr
  show Except.bind ((Jvm.ClassFile.Reader.u1 : Jvm.ClassFile.Decoder Nat) code p) _ = _
  rw [hu]
  rfl
theorem dc_173 {code : ByteArray} {p : Nat} (h : code.data.toList[p]? = some 173) : decode code p = .ok (.lreturn, 1) := by
  have hu := u1_at h
  refine dc_of ?_
  unfold Jvm.ClassFile.Decoder.instr
  show Except.bind ((Jvm.ClassFile.Reader.u1 : Jvm.ClassFile.Decoder Nat) code p) _ = _
  rw [hu]
  rfl
theorem dc_176 {code : ByteArray} {p : Nat} (h : code.data.toList[p]? = some 176) : decode code p = .ok (.areturn, 1) := by
  have hu := u1_at h
  refine dc_of ?_
  unfold Jvm.ClassFile.Decoder.instr
  show Except.bind ((Jvm.ClassFile.Reader.u1 : Jvm.ClassFile.Decoder Nat) code p) _ = _
  rw [hu]
  rfl
theorem dc_177 {code : ByteArray} {p : Nat} (h : code.data.toList[p]? = some 177) : decode code p = .ok (.return_, 1) := by
  have hu := u1_at h
  refine dc_of ?_
  unfold Jvm.ClassFile.Decoder.instr
  show Except.bind ((Jvm.ClassFile.Reader.u1 : Jvm.ClassFile.Decoder Nat) code p) _ = _
  rw [hu]
  rfl
theorem dc_190 {code : ByteArray} {p : Nat} (h : code.data.toList[p]? = some 190) : decode code p = .ok (.arraylength, 1) := by
  have hu := u1_at h
  refine dc_of ?_
  unfold Jvm.ClassFile.Decoder.instr
  show Except.bind ((Jvm.ClassFile.Reader.u1 : Jvm.ClassFile.Decoder Nat) code p) _ = _
  rw [hu]
  rfl
theorem dc_2 {code : ByteArray} {p : Nat} (h : code.data.toList[p]? = some 2) : decode code p = .ok (.iconst (-1), 1) := by
  have hu := u1_at h
  refine dc_of ?_
  unfold Jvm.ClassFile.Decoder.instr
  show Except.bind ((Jvm.ClassFile.Reader.u1 : Jvm.ClassFile.Decoder Nat) code p) _ = _
  rw [hu]
  rfl
theorem dc_3 {code : ByteArray} {p : Nat} (h : code.data.toList[p]? = some 3) : decode code p = .ok (.iconst 0, 1) := by
  have hu := u1_at h
  refine dc_of ?_
  unfold Jvm.ClassFile.Decoder.instr
  show Except.bind ((Jvm.ClassFile.Reader.u1 : Jvm.ClassFile.Decoder Nat) code p) _ = _
  rw [hu]
  rfl
theorem dc_4 {code : ByteArray} {p : Nat} (h : code.data.toList[p]? = some 4) : decode code p = .ok (.iconst 1, 1) := by
  have hu := u1_at h
  refine dc_of ?_
  unfold Jvm.ClassFile.Decoder.instr
  show Except.bind ((Jvm.ClassFile.Reader.u1 : Jvm.ClassFile.Decoder Nat) code p) _ = _
  rw [hu]
  rfl
theorem dc_5 {code : ByteArray} {p : Nat} (h : code.data.toList[p]? = some 5) : decode code p = .ok (.iconst 2, 1) := by
  have hu := u1_at h
  refine dc_of ?_
  unfold Jvm.ClassFile.Decoder.instr
  show Except.bind ((Jvm.ClassFile.Reader.u1 : Jvm.ClassFile.Decoder Nat) code p) _ = _
  rw [hu]
  rfl
theorem dc_6 {code : ByteArray} {p : Nat} (h : code.data.toList[p]? = some 6) : decode code p = .ok (.iconst 3, 1) := by
  have hu := u1_at h
  refine dc_of ?_
  unfold Jvm.ClassFile.Decoder.instr
  show Except.bind ((Jvm.ClassFile.Reader.u1 : Jvm.ClassFile.Decoder Nat) code p) _ = _
  rw [hu]
  rfl
theorem dc_7 {code : ByteArray} {p : Nat} (h : code.data.toList[p]? = some 7) : decode code p = .ok (.iconst 4, 1) := by
  have hu := u1_at h
  refine dc_of ?_
  unfold Jvm.ClassFile.Decoder.instr
  show Except.bind ((Jvm.ClassFile.Reader.u1 : Jvm.ClassFile.Decoder Nat) code p) _ = _
  rw [hu]
  rfl
theorem dc_8 {code : ByteArray} {p : Nat} (h : code.data.toList[p]? = some 8) : decode code p = .ok (.iconst 5, 1) := by
  have hu := u1_at h
  refine dc_of ?_
  unfold Jvm.ClassFile.Decoder.instr
  show Except.bind ((Jvm.ClassFile.Reader.u1 : Jvm.ClassFile.Decoder Nat) code p) _ = _
  rw [hu]
  rfl
theorem dc_9 {code : ByteArray} {p : Nat} (h : code.data.toList[p]? = some 9) : decode code p = .ok (.lconst 0, 1) := by
  have hu := u1_at h
  refine dc_of ?_
  unfold Jvm.ClassFile.Decoder.instr
  show Except.bind ((Jvm.ClassFile.Reader.u1 : Jvm.ClassFile.Decoder Nat) code p) _ = _
  rw [hu]
  rfl
theorem dc_10 {code : ByteArray} {p : Nat} (h : code.data.toList[p]? = some 10) : decode code p = .ok (.lconst 1, 1) := by
  have hu := u1_at h
  refine dc_of ?_
  unfold Jvm.ClassFile.Decoder.instr
  show Except.bind ((Jvm.ClassFile.Reader.u1 : Jvm.ClassFile.Decoder Nat) code p) _ = _
  rw [hu]
  rfl
theorem dc_26 {code : ByteArray} {p : Nat} (h : code.data.toList[p]? = some 26) : decode code p = .ok (.iload_n 0, 1) := by
  have hu := u1_at h
  refine dc_of ?_
  unfold Jvm.ClassFile.Decoder.instr
  show Except.bind ((Jvm.ClassFile.Reader.u1 : Jvm.ClassFile.Decoder Nat) code p) _ = _
  rw [hu]
  rfl
theorem dc_30 {code : ByteArray} {p : Nat} (h : code.data.toList[p]? = some 30) : decode code p = .ok (.lload_n 0, 1) := by
  have hu := u1_at h
  refine dc_of ?_
  unfold Jvm.ClassFile.Decoder.instr
  show Except.bind ((Jvm.ClassFile.Reader.u1 : Jvm.ClassFile.Decoder Nat) code p) _ = _
  rw [hu]
  rfl
theorem dc_42 {code : ByteArray} {p : Nat} (h : code.data.toList[p]? = some 42) : decode code p = .ok (.aload_n 0, 1) := by
  have hu := u1_at h
  refine dc_of ?_
  unfold Jvm.ClassFile.Decoder.instr
  show Except.bind ((Jvm.ClassFile.Reader.u1 : Jvm.ClassFile.Decoder Nat) code p) _ = _
  rw [hu]
  rfl
theorem dc_59 {code : ByteArray} {p : Nat} (h : code.data.toList[p]? = some 59) : decode code p = .ok (.istore_n 0, 1) := by
  have hu := u1_at h
  refine dc_of ?_
  unfold Jvm.ClassFile.Decoder.instr
  show Except.bind ((Jvm.ClassFile.Reader.u1 : Jvm.ClassFile.Decoder Nat) code p) _ = _
  rw [hu]
  rfl
theorem dc_27 {code : ByteArray} {p : Nat} (h : code.data.toList[p]? = some 27) : decode code p = .ok (.iload_n 1, 1) := by
  have hu := u1_at h
  refine dc_of ?_
  unfold Jvm.ClassFile.Decoder.instr
  show Except.bind ((Jvm.ClassFile.Reader.u1 : Jvm.ClassFile.Decoder Nat) code p) _ = _
  rw [hu]
  rfl
theorem dc_31 {code : ByteArray} {p : Nat} (h : code.data.toList[p]? = some 31) : decode code p = .ok (.lload_n 1, 1) := by
  have hu := u1_at h
  refine dc_of ?_
  unfold Jvm.ClassFile.Decoder.instr
  show Except.bind ((Jvm.ClassFile.Reader.u1 : Jvm.ClassFile.Decoder Nat) code p) _ = _
  rw [hu]
  rfl
theorem dc_43 {code : ByteArray} {p : Nat} (h : code.data.toList[p]? = some 43) : decode code p = .ok (.aload_n 1, 1) := by
  have hu := u1_at h
  refine dc_of ?_
  unfold Jvm.ClassFile.Decoder.instr
  show Except.bind ((Jvm.ClassFile.Reader.u1 : Jvm.ClassFile.Decoder Nat) code p) _ = _
  rw [hu]
  rfl
theorem dc_60 {code : ByteArray} {p : Nat} (h : code.data.toList[p]? = some 60) : decode code p = .ok (.istore_n 1, 1) := by
  have hu := u1_at h
  refine dc_of ?_
  unfold Jvm.ClassFile.Decoder.instr
  show Except.bind ((Jvm.ClassFile.Reader.u1 : Jvm.ClassFile.Decoder Nat) code p) _ = _
  rw [hu]
  rfl
theorem dc_64 {code : ByteArray} {p : Nat} (h : code.data.toList[p]? = some 64) : decode code p = .ok (.lstore_n 1, 1) := by
  have hu := u1_at h
  refine dc_of ?_
  unfold Jvm.ClassFile.Decoder.instr
  show Except.bind ((Jvm.ClassFile.Reader.u1 : Jvm.ClassFile.Decoder Nat) code p) _ = _
  rw [hu]
  rfl
theorem dc_76 {code : ByteArray} {p : Nat} (h : code.data.toList[p]? = some 76) : decode code p = .ok (.astore_n 1, 1) := by
  have hu := u1_at h
  refine dc_of ?_
  unfold Jvm.ClassFile.Decoder.instr
  show Except.bind ((Jvm.ClassFile.Reader.u1 : Jvm.ClassFile.Decoder Nat) code p) _ = _
  rw [hu]
  rfl
theorem dc_28 {code : ByteArray} {p : Nat} (h : code.data.toList[p]? = some 28) : decode code p = .ok (.iload_n 2, 1) := by
  have hu := u1_at h
  refine dc_of ?_
  unfold Jvm.ClassFile.Decoder.instr
  show Except.bind ((Jvm.ClassFile.Reader.u1 : Jvm.ClassFile.Decoder Nat) code p) _ = _
  rw [hu]
  rfl
theorem dc_32 {code : ByteArray} {p : Nat} (h : code.data.toList[p]? = some 32) : decode code p = .ok (.lload_n 2, 1) := by
  have hu := u1_at h
  refine dc_of ?_
  unfold Jvm.ClassFile.Decoder.instr
  show Except.bind ((Jvm.ClassFile.Reader.u1 : Jvm.ClassFile.Decoder Nat) code p) _ = _
  rw [hu]
  rfl
theorem dc_44 {code : ByteArray} {p : Nat} (h : code.data.toList[p]? = some 44) : decode code p = .ok (.aload_n 2, 1) := by
  have hu := u1_at h
  refine dc_of ?_
  unfold Jvm.ClassFile.Decoder.instr
  show Except.bind ((Jvm.ClassFile.Reader.u1 : Jvm.ClassFile.Decoder Nat) code p) _ = _
  rw [hu]
  rfl
theorem dc_61 {code : ByteArray} {p : Nat} (h : code.data.toList[p]? = some 61) : decode code p = .ok (.istore_n 2, 1) := by
  have hu := u1_at h
  refine dc_of ?_
  unfold Jvm.ClassFile.Decoder.instr
  show Except.bind ((Jvm.ClassFile.Reader.u1 : Jvm.ClassFile.Decoder Nat) code p) _ = _
  rw [hu]
  rfl
theorem dc_65 {code : ByteArray} {p : Nat} (h : code.data.toList[p]? = some 65) : decode code p = .ok (.lstore_n 2, 1) := by
  have hu := u1_at h
  refine dc_of ?_
  unfold Jvm.ClassFile.Decoder.instr
  show Except.bind ((Jvm.ClassFile.Reader.u1 : Jvm.ClassFile.Decoder Nat) code p) _ = _
  rw [hu]
  rfl
theorem dc_77 {code : ByteArray} {p : Nat} (h : code.data.toList[p]? = some 77) : decode code p = .ok (.astore_n 2, 1) := by
  have hu := u1_at h
  refine dc_of ?_
  unfold Jvm.ClassFile.Decoder.instr
  show Except.bind ((Jvm.ClassFile.Reader.u1 : Jvm.ClassFile.Decoder Nat) code p) _ = _
  rw [hu]
  rfl
theorem dc_29 {code : ByteArray} {p : Nat} (h : code.data.toList[p]? = some 29) : decode code p = .ok (.iload_n 3, 1) := by
  have hu := u1_at h
  refine dc_of ?_
  unfold Jvm.ClassFile.Decoder.instr
  show Except.bind ((Jvm.ClassFile.Reader.u1 : Jvm.ClassFile.Decoder Nat) code p) _ = _
  rw [hu]
  rfl
theorem dc_33 {code : ByteArray} {p : Nat} (h : code.data.toList[p]? = some 33) : decode code p = .ok (.lload_n 3, 1) := by
  have hu := u1_at h
  refine dc_of ?_
  unfold Jvm.ClassFile.Decoder.instr
  show Except.bind ((Jvm.ClassFile.Reader.u1 : Jvm.ClassFile.Decoder Nat) code p) _ = _
  rw [hu]
  rfl
theorem dc_45 {code : ByteArray} {p : Nat} (h : code.data.toList[p]? = some 45) : decode code p = .ok (.aload_n 3, 1) := by
  have hu := u1_at h
  refine dc_of ?_
  unfold Jvm.ClassFile.Decoder.instr
  show Except.bind ((Jvm.ClassFile.Reader.u1 : Jvm.ClassFile.Decoder Nat) code p) _ = _
  rw [hu]
  rfl
theorem dc_62 {code : ByteArray} {p : Nat} (h : code.data.toList[p]? = some 62) : decode code p = .ok (.istore_n 3, 1) := by
  have hu := u1_at h
  refine dc_of ?_
  unfold Jvm.ClassFile.Decoder.instr
  show Except.bind ((Jvm.ClassFile.Reader.u1 : Jvm.ClassFile.Decoder Nat) code p) _ = _
  rw [hu]
  rfl
theorem dc_66 {code : ByteArray} {p : Nat} (h : code.data.toList[p]? = some 66) : decode code p = .ok (.lstore_n 3, 1) := by
  have hu := u1_at h
  refine dc_of ?_
  unfold Jvm.ClassFile.Decoder.instr
  show Except.bind ((Jvm.ClassFile.Reader.u1 : Jvm.ClassFile.Decoder Nat) code p) _ = _
  rw [hu]
  rfl
theorem dc_21 {code : ByteArray} {p : Nat} {a : UInt8} {n : Nat} (h : code.data.toList[p]? = some 21) (h1 : code.data.toList[p + 1]? = some a) (hn : a.toNat = n) : decode code p = .ok (.iload n, 2) := by
  subst hn
  have hu := u1_at h
  refine dc_of ?_
  unfold Jvm.ClassFile.Decoder.instr
  show Except.bind ((Jvm.ClassFile.Reader.u1 : Jvm.ClassFile.Decoder Nat) code p) _ = _
  rw [hu]
  show Except.bind ((Jvm.ClassFile.Reader.u1 : Jvm.ClassFile.Decoder Nat) code (p + 1)) _ = _
  rw [u1_at h1]
  rfl
theorem dc_22 {code : ByteArray} {p : Nat} {a : UInt8} {n : Nat} (h : code.data.toList[p]? = some 22) (h1 : code.data.toList[p + 1]? = some a) (hn : a.toNat = n) : decode code p = .ok (.lload n, 2) := by
  subst hn
  have hu := u1_at h
  refine dc_of ?_
  unfold Jvm.ClassFile.Decoder.instr
  show Except.bind ((Jvm.ClassFile.Reader.u1 : Jvm.ClassFile.Decoder Nat) code p) _ = _
  rw [hu]
  show Except.bind ((Jvm.ClassFile.Reader.u1 : Jvm.ClassFile.Decoder Nat) code (p + 1)) _ = _
  rw [u1_at h1]
  rfl
theorem dc_54 {code : ByteArray} {p : Nat} {a : UInt8} {n : Nat} (h : code.data.toList[p]? = some 54) (h1 : code.data.toList[p + 1]? = some a) (hn : a.toNat = n) : decode code p = .ok (.istore n, 2) := by
  subst hn
  have hu := u1_at h
  refine dc_of ?_
  unfold Jvm.ClassFile.Decoder.instr
  show Except.bind ((Jvm.ClassFile.Reader.u1 : Jvm.ClassFile.Decoder Nat) code p) _ = _
  rw [hu]
  show Except.bind ((Jvm.ClassFile.Reader.u1 : Jvm.ClassFile.Decoder Nat) code (p + 1)) _ = _
  rw [u1_at h1]
  rfl
theorem dc_55 {code : ByteArray} {p : Nat} {a : UInt8} {n : Nat} (h : code.data.toList[p]? = some 55) (h1 : code.data.toList[p + 1]? = some a) (hn : a.toNat = n) : decode code p = .ok (.lstore n, 2) := by
  subst hn
  have hu := u1_at h
  refine dc_of ?_
  unfold Jvm.ClassFile.Decoder.instr
  show Except.bind ((Jvm.ClassFile.Reader.u1 : Jvm.ClassFile.Decoder Nat) code p) _ = _
  rw [hu]
  show Except.bind ((Jvm.ClassFile.Reader.u1 : Jvm.ClassFile.Decoder Nat) code (p + 1)) _ = _
  rw [u1_at h1]
  rfl
theorem dc_18 {code : ByteArray} {p : Nat} {a : UInt8} {n : Nat} (h : code.data.toList[p]? = some 18) (h1 : code.data.toList[p + 1]? = some a) (hn : a.toNat = n) : decode code p = .ok (.ldc n, 2) := by
  subst hn
  have hu := u1_at h
  refine dc_of ?_
  unfold Jvm.ClassFile.Decoder.instr
  show Except.bind ((Jvm.ClassFile.Reader.u1 : Jvm.ClassFile.Decoder Nat) code p) _ = _
  rw [hu]
  show Except.bind ((Jvm.ClassFile.Reader.u1 : Jvm.ClassFile.Decoder Nat) code (p + 1)) _ = _
  rw [u1_at h1]
  rfl
theorem dc_16 {code : ByteArray} {p : Nat} {a : UInt8} {n : Int} (h : code.data.toList[p]? = some 16) (h1 : code.data.toList[p + 1]? = some a) (hn : Jvm.ClassFile.Reader.signed 8 a.toNat = n) : decode code p = .ok (.bipush n, 2) := by
  subst hn
  have hu := u1_at h
  refine dc_of ?_
  unfold Jvm.ClassFile.Decoder.instr
  show Except.bind ((Jvm.ClassFile.Reader.u1 : Jvm.ClassFile.Decoder Nat) code p) _ = _
  rw [hu]
  show Except.bind ((Jvm.ClassFile.Reader.s1 : Jvm.ClassFile.Decoder Int) code (p + 1)) _ = _
  rw [s1_at h1]
  rfl
theorem dc_19 {code : ByteArray} {p : Nat} {a b : UInt8} {n : Nat} (h : code.data.toList[p]? = some 19) (h1 : code.data.toList[p + 1]? = some a) (h2 : code.data.toList[p + 2]? = some b) (hn : a.toNat * 256 + b.toNat = n) : decode code p = .ok (.ldc_w n, 3) := by
  subst hn
  have hu := u1_at h
  refine dc_of ?_
  unfold Jvm.ClassFile.Decoder.instr
  show Except.bind ((Jvm.ClassFile.Reader.u1 : Jvm.ClassFile.Decoder Nat) code p) _ = _
  rw [hu]
  show Except.bind ((Jvm.ClassFile.Reader.u2 : Jvm.ClassFile.Decoder Nat) code (p + 1)) _ = _
  rw [u2_at h1 h2]
  rfl
theorem dc_20 {code : ByteArray} {p : Nat} {a b : UInt8} {n : Nat} (h : code.data.toList[p]? = some 20) (h1 : code.data.toList[p + 1]? = some a) (h2 : code.data.toList[p + 2]? = some b) (hn : a.toNat * 256 + b.toNat = n) : decode code p = .ok (.ldc2_w n, 3) := by
  subst hn
  have hu := u1_at h
  refine dc_of ?_
  unfold Jvm.ClassFile.Decoder.instr
  show Except.bind ((Jvm.ClassFile.Reader.u1 : Jvm.ClassFile.Decoder Nat) code p) _ = _
  rw [hu]
  show Except.bind ((Jvm.ClassFile.Reader.u2 : Jvm.ClassFile.Decoder Nat) code (p + 1)) _ = _
  rw [u2_at h1 h2]
  rfl
theorem dc_178 {code : ByteArray} {p : Nat} {a b : UInt8} {n : Nat} (h : code.data.toList[p]? = some 178) (h1 : code.data.toList[p + 1]? = some a) (h2 : code.data.toList[p + 2]? = some b) (hn : a.toNat * 256 + b.toNat = n) : decode code p = .ok (.getstatic n, 3) := by
  subst hn
  have hu := u1_at h
  refine dc_of ?_
  unfold Jvm.ClassFile.Decoder.instr
  show Except.bind ((Jvm.ClassFile.Reader.u1 : Jvm.ClassFile.Decoder Nat) code p) _ = _
  rw [hu]
  show Except.bind ((Jvm.ClassFile.Reader.u2 : Jvm.ClassFile.Decoder Nat) code (p + 1)) _ = _
  rw [u2_at h1 h2]
  rfl
theorem dc_180 {code : ByteArray} {p : Nat} {a b : UInt8} {n : Nat} (h : code.data.toList[p]? = some 180) (h1 : code.data.toList[p + 1]? = some a) (h2 : code.data.toList[p + 2]? = some b) (hn : a.toNat * 256 + b.toNat = n) : decode code p = .ok (.getfield n, 3) := by
  subst hn
  have hu := u1_at h
  refine dc_of ?_
  unfold Jvm.ClassFile.Decoder.instr
  show Except.bind ((Jvm.ClassFile.Reader.u1 : Jvm.ClassFile.Decoder Nat) code p) _ = _
  rw [hu]
  show Except.bind ((Jvm.ClassFile.Reader.u2 : Jvm.ClassFile.Decoder Nat) code (p + 1)) _ = _
  rw [u2_at h1 h2]
  rfl
theorem dc_181 {code : ByteArray} {p : Nat} {a b : UInt8} {n : Nat} (h : code.data.toList[p]? = some 181) (h1 : code.data.toList[p + 1]? = some a) (h2 : code.data.toList[p + 2]? = some b) (hn : a.toNat * 256 + b.toNat = n) : decode code p = .ok (.putfield n, 3) := by
  subst hn
  have hu := u1_at h
  refine dc_of ?_
  unfold Jvm.ClassFile.Decoder.instr
  show Except.bind ((Jvm.ClassFile.Reader.u1 : Jvm.ClassFile.Decoder Nat) code p) _ = _
  rw [hu]
  show Except.bind ((Jvm.ClassFile.Reader.u2 : Jvm.ClassFile.Decoder Nat) code (p + 1)) _ = _
  rw [u2_at h1 h2]
  rfl
theorem dc_182 {code : ByteArray} {p : Nat} {a b : UInt8} {n : Nat} (h : code.data.toList[p]? = some 182) (h1 : code.data.toList[p + 1]? = some a) (h2 : code.data.toList[p + 2]? = some b) (hn : a.toNat * 256 + b.toNat = n) : decode code p = .ok (.invokevirtual n, 3) := by
  subst hn
  have hu := u1_at h
  refine dc_of ?_
  unfold Jvm.ClassFile.Decoder.instr
  show Except.bind ((Jvm.ClassFile.Reader.u1 : Jvm.ClassFile.Decoder Nat) code p) _ = _
  rw [hu]
  show Except.bind ((Jvm.ClassFile.Reader.u2 : Jvm.ClassFile.Decoder Nat) code (p + 1)) _ = _
  rw [u2_at h1 h2]
  rfl
theorem dc_183 {code : ByteArray} {p : Nat} {a b : UInt8} {n : Nat} (h : code.data.toList[p]? = some 183) (h1 : code.data.toList[p + 1]? = some a) (h2 : code.data.toList[p + 2]? = some b) (hn : a.toNat * 256 + b.toNat = n) : decode code p = .ok (.invokespecial n, 3) := by
  subst hn
  have hu := u1_at h
  refine dc_of ?_
  unfold Jvm.ClassFile.Decoder.instr
  show Except.bind ((Jvm.ClassFile.Reader.u1 : Jvm.ClassFile.Decoder Nat) code p) _ = _
  rw [hu]
  show Except.bind ((Jvm.ClassFile.Reader.u2 : Jvm.ClassFile.Decoder Nat) code (p + 1)) _ = _
  rw [u2_at h1 h2]
  rfl
theorem dc_184 {code : ByteArray} {p : Nat} {a b : UInt8} {n : Nat} (h : code.data.toList[p]? = some 184) (h1 : code.data.toList[p + 1]? = some a) (h2 : code.data.toList[p + 2]? = some b) (hn : a.toNat * 256 + b.toNat = n) : decode code p = .ok (.invokestatic n, 3) := by
  subst hn
  have hu := u1_at h
  refine dc_of ?_
  unfold Jvm.ClassFile.Decoder.instr
  show Except.bind ((Jvm.ClassFile.Reader.u1 : Jvm.ClassFile.Decoder Nat) code p) _ = _
  rw [hu]
  show Except.bind ((Jvm.ClassFile.Reader.u2 : Jvm.ClassFile.Decoder Nat) code (p + 1)) _ = _
  rw [u2_at h1 h2]
  rfl
theorem dc_187 {code : ByteArray} {p : Nat} {a b : UInt8} {n : Nat} (h : code.data.toList[p]? = some 187) (h1 : code.data.toList[p + 1]? = some a) (h2 : code.data.toList[p + 2]? = some b) (hn : a.toNat * 256 + b.toNat = n) : decode code p = .ok (.new n, 3) := by
  subst hn
  have hu := u1_at h
  refine dc_of ?_
  unfold Jvm.ClassFile.Decoder.instr
  show Except.bind ((Jvm.ClassFile.Reader.u1 : Jvm.ClassFile.Decoder Nat) code p) _ = _
  rw [hu]
  show Except.bind ((Jvm.ClassFile.Reader.u2 : Jvm.ClassFile.Decoder Nat) code (p + 1)) _ = _
  rw [u2_at h1 h2]
  rfl
theorem dc_17 {code : ByteArray} {p : Nat} {a b : UInt8} {n : Int} (h : code.data.toList[p]? = some 17) (h1 : code.data.toList[p + 1]? = some a) (h2 : code.data.toList[p + 2]? = some b) (hn : Jvm.ClassFile.Reader.signed 16 (a.toNat * 256 + b.toNat) = n) : decode code p = .ok (.sipush n, 3) := by
  subst hn
  have hu := u1_at h
  refine dc_of ?_
  unfold Jvm.ClassFile.Decoder.instr
  show Except.bind ((Jvm.ClassFile.Reader.u1 : Jvm.ClassFile.Decoder Nat) code p) _ = _
  rw [hu]
  show Except.bind ((Jvm.ClassFile.Reader.s2 : Jvm.ClassFile.Decoder Int) code (p + 1)) _ = _
  rw [s2_at h1 h2]
  rfl
theorem dc_167 {code : ByteArray} {p : Nat} {a b : UInt8} {n : Int} (h : code.data.toList[p]? = some 167) (h1 : code.data.toList[p + 1]? = some a) (h2 : code.data.toList[p + 2]? = some b) (hn : Jvm.ClassFile.Reader.signed 16 (a.toNat * 256 + b.toNat) = n) : decode code p = .ok (.goto n, 3) := by
  subst hn
  have hu := u1_at h
  refine dc_of ?_
  unfold Jvm.ClassFile.Decoder.instr
  show Except.bind ((Jvm.ClassFile.Reader.u1 : Jvm.ClassFile.Decoder Nat) code p) _ = _
  rw [hu]
  show Except.bind ((Jvm.ClassFile.Reader.s2 : Jvm.ClassFile.Decoder Int) code (p + 1)) _ = _
  rw [s2_at h1 h2]
  rfl
theorem dc_153 {code : ByteArray} {p : Nat} {a b : UInt8} {n : Int} (h : code.data.toList[p]? = some 153) (h1 : code.data.toList[p + 1]? = some a) (h2 : code.data.toList[p + 2]? = some b) (hn : Jvm.ClassFile.Reader.signed 16 (a.toNat * 256 + b.toNat) = n) : decode code p = .ok (.ifCond .eq n, 3) := by
  subst hn
  have hu := u1_at h
  refine dc_of ?_
  unfold Jvm.ClassFile.Decoder.instr
  show Except.bind ((Jvm.ClassFile.Reader.u1 : Jvm.ClassFile.Decoder Nat) code p) _ = _
  rw [hu]
  show Except.bind ((Jvm.ClassFile.Reader.s2 : Jvm.ClassFile.Decoder Int) code (p + 1)) _ = _
  rw [s2_at h1 h2]
  rfl
theorem dc_159 {code : ByteArray} {p : Nat} {a b : UInt8} {n : Int} (h : code.data.toList[p]? = some 159) (h1 : code.data.toList[p + 1]? = some a) (h2 : code.data.toList[p + 2]? = some b) (hn : Jvm.ClassFile.Reader.signed 16 (a.toNat * 256 + b.toNat) = n) : decode code p = .ok (.if_icmp .eq n, 3) := by
  subst hn
  have hu := u1_at h
  refine dc_of ?_
  unfold Jvm.ClassFile.Decoder.instr
  show Except.bind ((Jvm.ClassFile.Reader.u1 : Jvm.ClassFile.Decoder Nat) code p) _ = _
  rw [hu]
  show Except.bind ((Jvm.ClassFile.Reader.s2 : Jvm.ClassFile.Decoder Int) code (p + 1)) _ = _
  rw [s2_at h1 h2]
  rfl
theorem dc_154 {code : ByteArray} {p : Nat} {a b : UInt8} {n : Int} (h : code.data.toList[p]? = some 154) (h1 : code.data.toList[p + 1]? = some a) (h2 : code.data.toList[p + 2]? = some b) (hn : Jvm.ClassFile.Reader.signed 16 (a.toNat * 256 + b.toNat) = n) : decode code p = .ok (.ifCond .ne n, 3) := by
  subst hn
  have hu := u1_at h
  refine dc_of ?_
  unfold Jvm.ClassFile.Decoder.instr
  show Except.bind ((Jvm.ClassFile.Reader.u1 : Jvm.ClassFile.Decoder Nat) code p) _ = _
  rw [hu]
  show Except.bind ((Jvm.ClassFile.Reader.s2 : Jvm.ClassFile.Decoder Int) code (p + 1)) _ = _
  rw [s2_at h1 h2]
  rfl
theorem dc_160 {code : ByteArray} {p : Nat} {a b : UInt8} {n : Int} (h : code.data.toList[p]? = some 160) (h1 : code.data.toList[p + 1]? = some a) (h2 : code.data.toList[p + 2]? = some b) (hn : Jvm.ClassFile.Reader.signed 16 (a.toNat * 256 + b.toNat) = n) : decode code p = .ok (.if_icmp .ne n, 3) := by
  subst hn
  have hu := u1_at h
  refine dc_of ?_
  unfold Jvm.ClassFile.Decoder.instr
  show Except.bind ((Jvm.ClassFile.Reader.u1 : Jvm.ClassFile.Decoder Nat) code p) _ = _
  rw [hu]
  show Except.bind ((Jvm.ClassFile.Reader.s2 : Jvm.ClassFile.Decoder Int) code (p + 1)) _ = _
  rw [s2_at h1 h2]
  rfl
theorem dc_155 {code : ByteArray} {p : Nat} {a b : UInt8} {n : Int} (h : code.data.toList[p]? = some 155) (h1 : code.data.toList[p + 1]? = some a) (h2 : code.data.toList[p + 2]? = some b) (hn : Jvm.ClassFile.Reader.signed 16 (a.toNat * 256 + b.toNat) = n) : decode code p = .ok (.ifCond .lt n, 3) := by
  subst hn
  have hu := u1_at h
  refine dc_of ?_
  unfold Jvm.ClassFile.Decoder.instr
  show Except.bind ((Jvm.ClassFile.Reader.u1 : Jvm.ClassFile.Decoder Nat) code p) _ = _
  rw [hu]
  show Except.bind ((Jvm.ClassFile.Reader.s2 : Jvm.ClassFile.Decoder Int) code (p + 1)) _ = _
  rw [s2_at h1 h2]
  rfl
theorem dc_161 {code : ByteArray} {p : Nat} {a b : UInt8} {n : Int} (h : code.data.toList[p]? = some 161) (h1 : code.data.toList[p + 1]? = some a) (h2 : code.data.toList[p + 2]? = some b) (hn : Jvm.ClassFile.Reader.signed 16 (a.toNat * 256 + b.toNat) = n) : decode code p = .ok (.if_icmp .lt n, 3) := by
  subst hn
  have hu := u1_at h
  refine dc_of ?_
  unfold Jvm.ClassFile.Decoder.instr
  show Except.bind ((Jvm.ClassFile.Reader.u1 : Jvm.ClassFile.Decoder Nat) code p) _ = _
  rw [hu]
  show Except.bind ((Jvm.ClassFile.Reader.s2 : Jvm.ClassFile.Decoder Int) code (p + 1)) _ = _
  rw [s2_at h1 h2]
  rfl
theorem dc_156 {code : ByteArray} {p : Nat} {a b : UInt8} {n : Int} (h : code.data.toList[p]? = some 156) (h1 : code.data.toList[p + 1]? = some a) (h2 : code.data.toList[p + 2]? = some b) (hn : Jvm.ClassFile.Reader.signed 16 (a.toNat * 256 + b.toNat) = n) : decode code p = .ok (.ifCond .ge n, 3) := by
  subst hn
  have hu := u1_at h
  refine dc_of ?_
  unfold Jvm.ClassFile.Decoder.instr
  show Except.bind ((Jvm.ClassFile.Reader.u1 : Jvm.ClassFile.Decoder Nat) code p) _ = _
  rw [hu]
  show Except.bind ((Jvm.ClassFile.Reader.s2 : Jvm.ClassFile.Decoder Int) code (p + 1)) _ = _
  rw [s2_at h1 h2]
  rfl
theorem dc_162 {code : ByteArray} {p : Nat} {a b : UInt8} {n : Int} (h : code.data.toList[p]? = some 162) (h1 : code.data.toList[p + 1]? = some a) (h2 : code.data.toList[p + 2]? = some b) (hn : Jvm.ClassFile.Reader.signed 16 (a.toNat * 256 + b.toNat) = n) : decode code p = .ok (.if_icmp .ge n, 3) := by
  subst hn
  have hu := u1_at h
  refine dc_of ?_
  unfold Jvm.ClassFile.Decoder.instr
  show Except.bind ((Jvm.ClassFile.Reader.u1 : Jvm.ClassFile.Decoder Nat) code p) _ = _
  rw [hu]
  show Except.bind ((Jvm.ClassFile.Reader.s2 : Jvm.ClassFile.Decoder Int) code (p + 1)) _ = _
  rw [s2_at h1 h2]
  rfl
theorem dc_157 {code : ByteArray} {p : Nat} {a b : UInt8} {n : Int} (h : code.data.toList[p]? = some 157) (h1 : code.data.toList[p + 1]? = some a) (h2 : code.data.toList[p + 2]? = some b) (hn : Jvm.ClassFile.Reader.signed 16 (a.toNat * 256 + b.toNat) = n) : decode code p = .ok (.ifCond .gt n, 3) := by
  subst hn
  have hu := u1_at h
  refine dc_of ?_
  unfold Jvm.ClassFile.Decoder.instr
  show Except.bind ((Jvm.ClassFile.Reader.u1 : Jvm.ClassFile.Decoder Nat) code p) _ = _
  rw [hu]
  show Except.bind ((Jvm.ClassFile.Reader.s2 : Jvm.ClassFile.Decoder Int) code (p + 1)) _ = _
  rw [s2_at h1 h2]
  rfl
theorem dc_163 {code : ByteArray} {p : Nat} {a b : UInt8} {n : Int} (h : code.data.toList[p]? = some 163) (h1 : code.data.toList[p + 1]? = some a) (h2 : code.data.toList[p + 2]? = some b) (hn : Jvm.ClassFile.Reader.signed 16 (a.toNat * 256 + b.toNat) = n) : decode code p = .ok (.if_icmp .gt n, 3) := by
  subst hn
  have hu := u1_at h
  refine dc_of ?_
  unfold Jvm.ClassFile.Decoder.instr
  show Except.bind ((Jvm.ClassFile.Reader.u1 : Jvm.ClassFile.Decoder Nat) code p) _ = _
  rw [hu]
  show Except.bind ((Jvm.ClassFile.Reader.s2 : Jvm.ClassFile.Decoder Int) code (p + 1)) _ = _
  rw [s2_at h1 h2]
  rfl
theorem dc_158 {code : ByteArray} {p : Nat} {a b : UInt8} {n : Int} (h : code.data.toList[p]? = some 158) (h1 : code.data.toList[p + 1]? = some a) (h2 : code.data.toList[p + 2]? = some b) (hn : Jvm.ClassFile.Reader.signed 16 (a.toNat * 256 + b.toNat) = n) : decode code p = .ok (.ifCond .le n, 3) := by
  subst hn
  have hu := u1_at h
  refine dc_of ?_
  unfold Jvm.ClassFile.Decoder.instr
  show Except.bind ((Jvm.ClassFile.Reader.u1 : Jvm.ClassFile.Decoder Nat) code p) _ = _
  rw [hu]
  show Except.bind ((Jvm.ClassFile.Reader.s2 : Jvm.ClassFile.Decoder Int) code (p + 1)) _ = _
  rw [s2_at h1 h2]
  rfl
theorem dc_164 {code : ByteArray} {p : Nat} {a b : UInt8} {n : Int} (h : code.data.toList[p]? = some 164) (h1 : code.data.toList[p + 1]? = some a) (h2 : code.data.toList[p + 2]? = some b) (hn : Jvm.ClassFile.Reader.signed 16 (a.toNat * 256 + b.toNat) = n) : decode code p = .ok (.if_icmp .le n, 3) := by
  subst hn
  have hu := u1_at h
  refine dc_of ?_
  unfold Jvm.ClassFile.Decoder.instr
  show Except.bind ((Jvm.ClassFile.Reader.u1 : Jvm.ClassFile.Decoder Nat) code p) _ = _
  rw [hu]
  show Except.bind ((Jvm.ClassFile.Reader.s2 : Jvm.ClassFile.Decoder Int) code (p + 1)) _ = _
  rw [s2_at h1 h2]
  rfl
theorem dc_132 {code : ByteArray} {p : Nat} {a b : UInt8} {n : Nat} {m : Int} (h : code.data.toList[p]? = some 132) (h1 : code.data.toList[p + 1]? = some a) (h2 : code.data.toList[p + 2]? = some b) (hn : a.toNat = n) (hm : Jvm.ClassFile.Reader.signed 8 b.toNat = m) : decode code p = .ok (.iinc n m, 3) := by
  subst hn
  subst hm
  have hu := u1_at h
  refine dc_of ?_
  unfold Jvm.ClassFile.Decoder.instr
  show Except.bind ((Jvm.ClassFile.Reader.u1 : Jvm.ClassFile.Decoder Nat) code p) _ = _
  rw [hu]
  show Except.bind ((Jvm.ClassFile.Reader.u1 : Jvm.ClassFile.Decoder Nat) code (p + 1)) _ = _
  rw [u1_at h1]
  show Except.bind ((Jvm.ClassFile.Reader.s1 : Jvm.ClassFile.Decoder Int) code (p + 1 + 1)) _ = _
  rw [s1_at h2]
  rfl
