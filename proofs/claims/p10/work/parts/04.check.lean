section FastDecode
variable {b : ByteArray} {pc : Nat}
theorem fd_u1 {p : Nat} {x : UInt8} (h : b.data.toList[p]? = some x) : (ClassFile.Reader.u1 : ClassFile.Decoder Nat) b p = .ok (x.toNat, p + 1) := by
  have hl : p < b.size := by
    have := (List.getElem?_eq_some_iff.mp h).1
    simpa using this
  have hg : b[p]'hl = x := by
    have h2 := (List.getElem?_eq_some_iff.mp h).2
    rw [← h2]
    rfl
  show (dite (p < b.size) _ _ : ClassFile.Decoder Nat) b p = _
  rw [dif_pos hl]
  show Except.ok ((b[p]'hl).toNat, p + 1) = _
  rw [hg]
theorem fd_bind {α β : Type} {r : ClassFile.Decoder α} {f : α → ClassFile.Decoder β} {p q : Nat} {a : α} (h : r b p = .ok (a, q)) : (r >>= f) b p = f a b q := by
  show Except.bind (r b p) (fun v => f v.1 b v.2) = _
  rw [h]
  rfl
theorem fd_u2 {p : Nat} {x y : UInt8} (h : b.data.toList[p]? = some x) (h2 : b.data.toList[p + 1]? = some y) : (ClassFile.Reader.u2 : ClassFile.Decoder Nat) b p = .ok (x.toNat * 256 + y.toNat, p + 2) := by
  show ((ClassFile.Reader.u1 : ClassFile.Decoder Nat) >>= fun hi => (ClassFile.Reader.u1 : ClassFile.Decoder Nat) >>= fun lo => Pure.pure (hi * 256 + lo)) b p = _
  rw [fd_bind (fd_u1 h), fd_bind (fd_u1 h2)]
  rfl
theorem fd_s1 {p : Nat} {x : UInt8} (h : b.data.toList[p]? = some x) : (ClassFile.Reader.s1 : ClassFile.Decoder Int) b p = .ok (ClassFile.Reader.signed 8 x.toNat, p + 1) := by
  show Except.bind ((ClassFile.Reader.u1 : ClassFile.Decoder Nat) b p) (fun v => Except.ok (ClassFile.Reader.signed 8 v.1, v.2)) = _
  rw [fd_u1 h]
  rfl
theorem fd_s2 {p : Nat} {x y : UInt8} (h : b.data.toList[p]? = some x) (h2 : b.data.toList[p + 1]? = some y) : (ClassFile.Reader.s2 : ClassFile.Decoder Int) b p = .ok (ClassFile.Reader.signed 16 (x.toNat * 256 + y.toNat), p + 2) := by
  show Except.bind ((ClassFile.Reader.u2 : ClassFile.Decoder Nat) b p) (fun v => Except.ok (ClassFile.Reader.signed 16 v.1, v.2)) = _
  rw [fd_u2 h h2]
  rfl
theorem fd_fin {I : Instr} {n : Nat} (h : ClassFile.Decoder.instr pc b pc = .ok (I, pc + n)) : decode b pc = .ok (I, n) := by
  show Except.bind (ClassFile.Decoder.instr pc b pc) (fun v => Except.ok (v.1, v.2 - pc)) = _
  rw [h]
  show Except.ok (I, pc + n - pc) = _
  rw [Nat.add_sub_cancel_left]
set_option maxRecDepth 100000 in
theorem fd_46 (h0 : b.data.toList[pc]? = some 46) : decode b pc = .ok (.iaload, 1) := by
  refine fd_fin ?_
  unfold ClassFile.Decoder.instr
  refine (fd_bind (fd_u1 h0)).trans ?_
  rfl
set_option maxRecDepth 100000 in
theorem fd_47 (h0 : b.data.toList[pc]? = some 47) : decode b pc = .ok (.laload, 1) := by
  refine fd_fin ?_
  unfold ClassFile.Decoder.instr
  refine (fd_bind (fd_u1 h0)).trans ?_
  rfl
set_option maxRecDepth 100000 in
theorem fd_51 (h0 : b.data.toList[pc]? = some 51) : decode b pc = .ok (.baload, 1) := by
  refine fd_fin ?_
  unfold ClassFile.Decoder.instr
  refine (fd_bind (fd_u1 h0)).trans ?_
  rfl
set_option maxRecDepth 100000 in
theorem fd_79 (h0 : b.data.toList[pc]? = some 79) : decode b pc = .ok (.iastore, 1) := by
  refine fd_fin ?_
  unfold ClassFile.Decoder.instr
  refine (fd_bind (fd_u1 h0)).trans ?_
  rfl
set_option maxRecDepth 100000 in
theorem fd_80 (h0 : b.data.toList[pc]? = some 80) : decode b pc = .ok (.lastore, 1) := by
  refine fd_fin ?_
  unfold ClassFile.Decoder.instr
  refine (fd_bind (fd_u1 h0)).trans ?_
  rfl
set_option maxRecDepth 100000 in
theorem fd_84 (h0 : b.data.toList[pc]? = some 84) : decode b pc = .ok (.bastore, 1) := by
  refine fd_fin ?_
  unfold ClassFile.Decoder.instr
  refine (fd_bind (fd_u1 h0)).trans ?_
  rfl
set_option maxRecDepth 100000 in
theorem fd_87 (h0 : b.data.toList[pc]? = some 87) : decode b pc = .ok (.pop, 1) := by
  refine fd_fin ?_
  unfold ClassFile.Decoder.instr
  refine (fd_bind (fd_u1 h0)).trans ?_
  rfl
set_option maxRecDepth 100000 in
theorem fd_89 (h0 : b.data.toList[pc]? = some 89) : decode b pc = .ok (.dup, 1) := by
  refine fd_fin ?_
  unfold ClassFile.Decoder.instr
  refine (fd_bind (fd_u1 h0)).trans ?_
  rfl
set_option maxRecDepth 100000 in
theorem fd_96 (h0 : b.data.toList[pc]? = some 96) : decode b pc = .ok (.iadd, 1) := by
  refine fd_fin ?_
  unfold ClassFile.Decoder.instr
  refine (fd_bind (fd_u1 h0)).trans ?_
  rfl
set_option maxRecDepth 100000 in
theorem fd_97 (h0 : b.data.toList[pc]? = some 97) : decode b pc = .ok (.ladd, 1) := by
  refine fd_fin ?_
  unfold ClassFile.Decoder.instr
  refine (fd_bind (fd_u1 h0)).trans ?_
  rfl
set_option maxRecDepth 100000 in
theorem fd_100 (h0 : b.data.toList[pc]? = some 100) : decode b pc = .ok (.isub, 1) := by
  refine fd_fin ?_
  unfold ClassFile.Decoder.instr
  refine (fd_bind (fd_u1 h0)).trans ?_
  rfl
set_option maxRecDepth 100000 in
theorem fd_104 (h0 : b.data.toList[pc]? = some 104) : decode b pc = .ok (.imul, 1) := by
  refine fd_fin ?_
  unfold ClassFile.Decoder.instr
  refine (fd_bind (fd_u1 h0)).trans ?_
  rfl
set_option maxRecDepth 100000 in
theorem fd_108 (h0 : b.data.toList[pc]? = some 108) : decode b pc = .ok (.idiv, 1) := by
  refine fd_fin ?_
  unfold ClassFile.Decoder.instr
  refine (fd_bind (fd_u1 h0)).trans ?_
  rfl
set_option maxRecDepth 100000 in
theorem fd_112 (h0 : b.data.toList[pc]? = some 112) : decode b pc = .ok (.irem, 1) := by
  refine fd_fin ?_
  unfold ClassFile.Decoder.instr
  refine (fd_bind (fd_u1 h0)).trans ?_
  rfl
set_option maxRecDepth 100000 in
theorem fd_116 (h0 : b.data.toList[pc]? = some 116) : decode b pc = .ok (.ineg, 1) := by
  refine fd_fin ?_
  unfold ClassFile.Decoder.instr
  refine (fd_bind (fd_u1 h0)).trans ?_
  rfl
set_option maxRecDepth 100000 in
theorem fd_120 (h0 : b.data.toList[pc]? = some 120) : decode b pc = .ok (.ishl, 1) := by
  refine fd_fin ?_
  unfold ClassFile.Decoder.instr
  refine (fd_bind (fd_u1 h0)).trans ?_
  rfl
set_option maxRecDepth 100000 in
theorem fd_122 (h0 : b.data.toList[pc]? = some 122) : decode b pc = .ok (.ishr, 1) := by
  refine fd_fin ?_
  unfold ClassFile.Decoder.instr
  refine (fd_bind (fd_u1 h0)).trans ?_
  rfl
set_option maxRecDepth 100000 in
theorem fd_124 (h0 : b.data.toList[pc]? = some 124) : decode b pc = .ok (.iushr, 1) := by
  refine fd_fin ?_
  unfold ClassFile.Decoder.instr
  refine (fd_bind (fd_u1 h0)).trans ?_
  rfl
set_option maxRecDepth 100000 in
theorem fd_126 (h0 : b.data.toList[pc]? = some 126) : decode b pc = .ok (.iand, 1) := by
  refine fd_fin ?_
  unfold ClassFile.Decoder.instr
  refine (fd_bind (fd_u1 h0)).trans ?_
  rfl
set_option maxRecDepth 100000 in
theorem fd_128 (h0 : b.data.toList[pc]? = some 128) : decode b pc = .ok (.ior, 1) := by
  refine fd_fin ?_
  unfold ClassFile.Decoder.instr
  refine (fd_bind (fd_u1 h0)).trans ?_
  rfl
set_option maxRecDepth 100000 in
theorem fd_130 (h0 : b.data.toList[pc]? = some 130) : decode b pc = .ok (.ixor, 1) := by
  refine fd_fin ?_
  unfold ClassFile.Decoder.instr
  refine (fd_bind (fd_u1 h0)).trans ?_
  rfl
set_option maxRecDepth 100000 in
theorem fd_133 (h0 : b.data.toList[pc]? = some 133) : decode b pc = .ok (.i2l, 1) := by
  refine fd_fin ?_
  unfold ClassFile.Decoder.instr
  refine (fd_bind (fd_u1 h0)).trans ?_
  rfl
set_option maxRecDepth 100000 in
theorem fd_136 (h0 : b.data.toList[pc]? = some 136) : decode b pc = .ok (.l2i, 1) := by
  refine fd_fin ?_
  unfold ClassFile.Decoder.instr
  refine (fd_bind (fd_u1 h0)).trans ?_
  rfl
set_option maxRecDepth 100000 in
theorem fd_145 (h0 : b.data.toList[pc]? = some 145) : decode b pc = .ok (.i2b, 1) := by
  refine fd_fin ?_
  unfold ClassFile.Decoder.instr
  refine (fd_bind (fd_u1 h0)).trans ?_
  rfl
set_option maxRecDepth 100000 in
theorem fd_146 (h0 : b.data.toList[pc]? = some 146) : decode b pc = .ok (.i2c, 1) := by
  refine fd_fin ?_
  unfold ClassFile.Decoder.instr
  refine (fd_bind (fd_u1 h0)).trans ?_
  rfl
set_option maxRecDepth 100000 in
theorem fd_148 (h0 : b.data.toList[pc]? = some 148) : decode b pc = .ok (.lcmp, 1) := by
  refine fd_fin ?_
  unfold ClassFile.Decoder.instr
  refine (fd_bind (fd_u1 h0)).trans ?_
  rfl
set_option maxRecDepth 100000 in
theorem fd_172 (h0 : b.data.toList[pc]? = some 172) : decode b pc = .ok (.ireturn, 1) := by
  refine fd_fin ?_
  unfold ClassFile.Decoder.instr
  refine (fd_bind (fd_u1 h0)).trans ?_
  rfl
set_option maxRecDepth 100000 in
theorem fd_173 (h0 : b.data.toList[pc]? = some 173) : decode b pc = .ok (.lreturn, 1) := by
  refine fd_fin ?_
  unfold ClassFile.Decoder.instr
  refine (fd_bind (fd_u1 h0)).trans ?_
  rfl
set_option maxRecDepth 100000 in
theorem fd_177 (h0 : b.data.toList[pc]? = some 177) : decode b pc = .ok (.return_, 1) := by
  refine fd_fin ?_
  unfold ClassFile.Decoder.instr
  refine (fd_bind (fd_u1 h0)).trans ?_
  rfl
set_option maxRecDepth 100000 in
theorem fd_190 (h0 : b.data.toList[pc]? = some 190) : decode b pc = .ok (.arraylength, 1) := by
  refine fd_fin ?_
  unfold ClassFile.Decoder.instr
  refine (fd_bind (fd_u1 h0)).trans ?_
  rfl
set_option maxRecDepth 100000 in
theorem fd_2 (h0 : b.data.toList[pc]? = some 2) : decode b pc = .ok (.iconst (-1), 1) := by
  refine fd_fin ?_
  unfold ClassFile.Decoder.instr
  refine (fd_bind (fd_u1 h0)).trans ?_
  rfl
set_option maxRecDepth 100000 in
theorem fd_3 (h0 : b.data.toList[pc]? = some 3) : decode b pc = .ok (.iconst (0), 1) := by
  refine fd_fin ?_
  unfold ClassFile.Decoder.instr
  refine (fd_bind (fd_u1 h0)).trans ?_
  rfl
set_option maxRecDepth 100000 in
theorem fd_4 (h0 : b.data.toList[pc]? = some 4) : decode b pc = .ok (.iconst (1), 1) := by
  refine fd_fin ?_
  unfold ClassFile.Decoder.instr
  refine (fd_bind (fd_u1 h0)).trans ?_
  rfl
set_option maxRecDepth 100000 in
theorem fd_5 (h0 : b.data.toList[pc]? = some 5) : decode b pc = .ok (.iconst (2), 1) := by
  refine fd_fin ?_
  unfold ClassFile.Decoder.instr
  refine (fd_bind (fd_u1 h0)).trans ?_
  rfl
set_option maxRecDepth 100000 in
theorem fd_6 (h0 : b.data.toList[pc]? = some 6) : decode b pc = .ok (.iconst (3), 1) := by
  refine fd_fin ?_
  unfold ClassFile.Decoder.instr
  refine (fd_bind (fd_u1 h0)).trans ?_
  rfl
set_option maxRecDepth 100000 in
theorem fd_7 (h0 : b.data.toList[pc]? = some 7) : decode b pc = .ok (.iconst (4), 1) := by
  refine fd_fin ?_
  unfold ClassFile.Decoder.instr
  refine (fd_bind (fd_u1 h0)).trans ?_
  rfl
set_option maxRecDepth 100000 in
theorem fd_8 (h0 : b.data.toList[pc]? = some 8) : decode b pc = .ok (.iconst (5), 1) := by
  refine fd_fin ?_
  unfold ClassFile.Decoder.instr
  refine (fd_bind (fd_u1 h0)).trans ?_
  rfl
set_option maxRecDepth 100000 in
theorem fd_9 (h0 : b.data.toList[pc]? = some 9) : decode b pc = .ok (.lconst 0, 1) := by
  refine fd_fin ?_
  unfold ClassFile.Decoder.instr
  refine (fd_bind (fd_u1 h0)).trans ?_
  rfl
set_option maxRecDepth 100000 in
theorem fd_10 (h0 : b.data.toList[pc]? = some 10) : decode b pc = .ok (.lconst 1, 1) := by
  refine fd_fin ?_
  unfold ClassFile.Decoder.instr
  refine (fd_bind (fd_u1 h0)).trans ?_
  rfl
set_option maxRecDepth 100000 in
theorem fd_26 (h0 : b.data.toList[pc]? = some 26) : decode b pc = .ok (.iload_n 0, 1) := by
  refine fd_fin ?_
  unfold ClassFile.Decoder.instr
  refine (fd_bind (fd_u1 h0)).trans ?_
  rfl
set_option maxRecDepth 100000 in
theorem fd_27 (h0 : b.data.toList[pc]? = some 27) : decode b pc = .ok (.iload_n 1, 1) := by
  refine fd_fin ?_
  unfold ClassFile.Decoder.instr
  refine (fd_bind (fd_u1 h0)).trans ?_
  rfl
set_option maxRecDepth 100000 in
theorem fd_28 (h0 : b.data.toList[pc]? = some 28) : decode b pc = .ok (.iload_n 2, 1) := by
  refine fd_fin ?_
  unfold ClassFile.Decoder.instr
  refine (fd_bind (fd_u1 h0)).trans ?_
  rfl
set_option maxRecDepth 100000 in
theorem fd_29 (h0 : b.data.toList[pc]? = some 29) : decode b pc = .ok (.iload_n 3, 1) := by
  refine fd_fin ?_
  unfold ClassFile.Decoder.instr
  refine (fd_bind (fd_u1 h0)).trans ?_
  rfl
set_option maxRecDepth 100000 in
theorem fd_30 (h0 : b.data.toList[pc]? = some 30) : decode b pc = .ok (.lload_n 0, 1) := by
  refine fd_fin ?_
  unfold ClassFile.Decoder.instr
  refine (fd_bind (fd_u1 h0)).trans ?_
  rfl
set_option maxRecDepth 100000 in
theorem fd_31 (h0 : b.data.toList[pc]? = some 31) : decode b pc = .ok (.lload_n 1, 1) := by
  refine fd_fin ?_
  unfold ClassFile.Decoder.instr
  refine (fd_bind (fd_u1 h0)).trans ?_
  rfl
set_option maxRecDepth 100000 in
theorem fd_32 (h0 : b.data.toList[pc]? = some 32) : decode b pc = .ok (.lload_n 2, 1) := by
  refine fd_fin ?_
  unfold ClassFile.Decoder.instr
  refine (fd_bind (fd_u1 h0)).trans ?_
  rfl
set_option maxRecDepth 100000 in
theorem fd_33 (h0 : b.data.toList[pc]? = some 33) : decode b pc = .ok (.lload_n 3, 1) := by
  refine fd_fin ?_
  unfold ClassFile.Decoder.instr
  refine (fd_bind (fd_u1 h0)).trans ?_
  rfl
set_option maxRecDepth 100000 in
theorem fd_42 (h0 : b.data.toList[pc]? = some 42) : decode b pc = .ok (.aload_n 0, 1) := by
  refine fd_fin ?_
  unfold ClassFile.Decoder.instr
  refine (fd_bind (fd_u1 h0)).trans ?_
  rfl
set_option maxRecDepth 100000 in
theorem fd_43 (h0 : b.data.toList[pc]? = some 43) : decode b pc = .ok (.aload_n 1, 1) := by
  refine fd_fin ?_
  unfold ClassFile.Decoder.instr
  refine (fd_bind (fd_u1 h0)).trans ?_
  rfl
set_option maxRecDepth 100000 in
theorem fd_44 (h0 : b.data.toList[pc]? = some 44) : decode b pc = .ok (.aload_n 2, 1) := by
  refine fd_fin ?_
  unfold ClassFile.Decoder.instr
  refine (fd_bind (fd_u1 h0)).trans ?_
  rfl
set_option maxRecDepth 100000 in
theorem fd_45 (h0 : b.data.toList[pc]? = some 45) : decode b pc = .ok (.aload_n 3, 1) := by
  refine fd_fin ?_
  unfold ClassFile.Decoder.instr
  refine (fd_bind (fd_u1 h0)).trans ?_
  rfl
set_option maxRecDepth 100000 in
theorem fd_59 (h0 : b.data.toList[pc]? = some 59) : decode b pc = .ok (.istore_n 0, 1) := by
  refine fd_fin ?_
  unfold ClassFile.Decoder.instr
  refine (fd_bind (fd_u1 h0)).trans ?_
  rfl
set_option maxRecDepth 100000 in
theorem fd_60 (h0 : b.data.toList[pc]? = some 60) : decode b pc = .ok (.istore_n 1, 1) := by
  refine fd_fin ?_
  unfold ClassFile.Decoder.instr
  refine (fd_bind (fd_u1 h0)).trans ?_
  rfl
set_option maxRecDepth 100000 in
theorem fd_61 (h0 : b.data.toList[pc]? = some 61) : decode b pc = .ok (.istore_n 2, 1) := by
  refine fd_fin ?_
  unfold ClassFile.Decoder.instr
  refine (fd_bind (fd_u1 h0)).trans ?_
  rfl
set_option maxRecDepth 100000 in
theorem fd_62 (h0 : b.data.toList[pc]? = some 62) : decode b pc = .ok (.istore_n 3, 1) := by
  refine fd_fin ?_
  unfold ClassFile.Decoder.instr
  refine (fd_bind (fd_u1 h0)).trans ?_
  rfl
set_option maxRecDepth 100000 in
theorem fd_63 (h0 : b.data.toList[pc]? = some 63) : decode b pc = .ok (.lstore_n 0, 1) := by
  refine fd_fin ?_
  unfold ClassFile.Decoder.instr
  refine (fd_bind (fd_u1 h0)).trans ?_
  rfl
set_option maxRecDepth 100000 in
theorem fd_64 (h0 : b.data.toList[pc]? = some 64) : decode b pc = .ok (.lstore_n 1, 1) := by
  refine fd_fin ?_
  unfold ClassFile.Decoder.instr
  refine (fd_bind (fd_u1 h0)).trans ?_
  rfl
set_option maxRecDepth 100000 in
theorem fd_65 (h0 : b.data.toList[pc]? = some 65) : decode b pc = .ok (.lstore_n 2, 1) := by
  refine fd_fin ?_
  unfold ClassFile.Decoder.instr
  refine (fd_bind (fd_u1 h0)).trans ?_
  rfl
set_option maxRecDepth 100000 in
theorem fd_66 (h0 : b.data.toList[pc]? = some 66) : decode b pc = .ok (.lstore_n 3, 1) := by
  refine fd_fin ?_
  unfold ClassFile.Decoder.instr
  refine (fd_bind (fd_u1 h0)).trans ?_
  rfl
set_option maxRecDepth 100000 in
theorem fd_75 (h0 : b.data.toList[pc]? = some 75) : decode b pc = .ok (.astore_n 0, 1) := by
  refine fd_fin ?_
  unfold ClassFile.Decoder.instr
  refine (fd_bind (fd_u1 h0)).trans ?_
  rfl
set_option maxRecDepth 100000 in
theorem fd_76 (h0 : b.data.toList[pc]? = some 76) : decode b pc = .ok (.astore_n 1, 1) := by
  refine fd_fin ?_
  unfold ClassFile.Decoder.instr
  refine (fd_bind (fd_u1 h0)).trans ?_
  rfl
set_option maxRecDepth 100000 in
theorem fd_77 (h0 : b.data.toList[pc]? = some 77) : decode b pc = .ok (.astore_n 2, 1) := by
  refine fd_fin ?_
  unfold ClassFile.Decoder.instr
  refine (fd_bind (fd_u1 h0)).trans ?_
  rfl
set_option maxRecDepth 100000 in
theorem fd_78 (h0 : b.data.toList[pc]? = some 78) : decode b pc = .ok (.astore_n 3, 1) := by
  refine fd_fin ?_
  unfold ClassFile.Decoder.instr
  refine (fd_bind (fd_u1 h0)).trans ?_
  rfl
set_option maxRecDepth 100000 in
theorem fd_18 {x : UInt8} (h0 : b.data.toList[pc]? = some 18) (h1 : b.data.toList[pc + 1]? = some x) : decode b pc = .ok (.ldc x.toNat, 2) := by
  refine fd_fin ?_
  unfold ClassFile.Decoder.instr
  refine (fd_bind (fd_u1 h0)).trans ?_
  exact fd_bind (r := ClassFile.Reader.u1) (f := fun v => Pure.pure (Instr.ldc v)) (fd_u1 h1)
set_option maxRecDepth 100000 in
theorem fd_21 {x : UInt8} (h0 : b.data.toList[pc]? = some 21) (h1 : b.data.toList[pc + 1]? = some x) : decode b pc = .ok (.iload x.toNat, 2) := by
  refine fd_fin ?_
  unfold ClassFile.Decoder.instr
  refine (fd_bind (fd_u1 h0)).trans ?_
  exact fd_bind (r := ClassFile.Reader.u1) (f := fun v => Pure.pure (Instr.iload v)) (fd_u1 h1)
set_option maxRecDepth 100000 in
theorem fd_22 {x : UInt8} (h0 : b.data.toList[pc]? = some 22) (h1 : b.data.toList[pc + 1]? = some x) : decode b pc = .ok (.lload x.toNat, 2) := by
  refine fd_fin ?_
  unfold ClassFile.Decoder.instr
  refine (fd_bind (fd_u1 h0)).trans ?_
  exact fd_bind (r := ClassFile.Reader.u1) (f := fun v => Pure.pure (Instr.lload v)) (fd_u1 h1)
set_option maxRecDepth 100000 in
theorem fd_25 {x : UInt8} (h0 : b.data.toList[pc]? = some 25) (h1 : b.data.toList[pc + 1]? = some x) : decode b pc = .ok (.aload x.toNat, 2) := by
  refine fd_fin ?_
  unfold ClassFile.Decoder.instr
  refine (fd_bind (fd_u1 h0)).trans ?_
  exact fd_bind (r := ClassFile.Reader.u1) (f := fun v => Pure.pure (Instr.aload v)) (fd_u1 h1)
set_option maxRecDepth 100000 in
theorem fd_54 {x : UInt8} (h0 : b.data.toList[pc]? = some 54) (h1 : b.data.toList[pc + 1]? = some x) : decode b pc = .ok (.istore x.toNat, 2) := by
  refine fd_fin ?_
  unfold ClassFile.Decoder.instr
  refine (fd_bind (fd_u1 h0)).trans ?_
  exact fd_bind (r := ClassFile.Reader.u1) (f := fun v => Pure.pure (Instr.istore v)) (fd_u1 h1)
set_option maxRecDepth 100000 in
theorem fd_55 {x : UInt8} (h0 : b.data.toList[pc]? = some 55) (h1 : b.data.toList[pc + 1]? = some x) : decode b pc = .ok (.lstore x.toNat, 2) := by
  refine fd_fin ?_
  unfold ClassFile.Decoder.instr
  refine (fd_bind (fd_u1 h0)).trans ?_
  exact fd_bind (r := ClassFile.Reader.u1) (f := fun v => Pure.pure (Instr.lstore v)) (fd_u1 h1)
set_option maxRecDepth 100000 in
theorem fd_58 {x : UInt8} (h0 : b.data.toList[pc]? = some 58) (h1 : b.data.toList[pc + 1]? = some x) : decode b pc = .ok (.astore x.toNat, 2) := by
  refine fd_fin ?_
  unfold ClassFile.Decoder.instr
  refine (fd_bind (fd_u1 h0)).trans ?_
  exact fd_bind (r := ClassFile.Reader.u1) (f := fun v => Pure.pure (Instr.astore v)) (fd_u1 h1)
set_option maxRecDepth 100000 in
theorem fd_16 {x : UInt8} (h0 : b.data.toList[pc]? = some 16) (h1 : b.data.toList[pc + 1]? = some x) : decode b pc = .ok (.bipush (ClassFile.Reader.signed 8 x.toNat), 2) := by
  refine fd_fin ?_
  unfold ClassFile.Decoder.instr
  refine (fd_bind (fd_u1 h0)).trans ?_
  exact fd_bind (r := ClassFile.Reader.s1) (f := fun v => Pure.pure (Instr.bipush v)) (fd_s1 h1)
set_option maxRecDepth 100000 in
theorem fd_17 {x y : UInt8} (h0 : b.data.toList[pc]? = some 17) (h1 : b.data.toList[pc + 1]? = some x) (h2 : b.data.toList[pc + 1 + 1]? = some y) : decode b pc = .ok (.sipush (ClassFile.Reader.signed 16 (x.toNat * 256 + y.toNat)), 3) := by
  refine fd_fin ?_
  unfold ClassFile.Decoder.instr
  refine (fd_bind (fd_u1 h0)).trans ?_
  exact fd_bind (r := ClassFile.Reader.s2) (f := fun v => Pure.pure (Instr.sipush v)) (fd_s2 h1 h2)
set_option maxRecDepth 100000 in
theorem fd_19 {x y : UInt8} (h0 : b.data.toList[pc]? = some 19) (h1 : b.data.toList[pc + 1]? = some x) (h2 : b.data.toList[pc + 1 + 1]? = some y) : decode b pc = .ok (.ldc_w (x.toNat * 256 + y.toNat), 3) := by
  refine fd_fin ?_
  unfold ClassFile.Decoder.instr
  refine (fd_bind (fd_u1 h0)).trans ?_
  exact fd_bind (r := ClassFile.Reader.u2) (f := fun v => Pure.pure (Instr.ldc_w v)) (fd_u2 h1 h2)
set_option maxRecDepth 100000 in
theorem fd_20 {x y : UInt8} (h0 : b.data.toList[pc]? = some 20) (h1 : b.data.toList[pc + 1]? = some x) (h2 : b.data.toList[pc + 1 + 1]? = some y) : decode b pc = .ok (.ldc2_w (x.toNat * 256 + y.toNat), 3) := by
  refine fd_fin ?_
  unfold ClassFile.Decoder.instr
  refine (fd_bind (fd_u1 h0)).trans ?_
  exact fd_bind (r := ClassFile.Reader.u2) (f := fun v => Pure.pure (Instr.ldc2_w v)) (fd_u2 h1 h2)
set_option maxRecDepth 100000 in
theorem fd_180 {x y : UInt8} (h0 : b.data.toList[pc]? = some 180) (h1 : b.data.toList[pc + 1]? = some x) (h2 : b.data.toList[pc + 1 + 1]? = some y) : decode b pc = .ok (.getfield (x.toNat * 256 + y.toNat), 3) := by
  refine fd_fin ?_
  unfold ClassFile.Decoder.instr
  refine (fd_bind (fd_u1 h0)).trans ?_
  exact fd_bind (r := ClassFile.Reader.u2) (f := fun v => Pure.pure (Instr.getfield v)) (fd_u2 h1 h2)
set_option maxRecDepth 100000 in
theorem fd_181 {x y : UInt8} (h0 : b.data.toList[pc]? = some 181) (h1 : b.data.toList[pc + 1]? = some x) (h2 : b.data.toList[pc + 1 + 1]? = some y) : decode b pc = .ok (.putfield (x.toNat * 256 + y.toNat), 3) := by
  refine fd_fin ?_
  unfold ClassFile.Decoder.instr
  refine (fd_bind (fd_u1 h0)).trans ?_
  exact fd_bind (r := ClassFile.Reader.u2) (f := fun v => Pure.pure (Instr.putfield v)) (fd_u2 h1 h2)
set_option maxRecDepth 100000 in
theorem fd_182 {x y : UInt8} (h0 : b.data.toList[pc]? = some 182) (h1 : b.data.toList[pc + 1]? = some x) (h2 : b.data.toList[pc + 1 + 1]? = some y) : decode b pc = .ok (.invokevirtual (x.toNat * 256 + y.toNat), 3) := by
  refine fd_fin ?_
  unfold ClassFile.Decoder.instr
  refine (fd_bind (fd_u1 h0)).trans ?_
  exact fd_bind (r := ClassFile.Reader.u2) (f := fun v => Pure.pure (Instr.invokevirtual v)) (fd_u2 h1 h2)
set_option maxRecDepth 100000 in
theorem fd_183 {x y : UInt8} (h0 : b.data.toList[pc]? = some 183) (h1 : b.data.toList[pc + 1]? = some x) (h2 : b.data.toList[pc + 1 + 1]? = some y) : decode b pc = .ok (.invokespecial (x.toNat * 256 + y.toNat), 3) := by
  refine fd_fin ?_
  unfold ClassFile.Decoder.instr
  refine (fd_bind (fd_u1 h0)).trans ?_
  exact fd_bind (r := ClassFile.Reader.u2) (f := fun v => Pure.pure (Instr.invokespecial v)) (fd_u2 h1 h2)
set_option maxRecDepth 100000 in
theorem fd_184 {x y : UInt8} (h0 : b.data.toList[pc]? = some 184) (h1 : b.data.toList[pc + 1]? = some x) (h2 : b.data.toList[pc + 1 + 1]? = some y) : decode b pc = .ok (.invokestatic (x.toNat * 256 + y.toNat), 3) := by
  refine fd_fin ?_
  unfold ClassFile.Decoder.instr
  refine (fd_bind (fd_u1 h0)).trans ?_
  exact fd_bind (r := ClassFile.Reader.u2) (f := fun v => Pure.pure (Instr.invokestatic v)) (fd_u2 h1 h2)
set_option maxRecDepth 100000 in
theorem fd_187 {x y : UInt8} (h0 : b.data.toList[pc]? = some 187) (h1 : b.data.toList[pc + 1]? = some x) (h2 : b.data.toList[pc + 1 + 1]? = some y) : decode b pc = .ok (.new (x.toNat * 256 + y.toNat), 3) := by
  refine fd_fin ?_
  unfold ClassFile.Decoder.instr
  refine (fd_bind (fd_u1 h0)).trans ?_
  exact fd_bind (r := ClassFile.Reader.u2) (f := fun v => Pure.pure (Instr.new v)) (fd_u2 h1 h2)
set_option maxRecDepth 100000 in
theorem fd_153 {x y : UInt8} (h0 : b.data.toList[pc]? = some 153) (h1 : b.data.toList[pc + 1]? = some x) (h2 : b.data.toList[pc + 1 + 1]? = some y) : decode b pc = .ok (.ifCond .eq (ClassFile.Reader.signed 16 (x.toNat * 256 + y.toNat)), 3) := by
  refine fd_fin ?_
  unfold ClassFile.Decoder.instr
  refine (fd_bind (fd_u1 h0)).trans ?_
  exact fd_bind (r := ClassFile.Reader.s2) (f := fun v => Pure.pure (Instr.ifCond .eq v)) (fd_s2 h1 h2)
set_option maxRecDepth 100000 in
theorem fd_159 {x y : UInt8} (h0 : b.data.toList[pc]? = some 159) (h1 : b.data.toList[pc + 1]? = some x) (h2 : b.data.toList[pc + 1 + 1]? = some y) : decode b pc = .ok (.if_icmp .eq (ClassFile.Reader.signed 16 (x.toNat * 256 + y.toNat)), 3) := by
  refine fd_fin ?_
  unfold ClassFile.Decoder.instr
  refine (fd_bind (fd_u1 h0)).trans ?_
  exact fd_bind (r := ClassFile.Reader.s2) (f := fun v => Pure.pure (Instr.if_icmp .eq v)) (fd_s2 h1 h2)
set_option maxRecDepth 100000 in
theorem fd_154 {x y : UInt8} (h0 : b.data.toList[pc]? = some 154) (h1 : b.data.toList[pc + 1]? = some x) (h2 : b.data.toList[pc + 1 + 1]? = some y) : decode b pc = .ok (.ifCond .ne (ClassFile.Reader.signed 16 (x.toNat * 256 + y.toNat)), 3) := by
  refine fd_fin ?_
  unfold ClassFile.Decoder.instr
  refine (fd_bind (fd_u1 h0)).trans ?_
  exact fd_bind (r := ClassFile.Reader.s2) (f := fun v => Pure.pure (Instr.ifCond .ne v)) (fd_s2 h1 h2)
set_option maxRecDepth 100000 in
theorem fd_160 {x y : UInt8} (h0 : b.data.toList[pc]? = some 160) (h1 : b.data.toList[pc + 1]? = some x) (h2 : b.data.toList[pc + 1 + 1]? = some y) : decode b pc = .ok (.if_icmp .ne (ClassFile.Reader.signed 16 (x.toNat * 256 + y.toNat)), 3) := by
  refine fd_fin ?_
  unfold ClassFile.Decoder.instr
  refine (fd_bind (fd_u1 h0)).trans ?_
  exact fd_bind (r := ClassFile.Reader.s2) (f := fun v => Pure.pure (Instr.if_icmp .ne v)) (fd_s2 h1 h2)
set_option maxRecDepth 100000 in
theorem fd_155 {x y : UInt8} (h0 : b.data.toList[pc]? = some 155) (h1 : b.data.toList[pc + 1]? = some x) (h2 : b.data.toList[pc + 1 + 1]? = some y) : decode b pc = .ok (.ifCond .lt (ClassFile.Reader.signed 16 (x.toNat * 256 + y.toNat)), 3) := by
  refine fd_fin ?_
  unfold ClassFile.Decoder.instr
  refine (fd_bind (fd_u1 h0)).trans ?_
  exact fd_bind (r := ClassFile.Reader.s2) (f := fun v => Pure.pure (Instr.ifCond .lt v)) (fd_s2 h1 h2)
set_option maxRecDepth 100000 in
theorem fd_161 {x y : UInt8} (h0 : b.data.toList[pc]? = some 161) (h1 : b.data.toList[pc + 1]? = some x) (h2 : b.data.toList[pc + 1 + 1]? = some y) : decode b pc = .ok (.if_icmp .lt (ClassFile.Reader.signed 16 (x.toNat * 256 + y.toNat)), 3) := by
  refine fd_fin ?_
  unfold ClassFile.Decoder.instr
  refine (fd_bind (fd_u1 h0)).trans ?_
  exact fd_bind (r := ClassFile.Reader.s2) (f := fun v => Pure.pure (Instr.if_icmp .lt v)) (fd_s2 h1 h2)
set_option maxRecDepth 100000 in
theorem fd_156 {x y : UInt8} (h0 : b.data.toList[pc]? = some 156) (h1 : b.data.toList[pc + 1]? = some x) (h2 : b.data.toList[pc + 1 + 1]? = some y) : decode b pc = .ok (.ifCond .ge (ClassFile.Reader.signed 16 (x.toNat * 256 + y.toNat)), 3) := by
  refine fd_fin ?_
  unfold ClassFile.Decoder.instr
  refine (fd_bind (fd_u1 h0)).trans ?_
  exact fd_bind (r := ClassFile.Reader.s2) (f := fun v => Pure.pure (Instr.ifCond .ge v)) (fd_s2 h1 h2)
set_option maxRecDepth 100000 in
theorem fd_162 {x y : UInt8} (h0 : b.data.toList[pc]? = some 162) (h1 : b.data.toList[pc + 1]? = some x) (h2 : b.data.toList[pc + 1 + 1]? = some y) : decode b pc = .ok (.if_icmp .ge (ClassFile.Reader.signed 16 (x.toNat * 256 + y.toNat)), 3) := by
  refine fd_fin ?_
  unfold ClassFile.Decoder.instr
  refine (fd_bind (fd_u1 h0)).trans ?_
  exact fd_bind (r := ClassFile.Reader.s2) (f := fun v => Pure.pure (Instr.if_icmp .ge v)) (fd_s2 h1 h2)
set_option maxRecDepth 100000 in
theorem fd_157 {x y : UInt8} (h0 : b.data.toList[pc]? = some 157) (h1 : b.data.toList[pc + 1]? = some x) (h2 : b.data.toList[pc + 1 + 1]? = some y) : decode b pc = .ok (.ifCond .gt (ClassFile.Reader.signed 16 (x.toNat * 256 + y.toNat)), 3) := by
  refine fd_fin ?_
  unfold ClassFile.Decoder.instr
  refine (fd_bind (fd_u1 h0)).trans ?_
  exact fd_bind (r := ClassFile.Reader.s2) (f := fun v => Pure.pure (Instr.ifCond .gt v)) (fd_s2 h1 h2)
set_option maxRecDepth 100000 in
theorem fd_163 {x y : UInt8} (h0 : b.data.toList[pc]? = some 163) (h1 : b.data.toList[pc + 1]? = some x) (h2 : b.data.toList[pc + 1 + 1]? = some y) : decode b pc = .ok (.if_icmp .gt (ClassFile.Reader.signed 16 (x.toNat * 256 + y.toNat)), 3) := by
  refine fd_fin ?_
  unfold ClassFile.Decoder.instr
  refine (fd_bind (fd_u1 h0)).trans ?_
  exact fd_bind (r := ClassFile.Reader.s2) (f := fun v => Pure.pure (Instr.if_icmp .gt v)) (fd_s2 h1 h2)
set_option maxRecDepth 100000 in
theorem fd_158 {x y : UInt8} (h0 : b.data.toList[pc]? = some 158) (h1 : b.data.toList[pc + 1]? = some x) (h2 : b.data.toList[pc + 1 + 1]? = some y) : decode b pc = .ok (.ifCond .le (ClassFile.Reader.signed 16 (x.toNat * 256 + y.toNat)), 3) := by
  refine fd_fin ?_
  unfold ClassFile.Decoder.instr
  refine (fd_bind (fd_u1 h0)).trans ?_
  exact fd_bind (r := ClassFile.Reader.s2) (f := fun v => Pure.pure (Instr.ifCond .le v)) (fd_s2 h1 h2)
set_option maxRecDepth 100000 in
theorem fd_164 {x y : UInt8} (h0 : b.data.toList[pc]? = some 164) (h1 : b.data.toList[pc + 1]? = some x) (h2 : b.data.toList[pc + 1 + 1]? = some y) : decode b pc = .ok (.if_icmp .le (ClassFile.Reader.signed 16 (x.toNat * 256 + y.toNat)), 3) := by
  refine fd_fin ?_
  unfold ClassFile.Decoder.instr
  refine (fd_bind (fd_u1 h0)).trans ?_
  exact fd_bind (r := ClassFile.Reader.s2) (f := fun v => Pure.pure (Instr.if_icmp .le v)) (fd_s2 h1 h2)
set_option maxRecDepth 100000 in
theorem fd_167 {x y : UInt8} (h0 : b.data.toList[pc]? = some 167) (h1 : b.data.toList[pc + 1]? = some x) (h2 : b.data.toList[pc + 1 + 1]? = some y) : decode b pc = .ok (.goto (ClassFile.Reader.signed 16 (x.toNat * 256 + y.toNat)), 3) := by
  refine fd_fin ?_
  unfold ClassFile.Decoder.instr
  refine (fd_bind (fd_u1 h0)).trans ?_
  exact fd_bind (r := ClassFile.Reader.s2) (f := fun v => Pure.pure (Instr.goto v)) (fd_s2 h1 h2)
set_option maxRecDepth 100000 in
theorem fd_132 {x y : UInt8} (h0 : b.data.toList[pc]? = some 132) (h1 : b.data.toList[pc + 1]? = some x) (h2 : b.data.toList[pc + 1 + 1]? = some y) : decode b pc = .ok (.iinc x.toNat (ClassFile.Reader.signed 8 y.toNat), 3) := by
  refine fd_fin ?_
  unfold ClassFile.Decoder.instr
  refine (fd_bind (fd_u1 h0)).trans ?_
  refine (fd_bind (r := ClassFile.Reader.u1) (f := fun v => ClassFile.Reader.s1 >>= fun w => Pure.pure (Instr.iinc v w)) (fd_u1 h1)).trans ?_
  exact fd_bind (r := ClassFile.Reader.s1) (f := fun w => Pure.pure (Instr.iinc x.toNat w)) (fd_s1 h2)
set_option maxRecDepth 100000 in
theorem fd_188_4 (h0 : b.data.toList[pc]? = some 188) (h1 : b.data.toList[pc + 1]? = some 4) : decode b pc = .ok (.newarray .boolean, 2) := by
  refine fd_fin ?_
  unfold ClassFile.Decoder.instr
  refine (fd_bind (fd_u1 h0)).trans ?_
  show ClassFile.Decoder.newarray pc b (pc + 1) = _
  unfold ClassFile.Decoder.newarray
  exact (fd_bind (fd_u1 h1)).trans rfl
set_option maxRecDepth 100000 in
theorem fd_188_8 (h0 : b.data.toList[pc]? = some 188) (h1 : b.data.toList[pc + 1]? = some 8) : decode b pc = .ok (.newarray .byte, 2) := by
  refine fd_fin ?_
  unfold ClassFile.Decoder.instr
  refine (fd_bind (fd_u1 h0)).trans ?_
  show ClassFile.Decoder.newarray pc b (pc + 1) = _
  unfold ClassFile.Decoder.newarray
  exact (fd_bind (fd_u1 h1)).trans rfl
set_option maxRecDepth 100000 in
theorem fd_188_10 (h0 : b.data.toList[pc]? = some 188) (h1 : b.data.toList[pc + 1]? = some 10) : decode b pc = .ok (.newarray .int, 2) := by
  refine fd_fin ?_
  unfold ClassFile.Decoder.instr
  refine (fd_bind (fd_u1 h0)).trans ?_
  show ClassFile.Decoder.newarray pc b (pc + 1) = _
  unfold ClassFile.Decoder.newarray
  exact (fd_bind (fd_u1 h1)).trans rfl
set_option maxRecDepth 100000 in
theorem fd_188_11 (h0 : b.data.toList[pc]? = some 188) (h1 : b.data.toList[pc + 1]? = some 11) : decode b pc = .ok (.newarray .long, 2) := by
  refine fd_fin ?_
  unfold ClassFile.Decoder.instr
  refine (fd_bind (fd_u1 h0)).trans ?_
  show ClassFile.Decoder.newarray pc b (pc + 1) = _
  unfold ClassFile.Decoder.newarray
  exact (fd_bind (fd_u1 h1)).trans rfl
def fq (bs : List UInt8) (e : si_E) : Bool := match e.1, e.2.1, bs with
  | .iaload, 1, x :: _ => decide (x = 46)
  | .laload, 1, x :: _ => decide (x = 47)
  | .baload, 1, x :: _ => decide (x = 51)
  | .iastore, 1, x :: _ => decide (x = 79)
  | .lastore, 1, x :: _ => decide (x = 80)
  | .bastore, 1, x :: _ => decide (x = 84)
  | .pop, 1, x :: _ => decide (x = 87)
  | .dup, 1, x :: _ => decide (x = 89)
  | .iadd, 1, x :: _ => decide (x = 96)
  | .ladd, 1, x :: _ => decide (x = 97)
  | .isub, 1, x :: _ => decide (x = 100)
  | .imul, 1, x :: _ => decide (x = 104)
  | .idiv, 1, x :: _ => decide (x = 108)
  | .irem, 1, x :: _ => decide (x = 112)
  | .ineg, 1, x :: _ => decide (x = 116)
  | .ishl, 1, x :: _ => decide (x = 120)
  | .ishr, 1, x :: _ => decide (x = 122)
  | .iushr, 1, x :: _ => decide (x = 124)
  | .iand, 1, x :: _ => decide (x = 126)
  | .ior, 1, x :: _ => decide (x = 128)
  | .ixor, 1, x :: _ => decide (x = 130)
  | .i2l, 1, x :: _ => decide (x = 133)
  | .l2i, 1, x :: _ => decide (x = 136)
  | .i2b, 1, x :: _ => decide (x = 145)
  | .i2c, 1, x :: _ => decide (x = 146)
  | .lcmp, 1, x :: _ => decide (x = 148)
  | .ireturn, 1, x :: _ => decide (x = 172)
  | .lreturn, 1, x :: _ => decide (x = 173)
  | .return_, 1, x :: _ => decide (x = 177)
  | .arraylength, 1, x :: _ => decide (x = 190)
  | .iconst k, 1, x :: _ => (decide (k = -1) && decide (x = 2)) || (decide (k = 0) && decide (x = 3)) || (decide (k = 1) && decide (x = 4)) || (decide (k = 2) && decide (x = 5)) || (decide (k = 3) && decide (x = 6)) || (decide (k = 4) && decide (x = 7)) || (decide (k = 5) && decide (x = 8))
  | .lconst k, 1, x :: _ => (decide (k = 0) && decide (x = 9)) || (decide (k = 1) && decide (x = 10))
  | .iload_n k, 1, x :: _ => (decide (k = 0) && decide (x = 26)) || (decide (k = 1) && decide (x = 27)) || (decide (k = 2) && decide (x = 28)) || (decide (k = 3) && decide (x = 29))
  | .lload_n k, 1, x :: _ => (decide (k = 0) && decide (x = 30)) || (decide (k = 1) && decide (x = 31)) || (decide (k = 2) && decide (x = 32)) || (decide (k = 3) && decide (x = 33))
  | .aload_n k, 1, x :: _ => (decide (k = 0) && decide (x = 42)) || (decide (k = 1) && decide (x = 43)) || (decide (k = 2) && decide (x = 44)) || (decide (k = 3) && decide (x = 45))
  | .istore_n k, 1, x :: _ => (decide (k = 0) && decide (x = 59)) || (decide (k = 1) && decide (x = 60)) || (decide (k = 2) && decide (x = 61)) || (decide (k = 3) && decide (x = 62))
  | .lstore_n k, 1, x :: _ => (decide (k = 0) && decide (x = 63)) || (decide (k = 1) && decide (x = 64)) || (decide (k = 2) && decide (x = 65)) || (decide (k = 3) && decide (x = 66))
  | .astore_n k, 1, x :: _ => (decide (k = 0) && decide (x = 75)) || (decide (k = 1) && decide (x = 76)) || (decide (k = 2) && decide (x = 77)) || (decide (k = 3) && decide (x = 78))
  | .ldc k, 2, x :: y :: _ => decide (x = 18) && decide (k = y.toNat)
  | .iload k, 2, x :: y :: _ => decide (x = 21) && decide (k = y.toNat)
  | .lload k, 2, x :: y :: _ => decide (x = 22) && decide (k = y.toNat)
  | .aload k, 2, x :: y :: _ => decide (x = 25) && decide (k = y.toNat)
  | .istore k, 2, x :: y :: _ => decide (x = 54) && decide (k = y.toNat)
  | .lstore k, 2, x :: y :: _ => decide (x = 55) && decide (k = y.toNat)
  | .astore k, 2, x :: y :: _ => decide (x = 58) && decide (k = y.toNat)
  | .bipush k, 2, x :: y :: _ => decide (x = 16) && decide (k = ClassFile.Reader.signed 8 y.toNat)
  | .ldc_w k, 3, x :: y :: z :: _ => decide (x = 19) && decide (k = y.toNat * 256 + z.toNat)
  | .ldc2_w k, 3, x :: y :: z :: _ => decide (x = 20) && decide (k = y.toNat * 256 + z.toNat)
  | .getfield k, 3, x :: y :: z :: _ => decide (x = 180) && decide (k = y.toNat * 256 + z.toNat)
  | .putfield k, 3, x :: y :: z :: _ => decide (x = 181) && decide (k = y.toNat * 256 + z.toNat)
  | .invokevirtual k, 3, x :: y :: z :: _ => decide (x = 182) && decide (k = y.toNat * 256 + z.toNat)
  | .invokespecial k, 3, x :: y :: z :: _ => decide (x = 183) && decide (k = y.toNat * 256 + z.toNat)
  | .invokestatic k, 3, x :: y :: z :: _ => decide (x = 184) && decide (k = y.toNat * 256 + z.toNat)
  | .new k, 3, x :: y :: z :: _ => decide (x = 187) && decide (k = y.toNat * 256 + z.toNat)
  | .sipush k, 3, x :: y :: z :: _ => decide (x = 17) && decide (k = ClassFile.Reader.signed 16 (y.toNat * 256 + z.toNat))
  | .goto k, 3, x :: y :: z :: _ => decide (x = 167) && decide (k = ClassFile.Reader.signed 16 (y.toNat * 256 + z.toNat))
  | .ifCond .eq k, 3, x :: y :: z :: _ => decide (x = 153) && decide (k = ClassFile.Reader.signed 16 (y.toNat * 256 + z.toNat))
  | .ifCond .ne k, 3, x :: y :: z :: _ => decide (x = 154) && decide (k = ClassFile.Reader.signed 16 (y.toNat * 256 + z.toNat))
  | .ifCond .lt k, 3, x :: y :: z :: _ => decide (x = 155) && decide (k = ClassFile.Reader.signed 16 (y.toNat * 256 + z.toNat))
  | .ifCond .ge k, 3, x :: y :: z :: _ => decide (x = 156) && decide (k = ClassFile.Reader.signed 16 (y.toNat * 256 + z.toNat))
  | .ifCond .gt k, 3, x :: y :: z :: _ => decide (x = 157) && decide (k = ClassFile.Reader.signed 16 (y.toNat * 256 + z.toNat))
  | .ifCond .le k, 3, x :: y :: z :: _ => decide (x = 158) && decide (k = ClassFile.Reader.signed 16 (y.toNat * 256 + z.toNat))
  | .if_icmp .eq k, 3, x :: y :: z :: _ => decide (x = 159) && decide (k = ClassFile.Reader.signed 16 (y.toNat * 256 + z.toNat))
  | .if_icmp .ne k, 3, x :: y :: z :: _ => decide (x = 160) && decide (k = ClassFile.Reader.signed 16 (y.toNat * 256 + z.toNat))
  | .if_icmp .lt k, 3, x :: y :: z :: _ => decide (x = 161) && decide (k = ClassFile.Reader.signed 16 (y.toNat * 256 + z.toNat))
  | .if_icmp .ge k, 3, x :: y :: z :: _ => decide (x = 162) && decide (k = ClassFile.Reader.signed 16 (y.toNat * 256 + z.toNat))
  | .if_icmp .gt k, 3, x :: y :: z :: _ => decide (x = 163) && decide (k = ClassFile.Reader.signed 16 (y.toNat * 256 + z.toNat))
  | .if_icmp .le k, 3, x :: y :: z :: _ => decide (x = 164) && decide (k = ClassFile.Reader.signed 16 (y.toNat * 256 + z.toNat))
  | .iinc k n, 3, x :: y :: z :: _ => decide (x = 132) && decide (k = y.toNat) && decide (n = ClassFile.Reader.signed 8 z.toNat)
  | .newarray .boolean, 2, x :: y :: _ => decide (x = 188) && decide (y = 4)
  | .newarray .byte, 2, x :: y :: _ => decide (x = 188) && decide (y = 8)
  | .newarray .int, 2, x :: y :: _ => decide (x = 188) && decide (y = 10)
  | .newarray .long, 2, x :: y :: _ => decide (x = 188) && decide (y = 11)
  | _, _, _ => false
theorem fq_ok {bs : List UInt8} {e : si_E} (hb : ∀ j : Nat, b.data.toList[pc + j]? = bs[j]?) (h : fq bs e = true) : decode b pc = .ok (e.1, e.2.1) := by
  obtain ⟨i, n, a⟩ := e
  unfold fq at h
  split at h
  case h_74 => cases h
  all_goals
    rename_i e1 e2
    dsimp only at e1 e2
    subst e1
    subst e2
  all_goals dsimp only
  all_goals have h0 : ∀ {v : UInt8}, _ = v → b.data.toList[pc]? = some v := fun hv => (hb 0).trans (by rw [← hv]; rfl)
  all_goals try have h1 := (hb 1)
  all_goals try have h2 := (hb 2)
  all_goals simp only [List.getElem?_cons_succ, List.getElem?_cons_zero] at h1 h2
  · exact fd_46 (h0 (of_decide_eq_true h))
  · exact fd_47 (h0 (of_decide_eq_true h))
  · exact fd_51 (h0 (of_decide_eq_true h))
  · exact fd_79 (h0 (of_decide_eq_true h))
  · exact fd_80 (h0 (of_decide_eq_true h))
  · exact fd_84 (h0 (of_decide_eq_true h))
  · exact fd_87 (h0 (of_decide_eq_true h))
  · exact fd_89 (h0 (of_decide_eq_true h))
  · exact fd_96 (h0 (of_decide_eq_true h))
  · exact fd_97 (h0 (of_decide_eq_true h))
  · exact fd_100 (h0 (of_decide_eq_true h))
  · exact fd_104 (h0 (of_decide_eq_true h))
  · exact fd_108 (h0 (of_decide_eq_true h))
  · exact fd_112 (h0 (of_decide_eq_true h))
  · exact fd_116 (h0 (of_decide_eq_true h))
  · exact fd_120 (h0 (of_decide_eq_true h))
  · exact fd_122 (h0 (of_decide_eq_true h))
  · exact fd_124 (h0 (of_decide_eq_true h))
  · exact fd_126 (h0 (of_decide_eq_true h))
  · exact fd_128 (h0 (of_decide_eq_true h))
  · exact fd_130 (h0 (of_decide_eq_true h))
  · exact fd_133 (h0 (of_decide_eq_true h))
  · exact fd_136 (h0 (of_decide_eq_true h))
  · exact fd_145 (h0 (of_decide_eq_true h))
  · exact fd_146 (h0 (of_decide_eq_true h))
  · exact fd_148 (h0 (of_decide_eq_true h))
  · exact fd_172 (h0 (of_decide_eq_true h))
  · exact fd_173 (h0 (of_decide_eq_true h))
  · exact fd_177 (h0 (of_decide_eq_true h))
  · exact fd_190 (h0 (of_decide_eq_true h))
  · simp only [Bool.or_eq_true, Bool.and_eq_true, decide_eq_true_eq] at h
    rcases h with ((((((⟨rfl, hx⟩ | ⟨rfl, hx⟩) | ⟨rfl, hx⟩) | ⟨rfl, hx⟩) | ⟨rfl, hx⟩) | ⟨rfl, hx⟩) | ⟨rfl, hx⟩)
    · exact fd_2 (h0 hx)
    · exact fd_3 (h0 hx)
    · exact fd_4 (h0 hx)
    · exact fd_5 (h0 hx)
    · exact fd_6 (h0 hx)
    · exact fd_7 (h0 hx)
    · exact fd_8 (h0 hx)
  · simp only [Bool.or_eq_true, Bool.and_eq_true, decide_eq_true_eq] at h
    rcases h with (⟨rfl, hx⟩ | ⟨rfl, hx⟩)
    · exact fd_9 (h0 hx)
    · exact fd_10 (h0 hx)
  · simp only [Bool.or_eq_true, Bool.and_eq_true, decide_eq_true_eq] at h
    rcases h with (((⟨rfl, hx⟩ | ⟨rfl, hx⟩) | ⟨rfl, hx⟩) | ⟨rfl, hx⟩)
    · exact fd_26 (h0 hx)
    · exact fd_27 (h0 hx)
    · exact fd_28 (h0 hx)
    · exact fd_29 (h0 hx)
  · simp only [Bool.or_eq_true, Bool.and_eq_true, decide_eq_true_eq] at h
    rcases h with (((⟨rfl, hx⟩ | ⟨rfl, hx⟩) | ⟨rfl, hx⟩) | ⟨rfl, hx⟩)
    · exact fd_30 (h0 hx)
    · exact fd_31 (h0 hx)
    · exact fd_32 (h0 hx)
    · exact fd_33 (h0 hx)
  · simp only [Bool.or_eq_true, Bool.and_eq_true, decide_eq_true_eq] at h
    rcases h with (((⟨rfl, hx⟩ | ⟨rfl, hx⟩) | ⟨rfl, hx⟩) | ⟨rfl, hx⟩)
    · exact fd_42 (h0 hx)
    · exact fd_43 (h0 hx)
    · exact fd_44 (h0 hx)
    · exact fd_45 (h0 hx)
  · simp only [Bool.or_eq_true, Bool.and_eq_true, decide_eq_true_eq] at h
    rcases h with (((⟨rfl, hx⟩ | ⟨rfl, hx⟩) | ⟨rfl, hx⟩) | ⟨rfl, hx⟩)
    · exact fd_59 (h0 hx)
    · exact fd_60 (h0 hx)
    · exact fd_61 (h0 hx)
    · exact fd_62 (h0 hx)
  · simp only [Bool.or_eq_true, Bool.and_eq_true, decide_eq_true_eq] at h
    rcases h with (((⟨rfl, hx⟩ | ⟨rfl, hx⟩) | ⟨rfl, hx⟩) | ⟨rfl, hx⟩)
    · exact fd_63 (h0 hx)
    · exact fd_64 (h0 hx)
    · exact fd_65 (h0 hx)
    · exact fd_66 (h0 hx)
  · simp only [Bool.or_eq_true, Bool.and_eq_true, decide_eq_true_eq] at h
    rcases h with (((⟨rfl, hx⟩ | ⟨rfl, hx⟩) | ⟨rfl, hx⟩) | ⟨rfl, hx⟩)
    · exact fd_75 (h0 hx)
    · exact fd_76 (h0 hx)
    · exact fd_77 (h0 hx)
    · exact fd_78 (h0 hx)
  · simp only [Bool.and_eq_true, decide_eq_true_eq] at h
    rw [h.2]
    exact fd_18 (h0 h.1) h1
  · simp only [Bool.and_eq_true, decide_eq_true_eq] at h
    rw [h.2]
    exact fd_21 (h0 h.1) h1
  · simp only [Bool.and_eq_true, decide_eq_true_eq] at h
    rw [h.2]
    exact fd_22 (h0 h.1) h1
  · simp only [Bool.and_eq_true, decide_eq_true_eq] at h
    rw [h.2]
    exact fd_25 (h0 h.1) h1
  · simp only [Bool.and_eq_true, decide_eq_true_eq] at h
    rw [h.2]
    exact fd_54 (h0 h.1) h1
  · simp only [Bool.and_eq_true, decide_eq_true_eq] at h
    rw [h.2]
    exact fd_55 (h0 h.1) h1
  · simp only [Bool.and_eq_true, decide_eq_true_eq] at h
    rw [h.2]
    exact fd_58 (h0 h.1) h1
  · simp only [Bool.and_eq_true, decide_eq_true_eq] at h
    rw [h.2]
    exact fd_16 (h0 h.1) h1
  · simp only [Bool.and_eq_true, decide_eq_true_eq] at h
    rw [h.2]
    exact fd_19 (h0 h.1) h1 h2
  · simp only [Bool.and_eq_true, decide_eq_true_eq] at h
    rw [h.2]
    exact fd_20 (h0 h.1) h1 h2
  · simp only [Bool.and_eq_true, decide_eq_true_eq] at h
    rw [h.2]
    exact fd_180 (h0 h.1) h1 h2
  · simp only [Bool.and_eq_true, decide_eq_true_eq] at h
    rw [h.2]
    exact fd_181 (h0 h.1) h1 h2
  · simp only [Bool.and_eq_true, decide_eq_true_eq] at h
    rw [h.2]
    exact fd_182 (h0 h.1) h1 h2
  · simp only [Bool.and_eq_true, decide_eq_true_eq] at h
    rw [h.2]
    exact fd_183 (h0 h.1) h1 h2
  · simp only [Bool.and_eq_true, decide_eq_true_eq] at h
    rw [h.2]
    exact fd_184 (h0 h.1) h1 h2
  · simp only [Bool.and_eq_true, decide_eq_true_eq] at h
    rw [h.2]
    exact fd_187 (h0 h.1) h1 h2
  · simp only [Bool.and_eq_true, decide_eq_true_eq] at h
    rw [h.2]
    exact fd_17 (h0 h.1) h1 h2
  · simp only [Bool.and_eq_true, decide_eq_true_eq] at h
    rw [h.2]
    exact fd_167 (h0 h.1) h1 h2
  · simp only [Bool.and_eq_true, decide_eq_true_eq] at h
    rw [h.2]
    exact fd_153 (h0 h.1) h1 h2
  · simp only [Bool.and_eq_true, decide_eq_true_eq] at h
    rw [h.2]
    exact fd_154 (h0 h.1) h1 h2
  · simp only [Bool.and_eq_true, decide_eq_true_eq] at h
    rw [h.2]
    exact fd_155 (h0 h.1) h1 h2
  · simp only [Bool.and_eq_true, decide_eq_true_eq] at h
    rw [h.2]
    exact fd_156 (h0 h.1) h1 h2
  · simp only [Bool.and_eq_true, decide_eq_true_eq] at h
    rw [h.2]
    exact fd_157 (h0 h.1) h1 h2
  · simp only [Bool.and_eq_true, decide_eq_true_eq] at h
    rw [h.2]
    exact fd_158 (h0 h.1) h1 h2
  · simp only [Bool.and_eq_true, decide_eq_true_eq] at h
    rw [h.2]
    exact fd_159 (h0 h.1) h1 h2
  · simp only [Bool.and_eq_true, decide_eq_true_eq] at h
    rw [h.2]
    exact fd_160 (h0 h.1) h1 h2
  · simp only [Bool.and_eq_true, decide_eq_true_eq] at h
    rw [h.2]
    exact fd_161 (h0 h.1) h1 h2
  · simp only [Bool.and_eq_true, decide_eq_true_eq] at h
    rw [h.2]
    exact fd_162 (h0 h.1) h1 h2
  · simp only [Bool.and_eq_true, decide_eq_true_eq] at h
    rw [h.2]
    exact fd_163 (h0 h.1) h1 h2
  · simp only [Bool.and_eq_true, decide_eq_true_eq] at h
    rw [h.2]
    exact fd_164 (h0 h.1) h1 h2
  · simp only [Bool.and_eq_true, decide_eq_true_eq] at h
    rw [h.1.2, h.2]
    exact fd_132 (h0 h.1.1) h1 h2
  · simp only [Bool.and_eq_true, decide_eq_true_eq] at h
    exact fd_188_4 (h0 h.1) (h1.trans (by rw [h.2]))
  · simp only [Bool.and_eq_true, decide_eq_true_eq] at h
    exact fd_188_8 (h0 h.1) (h1.trans (by rw [h.2]))
  · simp only [Bool.and_eq_true, decide_eq_true_eq] at h
    exact fd_188_10 (h0 h.1) (h1.trans (by rw [h.2]))
  · simp only [Bool.and_eq_true, decide_eq_true_eq] at h
    exact fd_188_11 (h0 h.1) (h1.trans (by rw [h.2]))
end FastDecode
/-- the link word of a row of code stands in the tables, at its place -/
def lk_e (O : String) (e : si_E) : Bool := match e with
  | (.getfield i, _, ci, k, p) => (match si_cl[ci]? with
    | some (C, T, N) => decide (k < N) && decide ((T k).1 = C) && (decide (lw_tbl[p]? = some (.fieldLink O i C (T k).2.1 (T k).2.2.1)) || decide (lw_tbl[p]? = some (.fieldLinkNest O i C (T k).2.1 (T k).2.2.1 "HandsAlike")))
    | none => false)
  | (.putfield i, _, ci, k, p) => (match si_cl[ci]? with
    | some (C, T, N) => decide (k < N) && decide ((T k).1 = C) && (decide (lw_tbl[p]? = some (.fieldLink O i C (T k).2.1 (T k).2.2.1)) || decide (lw_tbl[p]? = some (.fieldLinkNest O i C (T k).2.1 (T k).2.2.1 "HandsAlike")))
    | none => false)
  | (.invokevirtual i, _, m, b, p) => (match b with
    | 0 => (match si_m m with
      | some y => decide (lw_tbl[p]? = some (.methodLink O i y.2.1))
      | none => false)
    | 7 => decide (lw_tbl[p]? = some (.methodLink O i yJ0_indexOf_0f7a4))
    | 8 => decide (lw_tbl[p]? = some (.methodLink O i yJ0_length_8abf5))
    | _ => false)
  | (.invokestatic i, _, m, b, p) => (match si_m m with
    | some y => (match b with
      | 0 => decide (lw_tbl[p]? = some (.methodLink O i y.2.1))
      | 1 => decide (lw_tbl[p]? = some (.methodLinkNest O i y.2.1 "HandsAlike"))
      | _ => false)
    | none => false)
  | (.invokespecial i, _, m, b, p) => (match b with
    | 9 => decide (lw_tbl[p]? = some (.methodLink O i objectInit))
    | 0 => (match si_m m with
      | some y => decide (lw_tbl[p]? = some (.methodLink O i y.2.1))
      | none => false)
    | 1 => (match si_m m with
      | some y => decide (lw_tbl[p]? = some (.methodLinkNest O i y.2.1 "HandsAlike"))
      | none => false)
    | _ => false)
  | (.ldc i, _, a, b, p) => (match b with
    | 0 => decide (lw_tbl[p]? = some (.constant O i (Int32.ofNat a)))
    | _ => (match a with
      | 1 => decide (lw_tbl[p]? = some (.stringRef O i "cavknotw"))
      | 2 => decide (lw_tbl[p]? = some (.stringRef O i "glsx"))
      | 3 => decide (lw_tbl[p]? = some (.stringRef O i "cavknotw"))
      | _ => false))
  | (.ldc_w i, _, a, b, p) => (match b with
    | 0 => decide (lw_tbl[p]? = some (.constant O i (Int32.ofNat a)))
    | _ => false)
  | (.ldc2_w i, _, a, _, p) => decide (lw_tbl[p]? = some (.constantLong O i (Int64.ofNat a)))
  | (.new i, _, ci, _, p) => (match si_cl[ci]? with
    | some (C, _, _) => decide (lw_tbl[p]? = some (.classLink O i C))
    | none => false)
  | (.newarray t, _, _, _, p) => decide (lw_tbl[p]? = some (.arrayClass (newarray.typeOf t)))
  | _ => true
def si_ieq : Instr → Instr → Bool
  | .iadd, .iadd => true
  | .isub, .isub => true
  | .imul, .imul => true
  | .iand, .iand => true
  | .ior, .ior => true
  | .ixor, .ixor => true
  | .ishl, .ishl => true
  | .ishr, .ishr => true
  | .iushr, .iushr => true
  | .idiv, .idiv => true
  | .irem, .irem => true
  | .ineg, .ineg => true
  | .i2b, .i2b => true
  | .i2c, .i2c => true
  | .i2l, .i2l => true
  | .l2i, .l2i => true
  | .ladd, .ladd => true
  | .lcmp, .lcmp => true
  | .pop, .pop => true
  | .dup, .dup => true
  | .iaload, .iaload => true
  | .iastore, .iastore => true
  | .baload, .baload => true
  | .bastore, .bastore => true
  | .laload, .laload => true
  | .lastore, .lastore => true
  | .arraylength, .arraylength => true
  | .ireturn, .ireturn => true
  | .lreturn, .lreturn => true
  | .return_, .return_ => true
  | .aload_n a, .aload_n b => decide (a = b)
  | .iload_n a, .iload_n b => decide (a = b)
  | .lload_n a, .lload_n b => decide (a = b)
  | .istore_n a, .istore_n b => decide (a = b)
  | .lstore_n a, .lstore_n b => decide (a = b)
  | .astore_n a, .astore_n b => decide (a = b)
  | .aload a, .aload b => decide (a = b)
  | .iload a, .iload b => decide (a = b)
  | .lload a, .lload b => decide (a = b)
  | .istore a, .istore b => decide (a = b)
  | .lstore a, .lstore b => decide (a = b)
  | .astore a, .astore b => decide (a = b)
  | .iconst a, .iconst b => decide (a = b)
  | .bipush a, .bipush b => decide (a = b)
  | .sipush a, .sipush b => decide (a = b)
  | .ldc a, .ldc b => decide (a = b)
  | .ldc_w a, .ldc_w b => decide (a = b)
  | .ldc2_w a, .ldc2_w b => decide (a = b)
  | .lconst a, .lconst b => decide (a = b)
  | .getfield a, .getfield b => decide (a = b)
  | .putfield a, .putfield b => decide (a = b)
  | .invokevirtual a, .invokevirtual b => decide (a = b)
  | .invokestatic a, .invokestatic b => decide (a = b)
  | .invokespecial a, .invokespecial b => decide (a = b)
  | .new a, .new b => decide (a = b)
  | .newarray a, .newarray b => decide (a = b)
  | .goto a, .goto b => decide (a = b)
  | .if_icmp a x, .if_icmp b y => decide (a = b) && decide (x = y)
  | .ifCond a x, .ifCond b y => decide (a = b) && decide (x = y)
  | .iinc a x, .iinc b y => decide (a = b) && decide (x = y)
  | .tableswitch d l h o, .tableswitch d2 l2 h2 o2 => decide (d = d2) && decide (l = l2) && decide (h = h2) && decide (o.toList = o2.toList)
  | .lookupswitch d o, .lookupswitch d2 o2 => decide (d = d2) && decide (o.toList = o2.toList)
  | _, _ => false
theorem si_ieq_eq {a b : Instr} (h : si_ieq a b = true) : a = b := by
  unfold si_ieq at h
  split at h
  all_goals first
    | rfl
    | (simp only [Bool.and_eq_true, decide_eq_true_eq] at h; obtain ⟨⟨⟨h1, h2⟩, h3⟩, h4⟩ := h; rw [h1, h2, h3, Array.toList_inj.mp h4]; done)
    | (simp only [Bool.and_eq_true, decide_eq_true_eq] at h; obtain ⟨h1, h2⟩ := h; first | rw [h1, h2] | rw [h1, Array.toList_inj.mp h2])
    | (simp only [decide_eq_true_eq] at h; rw [h])
    | exact absurd h (by decide)
/-- a row of code is what the machine decodes there, and is linked -/
def lk_r (O : String) (b : ByteArray) (pc : Nat) (bs : List UInt8) (e : si_E) : Bool := (fq bs e || (match decode b pc with
  | .ok (i, n) => si_ieq i e.1 && decide (n = e.2.1)
  | _ => false)) && lk_e O e
def lk_row (O : String) (b : ByteArray) : Nat → List UInt8 → List (Option si_E) → Bool
  | _, _, [] => true
  | pc, bs, none :: r => lk_row O b (pc + 1) bs.tail r
  | pc, bs, some e :: r => lk_r O b pc bs e && lk_row O b (pc + 1) bs.tail r
def lk_cd (O : String) (b : ByteArray) : Nat → List UInt8 → List (List (Option si_E)) → Bool
  | _, _, [] => true
  | pc, bs, x :: r => lk_row O b pc bs x && lk_cd O b (pc + 32) (bs.drop 32) r
theorem lk_r_ok {O : String} {b : ByteArray} {pc : Nat} {bs : List UInt8} {e : si_E} (hb : ∀ j : Nat, b.data.toList[pc + j]? = bs[j]?) (h : lk_r O b pc bs e = true) : decode b pc = .ok (e.1, e.2.1) ∧ lk_e O e = true := by
  unfold lk_r at h
  rw [Bool.and_eq_true, Bool.or_eq_true] at h
  refine ⟨?_, h.2⟩
  rcases h.1 with h1 | h1
  · exact fq_ok hb h1
  · split at h1
    · rename_i i n hd
      rw [Bool.and_eq_true, decide_eq_true_eq] at h1
      rw [hd, si_ieq_eq h1.1, h1.2]
    · cases h1
theorem lk_row_ok {O : String} {b : ByteArray} : ∀ (r : List (Option si_E)) (pc : Nat) (bs : List UInt8), (∀ j : Nat, b.data.toList[pc + j]? = bs[j]?) → lk_row O b pc bs r = true → ∀ (t : Nat) (e : si_E), r[t]? = some (some e) → decode b (pc + t) = .ok (e.1, e.2.1) ∧ lk_e O e = true := by
  intro r
  induction r with
  | nil => intro pc bs _ _ t e ht; cases ht
  | cons x r ih =>
    intro pc bs hb h t e ht
    have hb' : ∀ j : Nat, b.data.toList[pc + 1 + j]? = bs.tail[j]? := fun j => by
      rw [Nat.add_assoc, Nat.add_comm 1 j, hb, List.getElem?_tail]
    cases x with
    | none =>
      cases t with
      | zero => cases ht
      | succ t =>
        have := ih (pc + 1) bs.tail hb' h t e ht
        rwa [Nat.add_assoc, Nat.add_comm 1 t] at this
    | some e0 =>
      unfold lk_row at h
      rw [Bool.and_eq_true] at h
      cases t with
      | zero =>
        cases ht
        exact lk_r_ok hb h.1
      | succ t =>
        have := ih (pc + 1) bs.tail hb' h.2 t e ht
        rwa [Nat.add_assoc, Nat.add_comm 1 t] at this
theorem lk_cd_ok {O : String} {b : ByteArray} : ∀ (r : List (List (Option si_E))) (pc : Nat) (bs : List UInt8), (∀ j : Nat, b.data.toList[pc + j]? = bs[j]?) → lk_cd O b pc bs r = true → ∀ (k t : Nat) (x : List (Option si_E)) (e : si_E), r[k]? = some x → x[t]? = some (some e) → decode b (pc + 32 * k + t) = .ok (e.1, e.2.1) ∧ lk_e O e = true := by
  intro r
  induction r with
  | nil => intro pc bs _ _ k t x e hk; cases hk
  | cons y r ih =>
    intro pc bs hb h k t x e hk ht
    unfold lk_cd at h
    rw [Bool.and_eq_true] at h
    cases k with
    | zero =>
      cases hk
      exact lk_row_ok _ pc bs hb h.1 t e ht
    | succ k =>
      have hb' : ∀ j : Nat, b.data.toList[pc + 32 + j]? = (bs.drop 32)[j]? := fun j => by
        rw [Nat.add_assoc, hb, List.getElem?_drop]
      have := ih (pc + 32) (bs.drop 32) hb' h.2 k t x e hk ht
      rwa [show pc + 32 + 32 * k + t = pc + 32 * (k + 1) + t by omega] at this
/-- a method's own words stand in the tables -/
def lk_m (y : si_M) : Bool := match y with
  | (o, nm, _, mL, rt, kd, na, ps) => (match si_own[o]? with
    | some O => decide (nm.cls = O) && plainFor nm && decide (nm.cls ≠ "java/lang/invoke/MethodHandle" ∧ nm.cls ≠ "java/lang/invoke/VarHandle") && decide ((parseMethodDescriptor nm.desc).map (fun d => d.parameters.length) = some na)
        && decide (((parseMethodDescriptor nm.desc).bind fun d => d.returnType) = rt) && decide (mL ≤ 40)
    | none => false) &&
    (match ps with
    | [_, p1, p2] => decide (lw_tbl[p2]? = some (.initialized nm.cls)) && (match kd with
      | 1 => decide (lw_tbl[p1]? = some (.static nm))
      | 2 => decide (lw_tbl[p1]? = some (.instanceMethod nm)) && decide (nm.name = "<init>") && decide (rt = none)
      | _ => false)
    | [_, p1, p2, p3] => decide (lw_tbl[p2]? = some (.initialized nm.cls)) && decide (lw_tbl[p1]? = some (.instanceMethod nm)) && decide (lw_tbl[p3]? = some (.selects nm.cls nm nm)) && decide (kd = 0)
    | [] => decide (o = 12)
    | _ => false)
def cw_l (ys : List si_M) : List Cond := ys.map (fun y => Cond.code y.2.1 y.2.2.1 y.2.2.2.1 y.2.2.2.2.1)
def cw_r (ys : List si_M) : List Cond := ys.filterMap (fun y => lw_tbl[(y.2.2.2.2.2.2.2)[0]?.getD 0]?)
theorem cw_in {ys : List si_M} (h : cw_l ys = cw_r ys) : ∀ y ∈ ys, Cond.code y.2.1 y.2.2.1 y.2.2.2.1 y.2.2.2.2.1 ∈ lw_tbl := by
  intro y hy
  have h1 : Cond.code y.2.1 y.2.2.1 y.2.2.2.1 y.2.2.2.2.1 ∈ cw_l ys := List.mem_map.mpr ⟨y, hy, rfl⟩
  rw [h] at h1
  obtain ⟨z, -, hz⟩ := List.mem_filterMap.mp h1
  exact List.mem_of_getElem? hz
def lk_one (i : Nat) : Bool := match si_mds[i / 16]?, si_cds[i / 16]? with
  | some r, some c => (match r[i % 16]?, c[i % 16]? with
    | some y, some cd => lk_m y && (match si_own[y.1]? with
      | some O => lk_cd O y.2.2.1 0 y.2.2.1.data.toList cd
      | none => false)
    | _, _ => false)
  | _, _ => false
theorem lk_one_ok {i pc : Nat} {y : si_M} {e : si_E} (h : lk_one i = true) (hy : si_m i = some y) (he : si_fetch i pc = some e) : lk_m y = true ∧ ∃ O, si_own[y.1]? = some O ∧ decode y.2.2.1 pc = .ok (e.1, e.2.1) ∧ lk_e O e = true := by
  unfold lk_one at h
  unfold si_m at hy
  unfold si_fetch at he
  cases h1 : si_mds[i / 16]? with
  | none => rw [h1] at hy; cases hy
  | some r =>
    rw [h1] at hy h
    cases h2 : si_cds[i / 16]? with
    | none => rw [h2] at he; cases he
    | some c =>
      rw [h2] at he h
      dsimp only at hy he h
      rw [hy] at h
      cases h3 : c[i % 16]? with
      | none => rw [h3] at he; cases he
      | some cd =>
        rw [h3] at he h
        dsimp only at he h
        rw [Bool.and_eq_true] at h
        refine ⟨h.1, ?_⟩
        have h4 := h.2
        cases h5 : si_own[y.1]? with
        | none => rw [h5] at h4; cases h4
        | some O =>
          rw [h5] at h4
          dsimp only at h4
          cases h6 : cd[pc / 32]? with
          | none => rw [h6] at he; cases he
          | some x =>
            rw [h6] at he
            dsimp only at he
            cases h7 : x[pc % 32]? with
            | none => rw [h7] at he; cases he
            | some q =>
              rw [h7] at he
              cases q with
              | none => cases he
              | some e' =>
                cases he
                have := lk_cd_ok cd 0 _ (fun j => by rw [Nat.zero_add]) h4 (pc / 32) (pc % 32) x e h6 h7
                rw [Nat.zero_add, Nat.div_add_mod] at this
                exact ⟨O, rfl, this⟩
