/-! the decoder, opcode by opcode: a cheap check of a method's code -/
def dc_at (code : ByteArray) (p b : Nat) : Prop := ∃ h : p < code.size, (code[p]'h).toNat = b
section dc_1
variable {code : ByteArray} {p a b : Nat} {α : Type}
theorem dc_bd {β : Type} {x : Jvm.ClassFile.Decoder α} {v : α} {p' : Nat} (h : x code p = Except.ok (v, p')) (f : α → Jvm.ClassFile.Decoder β) : (x >>= f) code p = f v code p' := by
  have e : (x >>= f) code p = Except.bind (x code p) (fun q => f q.1 code q.2) := rfl
  rw [e, h]
  rfl
theorem dc_mp {β : Type} {x : Jvm.ClassFile.Decoder α} {v : α} {p' : Nat} (h : x code p = Except.ok (v, p')) (g : α → β) : (g <$> x) code p = Except.ok (g v, p') := by
  have e : (g <$> x) code p = Except.bind (x code p) (fun q => Except.ok (g q.1, q.2)) := rfl
  rw [e, h]
  rfl
theorem dc_u1r (h : dc_at code p a) : (Jvm.ClassFile.Reader.u1 : Jvm.ClassFile.Decoder Nat) code p = Except.ok (a, p + 1) := by
  obtain ⟨h1, h2⟩ := h
  subst h2
  show (if h : p < code.size then ((do set (p + 1); pure (code[p]'h).toNat) : Jvm.ClassFile.Decoder Nat) else throw (Jvm.ClassFile.HasTruncated.truncated p)) code p = _
  rw [dif_pos h1]
  rfl
theorem dc_u2r (h1 : dc_at code p a) (h2 : dc_at code (p + 1) b) : (Jvm.ClassFile.Reader.u2 : Jvm.ClassFile.Decoder Nat) code p = Except.ok (a * 256 + b, p + 2) := by
  unfold Jvm.ClassFile.Reader.u2
  rw [dc_bd (dc_u1r h1), dc_bd (dc_u1r h2)]
  rfl
theorem dc_u1 (h : dc_at code p a) (f : Nat → Jvm.ClassFile.Decoder α) : (Jvm.ClassFile.Reader.u1 >>= f) code p = f a code (p + 1) := dc_bd (dc_u1r h) f
theorem dc_u2 (h1 : dc_at code p a) (h2 : dc_at code (p + 1) b) (f : Nat → Jvm.ClassFile.Decoder α) : (Jvm.ClassFile.Reader.u2 >>= f) code p = f (a * 256 + b) code (p + 2) := dc_bd (dc_u2r h1 h2) f
theorem dc_s1 (h : dc_at code p a) (f : Int → Jvm.ClassFile.Decoder α) : (Jvm.ClassFile.Reader.s1 >>= f) code p = f (Jvm.ClassFile.Reader.signed 8 a) code (p + 1) := dc_bd (dc_mp (dc_u1r h) (Jvm.ClassFile.Reader.signed 8)) f
theorem dc_s2 (h1 : dc_at code p a) (h2 : dc_at code (p + 1) b) (f : Int → Jvm.ClassFile.Decoder α) : (Jvm.ClassFile.Reader.s2 >>= f) code p = f (Jvm.ClassFile.Reader.signed 16 (a * 256 + b)) code (p + 2) := dc_bd (dc_mp (dc_u2r h1 h2) (Jvm.ClassFile.Reader.signed 16)) f
theorem dc_dec {i : Instr} {n : Nat} (h : (Jvm.ClassFile.Decoder.instr p) code p = .ok (i, p + n)) : decode code p = .ok (i, n) := by
  have e : decode code p = Except.bind ((Jvm.ClassFile.Decoder.instr p) code p) (fun q => Except.ok (q.1, q.2 - p)) := rfl
  rw [e, h]
  show Except.ok (i, p + n - p) = _
  rw [Nat.add_sub_cancel_left]
end dc_1
section dc_2
set_option maxRecDepth 100000
variable {code : ByteArray} {p a b : Nat}
theorem dc_50 (h : dc_at code p 50) : decode code p = .ok (.aaload, 1) := dc_dec ((dc_u1 h _).trans rfl)
theorem dc_83 (h : dc_at code p 83) : decode code p = .ok (.aastore, 1) := dc_dec ((dc_u1 h _).trans rfl)
theorem dc_190 (h : dc_at code p 190) : decode code p = .ok (.arraylength, 1) := dc_dec ((dc_u1 h _).trans rfl)
theorem dc_51 (h : dc_at code p 51) : decode code p = .ok (.baload, 1) := dc_dec ((dc_u1 h _).trans rfl)
theorem dc_84 (h : dc_at code p 84) : decode code p = .ok (.bastore, 1) := dc_dec ((dc_u1 h _).trans rfl)
theorem dc_89 (h : dc_at code p 89) : decode code p = .ok (.dup, 1) := dc_dec ((dc_u1 h _).trans rfl)
theorem dc_90 (h : dc_at code p 90) : decode code p = .ok (.dup_x1, 1) := dc_dec ((dc_u1 h _).trans rfl)
theorem dc_91 (h : dc_at code p 91) : decode code p = .ok (.dup_x2, 1) := dc_dec ((dc_u1 h _).trans rfl)
theorem dc_92 (h : dc_at code p 92) : decode code p = .ok (.dup2, 1) := dc_dec ((dc_u1 h _).trans rfl)
theorem dc_93 (h : dc_at code p 93) : decode code p = .ok (.dup2_x1, 1) := dc_dec ((dc_u1 h _).trans rfl)
theorem dc_94 (h : dc_at code p 94) : decode code p = .ok (.dup2_x2, 1) := dc_dec ((dc_u1 h _).trans rfl)
theorem dc_145 (h : dc_at code p 145) : decode code p = .ok (.i2b, 1) := dc_dec ((dc_u1 h _).trans rfl)
theorem dc_133 (h : dc_at code p 133) : decode code p = .ok (.i2l, 1) := dc_dec ((dc_u1 h _).trans rfl)
theorem dc_147 (h : dc_at code p 147) : decode code p = .ok (.i2s, 1) := dc_dec ((dc_u1 h _).trans rfl)
theorem dc_96 (h : dc_at code p 96) : decode code p = .ok (.iadd, 1) := dc_dec ((dc_u1 h _).trans rfl)
theorem dc_46 (h : dc_at code p 46) : decode code p = .ok (.iaload, 1) := dc_dec ((dc_u1 h _).trans rfl)
theorem dc_126 (h : dc_at code p 126) : decode code p = .ok (.iand, 1) := dc_dec ((dc_u1 h _).trans rfl)
theorem dc_79 (h : dc_at code p 79) : decode code p = .ok (.iastore, 1) := dc_dec ((dc_u1 h _).trans rfl)
theorem dc_108 (h : dc_at code p 108) : decode code p = .ok (.idiv, 1) := dc_dec ((dc_u1 h _).trans rfl)
theorem dc_104 (h : dc_at code p 104) : decode code p = .ok (.imul, 1) := dc_dec ((dc_u1 h _).trans rfl)
theorem dc_116 (h : dc_at code p 116) : decode code p = .ok (.ineg, 1) := dc_dec ((dc_u1 h _).trans rfl)
theorem dc_128 (h : dc_at code p 128) : decode code p = .ok (.ior, 1) := dc_dec ((dc_u1 h _).trans rfl)
theorem dc_112 (h : dc_at code p 112) : decode code p = .ok (.irem, 1) := dc_dec ((dc_u1 h _).trans rfl)
theorem dc_172 (h : dc_at code p 172) : decode code p = .ok (.ireturn, 1) := dc_dec ((dc_u1 h _).trans rfl)
theorem dc_120 (h : dc_at code p 120) : decode code p = .ok (.ishl, 1) := dc_dec ((dc_u1 h _).trans rfl)
theorem dc_122 (h : dc_at code p 122) : decode code p = .ok (.ishr, 1) := dc_dec ((dc_u1 h _).trans rfl)
theorem dc_100 (h : dc_at code p 100) : decode code p = .ok (.isub, 1) := dc_dec ((dc_u1 h _).trans rfl)
theorem dc_124 (h : dc_at code p 124) : decode code p = .ok (.iushr, 1) := dc_dec ((dc_u1 h _).trans rfl)
theorem dc_130 (h : dc_at code p 130) : decode code p = .ok (.ixor, 1) := dc_dec ((dc_u1 h _).trans rfl)
theorem dc_136 (h : dc_at code p 136) : decode code p = .ok (.l2i, 1) := dc_dec ((dc_u1 h _).trans rfl)
theorem dc_97 (h : dc_at code p 97) : decode code p = .ok (.ladd, 1) := dc_dec ((dc_u1 h _).trans rfl)
theorem dc_47 (h : dc_at code p 47) : decode code p = .ok (.laload, 1) := dc_dec ((dc_u1 h _).trans rfl)
theorem dc_127 (h : dc_at code p 127) : decode code p = .ok (.land, 1) := dc_dec ((dc_u1 h _).trans rfl)
theorem dc_80 (h : dc_at code p 80) : decode code p = .ok (.lastore, 1) := dc_dec ((dc_u1 h _).trans rfl)
theorem dc_148 (h : dc_at code p 148) : decode code p = .ok (.lcmp, 1) := dc_dec ((dc_u1 h _).trans rfl)
theorem dc_109 (h : dc_at code p 109) : decode code p = .ok (.ldiv, 1) := dc_dec ((dc_u1 h _).trans rfl)
theorem dc_105 (h : dc_at code p 105) : decode code p = .ok (.lmul, 1) := dc_dec ((dc_u1 h _).trans rfl)
theorem dc_129 (h : dc_at code p 129) : decode code p = .ok (.lor, 1) := dc_dec ((dc_u1 h _).trans rfl)
theorem dc_173 (h : dc_at code p 173) : decode code p = .ok (.lreturn, 1) := dc_dec ((dc_u1 h _).trans rfl)
theorem dc_121 (h : dc_at code p 121) : decode code p = .ok (.lshl, 1) := dc_dec ((dc_u1 h _).trans rfl)
theorem dc_123 (h : dc_at code p 123) : decode code p = .ok (.lshr, 1) := dc_dec ((dc_u1 h _).trans rfl)
theorem dc_101 (h : dc_at code p 101) : decode code p = .ok (.lsub, 1) := dc_dec ((dc_u1 h _).trans rfl)
theorem dc_125 (h : dc_at code p 125) : decode code p = .ok (.lushr, 1) := dc_dec ((dc_u1 h _).trans rfl)
theorem dc_131 (h : dc_at code p 131) : decode code p = .ok (.lxor, 1) := dc_dec ((dc_u1 h _).trans rfl)
theorem dc_87 (h : dc_at code p 87) : decode code p = .ok (.pop, 1) := dc_dec ((dc_u1 h _).trans rfl)
theorem dc_88 (h : dc_at code p 88) : decode code p = .ok (.pop2, 1) := dc_dec ((dc_u1 h _).trans rfl)
theorem dc_177 (h : dc_at code p 177) : decode code p = .ok (.return_, 1) := dc_dec ((dc_u1 h _).trans rfl)
theorem dc_176 (h : dc_at code p 176) : decode code p = .ok (.areturn, 1) := dc_dec ((dc_u1 h _).trans rfl)
theorem dc_191 (h : dc_at code p 191) : decode code p = .ok (.athrow, 1) := dc_dec ((dc_u1 h _).trans rfl)
theorem dc_2 (h : dc_at code p 2) : decode code p = .ok (.iconst (-1), 1) := dc_dec ((dc_u1 h _).trans rfl)
theorem dc_3 (h : dc_at code p 3) : decode code p = .ok (.iconst (0), 1) := dc_dec ((dc_u1 h _).trans rfl)
theorem dc_4 (h : dc_at code p 4) : decode code p = .ok (.iconst (1), 1) := dc_dec ((dc_u1 h _).trans rfl)
theorem dc_5 (h : dc_at code p 5) : decode code p = .ok (.iconst (2), 1) := dc_dec ((dc_u1 h _).trans rfl)
theorem dc_6 (h : dc_at code p 6) : decode code p = .ok (.iconst (3), 1) := dc_dec ((dc_u1 h _).trans rfl)
theorem dc_7 (h : dc_at code p 7) : decode code p = .ok (.iconst (4), 1) := dc_dec ((dc_u1 h _).trans rfl)
theorem dc_8 (h : dc_at code p 8) : decode code p = .ok (.iconst (5), 1) := dc_dec ((dc_u1 h _).trans rfl)
theorem dc_9 (h : dc_at code p 9) : decode code p = .ok (.lconst 0, 1) := dc_dec ((dc_u1 h _).trans rfl)
theorem dc_10 (h : dc_at code p 10) : decode code p = .ok (.lconst 1, 1) := dc_dec ((dc_u1 h _).trans rfl)
theorem dc_42 (h : dc_at code p 42) : decode code p = .ok (.aload_n 0, 1) := dc_dec ((dc_u1 h _).trans rfl)
theorem dc_43 (h : dc_at code p 43) : decode code p = .ok (.aload_n 1, 1) := dc_dec ((dc_u1 h _).trans rfl)
theorem dc_44 (h : dc_at code p 44) : decode code p = .ok (.aload_n 2, 1) := dc_dec ((dc_u1 h _).trans rfl)
theorem dc_45 (h : dc_at code p 45) : decode code p = .ok (.aload_n 3, 1) := dc_dec ((dc_u1 h _).trans rfl)
theorem dc_26 (h : dc_at code p 26) : decode code p = .ok (.iload_n 0, 1) := dc_dec ((dc_u1 h _).trans rfl)
theorem dc_27 (h : dc_at code p 27) : decode code p = .ok (.iload_n 1, 1) := dc_dec ((dc_u1 h _).trans rfl)
theorem dc_28 (h : dc_at code p 28) : decode code p = .ok (.iload_n 2, 1) := dc_dec ((dc_u1 h _).trans rfl)
theorem dc_29 (h : dc_at code p 29) : decode code p = .ok (.iload_n 3, 1) := dc_dec ((dc_u1 h _).trans rfl)
theorem dc_30 (h : dc_at code p 30) : decode code p = .ok (.lload_n 0, 1) := dc_dec ((dc_u1 h _).trans rfl)
theorem dc_31 (h : dc_at code p 31) : decode code p = .ok (.lload_n 1, 1) := dc_dec ((dc_u1 h _).trans rfl)
theorem dc_32 (h : dc_at code p 32) : decode code p = .ok (.lload_n 2, 1) := dc_dec ((dc_u1 h _).trans rfl)
theorem dc_33 (h : dc_at code p 33) : decode code p = .ok (.lload_n 3, 1) := dc_dec ((dc_u1 h _).trans rfl)
theorem dc_59 (h : dc_at code p 59) : decode code p = .ok (.istore_n 0, 1) := dc_dec ((dc_u1 h _).trans rfl)
theorem dc_60 (h : dc_at code p 60) : decode code p = .ok (.istore_n 1, 1) := dc_dec ((dc_u1 h _).trans rfl)
theorem dc_61 (h : dc_at code p 61) : decode code p = .ok (.istore_n 2, 1) := dc_dec ((dc_u1 h _).trans rfl)
theorem dc_62 (h : dc_at code p 62) : decode code p = .ok (.istore_n 3, 1) := dc_dec ((dc_u1 h _).trans rfl)
theorem dc_63 (h : dc_at code p 63) : decode code p = .ok (.lstore_n 0, 1) := dc_dec ((dc_u1 h _).trans rfl)
theorem dc_64 (h : dc_at code p 64) : decode code p = .ok (.lstore_n 1, 1) := dc_dec ((dc_u1 h _).trans rfl)
theorem dc_65 (h : dc_at code p 65) : decode code p = .ok (.lstore_n 2, 1) := dc_dec ((dc_u1 h _).trans rfl)
theorem dc_66 (h : dc_at code p 66) : decode code p = .ok (.lstore_n 3, 1) := dc_dec ((dc_u1 h _).trans rfl)
theorem dc_75 (h : dc_at code p 75) : decode code p = .ok (.astore_n 0, 1) := dc_dec ((dc_u1 h _).trans rfl)
theorem dc_76 (h : dc_at code p 76) : decode code p = .ok (.astore_n 1, 1) := dc_dec ((dc_u1 h _).trans rfl)
theorem dc_77 (h : dc_at code p 77) : decode code p = .ok (.astore_n 2, 1) := dc_dec ((dc_u1 h _).trans rfl)
theorem dc_78 (h : dc_at code p 78) : decode code p = .ok (.astore_n 3, 1) := dc_dec ((dc_u1 h _).trans rfl)
theorem dc_25 (h : dc_at code p 25) (h1 : dc_at code (p + 1) a) : decode code p = .ok (.aload a, 2) := dc_dec ((dc_u1 h _).trans ((dc_u1 h1 (fun x => (pure (Instr.aload x) : Jvm.ClassFile.Decoder Instr))).trans rfl))
theorem dc_21 (h : dc_at code p 21) (h1 : dc_at code (p + 1) a) : decode code p = .ok (.iload a, 2) := dc_dec ((dc_u1 h _).trans ((dc_u1 h1 (fun x => (pure (Instr.iload x) : Jvm.ClassFile.Decoder Instr))).trans rfl))
theorem dc_22 (h : dc_at code p 22) (h1 : dc_at code (p + 1) a) : decode code p = .ok (.lload a, 2) := dc_dec ((dc_u1 h _).trans ((dc_u1 h1 (fun x => (pure (Instr.lload x) : Jvm.ClassFile.Decoder Instr))).trans rfl))
theorem dc_54 (h : dc_at code p 54) (h1 : dc_at code (p + 1) a) : decode code p = .ok (.istore a, 2) := dc_dec ((dc_u1 h _).trans ((dc_u1 h1 (fun x => (pure (Instr.istore x) : Jvm.ClassFile.Decoder Instr))).trans rfl))
theorem dc_55 (h : dc_at code p 55) (h1 : dc_at code (p + 1) a) : decode code p = .ok (.lstore a, 2) := dc_dec ((dc_u1 h _).trans ((dc_u1 h1 (fun x => (pure (Instr.lstore x) : Jvm.ClassFile.Decoder Instr))).trans rfl))
theorem dc_58 (h : dc_at code p 58) (h1 : dc_at code (p + 1) a) : decode code p = .ok (.astore a, 2) := dc_dec ((dc_u1 h _).trans ((dc_u1 h1 (fun x => (pure (Instr.astore x) : Jvm.ClassFile.Decoder Instr))).trans rfl))
theorem dc_18 (h : dc_at code p 18) (h1 : dc_at code (p + 1) a) : decode code p = .ok (.ldc a, 2) := dc_dec ((dc_u1 h _).trans ((dc_u1 h1 (fun x => (pure (Instr.ldc x) : Jvm.ClassFile.Decoder Instr))).trans rfl))
theorem dc_180 (h : dc_at code p 180) (h1 : dc_at code (p + 1) a) (h2 : dc_at code (p + 1 + 1) b) : decode code p = .ok (.getfield (a * 256 + b), 3) := dc_dec ((dc_u1 h _).trans ((dc_u2 h1 h2 (fun x => (pure (Instr.getfield x) : Jvm.ClassFile.Decoder Instr))).trans rfl))
theorem dc_181 (h : dc_at code p 181) (h1 : dc_at code (p + 1) a) (h2 : dc_at code (p + 1 + 1) b) : decode code p = .ok (.putfield (a * 256 + b), 3) := dc_dec ((dc_u1 h _).trans ((dc_u2 h1 h2 (fun x => (pure (Instr.putfield x) : Jvm.ClassFile.Decoder Instr))).trans rfl))
theorem dc_178 (h : dc_at code p 178) (h1 : dc_at code (p + 1) a) (h2 : dc_at code (p + 1 + 1) b) : decode code p = .ok (.getstatic (a * 256 + b), 3) := dc_dec ((dc_u1 h _).trans ((dc_u2 h1 h2 (fun x => (pure (Instr.getstatic x) : Jvm.ClassFile.Decoder Instr))).trans rfl))
theorem dc_179 (h : dc_at code p 179) (h1 : dc_at code (p + 1) a) (h2 : dc_at code (p + 1 + 1) b) : decode code p = .ok (.putstatic (a * 256 + b), 3) := dc_dec ((dc_u1 h _).trans ((dc_u2 h1 h2 (fun x => (pure (Instr.putstatic x) : Jvm.ClassFile.Decoder Instr))).trans rfl))
theorem dc_182 (h : dc_at code p 182) (h1 : dc_at code (p + 1) a) (h2 : dc_at code (p + 1 + 1) b) : decode code p = .ok (.invokevirtual (a * 256 + b), 3) := dc_dec ((dc_u1 h _).trans ((dc_u2 h1 h2 (fun x => (pure (Instr.invokevirtual x) : Jvm.ClassFile.Decoder Instr))).trans rfl))
theorem dc_183 (h : dc_at code p 183) (h1 : dc_at code (p + 1) a) (h2 : dc_at code (p + 1 + 1) b) : decode code p = .ok (.invokespecial (a * 256 + b), 3) := dc_dec ((dc_u1 h _).trans ((dc_u2 h1 h2 (fun x => (pure (Instr.invokespecial x) : Jvm.ClassFile.Decoder Instr))).trans rfl))
theorem dc_184 (h : dc_at code p 184) (h1 : dc_at code (p + 1) a) (h2 : dc_at code (p + 1 + 1) b) : decode code p = .ok (.invokestatic (a * 256 + b), 3) := dc_dec ((dc_u1 h _).trans ((dc_u2 h1 h2 (fun x => (pure (Instr.invokestatic x) : Jvm.ClassFile.Decoder Instr))).trans rfl))
theorem dc_187 (h : dc_at code p 187) (h1 : dc_at code (p + 1) a) (h2 : dc_at code (p + 1 + 1) b) : decode code p = .ok (.new (a * 256 + b), 3) := dc_dec ((dc_u1 h _).trans ((dc_u2 h1 h2 (fun x => (pure (Instr.new x) : Jvm.ClassFile.Decoder Instr))).trans rfl))
theorem dc_189 (h : dc_at code p 189) (h1 : dc_at code (p + 1) a) (h2 : dc_at code (p + 1 + 1) b) : decode code p = .ok (.anewarray (a * 256 + b), 3) := dc_dec ((dc_u1 h _).trans ((dc_u2 h1 h2 (fun x => (pure (Instr.anewarray x) : Jvm.ClassFile.Decoder Instr))).trans rfl))
theorem dc_19 (h : dc_at code p 19) (h1 : dc_at code (p + 1) a) (h2 : dc_at code (p + 1 + 1) b) : decode code p = .ok (.ldc_w (a * 256 + b), 3) := dc_dec ((dc_u1 h _).trans ((dc_u2 h1 h2 (fun x => (pure (Instr.ldc_w x) : Jvm.ClassFile.Decoder Instr))).trans rfl))
theorem dc_20 (h : dc_at code p 20) (h1 : dc_at code (p + 1) a) (h2 : dc_at code (p + 1 + 1) b) : decode code p = .ok (.ldc2_w (a * 256 + b), 3) := dc_dec ((dc_u1 h _).trans ((dc_u2 h1 h2 (fun x => (pure (Instr.ldc2_w x) : Jvm.ClassFile.Decoder Instr))).trans rfl))
theorem dc_16 (h : dc_at code p 16) (h1 : dc_at code (p + 1) a) : decode code p = .ok (.bipush (Jvm.ClassFile.Reader.signed 8 a), 2) := dc_dec ((dc_u1 h _).trans ((dc_s1 h1 (fun x => (pure (Instr.bipush x) : Jvm.ClassFile.Decoder Instr))).trans rfl))
theorem dc_17 (h : dc_at code p 17) (h1 : dc_at code (p + 1) a) (h2 : dc_at code (p + 1 + 1) b) : decode code p = .ok (.sipush (Jvm.ClassFile.Reader.signed 16 (a * 256 + b)), 3) := dc_dec ((dc_u1 h _).trans ((dc_s2 h1 h2 (fun x => (pure (Instr.sipush x) : Jvm.ClassFile.Decoder Instr))).trans rfl))
theorem dc_153 (h : dc_at code p 153) (h1 : dc_at code (p + 1) a) (h2 : dc_at code (p + 1 + 1) b) : decode code p = .ok (.ifCond .eq (Jvm.ClassFile.Reader.signed 16 (a * 256 + b)), 3) := dc_dec ((dc_u1 h _).trans ((dc_s2 h1 h2 (fun x => (pure (Instr.ifCond .eq x) : Jvm.ClassFile.Decoder Instr))).trans rfl))
theorem dc_154 (h : dc_at code p 154) (h1 : dc_at code (p + 1) a) (h2 : dc_at code (p + 1 + 1) b) : decode code p = .ok (.ifCond .ne (Jvm.ClassFile.Reader.signed 16 (a * 256 + b)), 3) := dc_dec ((dc_u1 h _).trans ((dc_s2 h1 h2 (fun x => (pure (Instr.ifCond .ne x) : Jvm.ClassFile.Decoder Instr))).trans rfl))
theorem dc_155 (h : dc_at code p 155) (h1 : dc_at code (p + 1) a) (h2 : dc_at code (p + 1 + 1) b) : decode code p = .ok (.ifCond .lt (Jvm.ClassFile.Reader.signed 16 (a * 256 + b)), 3) := dc_dec ((dc_u1 h _).trans ((dc_s2 h1 h2 (fun x => (pure (Instr.ifCond .lt x) : Jvm.ClassFile.Decoder Instr))).trans rfl))
theorem dc_156 (h : dc_at code p 156) (h1 : dc_at code (p + 1) a) (h2 : dc_at code (p + 1 + 1) b) : decode code p = .ok (.ifCond .ge (Jvm.ClassFile.Reader.signed 16 (a * 256 + b)), 3) := dc_dec ((dc_u1 h _).trans ((dc_s2 h1 h2 (fun x => (pure (Instr.ifCond .ge x) : Jvm.ClassFile.Decoder Instr))).trans rfl))
theorem dc_157 (h : dc_at code p 157) (h1 : dc_at code (p + 1) a) (h2 : dc_at code (p + 1 + 1) b) : decode code p = .ok (.ifCond .gt (Jvm.ClassFile.Reader.signed 16 (a * 256 + b)), 3) := dc_dec ((dc_u1 h _).trans ((dc_s2 h1 h2 (fun x => (pure (Instr.ifCond .gt x) : Jvm.ClassFile.Decoder Instr))).trans rfl))
theorem dc_158 (h : dc_at code p 158) (h1 : dc_at code (p + 1) a) (h2 : dc_at code (p + 1 + 1) b) : decode code p = .ok (.ifCond .le (Jvm.ClassFile.Reader.signed 16 (a * 256 + b)), 3) := dc_dec ((dc_u1 h _).trans ((dc_s2 h1 h2 (fun x => (pure (Instr.ifCond .le x) : Jvm.ClassFile.Decoder Instr))).trans rfl))
theorem dc_159 (h : dc_at code p 159) (h1 : dc_at code (p + 1) a) (h2 : dc_at code (p + 1 + 1) b) : decode code p = .ok (.if_icmp .eq (Jvm.ClassFile.Reader.signed 16 (a * 256 + b)), 3) := dc_dec ((dc_u1 h _).trans ((dc_s2 h1 h2 (fun x => (pure (Instr.if_icmp .eq x) : Jvm.ClassFile.Decoder Instr))).trans rfl))
theorem dc_160 (h : dc_at code p 160) (h1 : dc_at code (p + 1) a) (h2 : dc_at code (p + 1 + 1) b) : decode code p = .ok (.if_icmp .ne (Jvm.ClassFile.Reader.signed 16 (a * 256 + b)), 3) := dc_dec ((dc_u1 h _).trans ((dc_s2 h1 h2 (fun x => (pure (Instr.if_icmp .ne x) : Jvm.ClassFile.Decoder Instr))).trans rfl))
theorem dc_161 (h : dc_at code p 161) (h1 : dc_at code (p + 1) a) (h2 : dc_at code (p + 1 + 1) b) : decode code p = .ok (.if_icmp .lt (Jvm.ClassFile.Reader.signed 16 (a * 256 + b)), 3) := dc_dec ((dc_u1 h _).trans ((dc_s2 h1 h2 (fun x => (pure (Instr.if_icmp .lt x) : Jvm.ClassFile.Decoder Instr))).trans rfl))
theorem dc_162 (h : dc_at code p 162) (h1 : dc_at code (p + 1) a) (h2 : dc_at code (p + 1 + 1) b) : decode code p = .ok (.if_icmp .ge (Jvm.ClassFile.Reader.signed 16 (a * 256 + b)), 3) := dc_dec ((dc_u1 h _).trans ((dc_s2 h1 h2 (fun x => (pure (Instr.if_icmp .ge x) : Jvm.ClassFile.Decoder Instr))).trans rfl))
theorem dc_163 (h : dc_at code p 163) (h1 : dc_at code (p + 1) a) (h2 : dc_at code (p + 1 + 1) b) : decode code p = .ok (.if_icmp .gt (Jvm.ClassFile.Reader.signed 16 (a * 256 + b)), 3) := dc_dec ((dc_u1 h _).trans ((dc_s2 h1 h2 (fun x => (pure (Instr.if_icmp .gt x) : Jvm.ClassFile.Decoder Instr))).trans rfl))
theorem dc_164 (h : dc_at code p 164) (h1 : dc_at code (p + 1) a) (h2 : dc_at code (p + 1 + 1) b) : decode code p = .ok (.if_icmp .le (Jvm.ClassFile.Reader.signed 16 (a * 256 + b)), 3) := dc_dec ((dc_u1 h _).trans ((dc_s2 h1 h2 (fun x => (pure (Instr.if_icmp .le x) : Jvm.ClassFile.Decoder Instr))).trans rfl))
theorem dc_167 (h : dc_at code p 167) (h1 : dc_at code (p + 1) a) (h2 : dc_at code (p + 1 + 1) b) : decode code p = .ok (.goto (Jvm.ClassFile.Reader.signed 16 (a * 256 + b)), 3) := dc_dec ((dc_u1 h _).trans ((dc_s2 h1 h2 (fun x => (pure (Instr.goto x) : Jvm.ClassFile.Decoder Instr))).trans rfl))
theorem dc_132 (h : dc_at code p 132) (h1 : dc_at code (p + 1) a) (h2 : dc_at code (p + 1 + 1) b) : decode code p = .ok (.iinc a (Jvm.ClassFile.Reader.signed 8 b), 3) := dc_dec ((dc_u1 h _).trans ((dc_u1 h1 (fun x => (Jvm.ClassFile.Reader.s1 : Jvm.ClassFile.Decoder Int) >>= fun y => (pure (Instr.iinc x y) : Jvm.ClassFile.Decoder Instr))).trans ((dc_s1 h2 (fun y => (pure (Instr.iinc a y) : Jvm.ClassFile.Decoder Instr))).trans rfl)))
theorem dc_188_0 (h : dc_at code p 188) (h1 : dc_at code (p + 1) 4) : decode code p = .ok (.newarray .boolean, 2) := dc_dec ((dc_u1 h _).trans ((dc_u1 h1 _).trans rfl))
theorem dc_188_1 (h : dc_at code p 188) (h1 : dc_at code (p + 1) 5) : decode code p = .ok (.newarray .char, 2) := dc_dec ((dc_u1 h _).trans ((dc_u1 h1 _).trans rfl))
theorem dc_188_2 (h : dc_at code p 188) (h1 : dc_at code (p + 1) 6) : decode code p = .ok (.newarray .float, 2) := dc_dec ((dc_u1 h _).trans ((dc_u1 h1 _).trans rfl))
theorem dc_188_3 (h : dc_at code p 188) (h1 : dc_at code (p + 1) 7) : decode code p = .ok (.newarray .double, 2) := dc_dec ((dc_u1 h _).trans ((dc_u1 h1 _).trans rfl))
theorem dc_188_4 (h : dc_at code p 188) (h1 : dc_at code (p + 1) 8) : decode code p = .ok (.newarray .byte, 2) := dc_dec ((dc_u1 h _).trans ((dc_u1 h1 _).trans rfl))
theorem dc_188_5 (h : dc_at code p 188) (h1 : dc_at code (p + 1) 9) : decode code p = .ok (.newarray .short, 2) := dc_dec ((dc_u1 h _).trans ((dc_u1 h1 _).trans rfl))
theorem dc_188_6 (h : dc_at code p 188) (h1 : dc_at code (p + 1) 10) : decode code p = .ok (.newarray .int, 2) := dc_dec ((dc_u1 h _).trans ((dc_u1 h1 _).trans rfl))
theorem dc_188_7 (h : dc_at code p 188) (h1 : dc_at code (p + 1) 11) : decode code p = .ok (.newarray .long, 2) := dc_dec ((dc_u1 h _).trans ((dc_u1 h1 _).trans rfl))
end dc_2
/-- the bytes of an instruction, and its length -/
def dc_c (c : ClassFile.Cond) : Nat := match c with
  | .eq => 0
  | .ne => 1
  | .lt => 2
  | .ge => 3
  | .gt => 4
  | .le => 5
def dc_t (t : Jvm.ClassFile.ArrayType) : Nat := match t with
  | .boolean => 4
  | .char => 5
  | .float => 6
  | .double => 7
  | .byte => 8
  | .short => 9
  | .int => 10
  | .long => 11
def dc_s (k : Nat) (a : Nat) (off : Int) : Bool := decide (Jvm.ClassFile.Reader.signed k a = off)
def dc_b2 (l : List UInt8) : Nat := match l with
  | x :: y :: _ => x.toNat * 256 + y.toNat
  | _ => 0
def dc_b1 (l : List UInt8) : Nat := match l with
  | x :: _ => x.toNat
  | _ => 0
def dc_1o (op : Nat) (l : List UInt8) (len : Nat) : Bool := Nat.beq len 1 && match l with
  | x :: _ => Nat.beq x.toNat op
  | _ => false
def dc_2o (op : Nat) (l : List UInt8) (len : Nat) (f : Nat → Bool) : Bool := Nat.beq len 2 && match l with
  | x :: y :: _ => Nat.beq x.toNat op && f y.toNat
  | _ => false
def dc_3o (op : Nat) (l : List UInt8) (len : Nat) (f : Nat → Nat → Bool) : Bool := Nat.beq len 3 && match l with
  | x :: y :: z :: _ => Nat.beq x.toNat op && f y.toNat z.toNat
  | _ => false
def dc_ck (l : List UInt8) (i : Instr) (len : Nat) : Bool := match i with
  | .aaload => dc_1o 50 l len
  | .aastore => dc_1o 83 l len
  | .arraylength => dc_1o 190 l len
  | .baload => dc_1o 51 l len
  | .bastore => dc_1o 84 l len
  | .dup => dc_1o 89 l len
  | .dup_x1 => dc_1o 90 l len
  | .dup_x2 => dc_1o 91 l len
  | .dup2 => dc_1o 92 l len
  | .dup2_x1 => dc_1o 93 l len
  | .dup2_x2 => dc_1o 94 l len
  | .i2b => dc_1o 145 l len
  | .i2l => dc_1o 133 l len
  | .i2s => dc_1o 147 l len
  | .iadd => dc_1o 96 l len
  | .iaload => dc_1o 46 l len
  | .iand => dc_1o 126 l len
  | .iastore => dc_1o 79 l len
  | .idiv => dc_1o 108 l len
  | .imul => dc_1o 104 l len
  | .ineg => dc_1o 116 l len
  | .ior => dc_1o 128 l len
  | .irem => dc_1o 112 l len
  | .ireturn => dc_1o 172 l len
  | .ishl => dc_1o 120 l len
  | .ishr => dc_1o 122 l len
  | .isub => dc_1o 100 l len
  | .iushr => dc_1o 124 l len
  | .ixor => dc_1o 130 l len
  | .l2i => dc_1o 136 l len
  | .ladd => dc_1o 97 l len
  | .laload => dc_1o 47 l len
  | .land => dc_1o 127 l len
  | .lastore => dc_1o 80 l len
  | .lcmp => dc_1o 148 l len
  | .ldiv => dc_1o 109 l len
  | .lmul => dc_1o 105 l len
  | .lor => dc_1o 129 l len
  | .lreturn => dc_1o 173 l len
  | .lshl => dc_1o 121 l len
  | .lshr => dc_1o 123 l len
  | .lsub => dc_1o 101 l len
  | .lushr => dc_1o 125 l len
  | .lxor => dc_1o 131 l len
  | .pop => dc_1o 87 l len
  | .pop2 => dc_1o 88 l len
  | .return_ => dc_1o 177 l len
  | .areturn => dc_1o 176 l len
  | .athrow => dc_1o 191 l len
  | .iconst z => decide (-1 ≤ z) && (decide (z ≤ 5) && dc_1o (3 + z).toNat l len)
  | .lconst z => dc_1o (9 + z.val) l len
  | .aload_n j => dc_1o (42 + j.val) l len
  | .iload_n j => dc_1o (26 + j.val) l len
  | .lload_n j => dc_1o (30 + j.val) l len
  | .istore_n j => dc_1o (59 + j.val) l len
  | .lstore_n j => dc_1o (63 + j.val) l len
  | .astore_n j => dc_1o (75 + j.val) l len
  | .aload k => dc_2o 25 l len (fun a => Nat.beq a k)
  | .iload k => dc_2o 21 l len (fun a => Nat.beq a k)
  | .lload k => dc_2o 22 l len (fun a => Nat.beq a k)
  | .istore k => dc_2o 54 l len (fun a => Nat.beq a k)
  | .lstore k => dc_2o 55 l len (fun a => Nat.beq a k)
  | .astore k => dc_2o 58 l len (fun a => Nat.beq a k)
  | .ldc k => dc_2o 18 l len (fun a => Nat.beq a k)
  | .getfield k => dc_3o 180 l len (fun a b => Nat.beq (a * 256 + b) k)
  | .putfield k => dc_3o 181 l len (fun a b => Nat.beq (a * 256 + b) k)
  | .getstatic k => dc_3o 178 l len (fun a b => Nat.beq (a * 256 + b) k)
  | .putstatic k => dc_3o 179 l len (fun a b => Nat.beq (a * 256 + b) k)
  | .invokevirtual k => dc_3o 182 l len (fun a b => Nat.beq (a * 256 + b) k)
  | .invokespecial k => dc_3o 183 l len (fun a b => Nat.beq (a * 256 + b) k)
  | .invokestatic k => dc_3o 184 l len (fun a b => Nat.beq (a * 256 + b) k)
  | .new k => dc_3o 187 l len (fun a b => Nat.beq (a * 256 + b) k)
  | .anewarray k => dc_3o 189 l len (fun a b => Nat.beq (a * 256 + b) k)
  | .ldc_w k => dc_3o 19 l len (fun a b => Nat.beq (a * 256 + b) k)
  | .ldc2_w k => dc_3o 20 l len (fun a b => Nat.beq (a * 256 + b) k)
  | .bipush z => dc_2o 16 l len (fun a => dc_s 8 a z)
  | .sipush z => dc_3o 17 l len (fun a b => dc_s 16 (a * 256 + b) z)
  | .ifCond c z => dc_3o (153 + dc_c c) l len (fun a b => dc_s 16 (a * 256 + b) z)
  | .if_icmp c z => dc_3o (159 + dc_c c) l len (fun a b => dc_s 16 (a * 256 + b) z)
  | .goto z => dc_3o 167 l len (fun a b => dc_s 16 (a * 256 + b) z)
  | .iinc k z => dc_3o 132 l len (fun a b => Nat.beq a k && dc_s 8 b z)
  | .newarray t => dc_2o 188 l len (fun a => Nat.beq a (dc_t t))
  | _ => false
section dc_3
variable {code : ByteArray} {p : Nat} {l : List UInt8} {len : Nat}
theorem dc_get (h : code.data.toList.drop p = l) {j : Nat} {x : UInt8} (hx : l[j]? = some x) : dc_at code (p + j) x.toNat := by
  rw [← h, List.getElem?_drop] at hx
  obtain ⟨h1, h2⟩ := List.getElem?_eq_some_iff.mp hx
  have h3 : p + j < code.size := by
    show p + j < code.data.size
    rw [← Array.length_toList]
    exact h1
  refine ⟨h3, ?_⟩
  show (code.data[p + j]'h3).toNat = x.toNat
  rw [← h2, Array.getElem_toList]
theorem dc_1o_ok {op : Nat} (h : code.data.toList.drop p = l) (hc : dc_1o op l len = true) : len = 1 ∧ dc_at code p op := by
  unfold dc_1o at hc
  rw [Bool.and_eq_true] at hc
  refine ⟨Nat.eq_of_beq_eq_true hc.1, ?_⟩
  cases l with
  | nil => exact absurd hc.2 (by simp)
  | cons x r =>
    have := dc_get h (j := 0) (x := x) rfl
    rw [← Nat.eq_of_beq_eq_true hc.2]
    exact this
theorem dc_2o_ok {op : Nat} {f : Nat → Bool} (h : code.data.toList.drop p = l) (hc : dc_2o op l len f = true) : len = 2 ∧ dc_at code p op ∧ ∃ a, dc_at code (p + 1) a ∧ f a = true := by
  unfold dc_2o at hc
  rw [Bool.and_eq_true] at hc
  refine ⟨Nat.eq_of_beq_eq_true hc.1, ?_⟩
  match l, h, hc.2 with
  | x :: y :: r, h, hc =>
    simp only [Bool.and_eq_true] at hc
    have h1 := dc_get h (j := 0) (x := x) rfl
    have h2 := dc_get h (j := 1) (x := y) rfl
    rw [← Nat.eq_of_beq_eq_true hc.1]
    exact ⟨h1, _, h2, hc.2⟩
theorem dc_3o_ok {op : Nat} {f : Nat → Nat → Bool} (h : code.data.toList.drop p = l) (hc : dc_3o op l len f = true) : len = 3 ∧ dc_at code p op ∧ ∃ a b, dc_at code (p + 1) a ∧ dc_at code (p + 1 + 1) b ∧ f a b = true := by
  unfold dc_3o at hc
  rw [Bool.and_eq_true] at hc
  refine ⟨Nat.eq_of_beq_eq_true hc.1, ?_⟩
  match l, h, hc.2 with
  | x :: y :: z :: r, h, hc =>
    simp only [Bool.and_eq_true] at hc
    have h1 := dc_get h (j := 0) (x := x) rfl
    have h2 := dc_get h (j := 1) (x := y) rfl
    have h3 := dc_get h (j := 2) (x := z) rfl
    rw [← Nat.eq_of_beq_eq_true hc.1]
    exact ⟨h1, _, _, h2, h3, hc.2⟩
theorem dc_ck_ok {i : Instr} (h : code.data.toList.drop p = l) (hc : dc_ck l i len = true) : decode code p = .ok (i, len) := by
  cases i
  case aaload => obtain ⟨rfl, h1⟩ := dc_1o_ok h hc; exact dc_50 h1
  case aastore => obtain ⟨rfl, h1⟩ := dc_1o_ok h hc; exact dc_83 h1
  case arraylength => obtain ⟨rfl, h1⟩ := dc_1o_ok h hc; exact dc_190 h1
  case baload => obtain ⟨rfl, h1⟩ := dc_1o_ok h hc; exact dc_51 h1
  case bastore => obtain ⟨rfl, h1⟩ := dc_1o_ok h hc; exact dc_84 h1
  case dup => obtain ⟨rfl, h1⟩ := dc_1o_ok h hc; exact dc_89 h1
  case dup_x1 => obtain ⟨rfl, h1⟩ := dc_1o_ok h hc; exact dc_90 h1
  case dup_x2 => obtain ⟨rfl, h1⟩ := dc_1o_ok h hc; exact dc_91 h1
  case dup2 => obtain ⟨rfl, h1⟩ := dc_1o_ok h hc; exact dc_92 h1
  case dup2_x1 => obtain ⟨rfl, h1⟩ := dc_1o_ok h hc; exact dc_93 h1
  case dup2_x2 => obtain ⟨rfl, h1⟩ := dc_1o_ok h hc; exact dc_94 h1
  case i2b => obtain ⟨rfl, h1⟩ := dc_1o_ok h hc; exact dc_145 h1
  case i2l => obtain ⟨rfl, h1⟩ := dc_1o_ok h hc; exact dc_133 h1
  case i2s => obtain ⟨rfl, h1⟩ := dc_1o_ok h hc; exact dc_147 h1
  case iadd => obtain ⟨rfl, h1⟩ := dc_1o_ok h hc; exact dc_96 h1
  case iaload => obtain ⟨rfl, h1⟩ := dc_1o_ok h hc; exact dc_46 h1
  case iand => obtain ⟨rfl, h1⟩ := dc_1o_ok h hc; exact dc_126 h1
  case iastore => obtain ⟨rfl, h1⟩ := dc_1o_ok h hc; exact dc_79 h1
  case idiv => obtain ⟨rfl, h1⟩ := dc_1o_ok h hc; exact dc_108 h1
  case imul => obtain ⟨rfl, h1⟩ := dc_1o_ok h hc; exact dc_104 h1
  case ineg => obtain ⟨rfl, h1⟩ := dc_1o_ok h hc; exact dc_116 h1
  case ior => obtain ⟨rfl, h1⟩ := dc_1o_ok h hc; exact dc_128 h1
  case irem => obtain ⟨rfl, h1⟩ := dc_1o_ok h hc; exact dc_112 h1
  case ireturn => obtain ⟨rfl, h1⟩ := dc_1o_ok h hc; exact dc_172 h1
  case ishl => obtain ⟨rfl, h1⟩ := dc_1o_ok h hc; exact dc_120 h1
  case ishr => obtain ⟨rfl, h1⟩ := dc_1o_ok h hc; exact dc_122 h1
  case isub => obtain ⟨rfl, h1⟩ := dc_1o_ok h hc; exact dc_100 h1
  case iushr => obtain ⟨rfl, h1⟩ := dc_1o_ok h hc; exact dc_124 h1
  case ixor => obtain ⟨rfl, h1⟩ := dc_1o_ok h hc; exact dc_130 h1
  case l2i => obtain ⟨rfl, h1⟩ := dc_1o_ok h hc; exact dc_136 h1
  case ladd => obtain ⟨rfl, h1⟩ := dc_1o_ok h hc; exact dc_97 h1
  case laload => obtain ⟨rfl, h1⟩ := dc_1o_ok h hc; exact dc_47 h1
  case land => obtain ⟨rfl, h1⟩ := dc_1o_ok h hc; exact dc_127 h1
  case lastore => obtain ⟨rfl, h1⟩ := dc_1o_ok h hc; exact dc_80 h1
  case lcmp => obtain ⟨rfl, h1⟩ := dc_1o_ok h hc; exact dc_148 h1
  case ldiv => obtain ⟨rfl, h1⟩ := dc_1o_ok h hc; exact dc_109 h1
  case lmul => obtain ⟨rfl, h1⟩ := dc_1o_ok h hc; exact dc_105 h1
  case lor => obtain ⟨rfl, h1⟩ := dc_1o_ok h hc; exact dc_129 h1
  case lreturn => obtain ⟨rfl, h1⟩ := dc_1o_ok h hc; exact dc_173 h1
  case lshl => obtain ⟨rfl, h1⟩ := dc_1o_ok h hc; exact dc_121 h1
  case lshr => obtain ⟨rfl, h1⟩ := dc_1o_ok h hc; exact dc_123 h1
  case lsub => obtain ⟨rfl, h1⟩ := dc_1o_ok h hc; exact dc_101 h1
  case lushr => obtain ⟨rfl, h1⟩ := dc_1o_ok h hc; exact dc_125 h1
  case lxor => obtain ⟨rfl, h1⟩ := dc_1o_ok h hc; exact dc_131 h1
  case pop => obtain ⟨rfl, h1⟩ := dc_1o_ok h hc; exact dc_87 h1
  case pop2 => obtain ⟨rfl, h1⟩ := dc_1o_ok h hc; exact dc_88 h1
  case return_ => obtain ⟨rfl, h1⟩ := dc_1o_ok h hc; exact dc_177 h1
  case areturn => obtain ⟨rfl, h1⟩ := dc_1o_ok h hc; exact dc_176 h1
  case athrow => obtain ⟨rfl, h1⟩ := dc_1o_ok h hc; exact dc_191 h1
  case iconst z =>
    simp only [dc_ck, Bool.and_eq_true, decide_eq_true_eq] at hc
    obtain ⟨c1, c2, c3⟩ := hc
    obtain ⟨rfl, h1⟩ := dc_1o_ok h c3
    have : z = -1 ∨ z = 0 ∨ z = 1 ∨ z = 2 ∨ z = 3 ∨ z = 4 ∨ z = 5 := by omega
    rcases this with rfl | rfl | rfl | rfl | rfl | rfl | rfl
    · exact dc_2 h1
    · exact dc_3 h1
    · exact dc_4 h1
    · exact dc_5 h1
    · exact dc_6 h1
    · exact dc_7 h1
    · exact dc_8 h1
  case lconst z =>
    obtain ⟨rfl, h1⟩ := dc_1o_ok h hc
    match z, h1 with
    | 0, h1 => exact dc_9 h1
    | 1, h1 => exact dc_10 h1
  case aload_n j =>
    obtain ⟨rfl, h1⟩ := dc_1o_ok h hc
    match j, h1 with
    | 0, h1 => exact dc_42 h1
    | 1, h1 => exact dc_43 h1
    | 2, h1 => exact dc_44 h1
    | 3, h1 => exact dc_45 h1
  case iload_n j =>
    obtain ⟨rfl, h1⟩ := dc_1o_ok h hc
    match j, h1 with
    | 0, h1 => exact dc_26 h1
    | 1, h1 => exact dc_27 h1
    | 2, h1 => exact dc_28 h1
    | 3, h1 => exact dc_29 h1
  case lload_n j =>
    obtain ⟨rfl, h1⟩ := dc_1o_ok h hc
    match j, h1 with
    | 0, h1 => exact dc_30 h1
    | 1, h1 => exact dc_31 h1
    | 2, h1 => exact dc_32 h1
    | 3, h1 => exact dc_33 h1
  case istore_n j =>
    obtain ⟨rfl, h1⟩ := dc_1o_ok h hc
    match j, h1 with
    | 0, h1 => exact dc_59 h1
    | 1, h1 => exact dc_60 h1
    | 2, h1 => exact dc_61 h1
    | 3, h1 => exact dc_62 h1
  case lstore_n j =>
    obtain ⟨rfl, h1⟩ := dc_1o_ok h hc
    match j, h1 with
    | 0, h1 => exact dc_63 h1
    | 1, h1 => exact dc_64 h1
    | 2, h1 => exact dc_65 h1
    | 3, h1 => exact dc_66 h1
  case astore_n j =>
    obtain ⟨rfl, h1⟩ := dc_1o_ok h hc
    match j, h1 with
    | 0, h1 => exact dc_75 h1
    | 1, h1 => exact dc_76 h1
    | 2, h1 => exact dc_77 h1
    | 3, h1 => exact dc_78 h1
  case aload k => simp only [dc_ck] at hc; obtain ⟨rfl, h1, a, h2, h3⟩ := dc_2o_ok h hc; rw [← Nat.eq_of_beq_eq_true h3]; exact dc_25 h1 h2
  case iload k => simp only [dc_ck] at hc; obtain ⟨rfl, h1, a, h2, h3⟩ := dc_2o_ok h hc; rw [← Nat.eq_of_beq_eq_true h3]; exact dc_21 h1 h2
  case lload k => simp only [dc_ck] at hc; obtain ⟨rfl, h1, a, h2, h3⟩ := dc_2o_ok h hc; rw [← Nat.eq_of_beq_eq_true h3]; exact dc_22 h1 h2
  case istore k => simp only [dc_ck] at hc; obtain ⟨rfl, h1, a, h2, h3⟩ := dc_2o_ok h hc; rw [← Nat.eq_of_beq_eq_true h3]; exact dc_54 h1 h2
  case lstore k => simp only [dc_ck] at hc; obtain ⟨rfl, h1, a, h2, h3⟩ := dc_2o_ok h hc; rw [← Nat.eq_of_beq_eq_true h3]; exact dc_55 h1 h2
  case astore k => simp only [dc_ck] at hc; obtain ⟨rfl, h1, a, h2, h3⟩ := dc_2o_ok h hc; rw [← Nat.eq_of_beq_eq_true h3]; exact dc_58 h1 h2
  case ldc k => simp only [dc_ck] at hc; obtain ⟨rfl, h1, a, h2, h3⟩ := dc_2o_ok h hc; rw [← Nat.eq_of_beq_eq_true h3]; exact dc_18 h1 h2
  case getfield k => simp only [dc_ck] at hc; obtain ⟨rfl, h1, a, b, h2, h3, h4⟩ := dc_3o_ok h hc; rw [← Nat.eq_of_beq_eq_true h4]; exact dc_180 h1 h2 h3
  case putfield k => simp only [dc_ck] at hc; obtain ⟨rfl, h1, a, b, h2, h3, h4⟩ := dc_3o_ok h hc; rw [← Nat.eq_of_beq_eq_true h4]; exact dc_181 h1 h2 h3
  case getstatic k => simp only [dc_ck] at hc; obtain ⟨rfl, h1, a, b, h2, h3, h4⟩ := dc_3o_ok h hc; rw [← Nat.eq_of_beq_eq_true h4]; exact dc_178 h1 h2 h3
  case putstatic k => simp only [dc_ck] at hc; obtain ⟨rfl, h1, a, b, h2, h3, h4⟩ := dc_3o_ok h hc; rw [← Nat.eq_of_beq_eq_true h4]; exact dc_179 h1 h2 h3
  case invokevirtual k => simp only [dc_ck] at hc; obtain ⟨rfl, h1, a, b, h2, h3, h4⟩ := dc_3o_ok h hc; rw [← Nat.eq_of_beq_eq_true h4]; exact dc_182 h1 h2 h3
  case invokespecial k => simp only [dc_ck] at hc; obtain ⟨rfl, h1, a, b, h2, h3, h4⟩ := dc_3o_ok h hc; rw [← Nat.eq_of_beq_eq_true h4]; exact dc_183 h1 h2 h3
  case invokestatic k => simp only [dc_ck] at hc; obtain ⟨rfl, h1, a, b, h2, h3, h4⟩ := dc_3o_ok h hc; rw [← Nat.eq_of_beq_eq_true h4]; exact dc_184 h1 h2 h3
  case new k => simp only [dc_ck] at hc; obtain ⟨rfl, h1, a, b, h2, h3, h4⟩ := dc_3o_ok h hc; rw [← Nat.eq_of_beq_eq_true h4]; exact dc_187 h1 h2 h3
  case anewarray k => simp only [dc_ck] at hc; obtain ⟨rfl, h1, a, b, h2, h3, h4⟩ := dc_3o_ok h hc; rw [← Nat.eq_of_beq_eq_true h4]; exact dc_189 h1 h2 h3
  case ldc_w k => simp only [dc_ck] at hc; obtain ⟨rfl, h1, a, b, h2, h3, h4⟩ := dc_3o_ok h hc; rw [← Nat.eq_of_beq_eq_true h4]; exact dc_19 h1 h2 h3
  case ldc2_w k => simp only [dc_ck] at hc; obtain ⟨rfl, h1, a, b, h2, h3, h4⟩ := dc_3o_ok h hc; rw [← Nat.eq_of_beq_eq_true h4]; exact dc_20 h1 h2 h3
  case bipush z => simp only [dc_ck] at hc; obtain ⟨rfl, h1, a, h2, h3⟩ := dc_2o_ok h hc; rw [← of_decide_eq_true h3]; exact dc_16 h1 h2
  case sipush z => simp only [dc_ck] at hc; obtain ⟨rfl, h1, a, b, h2, h3, h4⟩ := dc_3o_ok h hc; rw [← of_decide_eq_true h4]; exact dc_17 h1 h2 h3
  case goto z => simp only [dc_ck] at hc; obtain ⟨rfl, h1, a, b, h2, h3, h4⟩ := dc_3o_ok h hc; rw [← of_decide_eq_true h4]; exact dc_167 h1 h2 h3
  case ifCond c z =>
    simp only [dc_ck] at hc
    obtain ⟨rfl, h1, a, b, h2, h3, h4⟩ := dc_3o_ok h hc
    rw [← of_decide_eq_true h4]
    match c, h1 with
    | .eq, h1 => exact dc_153 h1 h2 h3
    | .ne, h1 => exact dc_154 h1 h2 h3
    | .lt, h1 => exact dc_155 h1 h2 h3
    | .ge, h1 => exact dc_156 h1 h2 h3
    | .gt, h1 => exact dc_157 h1 h2 h3
    | .le, h1 => exact dc_158 h1 h2 h3
  case if_icmp c z =>
    simp only [dc_ck] at hc
    obtain ⟨rfl, h1, a, b, h2, h3, h4⟩ := dc_3o_ok h hc
    rw [← of_decide_eq_true h4]
    match c, h1 with
    | .eq, h1 => exact dc_159 h1 h2 h3
    | .ne, h1 => exact dc_160 h1 h2 h3
    | .lt, h1 => exact dc_161 h1 h2 h3
    | .ge, h1 => exact dc_162 h1 h2 h3
    | .gt, h1 => exact dc_163 h1 h2 h3
    | .le, h1 => exact dc_164 h1 h2 h3
  case iinc k z =>
    simp only [dc_ck] at hc
    obtain ⟨rfl, h1, a, b, h2, h3, h4⟩ := dc_3o_ok h hc
    simp only [Bool.and_eq_true] at h4
    rw [← Nat.eq_of_beq_eq_true h4.1, ← of_decide_eq_true h4.2]
    exact dc_132 h1 h2 h3
  case newarray t =>
    simp only [dc_ck] at hc
    obtain ⟨rfl, h1, a, h2, h3⟩ := dc_2o_ok h hc
    have := Nat.eq_of_beq_eq_true h3
    subst this
    match t, h2 with
    | .boolean, h2 => exact dc_188_0 h1 h2
    | .char, h2 => exact dc_188_1 h1 h2
    | .float, h2 => exact dc_188_2 h1 h2
    | .double, h2 => exact dc_188_3 h1 h2
    | .byte, h2 => exact dc_188_4 h1 h2
    | .short, h2 => exact dc_188_5 h1 h2
    | .int, h2 => exact dc_188_6 h1 h2
    | .long, h2 => exact dc_188_7 h1 h2
  all_goals exact absurd hc (by simp [dc_ck])
end dc_3
def dc_all (code : ByteArray) : List UInt8 → Nat → List (Nat × Nat × Instr) → Bool
  | _, _, [] => true
  | l, pc, q :: r => Nat.beq q.1 pc && ((dc_ck l q.2.2 q.2.1 || decide (decode code pc = .ok (q.2.2, q.2.1))) && dc_all code (l.drop q.2.1) (pc + q.2.1) r)
theorem dc_all_ok {code : ByteArray} : ∀ {cd : List (Nat × Nat × Instr)} {l : List UInt8} {pc : Nat}, code.data.toList.drop pc = l → dc_all code l pc cd = true → ∀ q ∈ cd, decode code q.1 = .ok (q.2.2, q.2.1) := by
  intro cd
  induction cd with
  | nil => intro l pc _ _ q hq; cases hq
  | cons z r ih =>
    intro l pc hl h q hq
    simp only [dc_all, Bool.and_eq_true, Bool.or_eq_true] at h
    obtain ⟨h1, h2, h3⟩ := h
    rcases List.mem_cons.mp hq with rfl | hq
    · rw [Nat.eq_of_beq_eq_true h1]
      rcases h2 with h2 | h2
      · exact dc_ck_ok hl h2
      · exact of_decide_eq_true h2
    · exact ih (by rw [← hl, List.drop_drop]) h3 q hq
def px_okC2 (M : px_M) : Bool := dc_all (px_by M) (px_by M).data.toList 0 (px_cd M) && (px_cd M).all (fun q => px_okI q.1 q.2.1 q.2.2)
theorem px_okC2_ok {M : px_M} (h : px_okC2 M = true) : px_okC M = true := by
  simp only [px_okC2, Bool.and_eq_true, List.all_eq_true] at h
  simp only [px_okC, List.all_eq_true, Bool.and_eq_true, decide_eq_true_eq]
  exact fun q hq => ⟨dc_all_ok (pc := 0) List.drop_zero h.1 q hq, h.2 q hq⟩
def px_okM2 (cl : List vw_C) (T : px_T) (P : List px_M) (CW CE : List px_Cw) (mf : List (Nat × Nat × Nat)) (o kM cM : Nat) (M : px_M) : Bool := px_okC2 M && (px_cp M).all (px_okR cl T P CW CE mf o kM cM M)
theorem px_okM2_ok {cl : List vw_C} {T : px_T} {P : List px_M} {CW CE : List px_Cw} {mf : List (Nat × Nat × Nat)} {o kM cM : Nat} {M : px_M} (h : px_okM2 cl T P CW CE mf o kM cM M = true) : px_okM cl T P CW CE mf o kM cM M = true := by
  simp only [px_okM2, Bool.and_eq_true] at h
  simp only [px_okM, Bool.and_eq_true]
  exact ⟨px_okC2_ok h.1, h.2⟩
