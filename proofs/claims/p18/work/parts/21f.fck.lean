/-! ===== INSTRUCTIONS BY THEIR BYTES: what decode answers, of bytes that are known ===== -/
section FCK
variable {code : ByteArray} {p pc a b n : Nat} {α : Type}
def bat (code : ByteArray) (p n : Nat) : Prop := ∃ h : p < code.size, (code[p]).toNat = n
theorem u1_at (h : bat code p n) : Reader.runAt (Reader.u1 : Decoder Nat) code p = .ok (n, p + 1) := by
  obtain ⟨h1, rfl⟩ := h
  show (if h : p < code.size then (do set (p + 1); pure (code[p]).toNat : Decoder Nat) else throw (HasTruncated.truncated p)) code p = _
  rw [dif_pos h1]
  rfl
theorem run_u1 {K : Nat → Decoder α} (h : bat code p n) : Reader.runAt (Reader.u1 >>= K) code p = Reader.runAt (K n) code (p + 1) := by
  show Except.bind (Reader.runAt (Reader.u1 : Decoder Nat) code p) (fun x => Reader.runAt (K x.1) code x.2) = _
  rw [u1_at h]
  rfl
theorem u2_at (h : bat code p a) (g : bat code (p + 1) b) : Reader.runAt (Reader.u2 : Decoder Nat) code p = .ok (a * 256 + b, p + 2) := (run_u1 h).trans (run_u1 g)
theorem run_of {β : Type} {X : Decoder β} {x : β} {q : Nat} {K : β → Decoder α} (h : Reader.runAt X code p = .ok (x, q)) : Reader.runAt (X >>= K) code p = Reader.runAt (K x) code q := by
  show Except.bind (Reader.runAt X code p) (fun x => Reader.runAt (K x.1) code x.2) = _
  rw [h]
  rfl
theorem map_of {β : Type} {X : Decoder β} {x : β} {q : Nat} {f : β → α} (h : Reader.runAt X code p = .ok (x, q)) : Reader.runAt (f <$> X) code p = .ok (f x, q) := by
  show Except.bind (Reader.runAt X code p) (fun x => Except.ok (f x.1, x.2)) = _
  rw [h]
  rfl
theorem run_u2 {K : Nat → Decoder α} (h : bat code p a) (g : bat code (p + 1) b) : Reader.runAt (Reader.u2 >>= K) code p = Reader.runAt (K (a * 256 + b)) code (p + 2) := run_of (u2_at h g)
theorem run_s1 {K : Int → Decoder α} (h : bat code p a) : Reader.runAt (Reader.s1 >>= K) code p = Reader.runAt (K (Reader.signed 8 a)) code (p + 1) := run_of (map_of (u1_at h))
theorem run_s2 {K : Int → Decoder α} (h : bat code p a) (g : bat code (p + 1) b) : Reader.runAt (Reader.s2 >>= K) code p = Reader.runAt (K (Reader.signed 16 (a * 256 + b))) code (p + 2) := run_of (map_of (u2_at h g))
theorem dec_of {i : Instr} {l : Nat} (h : Reader.runAt (Decoder.instr pc) code pc = .ok (i, pc + l)) : decode code pc = .ok (i, l) := by
  have e : decode code pc = .ok (i, pc + l - pc) := by
    unfold decode
    rw [h]
    rfl
  rw [e, Nat.add_sub_cancel_left]

theorem d_1 (h : bat code pc 1) : decode code pc = .ok (.aconst_null, 1) := dec_of (run_u1 h)
theorem d_46 (h : bat code pc 46) : decode code pc = .ok (.iaload, 1) := dec_of (run_u1 h)
theorem d_47 (h : bat code pc 47) : decode code pc = .ok (.laload, 1) := dec_of (run_u1 h)
theorem d_50 (h : bat code pc 50) : decode code pc = .ok (.aaload, 1) := dec_of (run_u1 h)
theorem d_51 (h : bat code pc 51) : decode code pc = .ok (.baload, 1) := dec_of (run_u1 h)
theorem d_52 (h : bat code pc 52) : decode code pc = .ok (.caload, 1) := dec_of (run_u1 h)
theorem d_79 (h : bat code pc 79) : decode code pc = .ok (.iastore, 1) := dec_of (run_u1 h)
theorem d_80 (h : bat code pc 80) : decode code pc = .ok (.lastore, 1) := dec_of (run_u1 h)
theorem d_83 (h : bat code pc 83) : decode code pc = .ok (.aastore, 1) := dec_of (run_u1 h)
theorem d_84 (h : bat code pc 84) : decode code pc = .ok (.bastore, 1) := dec_of (run_u1 h)
theorem d_85 (h : bat code pc 85) : decode code pc = .ok (.castore, 1) := dec_of (run_u1 h)
theorem d_87 (h : bat code pc 87) : decode code pc = .ok (.pop, 1) := dec_of (run_u1 h)
theorem d_88 (h : bat code pc 88) : decode code pc = .ok (.pop2, 1) := dec_of (run_u1 h)
theorem d_89 (h : bat code pc 89) : decode code pc = .ok (.dup, 1) := dec_of (run_u1 h)
theorem d_90 (h : bat code pc 90) : decode code pc = .ok (.dup_x1, 1) := dec_of (run_u1 h)
theorem d_91 (h : bat code pc 91) : decode code pc = .ok (.dup_x2, 1) := dec_of (run_u1 h)
theorem d_92 (h : bat code pc 92) : decode code pc = .ok (.dup2, 1) := dec_of (run_u1 h)
theorem d_96 (h : bat code pc 96) : decode code pc = .ok (.iadd, 1) := dec_of (run_u1 h)
theorem d_97 (h : bat code pc 97) : decode code pc = .ok (.ladd, 1) := dec_of (run_u1 h)
theorem d_100 (h : bat code pc 100) : decode code pc = .ok (.isub, 1) := dec_of (run_u1 h)
theorem d_101 (h : bat code pc 101) : decode code pc = .ok (.lsub, 1) := dec_of (run_u1 h)
theorem d_104 (h : bat code pc 104) : decode code pc = .ok (.imul, 1) := dec_of (run_u1 h)
theorem d_105 (h : bat code pc 105) : decode code pc = .ok (.lmul, 1) := dec_of (run_u1 h)
theorem d_108 (h : bat code pc 108) : decode code pc = .ok (.idiv, 1) := dec_of (run_u1 h)
theorem d_109 (h : bat code pc 109) : decode code pc = .ok (.ldiv, 1) := dec_of (run_u1 h)
theorem d_112 (h : bat code pc 112) : decode code pc = .ok (.irem, 1) := dec_of (run_u1 h)
theorem d_113 (h : bat code pc 113) : decode code pc = .ok (.lrem, 1) := dec_of (run_u1 h)
theorem d_116 (h : bat code pc 116) : decode code pc = .ok (.ineg, 1) := dec_of (run_u1 h)
theorem d_117 (h : bat code pc 117) : decode code pc = .ok (.lneg, 1) := dec_of (run_u1 h)
theorem d_120 (h : bat code pc 120) : decode code pc = .ok (.ishl, 1) := dec_of (run_u1 h)
theorem d_121 (h : bat code pc 121) : decode code pc = .ok (.lshl, 1) := dec_of (run_u1 h)
theorem d_122 (h : bat code pc 122) : decode code pc = .ok (.ishr, 1) := dec_of (run_u1 h)
theorem d_123 (h : bat code pc 123) : decode code pc = .ok (.lshr, 1) := dec_of (run_u1 h)
theorem d_124 (h : bat code pc 124) : decode code pc = .ok (.iushr, 1) := dec_of (run_u1 h)
theorem d_125 (h : bat code pc 125) : decode code pc = .ok (.lushr, 1) := dec_of (run_u1 h)
theorem d_126 (h : bat code pc 126) : decode code pc = .ok (.iand, 1) := dec_of (run_u1 h)
theorem d_127 (h : bat code pc 127) : decode code pc = .ok (.land, 1) := dec_of (run_u1 h)
theorem d_128 (h : bat code pc 128) : decode code pc = .ok (.ior, 1) := dec_of (run_u1 h)
theorem d_129 (h : bat code pc 129) : decode code pc = .ok (.lor, 1) := dec_of (run_u1 h)
theorem d_130 (h : bat code pc 130) : decode code pc = .ok (.ixor, 1) := dec_of (run_u1 h)
theorem d_131 (h : bat code pc 131) : decode code pc = .ok (.lxor, 1) := dec_of (run_u1 h)
theorem d_133 (h : bat code pc 133) : decode code pc = .ok (.i2l, 1) := dec_of (run_u1 h)
theorem d_136 (h : bat code pc 136) : decode code pc = .ok (.l2i, 1) := dec_of (run_u1 h)
theorem d_145 (h : bat code pc 145) : decode code pc = .ok (.i2b, 1) := dec_of (run_u1 h)
theorem d_146 (h : bat code pc 146) : decode code pc = .ok (.i2c, 1) := dec_of (run_u1 h)
theorem d_147 (h : bat code pc 147) : decode code pc = .ok (.i2s, 1) := dec_of (run_u1 h)
theorem d_148 (h : bat code pc 148) : decode code pc = .ok (.lcmp, 1) := dec_of (run_u1 h)
theorem d_172 (h : bat code pc 172) : decode code pc = .ok (.ireturn, 1) := dec_of (run_u1 h)
theorem d_173 (h : bat code pc 173) : decode code pc = .ok (.lreturn, 1) := dec_of (run_u1 h)
theorem d_176 (h : bat code pc 176) : decode code pc = .ok (.areturn, 1) := dec_of (run_u1 h)
theorem d_177 (h : bat code pc 177) : decode code pc = .ok (.return_, 1) := dec_of (run_u1 h)
theorem d_190 (h : bat code pc 190) : decode code pc = .ok (.arraylength, 1) := dec_of (run_u1 h)
theorem d_191 (h : bat code pc 191) : decode code pc = .ok (.athrow, 1) := dec_of (run_u1 h)
theorem d_2 (h : bat code pc 2) : decode code pc = .ok (.iconst (-1), 1) := dec_of (run_u1 h)
theorem d_3 (h : bat code pc 3) : decode code pc = .ok (.iconst 0, 1) := dec_of (run_u1 h)
theorem d_4 (h : bat code pc 4) : decode code pc = .ok (.iconst 1, 1) := dec_of (run_u1 h)
theorem d_5 (h : bat code pc 5) : decode code pc = .ok (.iconst 2, 1) := dec_of (run_u1 h)
theorem d_6 (h : bat code pc 6) : decode code pc = .ok (.iconst 3, 1) := dec_of (run_u1 h)
theorem d_7 (h : bat code pc 7) : decode code pc = .ok (.iconst 4, 1) := dec_of (run_u1 h)
theorem d_8 (h : bat code pc 8) : decode code pc = .ok (.iconst 5, 1) := dec_of (run_u1 h)
theorem d_9 (h : bat code pc 9) : decode code pc = .ok (.lconst 0, 1) := dec_of (run_u1 h)
theorem d_10 (h : bat code pc 10) : decode code pc = .ok (.lconst 1, 1) := dec_of (run_u1 h)
theorem d_26 (h : bat code pc 26) : decode code pc = .ok (.iload_n 0, 1) := dec_of (run_u1 h)
theorem d_27 (h : bat code pc 27) : decode code pc = .ok (.iload_n 1, 1) := dec_of (run_u1 h)
theorem d_28 (h : bat code pc 28) : decode code pc = .ok (.iload_n 2, 1) := dec_of (run_u1 h)
theorem d_29 (h : bat code pc 29) : decode code pc = .ok (.iload_n 3, 1) := dec_of (run_u1 h)
theorem d_30 (h : bat code pc 30) : decode code pc = .ok (.lload_n 0, 1) := dec_of (run_u1 h)
theorem d_31 (h : bat code pc 31) : decode code pc = .ok (.lload_n 1, 1) := dec_of (run_u1 h)
theorem d_32 (h : bat code pc 32) : decode code pc = .ok (.lload_n 2, 1) := dec_of (run_u1 h)
theorem d_33 (h : bat code pc 33) : decode code pc = .ok (.lload_n 3, 1) := dec_of (run_u1 h)
theorem d_42 (h : bat code pc 42) : decode code pc = .ok (.aload_n 0, 1) := dec_of (run_u1 h)
theorem d_43 (h : bat code pc 43) : decode code pc = .ok (.aload_n 1, 1) := dec_of (run_u1 h)
theorem d_44 (h : bat code pc 44) : decode code pc = .ok (.aload_n 2, 1) := dec_of (run_u1 h)
theorem d_45 (h : bat code pc 45) : decode code pc = .ok (.aload_n 3, 1) := dec_of (run_u1 h)
theorem d_59 (h : bat code pc 59) : decode code pc = .ok (.istore_n 0, 1) := dec_of (run_u1 h)
theorem d_60 (h : bat code pc 60) : decode code pc = .ok (.istore_n 1, 1) := dec_of (run_u1 h)
theorem d_61 (h : bat code pc 61) : decode code pc = .ok (.istore_n 2, 1) := dec_of (run_u1 h)
theorem d_62 (h : bat code pc 62) : decode code pc = .ok (.istore_n 3, 1) := dec_of (run_u1 h)
theorem d_63 (h : bat code pc 63) : decode code pc = .ok (.lstore_n 0, 1) := dec_of (run_u1 h)
theorem d_64 (h : bat code pc 64) : decode code pc = .ok (.lstore_n 1, 1) := dec_of (run_u1 h)
theorem d_65 (h : bat code pc 65) : decode code pc = .ok (.lstore_n 2, 1) := dec_of (run_u1 h)
theorem d_66 (h : bat code pc 66) : decode code pc = .ok (.lstore_n 3, 1) := dec_of (run_u1 h)
theorem d_75 (h : bat code pc 75) : decode code pc = .ok (.astore_n 0, 1) := dec_of (run_u1 h)
theorem d_76 (h : bat code pc 76) : decode code pc = .ok (.astore_n 1, 1) := dec_of (run_u1 h)
theorem d_77 (h : bat code pc 77) : decode code pc = .ok (.astore_n 2, 1) := dec_of (run_u1 h)
theorem d_78 (h : bat code pc 78) : decode code pc = .ok (.astore_n 3, 1) := dec_of (run_u1 h)
theorem d_18 (h : bat code pc 18) (g : bat code (pc + 1) a) : decode code pc = .ok (.ldc a, 2) := dec_of ((run_u1 h).trans (run_u1 g))
theorem d_21 (h : bat code pc 21) (g : bat code (pc + 1) a) : decode code pc = .ok (.iload a, 2) := dec_of ((run_u1 h).trans (run_u1 g))
theorem d_22 (h : bat code pc 22) (g : bat code (pc + 1) a) : decode code pc = .ok (.lload a, 2) := dec_of ((run_u1 h).trans (run_u1 g))
theorem d_25 (h : bat code pc 25) (g : bat code (pc + 1) a) : decode code pc = .ok (.aload a, 2) := dec_of ((run_u1 h).trans (run_u1 g))
theorem d_54 (h : bat code pc 54) (g : bat code (pc + 1) a) : decode code pc = .ok (.istore a, 2) := dec_of ((run_u1 h).trans (run_u1 g))
theorem d_55 (h : bat code pc 55) (g : bat code (pc + 1) a) : decode code pc = .ok (.lstore a, 2) := dec_of ((run_u1 h).trans (run_u1 g))
theorem d_58 (h : bat code pc 58) (g : bat code (pc + 1) a) : decode code pc = .ok (.astore a, 2) := dec_of ((run_u1 h).trans (run_u1 g))
theorem d_16 (h : bat code pc 16) (g : bat code (pc + 1) a) : decode code pc = .ok (.bipush (Reader.signed 8 a), 2) := dec_of ((run_u1 h).trans (run_s1 g))
theorem d_19 (h : bat code pc 19) (g : bat code (pc + 1) a) (g2 : bat code (pc + 2) b) : decode code pc = .ok (.ldc_w (a * 256 + b), 3) := dec_of ((run_u1 h).trans (run_u2 g g2))
theorem d_20 (h : bat code pc 20) (g : bat code (pc + 1) a) (g2 : bat code (pc + 2) b) : decode code pc = .ok (.ldc2_w (a * 256 + b), 3) := dec_of ((run_u1 h).trans (run_u2 g g2))
theorem d_178 (h : bat code pc 178) (g : bat code (pc + 1) a) (g2 : bat code (pc + 2) b) : decode code pc = .ok (.getstatic (a * 256 + b), 3) := dec_of ((run_u1 h).trans (run_u2 g g2))
theorem d_179 (h : bat code pc 179) (g : bat code (pc + 1) a) (g2 : bat code (pc + 2) b) : decode code pc = .ok (.putstatic (a * 256 + b), 3) := dec_of ((run_u1 h).trans (run_u2 g g2))
theorem d_180 (h : bat code pc 180) (g : bat code (pc + 1) a) (g2 : bat code (pc + 2) b) : decode code pc = .ok (.getfield (a * 256 + b), 3) := dec_of ((run_u1 h).trans (run_u2 g g2))
theorem d_181 (h : bat code pc 181) (g : bat code (pc + 1) a) (g2 : bat code (pc + 2) b) : decode code pc = .ok (.putfield (a * 256 + b), 3) := dec_of ((run_u1 h).trans (run_u2 g g2))
theorem d_182 (h : bat code pc 182) (g : bat code (pc + 1) a) (g2 : bat code (pc + 2) b) : decode code pc = .ok (.invokevirtual (a * 256 + b), 3) := dec_of ((run_u1 h).trans (run_u2 g g2))
theorem d_183 (h : bat code pc 183) (g : bat code (pc + 1) a) (g2 : bat code (pc + 2) b) : decode code pc = .ok (.invokespecial (a * 256 + b), 3) := dec_of ((run_u1 h).trans (run_u2 g g2))
theorem d_184 (h : bat code pc 184) (g : bat code (pc + 1) a) (g2 : bat code (pc + 2) b) : decode code pc = .ok (.invokestatic (a * 256 + b), 3) := dec_of ((run_u1 h).trans (run_u2 g g2))
theorem d_187 (h : bat code pc 187) (g : bat code (pc + 1) a) (g2 : bat code (pc + 2) b) : decode code pc = .ok (.new (a * 256 + b), 3) := dec_of ((run_u1 h).trans (run_u2 g g2))
theorem d_189 (h : bat code pc 189) (g : bat code (pc + 1) a) (g2 : bat code (pc + 2) b) : decode code pc = .ok (.anewarray (a * 256 + b), 3) := dec_of ((run_u1 h).trans (run_u2 g g2))
theorem d_192 (h : bat code pc 192) (g : bat code (pc + 1) a) (g2 : bat code (pc + 2) b) : decode code pc = .ok (.checkcast (a * 256 + b), 3) := dec_of ((run_u1 h).trans (run_u2 g g2))
theorem d_193 (h : bat code pc 193) (g : bat code (pc + 1) a) (g2 : bat code (pc + 2) b) : decode code pc = .ok (.instanceof (a * 256 + b), 3) := dec_of ((run_u1 h).trans (run_u2 g g2))
theorem d_17 (h : bat code pc 17) (g : bat code (pc + 1) a) (g2 : bat code (pc + 2) b) : decode code pc = .ok (.sipush (Reader.signed 16 (a * 256 + b)), 3) := dec_of ((run_u1 h).trans (run_s2 g g2))
theorem d_167 (h : bat code pc 167) (g : bat code (pc + 1) a) (g2 : bat code (pc + 2) b) : decode code pc = .ok (.goto (Reader.signed 16 (a * 256 + b)), 3) := dec_of ((run_u1 h).trans (run_s2 g g2))
theorem d_198 (h : bat code pc 198) (g : bat code (pc + 1) a) (g2 : bat code (pc + 2) b) : decode code pc = .ok (.ifnull (Reader.signed 16 (a * 256 + b)), 3) := dec_of ((run_u1 h).trans (run_s2 g g2))
theorem d_199 (h : bat code pc 199) (g : bat code (pc + 1) a) (g2 : bat code (pc + 2) b) : decode code pc = .ok (.ifnonnull (Reader.signed 16 (a * 256 + b)), 3) := dec_of ((run_u1 h).trans (run_s2 g g2))
theorem d_153 (h : bat code pc 153) (g : bat code (pc + 1) a) (g2 : bat code (pc + 2) b) : decode code pc = .ok (.ifCond .eq (Reader.signed 16 (a * 256 + b)), 3) := dec_of ((run_u1 h).trans (run_s2 g g2))
theorem d_154 (h : bat code pc 154) (g : bat code (pc + 1) a) (g2 : bat code (pc + 2) b) : decode code pc = .ok (.ifCond .ne (Reader.signed 16 (a * 256 + b)), 3) := dec_of ((run_u1 h).trans (run_s2 g g2))
theorem d_155 (h : bat code pc 155) (g : bat code (pc + 1) a) (g2 : bat code (pc + 2) b) : decode code pc = .ok (.ifCond .lt (Reader.signed 16 (a * 256 + b)), 3) := dec_of ((run_u1 h).trans (run_s2 g g2))
theorem d_156 (h : bat code pc 156) (g : bat code (pc + 1) a) (g2 : bat code (pc + 2) b) : decode code pc = .ok (.ifCond .ge (Reader.signed 16 (a * 256 + b)), 3) := dec_of ((run_u1 h).trans (run_s2 g g2))
theorem d_157 (h : bat code pc 157) (g : bat code (pc + 1) a) (g2 : bat code (pc + 2) b) : decode code pc = .ok (.ifCond .gt (Reader.signed 16 (a * 256 + b)), 3) := dec_of ((run_u1 h).trans (run_s2 g g2))
theorem d_158 (h : bat code pc 158) (g : bat code (pc + 1) a) (g2 : bat code (pc + 2) b) : decode code pc = .ok (.ifCond .le (Reader.signed 16 (a * 256 + b)), 3) := dec_of ((run_u1 h).trans (run_s2 g g2))
theorem d_159 (h : bat code pc 159) (g : bat code (pc + 1) a) (g2 : bat code (pc + 2) b) : decode code pc = .ok (.if_icmp .eq (Reader.signed 16 (a * 256 + b)), 3) := dec_of ((run_u1 h).trans (run_s2 g g2))
theorem d_160 (h : bat code pc 160) (g : bat code (pc + 1) a) (g2 : bat code (pc + 2) b) : decode code pc = .ok (.if_icmp .ne (Reader.signed 16 (a * 256 + b)), 3) := dec_of ((run_u1 h).trans (run_s2 g g2))
theorem d_161 (h : bat code pc 161) (g : bat code (pc + 1) a) (g2 : bat code (pc + 2) b) : decode code pc = .ok (.if_icmp .lt (Reader.signed 16 (a * 256 + b)), 3) := dec_of ((run_u1 h).trans (run_s2 g g2))
theorem d_162 (h : bat code pc 162) (g : bat code (pc + 1) a) (g2 : bat code (pc + 2) b) : decode code pc = .ok (.if_icmp .ge (Reader.signed 16 (a * 256 + b)), 3) := dec_of ((run_u1 h).trans (run_s2 g g2))
theorem d_163 (h : bat code pc 163) (g : bat code (pc + 1) a) (g2 : bat code (pc + 2) b) : decode code pc = .ok (.if_icmp .gt (Reader.signed 16 (a * 256 + b)), 3) := dec_of ((run_u1 h).trans (run_s2 g g2))
theorem d_164 (h : bat code pc 164) (g : bat code (pc + 1) a) (g2 : bat code (pc + 2) b) : decode code pc = .ok (.if_icmp .le (Reader.signed 16 (a * 256 + b)), 3) := dec_of ((run_u1 h).trans (run_s2 g g2))
theorem d_165 (h : bat code pc 165) (g : bat code (pc + 1) a) (g2 : bat code (pc + 2) b) : decode code pc = .ok (.if_acmp .eq (Reader.signed 16 (a * 256 + b)), 3) := dec_of ((run_u1 h).trans (run_s2 g g2))
theorem d_166 (h : bat code pc 166) (g : bat code (pc + 1) a) (g2 : bat code (pc + 2) b) : decode code pc = .ok (.if_acmp .ne (Reader.signed 16 (a * 256 + b)), 3) := dec_of ((run_u1 h).trans (run_s2 g g2))
theorem d_132 (h : bat code pc 132) (g : bat code (pc + 1) a) (g2 : bat code (pc + 2) b) : decode code pc = .ok (.iinc a (Reader.signed 8 b), 3) := dec_of ((run_u1 h).trans ((run_u1 g).trans (run_s1 g2)))
theorem d_188_4 (h : bat code pc 188) (g : bat code (pc + 1) 4) : decode code pc = .ok (.newarray .boolean, 2) := dec_of ((run_u1 h).trans (run_u1 g))
theorem d_188_5 (h : bat code pc 188) (g : bat code (pc + 1) 5) : decode code pc = .ok (.newarray .char, 2) := dec_of ((run_u1 h).trans (run_u1 g))
theorem d_188_8 (h : bat code pc 188) (g : bat code (pc + 1) 8) : decode code pc = .ok (.newarray .byte, 2) := dec_of ((run_u1 h).trans (run_u1 g))
theorem d_188_9 (h : bat code pc 188) (g : bat code (pc + 1) 9) : decode code pc = .ok (.newarray .short, 2) := dec_of ((run_u1 h).trans (run_u1 g))
theorem d_188_10 (h : bat code pc 188) (g : bat code (pc + 1) 10) : decode code pc = .ok (.newarray .int, 2) := dec_of ((run_u1 h).trans (run_u1 g))
theorem d_188_11 (h : bat code pc 188) (g : bat code (pc + 1) 11) : decode code pc = .ok (.newarray .long, 2) := dec_of ((run_u1 h).trans (run_u1 g))
theorem bat_0 {o : UInt8} {r : List UInt8} (h : code.data.toList.drop pc = o :: r) : bat code pc o.toNat := by
  have e : code.data.toList[pc]? = some o := by
    have q : (code.data.toList.drop pc)[0]? = some o := by rw [h]; rfl
    rw [List.getElem?_drop, Nat.add_zero] at q
    exact q
  obtain ⟨h1, h2⟩ := List.getElem?_eq_some_iff.mp e
  have h3 : pc < code.data.size := by rw [← Array.length_toList]; exact h1
  refine ⟨h3, ?_⟩
  rw [← h2]
  rfl
theorem bat_1 {o x : UInt8} {r : List UInt8} (h : code.data.toList.drop pc = o :: x :: r) : bat code (pc + 1) x.toNat := by
  refine bat_0 (r := r) ?_
  rw [← List.drop_drop, h]
  rfl
theorem bat_2 {o x y : UInt8} {r : List UInt8} (h : code.data.toList.drop pc = o :: x :: y :: r) : bat code (pc + 2) y.toNat := by
  refine bat_0 (r := r) ?_
  rw [← List.drop_drop, h]
  rfl
def ck0 (n len : Nat) (bs : List UInt8) : Bool := match bs with
  | o :: _ => Nat.beq o.toNat n && Nat.beq len 1
  | _ => false
def ck1 (n len : Nat) (P : Nat → Bool) (bs : List UInt8) : Bool := match bs with
  | o :: a :: _ => Nat.beq o.toNat n && (Nat.beq len 2 && P a.toNat)
  | _ => false
def ck2 (n len : Nat) (P : Nat → Nat → Bool) (bs : List UInt8) : Bool := match bs with
  | o :: a :: b :: _ => Nat.beq o.toNat n && (Nat.beq len 3 && P a.toNat b.toNat)
  | _ => false
theorem ck0_ok {len : Nat} {i : Instr} (d : bat code pc n → decode code pc = .ok (i, 1)) (h : ck0 n len (code.data.toList.drop pc) = true) : decode code pc = .ok (i, len) := by
  unfold ck0 at h
  split at h
  · rename_i o r e
    obtain ⟨h1, h2⟩ := Bool.and_eq_true_iff.mp h
    have e1 := Nat.eq_of_beq_eq_true h1
    have e2 := Nat.eq_of_beq_eq_true h2
    rw [e2]
    exact d (e1 ▸ bat_0 e)
  · cases h
theorem ck1_ok {len : Nat} {i : Instr} {P : Nat → Bool} (h : ck1 n len P (code.data.toList.drop pc) = true) (d : ∀ a, P a = true → bat code pc n → bat code (pc + 1) a → decode code pc = .ok (i, 2)) : decode code pc = .ok (i, len) := by
  unfold ck1 at h
  split at h
  · rename_i o x r e
    obtain ⟨h1, h2⟩ := Bool.and_eq_true_iff.mp h
    obtain ⟨h2, h3⟩ := Bool.and_eq_true_iff.mp h2
    have e1 := Nat.eq_of_beq_eq_true h1
    have e2 := Nat.eq_of_beq_eq_true h2
    rw [e2]
    exact d _ h3 (e1 ▸ bat_0 e) (bat_1 e)
  · cases h
theorem ck2_ok {len : Nat} {i : Instr} {P : Nat → Nat → Bool} (h : ck2 n len P (code.data.toList.drop pc) = true) (d : ∀ a b, P a b = true → bat code pc n → bat code (pc + 1) a → bat code (pc + 2) b → decode code pc = .ok (i, 3)) : decode code pc = .ok (i, len) := by
  unfold ck2 at h
  split at h
  · rename_i o x y r e
    obtain ⟨h1, h2⟩ := Bool.and_eq_true_iff.mp h
    obtain ⟨h2, h3⟩ := Bool.and_eq_true_iff.mp h2
    have e1 := Nat.eq_of_beq_eq_true h1
    have e2 := Nat.eq_of_beq_eq_true h2
    rw [e2]
    exact d _ _ h3 (e1 ▸ bat_0 e) (bat_1 e) (bat_2 e)
  · cases h

def am_ckI (i : Instr) (len : Nat) (bs : List UInt8) : Bool := match i with
  | .aconst_null => ck0 1 len bs
  | .iaload => ck0 46 len bs
  | .laload => ck0 47 len bs
  | .aaload => ck0 50 len bs
  | .baload => ck0 51 len bs
  | .caload => ck0 52 len bs
  | .iastore => ck0 79 len bs
  | .lastore => ck0 80 len bs
  | .aastore => ck0 83 len bs
  | .bastore => ck0 84 len bs
  | .castore => ck0 85 len bs
  | .pop => ck0 87 len bs
  | .pop2 => ck0 88 len bs
  | .dup => ck0 89 len bs
  | .dup_x1 => ck0 90 len bs
  | .dup_x2 => ck0 91 len bs
  | .dup2 => ck0 92 len bs
  | .iadd => ck0 96 len bs
  | .ladd => ck0 97 len bs
  | .isub => ck0 100 len bs
  | .lsub => ck0 101 len bs
  | .imul => ck0 104 len bs
  | .lmul => ck0 105 len bs
  | .idiv => ck0 108 len bs
  | .ldiv => ck0 109 len bs
  | .irem => ck0 112 len bs
  | .lrem => ck0 113 len bs
  | .ineg => ck0 116 len bs
  | .lneg => ck0 117 len bs
  | .ishl => ck0 120 len bs
  | .lshl => ck0 121 len bs
  | .ishr => ck0 122 len bs
  | .lshr => ck0 123 len bs
  | .iushr => ck0 124 len bs
  | .lushr => ck0 125 len bs
  | .iand => ck0 126 len bs
  | .land => ck0 127 len bs
  | .ior => ck0 128 len bs
  | .lor => ck0 129 len bs
  | .ixor => ck0 130 len bs
  | .lxor => ck0 131 len bs
  | .i2l => ck0 133 len bs
  | .l2i => ck0 136 len bs
  | .i2b => ck0 145 len bs
  | .i2c => ck0 146 len bs
  | .i2s => ck0 147 len bs
  | .lcmp => ck0 148 len bs
  | .ireturn => ck0 172 len bs
  | .lreturn => ck0 173 len bs
  | .areturn => ck0 176 len bs
  | .return_ => ck0 177 len bs
  | .arraylength => ck0 190 len bs
  | .athrow => ck0 191 len bs
  | .iconst k => (decide (k = (-1)) && ck0 2 len bs) || (decide (k = 0) && ck0 3 len bs) || (decide (k = 1) && ck0 4 len bs) || (decide (k = 2) && ck0 5 len bs) || (decide (k = 3) && ck0 6 len bs) || (decide (k = 4) && ck0 7 len bs) || (decide (k = 5) && ck0 8 len bs)
  | .lconst k => (Nat.beq k.val 0 && ck0 9 len bs) || (Nat.beq k.val 1 && ck0 10 len bs)
  | .iload_n k => (Nat.beq k.val 0 && ck0 26 len bs) || (Nat.beq k.val 1 && ck0 27 len bs) || (Nat.beq k.val 2 && ck0 28 len bs) || (Nat.beq k.val 3 && ck0 29 len bs)
  | .lload_n k => (Nat.beq k.val 0 && ck0 30 len bs) || (Nat.beq k.val 1 && ck0 31 len bs) || (Nat.beq k.val 2 && ck0 32 len bs) || (Nat.beq k.val 3 && ck0 33 len bs)
  | .aload_n k => (Nat.beq k.val 0 && ck0 42 len bs) || (Nat.beq k.val 1 && ck0 43 len bs) || (Nat.beq k.val 2 && ck0 44 len bs) || (Nat.beq k.val 3 && ck0 45 len bs)
  | .istore_n k => (Nat.beq k.val 0 && ck0 59 len bs) || (Nat.beq k.val 1 && ck0 60 len bs) || (Nat.beq k.val 2 && ck0 61 len bs) || (Nat.beq k.val 3 && ck0 62 len bs)
  | .lstore_n k => (Nat.beq k.val 0 && ck0 63 len bs) || (Nat.beq k.val 1 && ck0 64 len bs) || (Nat.beq k.val 2 && ck0 65 len bs) || (Nat.beq k.val 3 && ck0 66 len bs)
  | .astore_n k => (Nat.beq k.val 0 && ck0 75 len bs) || (Nat.beq k.val 1 && ck0 76 len bs) || (Nat.beq k.val 2 && ck0 77 len bs) || (Nat.beq k.val 3 && ck0 78 len bs)
  | .ldc k => ck1 18 len (fun a => Nat.beq a k) bs
  | .iload k => ck1 21 len (fun a => Nat.beq a k) bs
  | .lload k => ck1 22 len (fun a => Nat.beq a k) bs
  | .aload k => ck1 25 len (fun a => Nat.beq a k) bs
  | .istore k => ck1 54 len (fun a => Nat.beq a k) bs
  | .lstore k => ck1 55 len (fun a => Nat.beq a k) bs
  | .astore k => ck1 58 len (fun a => Nat.beq a k) bs
  | .bipush k => ck1 16 len (fun a => decide (Reader.signed 8 a = k)) bs
  | .ldc_w k => ck2 19 len (fun a b => Nat.beq (a * 256 + b) k) bs
  | .ldc2_w k => ck2 20 len (fun a b => Nat.beq (a * 256 + b) k) bs
  | .getstatic k => ck2 178 len (fun a b => Nat.beq (a * 256 + b) k) bs
  | .putstatic k => ck2 179 len (fun a b => Nat.beq (a * 256 + b) k) bs
  | .getfield k => ck2 180 len (fun a b => Nat.beq (a * 256 + b) k) bs
  | .putfield k => ck2 181 len (fun a b => Nat.beq (a * 256 + b) k) bs
  | .invokevirtual k => ck2 182 len (fun a b => Nat.beq (a * 256 + b) k) bs
  | .invokespecial k => ck2 183 len (fun a b => Nat.beq (a * 256 + b) k) bs
  | .invokestatic k => ck2 184 len (fun a b => Nat.beq (a * 256 + b) k) bs
  | .new k => ck2 187 len (fun a b => Nat.beq (a * 256 + b) k) bs
  | .anewarray k => ck2 189 len (fun a b => Nat.beq (a * 256 + b) k) bs
  | .checkcast k => ck2 192 len (fun a b => Nat.beq (a * 256 + b) k) bs
  | .instanceof k => ck2 193 len (fun a b => Nat.beq (a * 256 + b) k) bs
  | .sipush k => ck2 17 len (fun a b => decide (Reader.signed 16 (a * 256 + b) = k)) bs
  | .goto k => ck2 167 len (fun a b => decide (Reader.signed 16 (a * 256 + b) = k)) bs
  | .ifnull k => ck2 198 len (fun a b => decide (Reader.signed 16 (a * 256 + b) = k)) bs
  | .ifnonnull k => ck2 199 len (fun a b => decide (Reader.signed 16 (a * 256 + b) = k)) bs
  | .ifCond q k => (match q with | .eq => ck2 153 len (fun a b => decide (Reader.signed 16 (a * 256 + b) = k)) bs | .ne => ck2 154 len (fun a b => decide (Reader.signed 16 (a * 256 + b) = k)) bs | .lt => ck2 155 len (fun a b => decide (Reader.signed 16 (a * 256 + b) = k)) bs | .ge => ck2 156 len (fun a b => decide (Reader.signed 16 (a * 256 + b) = k)) bs | .gt => ck2 157 len (fun a b => decide (Reader.signed 16 (a * 256 + b) = k)) bs | .le => ck2 158 len (fun a b => decide (Reader.signed 16 (a * 256 + b) = k)) bs)
  | .if_icmp q k => (match q with | .eq => ck2 159 len (fun a b => decide (Reader.signed 16 (a * 256 + b) = k)) bs | .ne => ck2 160 len (fun a b => decide (Reader.signed 16 (a * 256 + b) = k)) bs | .lt => ck2 161 len (fun a b => decide (Reader.signed 16 (a * 256 + b) = k)) bs | .ge => ck2 162 len (fun a b => decide (Reader.signed 16 (a * 256 + b) = k)) bs | .gt => ck2 163 len (fun a b => decide (Reader.signed 16 (a * 256 + b) = k)) bs | .le => ck2 164 len (fun a b => decide (Reader.signed 16 (a * 256 + b) = k)) bs)
  | .if_acmp q k => (match q with | .eq => ck2 165 len (fun a b => decide (Reader.signed 16 (a * 256 + b) = k)) bs | .ne => ck2 166 len (fun a b => decide (Reader.signed 16 (a * 256 + b) = k)) bs)
  | .iinc k m => ck2 132 len (fun a b => Nat.beq a k && decide (Reader.signed 8 b = m)) bs
  | .newarray t => (match t with | .boolean => ck1 188 len (fun a => Nat.beq a 4) bs | .char => ck1 188 len (fun a => Nat.beq a 5) bs | .byte => ck1 188 len (fun a => Nat.beq a 8) bs | .short => ck1 188 len (fun a => Nat.beq a 9) bs | .int => ck1 188 len (fun a => Nat.beq a 10) bs | .long => ck1 188 len (fun a => Nat.beq a 11) bs | _ => false)
  | _ => false
set_option maxHeartbeats 4000000 in
theorem ckI_ok {i : Instr} {len : Nat} (h : am_ckI i len (code.data.toList.drop pc) = true) : decode code pc = .ok (i, len) := by
  cases i
  case aconst_null => exact ck0_ok d_1 h
  case iaload => exact ck0_ok d_46 h
  case laload => exact ck0_ok d_47 h
  case aaload => exact ck0_ok d_50 h
  case baload => exact ck0_ok d_51 h
  case caload => exact ck0_ok d_52 h
  case iastore => exact ck0_ok d_79 h
  case lastore => exact ck0_ok d_80 h
  case aastore => exact ck0_ok d_83 h
  case bastore => exact ck0_ok d_84 h
  case castore => exact ck0_ok d_85 h
  case pop => exact ck0_ok d_87 h
  case pop2 => exact ck0_ok d_88 h
  case dup => exact ck0_ok d_89 h
  case dup_x1 => exact ck0_ok d_90 h
  case dup_x2 => exact ck0_ok d_91 h
  case dup2 => exact ck0_ok d_92 h
  case iadd => exact ck0_ok d_96 h
  case ladd => exact ck0_ok d_97 h
  case isub => exact ck0_ok d_100 h
  case lsub => exact ck0_ok d_101 h
  case imul => exact ck0_ok d_104 h
  case lmul => exact ck0_ok d_105 h
  case idiv => exact ck0_ok d_108 h
  case ldiv => exact ck0_ok d_109 h
  case irem => exact ck0_ok d_112 h
  case lrem => exact ck0_ok d_113 h
  case ineg => exact ck0_ok d_116 h
  case lneg => exact ck0_ok d_117 h
  case ishl => exact ck0_ok d_120 h
  case lshl => exact ck0_ok d_121 h
  case ishr => exact ck0_ok d_122 h
  case lshr => exact ck0_ok d_123 h
  case iushr => exact ck0_ok d_124 h
  case lushr => exact ck0_ok d_125 h
  case iand => exact ck0_ok d_126 h
  case land => exact ck0_ok d_127 h
  case ior => exact ck0_ok d_128 h
  case lor => exact ck0_ok d_129 h
  case ixor => exact ck0_ok d_130 h
  case lxor => exact ck0_ok d_131 h
  case i2l => exact ck0_ok d_133 h
  case l2i => exact ck0_ok d_136 h
  case i2b => exact ck0_ok d_145 h
  case i2c => exact ck0_ok d_146 h
  case i2s => exact ck0_ok d_147 h
  case lcmp => exact ck0_ok d_148 h
  case ireturn => exact ck0_ok d_172 h
  case lreturn => exact ck0_ok d_173 h
  case areturn => exact ck0_ok d_176 h
  case return_ => exact ck0_ok d_177 h
  case arraylength => exact ck0_ok d_190 h
  case athrow => exact ck0_ok d_191 h
  case iconst k =>
    simp only [am_ckI, Bool.or_eq_true, Bool.and_eq_true, decide_eq_true_eq] at h
    rcases h with (((((⟨e, h⟩ | ⟨e, h⟩) | ⟨e, h⟩) | ⟨e, h⟩) | ⟨e, h⟩) | ⟨e, h⟩) | ⟨e, h⟩
    · subst e; exact ck0_ok d_2 h
    · subst e; exact ck0_ok d_3 h
    · subst e; exact ck0_ok d_4 h
    · subst e; exact ck0_ok d_5 h
    · subst e; exact ck0_ok d_6 h
    · subst e; exact ck0_ok d_7 h
    · subst e; exact ck0_ok d_8 h
  case lconst k =>
    simp only [am_ckI, Bool.or_eq_true, Bool.and_eq_true, decide_eq_true_eq] at h
    rcases h with ⟨e, h⟩ | ⟨e, h⟩
    · have e : k = 0 := Fin.ext (Nat.eq_of_beq_eq_true e); subst e; exact ck0_ok d_9 h
    · have e : k = 1 := Fin.ext (Nat.eq_of_beq_eq_true e); subst e; exact ck0_ok d_10 h
  case iload_n k =>
    simp only [am_ckI, Bool.or_eq_true, Bool.and_eq_true, decide_eq_true_eq] at h
    rcases h with ((⟨e, h⟩ | ⟨e, h⟩) | ⟨e, h⟩) | ⟨e, h⟩
    · have e : k = 0 := Fin.ext (Nat.eq_of_beq_eq_true e); subst e; exact ck0_ok d_26 h
    · have e : k = 1 := Fin.ext (Nat.eq_of_beq_eq_true e); subst e; exact ck0_ok d_27 h
    · have e : k = 2 := Fin.ext (Nat.eq_of_beq_eq_true e); subst e; exact ck0_ok d_28 h
    · have e : k = 3 := Fin.ext (Nat.eq_of_beq_eq_true e); subst e; exact ck0_ok d_29 h
  case lload_n k =>
    simp only [am_ckI, Bool.or_eq_true, Bool.and_eq_true, decide_eq_true_eq] at h
    rcases h with ((⟨e, h⟩ | ⟨e, h⟩) | ⟨e, h⟩) | ⟨e, h⟩
    · have e : k = 0 := Fin.ext (Nat.eq_of_beq_eq_true e); subst e; exact ck0_ok d_30 h
    · have e : k = 1 := Fin.ext (Nat.eq_of_beq_eq_true e); subst e; exact ck0_ok d_31 h
    · have e : k = 2 := Fin.ext (Nat.eq_of_beq_eq_true e); subst e; exact ck0_ok d_32 h
    · have e : k = 3 := Fin.ext (Nat.eq_of_beq_eq_true e); subst e; exact ck0_ok d_33 h
  case aload_n k =>
    simp only [am_ckI, Bool.or_eq_true, Bool.and_eq_true, decide_eq_true_eq] at h
    rcases h with ((⟨e, h⟩ | ⟨e, h⟩) | ⟨e, h⟩) | ⟨e, h⟩
    · have e : k = 0 := Fin.ext (Nat.eq_of_beq_eq_true e); subst e; exact ck0_ok d_42 h
    · have e : k = 1 := Fin.ext (Nat.eq_of_beq_eq_true e); subst e; exact ck0_ok d_43 h
    · have e : k = 2 := Fin.ext (Nat.eq_of_beq_eq_true e); subst e; exact ck0_ok d_44 h
    · have e : k = 3 := Fin.ext (Nat.eq_of_beq_eq_true e); subst e; exact ck0_ok d_45 h
  case istore_n k =>
    simp only [am_ckI, Bool.or_eq_true, Bool.and_eq_true, decide_eq_true_eq] at h
    rcases h with ((⟨e, h⟩ | ⟨e, h⟩) | ⟨e, h⟩) | ⟨e, h⟩
    · have e : k = 0 := Fin.ext (Nat.eq_of_beq_eq_true e); subst e; exact ck0_ok d_59 h
    · have e : k = 1 := Fin.ext (Nat.eq_of_beq_eq_true e); subst e; exact ck0_ok d_60 h
    · have e : k = 2 := Fin.ext (Nat.eq_of_beq_eq_true e); subst e; exact ck0_ok d_61 h
    · have e : k = 3 := Fin.ext (Nat.eq_of_beq_eq_true e); subst e; exact ck0_ok d_62 h
  case lstore_n k =>
    simp only [am_ckI, Bool.or_eq_true, Bool.and_eq_true, decide_eq_true_eq] at h
    rcases h with ((⟨e, h⟩ | ⟨e, h⟩) | ⟨e, h⟩) | ⟨e, h⟩
    · have e : k = 0 := Fin.ext (Nat.eq_of_beq_eq_true e); subst e; exact ck0_ok d_63 h
    · have e : k = 1 := Fin.ext (Nat.eq_of_beq_eq_true e); subst e; exact ck0_ok d_64 h
    · have e : k = 2 := Fin.ext (Nat.eq_of_beq_eq_true e); subst e; exact ck0_ok d_65 h
    · have e : k = 3 := Fin.ext (Nat.eq_of_beq_eq_true e); subst e; exact ck0_ok d_66 h
  case astore_n k =>
    simp only [am_ckI, Bool.or_eq_true, Bool.and_eq_true, decide_eq_true_eq] at h
    rcases h with ((⟨e, h⟩ | ⟨e, h⟩) | ⟨e, h⟩) | ⟨e, h⟩
    · have e : k = 0 := Fin.ext (Nat.eq_of_beq_eq_true e); subst e; exact ck0_ok d_75 h
    · have e : k = 1 := Fin.ext (Nat.eq_of_beq_eq_true e); subst e; exact ck0_ok d_76 h
    · have e : k = 2 := Fin.ext (Nat.eq_of_beq_eq_true e); subst e; exact ck0_ok d_77 h
    · have e : k = 3 := Fin.ext (Nat.eq_of_beq_eq_true e); subst e; exact ck0_ok d_78 h
  case ldc k => exact ck1_ok (n := 18) (P := fun a => Nat.beq a k) h (fun a e h1 h2 => by rw [← Nat.eq_of_beq_eq_true e]; exact d_18 h1 h2)
  case iload k => exact ck1_ok (n := 21) (P := fun a => Nat.beq a k) h (fun a e h1 h2 => by rw [← Nat.eq_of_beq_eq_true e]; exact d_21 h1 h2)
  case lload k => exact ck1_ok (n := 22) (P := fun a => Nat.beq a k) h (fun a e h1 h2 => by rw [← Nat.eq_of_beq_eq_true e]; exact d_22 h1 h2)
  case aload k => exact ck1_ok (n := 25) (P := fun a => Nat.beq a k) h (fun a e h1 h2 => by rw [← Nat.eq_of_beq_eq_true e]; exact d_25 h1 h2)
  case istore k => exact ck1_ok (n := 54) (P := fun a => Nat.beq a k) h (fun a e h1 h2 => by rw [← Nat.eq_of_beq_eq_true e]; exact d_54 h1 h2)
  case lstore k => exact ck1_ok (n := 55) (P := fun a => Nat.beq a k) h (fun a e h1 h2 => by rw [← Nat.eq_of_beq_eq_true e]; exact d_55 h1 h2)
  case astore k => exact ck1_ok (n := 58) (P := fun a => Nat.beq a k) h (fun a e h1 h2 => by rw [← Nat.eq_of_beq_eq_true e]; exact d_58 h1 h2)
  case bipush k => exact ck1_ok (n := 16) (P := fun a => decide (Reader.signed 8 a = k)) h (fun a e h1 h2 => by rw [← of_decide_eq_true e]; exact d_16 h1 h2)
  case ldc_w k => exact ck2_ok (n := 19) (P := fun a b => Nat.beq (a * 256 + b) k) h (fun a b e h1 h2 h3 => by rw [← Nat.eq_of_beq_eq_true e]; exact d_19 h1 h2 h3)
  case ldc2_w k => exact ck2_ok (n := 20) (P := fun a b => Nat.beq (a * 256 + b) k) h (fun a b e h1 h2 h3 => by rw [← Nat.eq_of_beq_eq_true e]; exact d_20 h1 h2 h3)
  case getstatic k => exact ck2_ok (n := 178) (P := fun a b => Nat.beq (a * 256 + b) k) h (fun a b e h1 h2 h3 => by rw [← Nat.eq_of_beq_eq_true e]; exact d_178 h1 h2 h3)
  case putstatic k => exact ck2_ok (n := 179) (P := fun a b => Nat.beq (a * 256 + b) k) h (fun a b e h1 h2 h3 => by rw [← Nat.eq_of_beq_eq_true e]; exact d_179 h1 h2 h3)
  case getfield k => exact ck2_ok (n := 180) (P := fun a b => Nat.beq (a * 256 + b) k) h (fun a b e h1 h2 h3 => by rw [← Nat.eq_of_beq_eq_true e]; exact d_180 h1 h2 h3)
  case putfield k => exact ck2_ok (n := 181) (P := fun a b => Nat.beq (a * 256 + b) k) h (fun a b e h1 h2 h3 => by rw [← Nat.eq_of_beq_eq_true e]; exact d_181 h1 h2 h3)
  case invokevirtual k => exact ck2_ok (n := 182) (P := fun a b => Nat.beq (a * 256 + b) k) h (fun a b e h1 h2 h3 => by rw [← Nat.eq_of_beq_eq_true e]; exact d_182 h1 h2 h3)
  case invokespecial k => exact ck2_ok (n := 183) (P := fun a b => Nat.beq (a * 256 + b) k) h (fun a b e h1 h2 h3 => by rw [← Nat.eq_of_beq_eq_true e]; exact d_183 h1 h2 h3)
  case invokestatic k => exact ck2_ok (n := 184) (P := fun a b => Nat.beq (a * 256 + b) k) h (fun a b e h1 h2 h3 => by rw [← Nat.eq_of_beq_eq_true e]; exact d_184 h1 h2 h3)
  case new k => exact ck2_ok (n := 187) (P := fun a b => Nat.beq (a * 256 + b) k) h (fun a b e h1 h2 h3 => by rw [← Nat.eq_of_beq_eq_true e]; exact d_187 h1 h2 h3)
  case anewarray k => exact ck2_ok (n := 189) (P := fun a b => Nat.beq (a * 256 + b) k) h (fun a b e h1 h2 h3 => by rw [← Nat.eq_of_beq_eq_true e]; exact d_189 h1 h2 h3)
  case checkcast k => exact ck2_ok (n := 192) (P := fun a b => Nat.beq (a * 256 + b) k) h (fun a b e h1 h2 h3 => by rw [← Nat.eq_of_beq_eq_true e]; exact d_192 h1 h2 h3)
  case instanceof k => exact ck2_ok (n := 193) (P := fun a b => Nat.beq (a * 256 + b) k) h (fun a b e h1 h2 h3 => by rw [← Nat.eq_of_beq_eq_true e]; exact d_193 h1 h2 h3)
  case sipush k => exact ck2_ok (n := 17) (P := fun a b => decide (Reader.signed 16 (a * 256 + b) = k)) h (fun a b e h1 h2 h3 => by rw [← of_decide_eq_true e]; exact d_17 h1 h2 h3)
  case goto k => exact ck2_ok (n := 167) (P := fun a b => decide (Reader.signed 16 (a * 256 + b) = k)) h (fun a b e h1 h2 h3 => by rw [← of_decide_eq_true e]; exact d_167 h1 h2 h3)
  case ifnull k => exact ck2_ok (n := 198) (P := fun a b => decide (Reader.signed 16 (a * 256 + b) = k)) h (fun a b e h1 h2 h3 => by rw [← of_decide_eq_true e]; exact d_198 h1 h2 h3)
  case ifnonnull k => exact ck2_ok (n := 199) (P := fun a b => decide (Reader.signed 16 (a * 256 + b) = k)) h (fun a b e h1 h2 h3 => by rw [← of_decide_eq_true e]; exact d_199 h1 h2 h3)
  case ifCond q k =>
    cases q
    · exact ck2_ok (n := 153) (P := fun a b => decide (Reader.signed 16 (a * 256 + b) = k)) h (fun a b e h1 h2 h3 => by rw [← of_decide_eq_true e]; exact d_153 h1 h2 h3)
    · exact ck2_ok (n := 154) (P := fun a b => decide (Reader.signed 16 (a * 256 + b) = k)) h (fun a b e h1 h2 h3 => by rw [← of_decide_eq_true e]; exact d_154 h1 h2 h3)
    · exact ck2_ok (n := 155) (P := fun a b => decide (Reader.signed 16 (a * 256 + b) = k)) h (fun a b e h1 h2 h3 => by rw [← of_decide_eq_true e]; exact d_155 h1 h2 h3)
    · exact ck2_ok (n := 156) (P := fun a b => decide (Reader.signed 16 (a * 256 + b) = k)) h (fun a b e h1 h2 h3 => by rw [← of_decide_eq_true e]; exact d_156 h1 h2 h3)
    · exact ck2_ok (n := 157) (P := fun a b => decide (Reader.signed 16 (a * 256 + b) = k)) h (fun a b e h1 h2 h3 => by rw [← of_decide_eq_true e]; exact d_157 h1 h2 h3)
    · exact ck2_ok (n := 158) (P := fun a b => decide (Reader.signed 16 (a * 256 + b) = k)) h (fun a b e h1 h2 h3 => by rw [← of_decide_eq_true e]; exact d_158 h1 h2 h3)
  case if_icmp q k =>
    cases q
    · exact ck2_ok (n := 159) (P := fun a b => decide (Reader.signed 16 (a * 256 + b) = k)) h (fun a b e h1 h2 h3 => by rw [← of_decide_eq_true e]; exact d_159 h1 h2 h3)
    · exact ck2_ok (n := 160) (P := fun a b => decide (Reader.signed 16 (a * 256 + b) = k)) h (fun a b e h1 h2 h3 => by rw [← of_decide_eq_true e]; exact d_160 h1 h2 h3)
    · exact ck2_ok (n := 161) (P := fun a b => decide (Reader.signed 16 (a * 256 + b) = k)) h (fun a b e h1 h2 h3 => by rw [← of_decide_eq_true e]; exact d_161 h1 h2 h3)
    · exact ck2_ok (n := 162) (P := fun a b => decide (Reader.signed 16 (a * 256 + b) = k)) h (fun a b e h1 h2 h3 => by rw [← of_decide_eq_true e]; exact d_162 h1 h2 h3)
    · exact ck2_ok (n := 163) (P := fun a b => decide (Reader.signed 16 (a * 256 + b) = k)) h (fun a b e h1 h2 h3 => by rw [← of_decide_eq_true e]; exact d_163 h1 h2 h3)
    · exact ck2_ok (n := 164) (P := fun a b => decide (Reader.signed 16 (a * 256 + b) = k)) h (fun a b e h1 h2 h3 => by rw [← of_decide_eq_true e]; exact d_164 h1 h2 h3)
  case if_acmp q k =>
    cases q
    · exact ck2_ok (n := 165) (P := fun a b => decide (Reader.signed 16 (a * 256 + b) = k)) h (fun a b e h1 h2 h3 => by rw [← of_decide_eq_true e]; exact d_165 h1 h2 h3)
    · exact ck2_ok (n := 166) (P := fun a b => decide (Reader.signed 16 (a * 256 + b) = k)) h (fun a b e h1 h2 h3 => by rw [← of_decide_eq_true e]; exact d_166 h1 h2 h3)
  case iinc k m => exact ck2_ok (n := 132) (P := fun a b => Nat.beq a k && decide (Reader.signed 8 b = m)) h (fun a b e h1 h2 h3 => by
    obtain ⟨e1, e2⟩ := Bool.and_eq_true_iff.mp e
    have e1 := Nat.eq_of_beq_eq_true e1
    have e2 := of_decide_eq_true e2
    subst e1 e2
    exact d_132 h1 h2 h3)
  case newarray t =>
    cases t
    case boolean => exact ck1_ok (n := 188) (P := fun a => Nat.beq a 4) h (fun a e h1 h2 => d_188_4 h1 (by rw [← Nat.eq_of_beq_eq_true e]; exact h2))
    case char => exact ck1_ok (n := 188) (P := fun a => Nat.beq a 5) h (fun a e h1 h2 => d_188_5 h1 (by rw [← Nat.eq_of_beq_eq_true e]; exact h2))
    case float => exact False.elim (Bool.false_ne_true h)
    case double => exact False.elim (Bool.false_ne_true h)
    case byte => exact ck1_ok (n := 188) (P := fun a => Nat.beq a 8) h (fun a e h1 h2 => d_188_8 h1 (by rw [← Nat.eq_of_beq_eq_true e]; exact h2))
    case short => exact ck1_ok (n := 188) (P := fun a => Nat.beq a 9) h (fun a e h1 h2 => d_188_9 h1 (by rw [← Nat.eq_of_beq_eq_true e]; exact h2))
    case int => exact ck1_ok (n := 188) (P := fun a => Nat.beq a 10) h (fun a e h1 h2 => d_188_10 h1 (by rw [← Nat.eq_of_beq_eq_true e]; exact h2))
    case long => exact ck1_ok (n := 188) (P := fun a => Nat.beq a 11) h (fun a e h1 h2 => d_188_11 h1 (by rw [← Nat.eq_of_beq_eq_true e]; exact h2))
  all_goals exact False.elim (Bool.false_ne_true h)
end FCK
