/-! an instruction is held against its bytes -/
noncomputable def e0 (k : Nat) (l : List UInt8) : Option (Nat × List UInt8) := match l with
  | b :: r => bif Nat.beq b.toNat k then some (1, r) else none
  | _ => none
noncomputable def eU (k n : Nat) (l : List UInt8) : Option (Nat × List UInt8) := match l with
  | b :: c :: r => bif Nat.beq b.toNat k && Nat.beq c.toNat n then some (2, r) else none
  | _ => none
noncomputable def eW2 (k n : Nat) (l : List UInt8) : Option (Nat × List UInt8) := match l with
  | b :: c :: d :: r => bif Nat.beq b.toNat k && Nat.beq (c.toNat * 256 + d.toNat) n then some (3, r) else none
  | _ => none
noncomputable def eS1 (k : Nat) (z : Int) (l : List UInt8) : Option (Nat × List UInt8) := match l with
  | b :: c :: r => bif Nat.beq b.toNat k && decide (Jvm.ClassFile.Reader.signed 8 c.toNat = z) then some (2, r) else none
  | _ => none
noncomputable def eS2 (k : Nat) (z : Int) (l : List UInt8) : Option (Nat × List UInt8) := match l with
  | b :: c :: d :: r => bif Nat.beq b.toNat k && decide (Jvm.ClassFile.Reader.signed 16 (c.toNat * 256 + d.toNat) = z) then some (3, r) else none
  | _ => none
noncomputable def eI2 (n : Nat) (z : Int) (l : List UInt8) : Option (Nat × List UInt8) := match l with
  | b :: c :: d :: r => bif Nat.beq b.toNat 132 && (Nat.beq c.toNat n && decide (Jvm.ClassFile.Reader.signed 8 d.toNat = z)) then some (3, r) else none
  | _ => none
noncomputable def eCi : Jvm.ClassFile.Cond → Nat
  | .eq => 0
  | .ne => 1
  | .lt => 2
  | .ge => 3
  | .gt => 4
  | .le => 5
noncomputable def eN (ins : Instr) (l : List UInt8) : Option (Nat × List UInt8) := match ins with
  | .aaload => e0 50 l
  | .aastore => e0 83 l
  | .aconst_null => e0 1 l
  | .areturn => e0 176 l
  | .arraylength => e0 190 l
  | .baload => e0 51 l
  | .bastore => e0 84 l
  | .dup => e0 89 l
  | .dup2 => e0 92 l
  | .i2b => e0 145 l
  | .i2l => e0 133 l
  | .iadd => e0 96 l
  | .iaload => e0 46 l
  | .iand => e0 126 l
  | .iastore => e0 79 l
  | .idiv => e0 108 l
  | .imul => e0 104 l
  | .ineg => e0 116 l
  | .ior => e0 128 l
  | .irem => e0 112 l
  | .ireturn => e0 172 l
  | .ishl => e0 120 l
  | .ishr => e0 122 l
  | .isub => e0 100 l
  | .iushr => e0 124 l
  | .ixor => e0 130 l
  | .l2i => e0 136 l
  | .ladd => e0 97 l
  | .land => e0 127 l
  | .lcmp => e0 148 l
  | .ldiv => e0 109 l
  | .lmul => e0 105 l
  | .lor => e0 129 l
  | .lrem => e0 113 l
  | .lreturn => e0 173 l
  | .lshl => e0 121 l
  | .lsub => e0 101 l
  | .lushr => e0 125 l
  | .lxor => e0 131 l
  | .pop => e0 87 l
  | .pop2 => e0 88 l
  | .return_ => e0 177 l
  | .lneg => e0 117 l
  | .lshr => e0 123 l
  | .i2s => e0 147 l
  | .i2c => e0 146 l
  | .nop => e0 0 l
  | .athrow => e0 191 l
  | .iload_n n => e0 (26 + n.val) l
  | .lload_n n => e0 (30 + n.val) l
  | .aload_n n => e0 (42 + n.val) l
  | .istore_n n => e0 (59 + n.val) l
  | .lstore_n n => e0 (63 + n.val) l
  | .astore_n n => e0 (75 + n.val) l
  | .lconst n => e0 (9 + n.val) l
  | .iconst z => bif Nat.ble 2 (z + 3).toNat && Nat.ble (z + 3).toNat 8 then e0 (z + 3).toNat l else none
  | .iload n => eU 21 n l
  | .lload n => eU 22 n l
  | .aload n => eU 25 n l
  | .istore n => eU 54 n l
  | .lstore n => eU 55 n l
  | .astore n => eU 58 n l
  | .ldc n => eU 18 n l
  | .getfield n => eW2 180 n l
  | .putfield n => eW2 181 n l
  | .getstatic n => eW2 178 n l
  | .putstatic n => eW2 179 n l
  | .invokevirtual n => eW2 182 n l
  | .invokespecial n => eW2 183 n l
  | .invokestatic n => eW2 184 n l
  | .new n => eW2 187 n l
  | .anewarray n => eW2 189 n l
  | .ldc_w n => eW2 19 n l
  | .ldc2_w n => eW2 20 n l
  | .checkcast n => eW2 192 n l
  | .bipush z => eS1 16 z l
  | .sipush z => eS2 17 z l
  | .goto z => eS2 167 z l
  | .ifnull z => eS2 198 z l
  | .ifnonnull z => eS2 199 z l
  | .iinc n z => eI2 n z l
  | .ifCond q z => eS2 (153 + eCi q) z l
  | .if_icmp q z => eS2 (159 + eCi q) z l
  | .newarray t => (match t with
    | .boolean => eU 188 4 l
    | .byte => eU 188 8 l
    | .int => eU 188 10 l
    | _ => none)
  | _ => none
section ENC
variable {A : ByteArray} {pc : Nat} {b c d : UInt8} {l r : List UInt8} {ins : Instr} {n : Nat}
/-- the bytes of A from pc on -/
noncomputable def eR (A : ByteArray) (pc : Nat) (l : List UInt8) : Prop := A.data.toList.drop pc = l
theorem u1_eq (C : ByteArray) (p : Nat) : (Jvm.ClassFile.Reader.u1 : Jvm.ClassFile.Decoder Nat) C p = if hh : p < C.size then .ok (C[p].toNat, p + 1) else .error (.truncated p) := by
  unfold Jvm.ClassFile.Reader.u1
  by_cases hh : p < C.size
  · rw [dif_pos hh]
    show (dite (p < C.size) (fun hh => (do set (p + 1); pure C[p].toNat : Jvm.ClassFile.Decoder Nat)) (fun _ => throw (Jvm.ClassFile.HasTruncated.truncated p))) C p = _
    rw [dif_pos hh]
    rfl
  · rw [dif_neg hh]
    show (dite (p < C.size) (fun hh => (do set (p + 1); pure C[p].toNat : Jvm.ClassFile.Decoder Nat)) (fun _ => throw (Jvm.ClassFile.HasTruncated.truncated p))) C p = _
    rw [dif_neg hh]
    rfl
theorem eR_1 (h : eR A pc (b :: l)) : (Jvm.ClassFile.Reader.u1 : Jvm.ClassFile.Decoder Nat) A pc = .ok (b.toNat, pc + 1) ∧ eR A (pc + 1) l := by
  have h0 : A.data.toList.drop pc = b :: l := h
  have hlt : pc < A.data.toList.length := by
    rcases Nat.lt_or_ge pc A.data.toList.length with q | q
    · exact q
    · rw [List.drop_eq_nil_of_le q] at h0
      cases h0
  rw [List.drop_eq_getElem_cons hlt] at h0
  injection h0 with e1 e2
  refine ⟨?_, e2⟩
  rw [u1_eq, dif_pos (show pc < A.size from hlt)]
  exact congrArg (fun z : UInt8 => (Except.ok (z.toNat, pc + 1) : Except Jvm.ClassFile.DecodeError (Nat × Nat))) e1
theorem eBd {α β : Type} {x : Jvm.ClassFile.Decoder α} {f : α → Jvm.ClassFile.Decoder β} {v : α} {p q : Nat} {w : Except Jvm.ClassFile.DecodeError (β × Nat)} (h : x A p = .ok (v, q)) (k : f v A q = w) : (x >>= f) A p = w := by
  show Except.bind (x A p) (fun v => f v.1 A v.2) = w
  rw [h]
  exact k
theorem eMp {α β : Type} {x : Jvm.ClassFile.Decoder α} {g : α → β} {v : α} {p q : Nat} (h : x A p = .ok (v, q)) : (g <$> x) A p = .ok (g v, q) := by
  show Except.bind (x A p) (fun v => .ok (g v.1, v.2)) = _
  rw [h]
  rfl
theorem eR_2 (h : eR A pc (b :: c :: l)) : (Jvm.ClassFile.Reader.u2 : Jvm.ClassFile.Decoder Nat) A pc = .ok (b.toNat * 256 + c.toNat, pc + 2) := by
  obtain ⟨h1, h2⟩ := eR_1 h
  obtain ⟨h3, h4⟩ := eR_1 h2
  exact eBd h1 (eBd h3 rfl)
theorem eR_s1 (h : eR A pc (b :: l)) : (Jvm.ClassFile.Reader.s1 : Jvm.ClassFile.Decoder Int) A pc = .ok (Jvm.ClassFile.Reader.signed 8 b.toNat, pc + 1) := eMp (eR_1 h).1
theorem eR_s2 (h : eR A pc (b :: c :: l)) : (Jvm.ClassFile.Reader.s2 : Jvm.ClassFile.Decoder Int) A pc = .ok (Jvm.ClassFile.Reader.signed 16 (b.toNat * 256 + c.toNat), pc + 2) := eMp (eR_2 h)
theorem eDc {len : Nat} (h : Jvm.ClassFile.Decoder.instr pc A pc = .ok (ins, pc + len)) : decode A pc = .ok (ins, len) := by
  show Except.bind (Jvm.ClassFile.Decoder.instr pc A pc) (fun v => .ok (v.1, v.2 - pc)) = _
  rw [h]
  show Except.ok (ins, pc + len - pc) = _
  rw [Nat.add_sub_cancel_left]
theorem eOp {k : Nat} (h : eR A pc (b :: l)) (hb : b.toNat = k) : (Jvm.ClassFile.Reader.u1 : Jvm.ClassFile.Decoder Nat) A pc = .ok (k, pc + 1) := by
  rw [← hb]
  exact (eR_1 h).1
theorem ed_aaload (h : eR A pc (b :: l)) (hb : b.toNat = 50) : decode A pc = .ok (.aaload, 1) := eDc (eBd (eOp h hb) rfl)
theorem ed_aastore (h : eR A pc (b :: l)) (hb : b.toNat = 83) : decode A pc = .ok (.aastore, 1) := eDc (eBd (eOp h hb) rfl)
theorem ed_aconst_null (h : eR A pc (b :: l)) (hb : b.toNat = 1) : decode A pc = .ok (.aconst_null, 1) := eDc (eBd (eOp h hb) rfl)
theorem ed_areturn (h : eR A pc (b :: l)) (hb : b.toNat = 176) : decode A pc = .ok (.areturn, 1) := eDc (eBd (eOp h hb) rfl)
theorem ed_arraylength (h : eR A pc (b :: l)) (hb : b.toNat = 190) : decode A pc = .ok (.arraylength, 1) := eDc (eBd (eOp h hb) rfl)
theorem ed_baload (h : eR A pc (b :: l)) (hb : b.toNat = 51) : decode A pc = .ok (.baload, 1) := eDc (eBd (eOp h hb) rfl)
theorem ed_bastore (h : eR A pc (b :: l)) (hb : b.toNat = 84) : decode A pc = .ok (.bastore, 1) := eDc (eBd (eOp h hb) rfl)
theorem ed_dup (h : eR A pc (b :: l)) (hb : b.toNat = 89) : decode A pc = .ok (.dup, 1) := eDc (eBd (eOp h hb) rfl)
theorem ed_dup2 (h : eR A pc (b :: l)) (hb : b.toNat = 92) : decode A pc = .ok (.dup2, 1) := eDc (eBd (eOp h hb) rfl)
theorem ed_i2b (h : eR A pc (b :: l)) (hb : b.toNat = 145) : decode A pc = .ok (.i2b, 1) := eDc (eBd (eOp h hb) rfl)
theorem ed_i2l (h : eR A pc (b :: l)) (hb : b.toNat = 133) : decode A pc = .ok (.i2l, 1) := eDc (eBd (eOp h hb) rfl)
theorem ed_iadd (h : eR A pc (b :: l)) (hb : b.toNat = 96) : decode A pc = .ok (.iadd, 1) := eDc (eBd (eOp h hb) rfl)
theorem ed_iaload (h : eR A pc (b :: l)) (hb : b.toNat = 46) : decode A pc = .ok (.iaload, 1) := eDc (eBd (eOp h hb) rfl)
theorem ed_iand (h : eR A pc (b :: l)) (hb : b.toNat = 126) : decode A pc = .ok (.iand, 1) := eDc (eBd (eOp h hb) rfl)
theorem ed_iastore (h : eR A pc (b :: l)) (hb : b.toNat = 79) : decode A pc = .ok (.iastore, 1) := eDc (eBd (eOp h hb) rfl)
theorem ed_idiv (h : eR A pc (b :: l)) (hb : b.toNat = 108) : decode A pc = .ok (.idiv, 1) := eDc (eBd (eOp h hb) rfl)
theorem ed_imul (h : eR A pc (b :: l)) (hb : b.toNat = 104) : decode A pc = .ok (.imul, 1) := eDc (eBd (eOp h hb) rfl)
theorem ed_ineg (h : eR A pc (b :: l)) (hb : b.toNat = 116) : decode A pc = .ok (.ineg, 1) := eDc (eBd (eOp h hb) rfl)
theorem ed_ior (h : eR A pc (b :: l)) (hb : b.toNat = 128) : decode A pc = .ok (.ior, 1) := eDc (eBd (eOp h hb) rfl)
theorem ed_irem (h : eR A pc (b :: l)) (hb : b.toNat = 112) : decode A pc = .ok (.irem, 1) := eDc (eBd (eOp h hb) rfl)
theorem ed_ireturn (h : eR A pc (b :: l)) (hb : b.toNat = 172) : decode A pc = .ok (.ireturn, 1) := eDc (eBd (eOp h hb) rfl)
theorem ed_ishl (h : eR A pc (b :: l)) (hb : b.toNat = 120) : decode A pc = .ok (.ishl, 1) := eDc (eBd (eOp h hb) rfl)
theorem ed_ishr (h : eR A pc (b :: l)) (hb : b.toNat = 122) : decode A pc = .ok (.ishr, 1) := eDc (eBd (eOp h hb) rfl)
theorem ed_isub (h : eR A pc (b :: l)) (hb : b.toNat = 100) : decode A pc = .ok (.isub, 1) := eDc (eBd (eOp h hb) rfl)
theorem ed_iushr (h : eR A pc (b :: l)) (hb : b.toNat = 124) : decode A pc = .ok (.iushr, 1) := eDc (eBd (eOp h hb) rfl)
theorem ed_ixor (h : eR A pc (b :: l)) (hb : b.toNat = 130) : decode A pc = .ok (.ixor, 1) := eDc (eBd (eOp h hb) rfl)
theorem ed_l2i (h : eR A pc (b :: l)) (hb : b.toNat = 136) : decode A pc = .ok (.l2i, 1) := eDc (eBd (eOp h hb) rfl)
theorem ed_ladd (h : eR A pc (b :: l)) (hb : b.toNat = 97) : decode A pc = .ok (.ladd, 1) := eDc (eBd (eOp h hb) rfl)
theorem ed_land (h : eR A pc (b :: l)) (hb : b.toNat = 127) : decode A pc = .ok (.land, 1) := eDc (eBd (eOp h hb) rfl)
theorem ed_lcmp (h : eR A pc (b :: l)) (hb : b.toNat = 148) : decode A pc = .ok (.lcmp, 1) := eDc (eBd (eOp h hb) rfl)
theorem ed_ldiv (h : eR A pc (b :: l)) (hb : b.toNat = 109) : decode A pc = .ok (.ldiv, 1) := eDc (eBd (eOp h hb) rfl)
theorem ed_lmul (h : eR A pc (b :: l)) (hb : b.toNat = 105) : decode A pc = .ok (.lmul, 1) := eDc (eBd (eOp h hb) rfl)
theorem ed_lor (h : eR A pc (b :: l)) (hb : b.toNat = 129) : decode A pc = .ok (.lor, 1) := eDc (eBd (eOp h hb) rfl)
theorem ed_lrem (h : eR A pc (b :: l)) (hb : b.toNat = 113) : decode A pc = .ok (.lrem, 1) := eDc (eBd (eOp h hb) rfl)
theorem ed_lreturn (h : eR A pc (b :: l)) (hb : b.toNat = 173) : decode A pc = .ok (.lreturn, 1) := eDc (eBd (eOp h hb) rfl)
theorem ed_lshl (h : eR A pc (b :: l)) (hb : b.toNat = 121) : decode A pc = .ok (.lshl, 1) := eDc (eBd (eOp h hb) rfl)
theorem ed_lsub (h : eR A pc (b :: l)) (hb : b.toNat = 101) : decode A pc = .ok (.lsub, 1) := eDc (eBd (eOp h hb) rfl)
theorem ed_lushr (h : eR A pc (b :: l)) (hb : b.toNat = 125) : decode A pc = .ok (.lushr, 1) := eDc (eBd (eOp h hb) rfl)
theorem ed_lxor (h : eR A pc (b :: l)) (hb : b.toNat = 131) : decode A pc = .ok (.lxor, 1) := eDc (eBd (eOp h hb) rfl)
theorem ed_pop (h : eR A pc (b :: l)) (hb : b.toNat = 87) : decode A pc = .ok (.pop, 1) := eDc (eBd (eOp h hb) rfl)
theorem ed_pop2 (h : eR A pc (b :: l)) (hb : b.toNat = 88) : decode A pc = .ok (.pop2, 1) := eDc (eBd (eOp h hb) rfl)
theorem ed_return_ (h : eR A pc (b :: l)) (hb : b.toNat = 177) : decode A pc = .ok (.return_, 1) := eDc (eBd (eOp h hb) rfl)
theorem ed_lneg (h : eR A pc (b :: l)) (hb : b.toNat = 117) : decode A pc = .ok (.lneg, 1) := eDc (eBd (eOp h hb) rfl)
theorem ed_lshr (h : eR A pc (b :: l)) (hb : b.toNat = 123) : decode A pc = .ok (.lshr, 1) := eDc (eBd (eOp h hb) rfl)
theorem ed_i2s (h : eR A pc (b :: l)) (hb : b.toNat = 147) : decode A pc = .ok (.i2s, 1) := eDc (eBd (eOp h hb) rfl)
theorem ed_i2c (h : eR A pc (b :: l)) (hb : b.toNat = 146) : decode A pc = .ok (.i2c, 1) := eDc (eBd (eOp h hb) rfl)
theorem ed_nop (h : eR A pc (b :: l)) (hb : b.toNat = 0) : decode A pc = .ok (.nop, 1) := eDc (eBd (eOp h hb) rfl)
theorem ed_athrow (h : eR A pc (b :: l)) (hb : b.toNat = 191) : decode A pc = .ok (.athrow, 1) := eDc (eBd (eOp h hb) rfl)
theorem ed_iload_n0 (h : eR A pc (b :: l)) (hb : b.toNat = 26) : decode A pc = .ok (.iload_n 0, 1) := eDc (eBd (eOp h hb) rfl)
theorem ed_iload_n1 (h : eR A pc (b :: l)) (hb : b.toNat = 27) : decode A pc = .ok (.iload_n 1, 1) := eDc (eBd (eOp h hb) rfl)
theorem ed_iload_n2 (h : eR A pc (b :: l)) (hb : b.toNat = 28) : decode A pc = .ok (.iload_n 2, 1) := eDc (eBd (eOp h hb) rfl)
theorem ed_iload_n3 (h : eR A pc (b :: l)) (hb : b.toNat = 29) : decode A pc = .ok (.iload_n 3, 1) := eDc (eBd (eOp h hb) rfl)
theorem ed_lload_n0 (h : eR A pc (b :: l)) (hb : b.toNat = 30) : decode A pc = .ok (.lload_n 0, 1) := eDc (eBd (eOp h hb) rfl)
theorem ed_lload_n1 (h : eR A pc (b :: l)) (hb : b.toNat = 31) : decode A pc = .ok (.lload_n 1, 1) := eDc (eBd (eOp h hb) rfl)
theorem ed_lload_n2 (h : eR A pc (b :: l)) (hb : b.toNat = 32) : decode A pc = .ok (.lload_n 2, 1) := eDc (eBd (eOp h hb) rfl)
theorem ed_lload_n3 (h : eR A pc (b :: l)) (hb : b.toNat = 33) : decode A pc = .ok (.lload_n 3, 1) := eDc (eBd (eOp h hb) rfl)
theorem ed_aload_n0 (h : eR A pc (b :: l)) (hb : b.toNat = 42) : decode A pc = .ok (.aload_n 0, 1) := eDc (eBd (eOp h hb) rfl)
theorem ed_aload_n1 (h : eR A pc (b :: l)) (hb : b.toNat = 43) : decode A pc = .ok (.aload_n 1, 1) := eDc (eBd (eOp h hb) rfl)
theorem ed_aload_n2 (h : eR A pc (b :: l)) (hb : b.toNat = 44) : decode A pc = .ok (.aload_n 2, 1) := eDc (eBd (eOp h hb) rfl)
theorem ed_aload_n3 (h : eR A pc (b :: l)) (hb : b.toNat = 45) : decode A pc = .ok (.aload_n 3, 1) := eDc (eBd (eOp h hb) rfl)
theorem ed_istore_n0 (h : eR A pc (b :: l)) (hb : b.toNat = 59) : decode A pc = .ok (.istore_n 0, 1) := eDc (eBd (eOp h hb) rfl)
theorem ed_istore_n1 (h : eR A pc (b :: l)) (hb : b.toNat = 60) : decode A pc = .ok (.istore_n 1, 1) := eDc (eBd (eOp h hb) rfl)
theorem ed_istore_n2 (h : eR A pc (b :: l)) (hb : b.toNat = 61) : decode A pc = .ok (.istore_n 2, 1) := eDc (eBd (eOp h hb) rfl)
theorem ed_istore_n3 (h : eR A pc (b :: l)) (hb : b.toNat = 62) : decode A pc = .ok (.istore_n 3, 1) := eDc (eBd (eOp h hb) rfl)
theorem ed_lstore_n0 (h : eR A pc (b :: l)) (hb : b.toNat = 63) : decode A pc = .ok (.lstore_n 0, 1) := eDc (eBd (eOp h hb) rfl)
theorem ed_lstore_n1 (h : eR A pc (b :: l)) (hb : b.toNat = 64) : decode A pc = .ok (.lstore_n 1, 1) := eDc (eBd (eOp h hb) rfl)
theorem ed_lstore_n2 (h : eR A pc (b :: l)) (hb : b.toNat = 65) : decode A pc = .ok (.lstore_n 2, 1) := eDc (eBd (eOp h hb) rfl)
theorem ed_lstore_n3 (h : eR A pc (b :: l)) (hb : b.toNat = 66) : decode A pc = .ok (.lstore_n 3, 1) := eDc (eBd (eOp h hb) rfl)
theorem ed_astore_n0 (h : eR A pc (b :: l)) (hb : b.toNat = 75) : decode A pc = .ok (.astore_n 0, 1) := eDc (eBd (eOp h hb) rfl)
theorem ed_astore_n1 (h : eR A pc (b :: l)) (hb : b.toNat = 76) : decode A pc = .ok (.astore_n 1, 1) := eDc (eBd (eOp h hb) rfl)
theorem ed_astore_n2 (h : eR A pc (b :: l)) (hb : b.toNat = 77) : decode A pc = .ok (.astore_n 2, 1) := eDc (eBd (eOp h hb) rfl)
theorem ed_astore_n3 (h : eR A pc (b :: l)) (hb : b.toNat = 78) : decode A pc = .ok (.astore_n 3, 1) := eDc (eBd (eOp h hb) rfl)
theorem ed_lconst0 (h : eR A pc (b :: l)) (hb : b.toNat = 9) : decode A pc = .ok (.lconst 0, 1) := eDc (eBd (eOp h hb) rfl)
theorem ed_lconst1 (h : eR A pc (b :: l)) (hb : b.toNat = 10) : decode A pc = .ok (.lconst 1, 1) := eDc (eBd (eOp h hb) rfl)
theorem ed_iconstm1 (h : eR A pc (b :: l)) (hb : b.toNat = 2) : decode A pc = .ok (.iconst (-1), 1) := eDc (eBd (eOp h hb) rfl)
theorem ed_iconst0 (h : eR A pc (b :: l)) (hb : b.toNat = 3) : decode A pc = .ok (.iconst 0, 1) := eDc (eBd (eOp h hb) rfl)
theorem ed_iconst1 (h : eR A pc (b :: l)) (hb : b.toNat = 4) : decode A pc = .ok (.iconst 1, 1) := eDc (eBd (eOp h hb) rfl)
theorem ed_iconst2 (h : eR A pc (b :: l)) (hb : b.toNat = 5) : decode A pc = .ok (.iconst 2, 1) := eDc (eBd (eOp h hb) rfl)
theorem ed_iconst3 (h : eR A pc (b :: l)) (hb : b.toNat = 6) : decode A pc = .ok (.iconst 3, 1) := eDc (eBd (eOp h hb) rfl)
theorem ed_iconst4 (h : eR A pc (b :: l)) (hb : b.toNat = 7) : decode A pc = .ok (.iconst 4, 1) := eDc (eBd (eOp h hb) rfl)
theorem ed_iconst5 (h : eR A pc (b :: l)) (hb : b.toNat = 8) : decode A pc = .ok (.iconst 5, 1) := eDc (eBd (eOp h hb) rfl)
theorem ed_iload (h : eR A pc (b :: c :: l)) (hb : b.toNat = 21) : decode A pc = .ok (.iload c.toNat, 2) := eDc (eBd (eOp h hb) (eBd (eR_1 (eR_1 h).2).1 rfl))
theorem ed_lload (h : eR A pc (b :: c :: l)) (hb : b.toNat = 22) : decode A pc = .ok (.lload c.toNat, 2) := eDc (eBd (eOp h hb) (eBd (eR_1 (eR_1 h).2).1 rfl))
theorem ed_aload (h : eR A pc (b :: c :: l)) (hb : b.toNat = 25) : decode A pc = .ok (.aload c.toNat, 2) := eDc (eBd (eOp h hb) (eBd (eR_1 (eR_1 h).2).1 rfl))
theorem ed_istore (h : eR A pc (b :: c :: l)) (hb : b.toNat = 54) : decode A pc = .ok (.istore c.toNat, 2) := eDc (eBd (eOp h hb) (eBd (eR_1 (eR_1 h).2).1 rfl))
theorem ed_lstore (h : eR A pc (b :: c :: l)) (hb : b.toNat = 55) : decode A pc = .ok (.lstore c.toNat, 2) := eDc (eBd (eOp h hb) (eBd (eR_1 (eR_1 h).2).1 rfl))
theorem ed_astore (h : eR A pc (b :: c :: l)) (hb : b.toNat = 58) : decode A pc = .ok (.astore c.toNat, 2) := eDc (eBd (eOp h hb) (eBd (eR_1 (eR_1 h).2).1 rfl))
theorem ed_ldc (h : eR A pc (b :: c :: l)) (hb : b.toNat = 18) : decode A pc = .ok (.ldc c.toNat, 2) := eDc (eBd (eOp h hb) (eBd (eR_1 (eR_1 h).2).1 rfl))
theorem ed_getfield (h : eR A pc (b :: c :: d :: l)) (hb : b.toNat = 180) : decode A pc = .ok (.getfield (c.toNat * 256 + d.toNat), 3) := eDc (eBd (eOp h hb) (eBd (eR_2 (eR_1 h).2) rfl))
theorem ed_putfield (h : eR A pc (b :: c :: d :: l)) (hb : b.toNat = 181) : decode A pc = .ok (.putfield (c.toNat * 256 + d.toNat), 3) := eDc (eBd (eOp h hb) (eBd (eR_2 (eR_1 h).2) rfl))
theorem ed_getstatic (h : eR A pc (b :: c :: d :: l)) (hb : b.toNat = 178) : decode A pc = .ok (.getstatic (c.toNat * 256 + d.toNat), 3) := eDc (eBd (eOp h hb) (eBd (eR_2 (eR_1 h).2) rfl))
theorem ed_putstatic (h : eR A pc (b :: c :: d :: l)) (hb : b.toNat = 179) : decode A pc = .ok (.putstatic (c.toNat * 256 + d.toNat), 3) := eDc (eBd (eOp h hb) (eBd (eR_2 (eR_1 h).2) rfl))
theorem ed_invokevirtual (h : eR A pc (b :: c :: d :: l)) (hb : b.toNat = 182) : decode A pc = .ok (.invokevirtual (c.toNat * 256 + d.toNat), 3) := eDc (eBd (eOp h hb) (eBd (eR_2 (eR_1 h).2) rfl))
theorem ed_invokespecial (h : eR A pc (b :: c :: d :: l)) (hb : b.toNat = 183) : decode A pc = .ok (.invokespecial (c.toNat * 256 + d.toNat), 3) := eDc (eBd (eOp h hb) (eBd (eR_2 (eR_1 h).2) rfl))
theorem ed_invokestatic (h : eR A pc (b :: c :: d :: l)) (hb : b.toNat = 184) : decode A pc = .ok (.invokestatic (c.toNat * 256 + d.toNat), 3) := eDc (eBd (eOp h hb) (eBd (eR_2 (eR_1 h).2) rfl))
theorem ed_new (h : eR A pc (b :: c :: d :: l)) (hb : b.toNat = 187) : decode A pc = .ok (.new (c.toNat * 256 + d.toNat), 3) := eDc (eBd (eOp h hb) (eBd (eR_2 (eR_1 h).2) rfl))
theorem ed_anewarray (h : eR A pc (b :: c :: d :: l)) (hb : b.toNat = 189) : decode A pc = .ok (.anewarray (c.toNat * 256 + d.toNat), 3) := eDc (eBd (eOp h hb) (eBd (eR_2 (eR_1 h).2) rfl))
theorem ed_ldc_w (h : eR A pc (b :: c :: d :: l)) (hb : b.toNat = 19) : decode A pc = .ok (.ldc_w (c.toNat * 256 + d.toNat), 3) := eDc (eBd (eOp h hb) (eBd (eR_2 (eR_1 h).2) rfl))
theorem ed_ldc2_w (h : eR A pc (b :: c :: d :: l)) (hb : b.toNat = 20) : decode A pc = .ok (.ldc2_w (c.toNat * 256 + d.toNat), 3) := eDc (eBd (eOp h hb) (eBd (eR_2 (eR_1 h).2) rfl))
theorem ed_checkcast (h : eR A pc (b :: c :: d :: l)) (hb : b.toNat = 192) : decode A pc = .ok (.checkcast (c.toNat * 256 + d.toNat), 3) := eDc (eBd (eOp h hb) (eBd (eR_2 (eR_1 h).2) rfl))
theorem ed_bipush (h : eR A pc (b :: c :: l)) (hb : b.toNat = 16) : decode A pc = .ok (.bipush (Jvm.ClassFile.Reader.signed 8 c.toNat), 2) := eDc (eBd (eOp h hb) (eBd (eR_s1 (eR_1 h).2) rfl))
theorem ed_sipush (h : eR A pc (b :: c :: d :: l)) (hb : b.toNat = 17) : decode A pc = .ok (.sipush (Jvm.ClassFile.Reader.signed 16 (c.toNat * 256 + d.toNat)), 3) := eDc (eBd (eOp h hb) (eBd (eR_s2 (eR_1 h).2) rfl))
theorem ed_goto (h : eR A pc (b :: c :: d :: l)) (hb : b.toNat = 167) : decode A pc = .ok (.goto (Jvm.ClassFile.Reader.signed 16 (c.toNat * 256 + d.toNat)), 3) := eDc (eBd (eOp h hb) (eBd (eR_s2 (eR_1 h).2) rfl))
theorem ed_ifnull (h : eR A pc (b :: c :: d :: l)) (hb : b.toNat = 198) : decode A pc = .ok (.ifnull (Jvm.ClassFile.Reader.signed 16 (c.toNat * 256 + d.toNat)), 3) := eDc (eBd (eOp h hb) (eBd (eR_s2 (eR_1 h).2) rfl))
theorem ed_ifnonnull (h : eR A pc (b :: c :: d :: l)) (hb : b.toNat = 199) : decode A pc = .ok (.ifnonnull (Jvm.ClassFile.Reader.signed 16 (c.toNat * 256 + d.toNat)), 3) := eDc (eBd (eOp h hb) (eBd (eR_s2 (eR_1 h).2) rfl))
theorem ed_ifCond_eq (h : eR A pc (b :: c :: d :: l)) (hb : b.toNat = 153) : decode A pc = .ok (.ifCond .eq (Jvm.ClassFile.Reader.signed 16 (c.toNat * 256 + d.toNat)), 3) := eDc (eBd (eOp h hb) (eBd (eR_s2 (eR_1 h).2) rfl))
theorem ed_ifCond_ne (h : eR A pc (b :: c :: d :: l)) (hb : b.toNat = 154) : decode A pc = .ok (.ifCond .ne (Jvm.ClassFile.Reader.signed 16 (c.toNat * 256 + d.toNat)), 3) := eDc (eBd (eOp h hb) (eBd (eR_s2 (eR_1 h).2) rfl))
theorem ed_ifCond_lt (h : eR A pc (b :: c :: d :: l)) (hb : b.toNat = 155) : decode A pc = .ok (.ifCond .lt (Jvm.ClassFile.Reader.signed 16 (c.toNat * 256 + d.toNat)), 3) := eDc (eBd (eOp h hb) (eBd (eR_s2 (eR_1 h).2) rfl))
theorem ed_ifCond_ge (h : eR A pc (b :: c :: d :: l)) (hb : b.toNat = 156) : decode A pc = .ok (.ifCond .ge (Jvm.ClassFile.Reader.signed 16 (c.toNat * 256 + d.toNat)), 3) := eDc (eBd (eOp h hb) (eBd (eR_s2 (eR_1 h).2) rfl))
theorem ed_ifCond_gt (h : eR A pc (b :: c :: d :: l)) (hb : b.toNat = 157) : decode A pc = .ok (.ifCond .gt (Jvm.ClassFile.Reader.signed 16 (c.toNat * 256 + d.toNat)), 3) := eDc (eBd (eOp h hb) (eBd (eR_s2 (eR_1 h).2) rfl))
theorem ed_ifCond_le (h : eR A pc (b :: c :: d :: l)) (hb : b.toNat = 158) : decode A pc = .ok (.ifCond .le (Jvm.ClassFile.Reader.signed 16 (c.toNat * 256 + d.toNat)), 3) := eDc (eBd (eOp h hb) (eBd (eR_s2 (eR_1 h).2) rfl))
theorem ed_if_icmp_eq (h : eR A pc (b :: c :: d :: l)) (hb : b.toNat = 159) : decode A pc = .ok (.if_icmp .eq (Jvm.ClassFile.Reader.signed 16 (c.toNat * 256 + d.toNat)), 3) := eDc (eBd (eOp h hb) (eBd (eR_s2 (eR_1 h).2) rfl))
theorem ed_if_icmp_ne (h : eR A pc (b :: c :: d :: l)) (hb : b.toNat = 160) : decode A pc = .ok (.if_icmp .ne (Jvm.ClassFile.Reader.signed 16 (c.toNat * 256 + d.toNat)), 3) := eDc (eBd (eOp h hb) (eBd (eR_s2 (eR_1 h).2) rfl))
theorem ed_if_icmp_lt (h : eR A pc (b :: c :: d :: l)) (hb : b.toNat = 161) : decode A pc = .ok (.if_icmp .lt (Jvm.ClassFile.Reader.signed 16 (c.toNat * 256 + d.toNat)), 3) := eDc (eBd (eOp h hb) (eBd (eR_s2 (eR_1 h).2) rfl))
theorem ed_if_icmp_ge (h : eR A pc (b :: c :: d :: l)) (hb : b.toNat = 162) : decode A pc = .ok (.if_icmp .ge (Jvm.ClassFile.Reader.signed 16 (c.toNat * 256 + d.toNat)), 3) := eDc (eBd (eOp h hb) (eBd (eR_s2 (eR_1 h).2) rfl))
theorem ed_if_icmp_gt (h : eR A pc (b :: c :: d :: l)) (hb : b.toNat = 163) : decode A pc = .ok (.if_icmp .gt (Jvm.ClassFile.Reader.signed 16 (c.toNat * 256 + d.toNat)), 3) := eDc (eBd (eOp h hb) (eBd (eR_s2 (eR_1 h).2) rfl))
theorem ed_if_icmp_le (h : eR A pc (b :: c :: d :: l)) (hb : b.toNat = 164) : decode A pc = .ok (.if_icmp .le (Jvm.ClassFile.Reader.signed 16 (c.toNat * 256 + d.toNat)), 3) := eDc (eBd (eOp h hb) (eBd (eR_s2 (eR_1 h).2) rfl))
theorem ed_iinc (h : eR A pc (b :: c :: d :: l)) (hb : b.toNat = 132) : decode A pc = .ok (.iinc c.toNat (Jvm.ClassFile.Reader.signed 8 d.toNat), 3) := eDc (eBd (eOp h hb) (eBd (eR_1 (eR_1 h).2).1 (eBd (eR_s1 (eR_1 (eR_1 h).2).2) rfl)))
theorem ed_new_boolean (h : eR A pc (b :: c :: l)) (hb : b.toNat = 188) (hc : c.toNat = 4) : decode A pc = .ok (.newarray .boolean, 2) := eDc (eBd (eOp h hb) (eBd (show (Jvm.ClassFile.Reader.u1 : Jvm.ClassFile.Decoder Nat) A (pc + 1) = .ok (4, pc + 1 + 1) by rw [← hc]; exact (eR_1 (eR_1 h).2).1) rfl))
theorem ed_new_byte (h : eR A pc (b :: c :: l)) (hb : b.toNat = 188) (hc : c.toNat = 8) : decode A pc = .ok (.newarray .byte, 2) := eDc (eBd (eOp h hb) (eBd (show (Jvm.ClassFile.Reader.u1 : Jvm.ClassFile.Decoder Nat) A (pc + 1) = .ok (8, pc + 1 + 1) by rw [← hc]; exact (eR_1 (eR_1 h).2).1) rfl))
theorem ed_new_int (h : eR A pc (b :: c :: l)) (hb : b.toNat = 188) (hc : c.toNat = 10) : decode A pc = .ok (.newarray .int, 2) := eDc (eBd (eOp h hb) (eBd (show (Jvm.ClassFile.Reader.u1 : Jvm.ClassFile.Decoder Nat) A (pc + 1) = .ok (10, pc + 1 + 1) by rw [← hc]; exact (eR_1 (eR_1 h).2).1) rfl))
/-- what eN says -/
noncomputable def eSay (A : ByteArray) (pc : Nat) (ins : Instr) (l : List UInt8) (p : Nat × List UInt8) : Prop := decode A pc = .ok (ins, p.1) ∧ eR A (pc + p.1) p.2
theorem eR_c (h : eR A pc (b :: l)) : eR A (pc + 1) l := (eR_1 h).2
theorem e0_ok {k : Nat} {p : Nat × List UInt8} (row : ∀ {b : UInt8} {l : List UInt8}, eR A pc (b :: l) → b.toNat = k → decode A pc = .ok (ins, 1)) (h : eR A pc l) (hn : e0 k l = some p) : eSay A pc ins l p := by
  unfold e0 at hn
  split at hn
  · rename_i b r
    cases hq : Nat.beq b.toNat k with
    | false => rw [hq] at hn; cases hn
    | true =>
      rw [hq] at hn
      cases hn
      exact ⟨row h (Nat.eq_of_beq_eq_true hq), eR_c h⟩
  · cases hn
theorem eU_ok {k n : Nat} {p : Nat × List UInt8} (row : ∀ {b c : UInt8} {l : List UInt8}, eR A pc (b :: c :: l) → b.toNat = k → c.toNat = n → decode A pc = .ok (ins, 2)) (h : eR A pc l) (hn : eU k n l = some p) : eSay A pc ins l p := by
  unfold eU at hn
  split at hn
  · rename_i b c r
    cases hq : (Nat.beq b.toNat k && Nat.beq c.toNat n) with
    | false => rw [hq] at hn; cases hn
    | true =>
      rw [hq] at hn
      cases hn
      rw [Bool.and_eq_true] at hq
      exact ⟨row h (Nat.eq_of_beq_eq_true hq.1) (Nat.eq_of_beq_eq_true hq.2), eR_c (eR_c h)⟩
  · cases hn
theorem eW2_ok {k n : Nat} {p : Nat × List UInt8} (row : ∀ {b c d : UInt8} {l : List UInt8}, eR A pc (b :: c :: d :: l) → b.toNat = k → c.toNat * 256 + d.toNat = n → decode A pc = .ok (ins, 3)) (h : eR A pc l) (hn : eW2 k n l = some p) : eSay A pc ins l p := by
  unfold eW2 at hn
  split at hn
  · rename_i b c d r
    cases hq : (Nat.beq b.toNat k && Nat.beq (c.toNat * 256 + d.toNat) n) with
    | false => rw [hq] at hn; cases hn
    | true =>
      rw [hq] at hn
      cases hn
      rw [Bool.and_eq_true] at hq
      exact ⟨row h (Nat.eq_of_beq_eq_true hq.1) (Nat.eq_of_beq_eq_true hq.2), eR_c (eR_c (eR_c h))⟩
  · cases hn
theorem eS1_ok {k : Nat} {z : Int} {p : Nat × List UInt8} (row : ∀ {b c : UInt8} {l : List UInt8}, eR A pc (b :: c :: l) → b.toNat = k → Jvm.ClassFile.Reader.signed 8 c.toNat = z → decode A pc = .ok (ins, 2)) (h : eR A pc l) (hn : eS1 k z l = some p) : eSay A pc ins l p := by
  unfold eS1 at hn
  split at hn
  · rename_i b c r
    cases hq : (Nat.beq b.toNat k && decide (Jvm.ClassFile.Reader.signed 8 c.toNat = z)) with
    | false => rw [hq] at hn; cases hn
    | true =>
      rw [hq] at hn
      cases hn
      rw [Bool.and_eq_true] at hq
      exact ⟨row h (Nat.eq_of_beq_eq_true hq.1) (of_decide_eq_true hq.2), eR_c (eR_c h)⟩
  · cases hn
theorem eS2_ok {k : Nat} {z : Int} {p : Nat × List UInt8} (row : ∀ {b c d : UInt8} {l : List UInt8}, eR A pc (b :: c :: d :: l) → b.toNat = k → Jvm.ClassFile.Reader.signed 16 (c.toNat * 256 + d.toNat) = z → decode A pc = .ok (ins, 3)) (h : eR A pc l) (hn : eS2 k z l = some p) : eSay A pc ins l p := by
  unfold eS2 at hn
  split at hn
  · rename_i b c d r
    cases hq : (Nat.beq b.toNat k && decide (Jvm.ClassFile.Reader.signed 16 (c.toNat * 256 + d.toNat) = z)) with
    | false => rw [hq] at hn; cases hn
    | true =>
      rw [hq] at hn
      cases hn
      rw [Bool.and_eq_true] at hq
      exact ⟨row h (Nat.eq_of_beq_eq_true hq.1) (of_decide_eq_true hq.2), eR_c (eR_c (eR_c h))⟩
  · cases hn
theorem eI2_ok {n : Nat} {z : Int} {p : Nat × List UInt8} (h : eR A pc l) (hn : eI2 n z l = some p) : eSay A pc (.iinc n z) l p := by
  unfold eI2 at hn
  split at hn
  · rename_i b c d r
    cases hq : (Nat.beq b.toNat 132 && (Nat.beq c.toNat n && decide (Jvm.ClassFile.Reader.signed 8 d.toNat = z))) with
    | false => rw [hq] at hn; cases hn
    | true =>
      rw [hq] at hn
      cases hn
      rw [Bool.and_eq_true, Bool.and_eq_true] at hq
      have e1 := Nat.eq_of_beq_eq_true hq.2.1
      have e2 := of_decide_eq_true hq.2.2
      have e3 := ed_iinc h (Nat.eq_of_beq_eq_true hq.1)
      rw [e1, e2] at e3
      exact ⟨e3, eR_c (eR_c (eR_c h))⟩
  · cases hn
theorem eN_ok {p : Nat × List UInt8} (h : eR A pc l) (hn : eN ins l = some p) : eSay A pc ins l p := by
  cases ins with
  | aaload => exact e0_ok ed_aaload h hn
  | aastore => exact e0_ok ed_aastore h hn
  | aconst_null => exact e0_ok ed_aconst_null h hn
  | areturn => exact e0_ok ed_areturn h hn
  | arraylength => exact e0_ok ed_arraylength h hn
  | baload => exact e0_ok ed_baload h hn
  | bastore => exact e0_ok ed_bastore h hn
  | dup => exact e0_ok ed_dup h hn
  | dup2 => exact e0_ok ed_dup2 h hn
  | i2b => exact e0_ok ed_i2b h hn
  | i2l => exact e0_ok ed_i2l h hn
  | iadd => exact e0_ok ed_iadd h hn
  | iaload => exact e0_ok ed_iaload h hn
  | iand => exact e0_ok ed_iand h hn
  | iastore => exact e0_ok ed_iastore h hn
  | idiv => exact e0_ok ed_idiv h hn
  | imul => exact e0_ok ed_imul h hn
  | ineg => exact e0_ok ed_ineg h hn
  | ior => exact e0_ok ed_ior h hn
  | irem => exact e0_ok ed_irem h hn
  | ireturn => exact e0_ok ed_ireturn h hn
  | ishl => exact e0_ok ed_ishl h hn
  | ishr => exact e0_ok ed_ishr h hn
  | isub => exact e0_ok ed_isub h hn
  | iushr => exact e0_ok ed_iushr h hn
  | ixor => exact e0_ok ed_ixor h hn
  | l2i => exact e0_ok ed_l2i h hn
  | ladd => exact e0_ok ed_ladd h hn
  | land => exact e0_ok ed_land h hn
  | lcmp => exact e0_ok ed_lcmp h hn
  | ldiv => exact e0_ok ed_ldiv h hn
  | lmul => exact e0_ok ed_lmul h hn
  | lor => exact e0_ok ed_lor h hn
  | lrem => exact e0_ok ed_lrem h hn
  | lreturn => exact e0_ok ed_lreturn h hn
  | lshl => exact e0_ok ed_lshl h hn
  | lsub => exact e0_ok ed_lsub h hn
  | lushr => exact e0_ok ed_lushr h hn
  | lxor => exact e0_ok ed_lxor h hn
  | pop => exact e0_ok ed_pop h hn
  | pop2 => exact e0_ok ed_pop2 h hn
  | return_ => exact e0_ok ed_return_ h hn
  | lneg => exact e0_ok ed_lneg h hn
  | lshr => exact e0_ok ed_lshr h hn
  | i2s => exact e0_ok ed_i2s h hn
  | i2c => exact e0_ok ed_i2c h hn
  | nop => exact e0_ok ed_nop h hn
  | athrow => exact e0_ok ed_athrow h hn
  | iload_n n =>
    match n, hn with
    | 0, hn => exact e0_ok ed_iload_n0 h hn
    | 1, hn => exact e0_ok ed_iload_n1 h hn
    | 2, hn => exact e0_ok ed_iload_n2 h hn
    | 3, hn => exact e0_ok ed_iload_n3 h hn
  | lload_n n =>
    match n, hn with
    | 0, hn => exact e0_ok ed_lload_n0 h hn
    | 1, hn => exact e0_ok ed_lload_n1 h hn
    | 2, hn => exact e0_ok ed_lload_n2 h hn
    | 3, hn => exact e0_ok ed_lload_n3 h hn
  | aload_n n =>
    match n, hn with
    | 0, hn => exact e0_ok ed_aload_n0 h hn
    | 1, hn => exact e0_ok ed_aload_n1 h hn
    | 2, hn => exact e0_ok ed_aload_n2 h hn
    | 3, hn => exact e0_ok ed_aload_n3 h hn
  | istore_n n =>
    match n, hn with
    | 0, hn => exact e0_ok ed_istore_n0 h hn
    | 1, hn => exact e0_ok ed_istore_n1 h hn
    | 2, hn => exact e0_ok ed_istore_n2 h hn
    | 3, hn => exact e0_ok ed_istore_n3 h hn
  | lstore_n n =>
    match n, hn with
    | 0, hn => exact e0_ok ed_lstore_n0 h hn
    | 1, hn => exact e0_ok ed_lstore_n1 h hn
    | 2, hn => exact e0_ok ed_lstore_n2 h hn
    | 3, hn => exact e0_ok ed_lstore_n3 h hn
  | astore_n n =>
    match n, hn with
    | 0, hn => exact e0_ok ed_astore_n0 h hn
    | 1, hn => exact e0_ok ed_astore_n1 h hn
    | 2, hn => exact e0_ok ed_astore_n2 h hn
    | 3, hn => exact e0_ok ed_astore_n3 h hn
  | lconst n =>
    match n, hn with
    | 0, hn => exact e0_ok ed_lconst0 h hn
    | 1, hn => exact e0_ok ed_lconst1 h hn
  | iconst z =>
    have hn : (bif Nat.ble 2 (z + 3).toNat && Nat.ble (z + 3).toNat 8 then e0 (z + 3).toNat l else none) = some p := hn
    cases hq : (Nat.ble 2 (z + 3).toNat && Nat.ble (z + 3).toNat 8) with
    | false => rw [hq] at hn; cases hn
    | true =>
      rw [hq] at hn
      rw [Bool.and_eq_true] at hq
      have q1 := Nat.le_of_ble_eq_true hq.1
      have q2 := Nat.le_of_ble_eq_true hq.2
      have hn : e0 (z + 3).toNat l = some p := hn
      rcases (show z = -1 ∨ z = 0 ∨ z = 1 ∨ z = 2 ∨ z = 3 ∨ z = 4 ∨ z = 5 by omega) with rfl | rfl | rfl | rfl | rfl | rfl | rfl
      · exact e0_ok ed_iconstm1 h hn
      · exact e0_ok ed_iconst0 h hn
      · exact e0_ok ed_iconst1 h hn
      · exact e0_ok ed_iconst2 h hn
      · exact e0_ok ed_iconst3 h hn
      · exact e0_ok ed_iconst4 h hn
      · exact e0_ok ed_iconst5 h hn
  | iload n => exact eU_ok (fun h hb hc => by rw [← hc]; exact ed_iload h hb) h hn
  | lload n => exact eU_ok (fun h hb hc => by rw [← hc]; exact ed_lload h hb) h hn
  | aload n => exact eU_ok (fun h hb hc => by rw [← hc]; exact ed_aload h hb) h hn
  | istore n => exact eU_ok (fun h hb hc => by rw [← hc]; exact ed_istore h hb) h hn
  | lstore n => exact eU_ok (fun h hb hc => by rw [← hc]; exact ed_lstore h hb) h hn
  | astore n => exact eU_ok (fun h hb hc => by rw [← hc]; exact ed_astore h hb) h hn
  | ldc n => exact eU_ok (fun h hb hc => by rw [← hc]; exact ed_ldc h hb) h hn
  | getfield n => exact eW2_ok (fun h hb hc => by rw [← hc]; exact ed_getfield h hb) h hn
  | putfield n => exact eW2_ok (fun h hb hc => by rw [← hc]; exact ed_putfield h hb) h hn
  | getstatic n => exact eW2_ok (fun h hb hc => by rw [← hc]; exact ed_getstatic h hb) h hn
  | putstatic n => exact eW2_ok (fun h hb hc => by rw [← hc]; exact ed_putstatic h hb) h hn
  | invokevirtual n => exact eW2_ok (fun h hb hc => by rw [← hc]; exact ed_invokevirtual h hb) h hn
  | invokespecial n => exact eW2_ok (fun h hb hc => by rw [← hc]; exact ed_invokespecial h hb) h hn
  | invokestatic n => exact eW2_ok (fun h hb hc => by rw [← hc]; exact ed_invokestatic h hb) h hn
  | new n => exact eW2_ok (fun h hb hc => by rw [← hc]; exact ed_new h hb) h hn
  | anewarray n => exact eW2_ok (fun h hb hc => by rw [← hc]; exact ed_anewarray h hb) h hn
  | ldc_w n => exact eW2_ok (fun h hb hc => by rw [← hc]; exact ed_ldc_w h hb) h hn
  | ldc2_w n => exact eW2_ok (fun h hb hc => by rw [← hc]; exact ed_ldc2_w h hb) h hn
  | checkcast n => exact eW2_ok (fun h hb hc => by rw [← hc]; exact ed_checkcast h hb) h hn
  | bipush z => exact eS1_ok (fun h hb hc => by rw [← hc]; exact ed_bipush h hb) h hn
  | sipush z => exact eS2_ok (fun h hb hc => by rw [← hc]; exact ed_sipush h hb) h hn
  | goto z => exact eS2_ok (fun h hb hc => by rw [← hc]; exact ed_goto h hb) h hn
  | ifnull z => exact eS2_ok (fun h hb hc => by rw [← hc]; exact ed_ifnull h hb) h hn
  | ifnonnull z => exact eS2_ok (fun h hb hc => by rw [← hc]; exact ed_ifnonnull h hb) h hn
  | iinc n z => exact eI2_ok h hn
  | ifCond q z =>
    cases q with
    | eq => exact eS2_ok (fun h hb hc => by rw [← hc]; exact ed_ifCond_eq h hb) h hn
    | ne => exact eS2_ok (fun h hb hc => by rw [← hc]; exact ed_ifCond_ne h hb) h hn
    | lt => exact eS2_ok (fun h hb hc => by rw [← hc]; exact ed_ifCond_lt h hb) h hn
    | ge => exact eS2_ok (fun h hb hc => by rw [← hc]; exact ed_ifCond_ge h hb) h hn
    | gt => exact eS2_ok (fun h hb hc => by rw [← hc]; exact ed_ifCond_gt h hb) h hn
    | le => exact eS2_ok (fun h hb hc => by rw [← hc]; exact ed_ifCond_le h hb) h hn
  | if_icmp q z =>
    cases q with
    | eq => exact eS2_ok (fun h hb hc => by rw [← hc]; exact ed_if_icmp_eq h hb) h hn
    | ne => exact eS2_ok (fun h hb hc => by rw [← hc]; exact ed_if_icmp_ne h hb) h hn
    | lt => exact eS2_ok (fun h hb hc => by rw [← hc]; exact ed_if_icmp_lt h hb) h hn
    | ge => exact eS2_ok (fun h hb hc => by rw [← hc]; exact ed_if_icmp_ge h hb) h hn
    | gt => exact eS2_ok (fun h hb hc => by rw [← hc]; exact ed_if_icmp_gt h hb) h hn
    | le => exact eS2_ok (fun h hb hc => by rw [← hc]; exact ed_if_icmp_le h hb) h hn
  | newarray t =>
    cases t with
    | boolean => exact eU_ok (fun h hb hc => ed_new_boolean h hb hc) h hn
    | byte => exact eU_ok (fun h hb hc => ed_new_byte h hb hc) h hn
    | int => exact eU_ok (fun h hb hc => ed_new_int h hb hc) h hn
    | _ => cases hn
  | _ => cases hn
/-- a code, read in one walk over its bytes -/
noncomputable def eWk (A : ByteArray) : List mE → Nat → List UInt8 → Bool
  | [], _, _ => true
  | en :: cs, q, l => Nat.beq en.1 q && ((!mFal en.2.1 || !cs.isEmpty) && (match eN en.2.1 l with
    | some p => Nat.beq p.1 en.2.2.1 && (Nat.beq p.1 (mLen en.2.1) && eWk A cs (en.1 + p.1) p.2)
    | none => mSwi en.2.1 && (decide (decode A en.1 = .ok (en.2.1, en.2.2.1)) && eWk A cs (en.1 + en.2.2.1) (l.drop en.2.2.1))))
theorem mSwi_fal : ∀ {i : Instr}, mSwi i = true → mFal i = false := by
  intro i
  cases i <;> first | (intro _; rfl) | (intro h; cases h)
theorem eWk_ok : ∀ (cs : List mE) (q : Nat) (l : List UInt8), eR A q l → eWk A cs q l = true → (∀ e, cs[0]? = some e → e.1 = q) ∧ ∀ (k : Nat) (en : mE), cs[k]? = some en → decode A en.1 = .ok (en.2.1, en.2.2.1) ∧ (mSwi en.2.1 = true ∨ en.2.2.1 = mLen en.2.1) ∧ (mFal en.2.1 = true → ∃ e2, cs[k + 1]? = some e2 ∧ e2.1 = en.1 + mLen en.2.1) := by
  intro cs
  induction cs with
  | nil => intro q l _ _; exact ⟨fun e h => (by cases h), fun k en h => (by cases h)⟩
  | cons en cs ih =>
    intro q l hr hw
    unfold eWk at hw
    rw [Bool.and_eq_true, Bool.and_eq_true] at hw
    obtain ⟨w1, w2, w3⟩ := hw
    have w1 := Nat.eq_of_beq_eq_true w1
    refine ⟨fun e h => (by cases h; exact w1), ?_⟩
    have key : (decode A en.1 = .ok (en.2.1, en.2.2.1) ∧ (mSwi en.2.1 = true ∨ en.2.2.1 = mLen en.2.1)) ∧ ∃ r, eR A (en.1 + en.2.2.1) r ∧ eWk A cs (en.1 + en.2.2.1) r = true := by
      split at w3
      · rename_i p hp
        rw [Bool.and_eq_true, Bool.and_eq_true] at w3
        have e1 := Nat.eq_of_beq_eq_true w3.1
        have e2 := Nat.eq_of_beq_eq_true w3.2.1
        obtain ⟨s1, s2⟩ := eN_ok hr hp
        rw [← w1] at s1 s2
        rw [e1] at s1 s2
        refine ⟨⟨s1, Or.inr (e1 ▸ e2)⟩, p.2, s2, ?_⟩
        rw [← e1]
        exact w3.2.2
      · rw [Bool.and_eq_true, Bool.and_eq_true] at w3
        refine ⟨⟨of_decide_eq_true w3.2.1, Or.inl w3.1⟩, _, ?_, w3.2.2⟩
        have hr : A.data.toList.drop q = l := hr
        show A.data.toList.drop (en.1 + en.2.2.1) = l.drop en.2.2.1
        rw [← hr, List.drop_drop, w1]
    obtain ⟨⟨k1, k2⟩, r, k3, k4⟩ := key
    obtain ⟨i1, i2⟩ := ih _ r k3 k4
    intro k e h
    match k, h with
    | 0, h =>
      cases h
      refine ⟨k1, k2, fun hf => ?_⟩
      rw [hf] at w2
      cases cs with
      | nil => cases w2
      | cons c2 cs =>
        refine ⟨c2, rfl, ?_⟩
        have e3 := i1 c2 rfl
        rcases k2 with k2 | k2
        · rw [mSwi_fal k2] at hf
          cases hf
        · rw [e3, k2]
    | k + 1, h => exact i2 k e h
end ENC
noncomputable def mErQ (tab : List mM) (own : String) (ini : Bool) (cs : List mE) (i : Nat) (en : mE) : Bool := mJok cs i en && (mLnkF own ini en && (mLnkS own en && (mLnkN own en && (mLnkC tab own en && mLnkK own en))))
theorem mEok_Q {tab : List mM} {own : String} {ini : Bool} {bs : ByteArray} {cs : List mE} (hw : eWk bs cs 0 bs.data.toList = true) {i : Nat} {en : mE} (he : cs[i]? = some en) (h : mErQ tab own ini cs i en = true) : mEok tab own ini bs cs i en = true := by
  obtain ⟨-, h2⟩ := eWk_ok cs 0 _ rfl hw
  obtain ⟨a1, a2, a3⟩ := h2 i en he
  show (decide (decode bs en.1 = .ok (en.2.1, en.2.2.1)) && ((mSwi en.2.1 || decide (en.2.2.1 = mLen en.2.1)) && ((!mFal en.2.1 || decide (mPcAt cs (i + 1) = en.1 + mLen en.2.1)) && mErQ tab own ini cs i en))) = true
  rw [decide_eq_true a1, h, Bool.true_and, Bool.and_true, Bool.and_eq_true, Bool.or_eq_true, Bool.or_eq_true, decide_eq_true_eq, decide_eq_true_eq]
  refine ⟨a2, ?_⟩
  cases hf : mFal en.2.1 with
  | false => exact Or.inl rfl
  | true =>
    obtain ⟨e2, b1, b2⟩ := a3 hf
    refine Or.inr ?_
    unfold mPcAt
    rw [b1]
    exact b2
noncomputable def mCokQ (tab : List mM) (own : String) (ini : Bool) (bs : ByteArray) (cs : List mE) : Bool := eWk bs cs 0 bs.data.toList && cs.zipIdx.all (fun q => mErQ tab own ini cs q.2 q.1)
theorem mCokQ_ok {tab : List mM} {own : String} {ini : Bool} {bs : ByteArray} {cs : List mE} (h : mCokQ tab own ini bs cs = true) : mCok tab own ini bs cs = true := by
  unfold mCokQ at h
  rw [Bool.and_eq_true] at h
  exact List.all_eq_true.mpr (fun q hq => mEok_Q h.1 (List.mem_zipIdx_iff_getElem?.mp hq) (List.all_eq_true.mp h.2 q hq))
noncomputable def mTokQ (tab : List mM) (t : mM) : Bool := mMokF t && (mCokQ tab (mMY t).cls (decide ((mMY t).name = "<init>")) (mMB t) (mMC t) && decide (mPcAt (mMC t) 0 = 0))
theorem mTokQ_ok {tab : List mM} {t : mM} (hp : plainFor (mMY t) = true) (h : mTokQ tab t = true) : mTok tab t = true := by
  unfold mTokQ at h
  rw [Bool.and_eq_true, Bool.and_eq_true] at h
  refine mTokF_ok ?_
  unfold mTokF
  rw [Bool.and_eq_true, Bool.and_eq_true, Bool.and_eq_true]
  exact ⟨h.1, mCokQ_ok h.2.1, hp, h.2.2⟩
