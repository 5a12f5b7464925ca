-- BYTES HELD AGAINST INSTRUCTIONS, FAST: one lemma an opcode, a walk along a code's bytes (printed by wip/gen/gen2b.py)
def dB (code : ByteArray) (p : Nat) : List UInt8 := code.data.toList.drop p
theorem dB_1 {code : ByteArray} {p : Nat} {a : UInt8} {t : List UInt8} (h : dB code p = a :: t) : dB code (p + 1) = t := by
  unfold dB at *
  have e := congrArg (List.drop 1) h
  rw [List.drop_drop] at e
  exact e
theorem du1 {code : ByteArray} {p : Nat} {a : UInt8} {t : List UInt8} (h : dB code p = a :: t) : (Reader.u1 : Decoder Nat) code p = .ok (a.toNat, p + 1) := by
  have h1 : code.data.toList[p]? = some a := by
    have e := congrArg (fun l : List UInt8 => l[0]?) h
    unfold dB at e
    rw [List.getElem?_drop] at e
    exact e
  obtain ⟨hp, e1⟩ := List.getElem?_eq_some_iff.mp h1
  have hp' : p < code.size := hp
  have e : (Reader.u1 : Decoder Nat) code p = (dite (p < code.size) (fun _ => (do set (p + 1); pure code[p].toNat : Decoder Nat)) (fun _ => throw (HasTruncated.truncated p))) code p := rfl
  rw [e, dif_pos hp']
  show Except.ok (code[p].toNat, p + 1) = _
  have e2 : code[p] = a := e1
  rw [e2]
theorem du2 {code : ByteArray} {p : Nat} {a b : UInt8} {t : List UInt8} (h : dB code p = a :: b :: t) : (Reader.u2 : Decoder Nat) code p = .ok (a.toNat * 256 + b.toNat, p + 2) := by
  show Except.bind ((Reader.u1 : Decoder Nat) code p) _ = _
  rw [du1 h]
  show Except.bind ((Reader.u1 : Decoder Nat) code (p + 1)) _ = _
  rw [du1 (dB_1 h)]
  rfl
theorem ds1 {code : ByteArray} {p : Nat} {a : UInt8} {t : List UInt8} (h : dB code p = a :: t) : (Reader.s1 : Decoder Int) code p = .ok (Reader.signed 8 a.toNat, p + 1) := by
  show Except.bind ((Reader.u1 : Decoder Nat) code p) _ = _
  rw [du1 h]
  rfl
theorem ds2 {code : ByteArray} {p : Nat} {a b : UInt8} {t : List UInt8} (h : dB code p = a :: b :: t) : (Reader.s2 : Decoder Int) code p = .ok (Reader.signed 16 (a.toNat * 256 + b.toNat), p + 2) := by
  show Except.bind ((Reader.u2 : Decoder Nat) code p) _ = _
  rw [du2 h]
  rfl
section
variable {code : ByteArray} {p : Nat} {a b c : UInt8} {t : List UInt8}
theorem dk_iaload (h : dB code p = a :: t) (ha : a.toNat = 46) : decode code p = .ok (Instr.iaload, 1) := by
  have e := du1 h
  rw [ha] at e
  show Except.bind (Except.bind ((Reader.u1 : Decoder Nat) code p) _) _ = _
  rw [e]
  show Except.ok (Instr.iaload, p + 1 - p) = _
  rw [Nat.add_sub_cancel_left]
theorem dk_laload (h : dB code p = a :: t) (ha : a.toNat = 47) : decode code p = .ok (Instr.laload, 1) := by
  have e := du1 h
  rw [ha] at e
  show Except.bind (Except.bind ((Reader.u1 : Decoder Nat) code p) _) _ = _
  rw [e]
  show Except.ok (Instr.laload, p + 1 - p) = _
  rw [Nat.add_sub_cancel_left]
theorem dk_aaload (h : dB code p = a :: t) (ha : a.toNat = 50) : decode code p = .ok (Instr.aaload, 1) := by
  have e := du1 h
  rw [ha] at e
  show Except.bind (Except.bind ((Reader.u1 : Decoder Nat) code p) _) _ = _
  rw [e]
  show Except.ok (Instr.aaload, p + 1 - p) = _
  rw [Nat.add_sub_cancel_left]
theorem dk_baload (h : dB code p = a :: t) (ha : a.toNat = 51) : decode code p = .ok (Instr.baload, 1) := by
  have e := du1 h
  rw [ha] at e
  show Except.bind (Except.bind ((Reader.u1 : Decoder Nat) code p) _) _ = _
  rw [e]
  show Except.ok (Instr.baload, p + 1 - p) = _
  rw [Nat.add_sub_cancel_left]
theorem dk_iastore (h : dB code p = a :: t) (ha : a.toNat = 79) : decode code p = .ok (Instr.iastore, 1) := by
  have e := du1 h
  rw [ha] at e
  show Except.bind (Except.bind ((Reader.u1 : Decoder Nat) code p) _) _ = _
  rw [e]
  show Except.ok (Instr.iastore, p + 1 - p) = _
  rw [Nat.add_sub_cancel_left]
theorem dk_lastore (h : dB code p = a :: t) (ha : a.toNat = 80) : decode code p = .ok (Instr.lastore, 1) := by
  have e := du1 h
  rw [ha] at e
  show Except.bind (Except.bind ((Reader.u1 : Decoder Nat) code p) _) _ = _
  rw [e]
  show Except.ok (Instr.lastore, p + 1 - p) = _
  rw [Nat.add_sub_cancel_left]
theorem dk_aastore (h : dB code p = a :: t) (ha : a.toNat = 83) : decode code p = .ok (Instr.aastore, 1) := by
  have e := du1 h
  rw [ha] at e
  show Except.bind (Except.bind ((Reader.u1 : Decoder Nat) code p) _) _ = _
  rw [e]
  show Except.ok (Instr.aastore, p + 1 - p) = _
  rw [Nat.add_sub_cancel_left]
theorem dk_bastore (h : dB code p = a :: t) (ha : a.toNat = 84) : decode code p = .ok (Instr.bastore, 1) := by
  have e := du1 h
  rw [ha] at e
  show Except.bind (Except.bind ((Reader.u1 : Decoder Nat) code p) _) _ = _
  rw [e]
  show Except.ok (Instr.bastore, p + 1 - p) = _
  rw [Nat.add_sub_cancel_left]
theorem dk_pop (h : dB code p = a :: t) (ha : a.toNat = 87) : decode code p = .ok (Instr.pop, 1) := by
  have e := du1 h
  rw [ha] at e
  show Except.bind (Except.bind ((Reader.u1 : Decoder Nat) code p) _) _ = _
  rw [e]
  show Except.ok (Instr.pop, p + 1 - p) = _
  rw [Nat.add_sub_cancel_left]
theorem dk_pop2 (h : dB code p = a :: t) (ha : a.toNat = 88) : decode code p = .ok (Instr.pop2, 1) := by
  have e := du1 h
  rw [ha] at e
  show Except.bind (Except.bind ((Reader.u1 : Decoder Nat) code p) _) _ = _
  rw [e]
  show Except.ok (Instr.pop2, p + 1 - p) = _
  rw [Nat.add_sub_cancel_left]
theorem dk_dup (h : dB code p = a :: t) (ha : a.toNat = 89) : decode code p = .ok (Instr.dup, 1) := by
  have e := du1 h
  rw [ha] at e
  show Except.bind (Except.bind ((Reader.u1 : Decoder Nat) code p) _) _ = _
  rw [e]
  show Except.ok (Instr.dup, p + 1 - p) = _
  rw [Nat.add_sub_cancel_left]
theorem dk_dup2 (h : dB code p = a :: t) (ha : a.toNat = 92) : decode code p = .ok (Instr.dup2, 1) := by
  have e := du1 h
  rw [ha] at e
  show Except.bind (Except.bind ((Reader.u1 : Decoder Nat) code p) _) _ = _
  rw [e]
  show Except.ok (Instr.dup2, p + 1 - p) = _
  rw [Nat.add_sub_cancel_left]
theorem dk_iadd (h : dB code p = a :: t) (ha : a.toNat = 96) : decode code p = .ok (Instr.iadd, 1) := by
  have e := du1 h
  rw [ha] at e
  show Except.bind (Except.bind ((Reader.u1 : Decoder Nat) code p) _) _ = _
  rw [e]
  show Except.ok (Instr.iadd, p + 1 - p) = _
  rw [Nat.add_sub_cancel_left]
theorem dk_ladd (h : dB code p = a :: t) (ha : a.toNat = 97) : decode code p = .ok (Instr.ladd, 1) := by
  have e := du1 h
  rw [ha] at e
  show Except.bind (Except.bind ((Reader.u1 : Decoder Nat) code p) _) _ = _
  rw [e]
  show Except.ok (Instr.ladd, p + 1 - p) = _
  rw [Nat.add_sub_cancel_left]
theorem dk_isub (h : dB code p = a :: t) (ha : a.toNat = 100) : decode code p = .ok (Instr.isub, 1) := by
  have e := du1 h
  rw [ha] at e
  show Except.bind (Except.bind ((Reader.u1 : Decoder Nat) code p) _) _ = _
  rw [e]
  show Except.ok (Instr.isub, p + 1 - p) = _
  rw [Nat.add_sub_cancel_left]
theorem dk_lsub (h : dB code p = a :: t) (ha : a.toNat = 101) : decode code p = .ok (Instr.lsub, 1) := by
  have e := du1 h
  rw [ha] at e
  show Except.bind (Except.bind ((Reader.u1 : Decoder Nat) code p) _) _ = _
  rw [e]
  show Except.ok (Instr.lsub, p + 1 - p) = _
  rw [Nat.add_sub_cancel_left]
theorem dk_imul (h : dB code p = a :: t) (ha : a.toNat = 104) : decode code p = .ok (Instr.imul, 1) := by
  have e := du1 h
  rw [ha] at e
  show Except.bind (Except.bind ((Reader.u1 : Decoder Nat) code p) _) _ = _
  rw [e]
  show Except.ok (Instr.imul, p + 1 - p) = _
  rw [Nat.add_sub_cancel_left]
theorem dk_idiv (h : dB code p = a :: t) (ha : a.toNat = 108) : decode code p = .ok (Instr.idiv, 1) := by
  have e := du1 h
  rw [ha] at e
  show Except.bind (Except.bind ((Reader.u1 : Decoder Nat) code p) _) _ = _
  rw [e]
  show Except.ok (Instr.idiv, p + 1 - p) = _
  rw [Nat.add_sub_cancel_left]
theorem dk_irem (h : dB code p = a :: t) (ha : a.toNat = 112) : decode code p = .ok (Instr.irem, 1) := by
  have e := du1 h
  rw [ha] at e
  show Except.bind (Except.bind ((Reader.u1 : Decoder Nat) code p) _) _ = _
  rw [e]
  show Except.ok (Instr.irem, p + 1 - p) = _
  rw [Nat.add_sub_cancel_left]
theorem dk_lneg (h : dB code p = a :: t) (ha : a.toNat = 117) : decode code p = .ok (Instr.lneg, 1) := by
  have e := du1 h
  rw [ha] at e
  show Except.bind (Except.bind ((Reader.u1 : Decoder Nat) code p) _) _ = _
  rw [e]
  show Except.ok (Instr.lneg, p + 1 - p) = _
  rw [Nat.add_sub_cancel_left]
theorem dk_ishl (h : dB code p = a :: t) (ha : a.toNat = 120) : decode code p = .ok (Instr.ishl, 1) := by
  have e := du1 h
  rw [ha] at e
  show Except.bind (Except.bind ((Reader.u1 : Decoder Nat) code p) _) _ = _
  rw [e]
  show Except.ok (Instr.ishl, p + 1 - p) = _
  rw [Nat.add_sub_cancel_left]
theorem dk_lshl (h : dB code p = a :: t) (ha : a.toNat = 121) : decode code p = .ok (Instr.lshl, 1) := by
  have e := du1 h
  rw [ha] at e
  show Except.bind (Except.bind ((Reader.u1 : Decoder Nat) code p) _) _ = _
  rw [e]
  show Except.ok (Instr.lshl, p + 1 - p) = _
  rw [Nat.add_sub_cancel_left]
theorem dk_ishr (h : dB code p = a :: t) (ha : a.toNat = 122) : decode code p = .ok (Instr.ishr, 1) := by
  have e := du1 h
  rw [ha] at e
  show Except.bind (Except.bind ((Reader.u1 : Decoder Nat) code p) _) _ = _
  rw [e]
  show Except.ok (Instr.ishr, p + 1 - p) = _
  rw [Nat.add_sub_cancel_left]
theorem dk_lshr (h : dB code p = a :: t) (ha : a.toNat = 123) : decode code p = .ok (Instr.lshr, 1) := by
  have e := du1 h
  rw [ha] at e
  show Except.bind (Except.bind ((Reader.u1 : Decoder Nat) code p) _) _ = _
  rw [e]
  show Except.ok (Instr.lshr, p + 1 - p) = _
  rw [Nat.add_sub_cancel_left]
theorem dk_iushr (h : dB code p = a :: t) (ha : a.toNat = 124) : decode code p = .ok (Instr.iushr, 1) := by
  have e := du1 h
  rw [ha] at e
  show Except.bind (Except.bind ((Reader.u1 : Decoder Nat) code p) _) _ = _
  rw [e]
  show Except.ok (Instr.iushr, p + 1 - p) = _
  rw [Nat.add_sub_cancel_left]
theorem dk_lushr (h : dB code p = a :: t) (ha : a.toNat = 125) : decode code p = .ok (Instr.lushr, 1) := by
  have e := du1 h
  rw [ha] at e
  show Except.bind (Except.bind ((Reader.u1 : Decoder Nat) code p) _) _ = _
  rw [e]
  show Except.ok (Instr.lushr, p + 1 - p) = _
  rw [Nat.add_sub_cancel_left]
theorem dk_iand (h : dB code p = a :: t) (ha : a.toNat = 126) : decode code p = .ok (Instr.iand, 1) := by
  have e := du1 h
  rw [ha] at e
  show Except.bind (Except.bind ((Reader.u1 : Decoder Nat) code p) _) _ = _
  rw [e]
  show Except.ok (Instr.iand, p + 1 - p) = _
  rw [Nat.add_sub_cancel_left]
theorem dk_land (h : dB code p = a :: t) (ha : a.toNat = 127) : decode code p = .ok (Instr.land, 1) := by
  have e := du1 h
  rw [ha] at e
  show Except.bind (Except.bind ((Reader.u1 : Decoder Nat) code p) _) _ = _
  rw [e]
  show Except.ok (Instr.land, p + 1 - p) = _
  rw [Nat.add_sub_cancel_left]
theorem dk_ior (h : dB code p = a :: t) (ha : a.toNat = 128) : decode code p = .ok (Instr.ior, 1) := by
  have e := du1 h
  rw [ha] at e
  show Except.bind (Except.bind ((Reader.u1 : Decoder Nat) code p) _) _ = _
  rw [e]
  show Except.ok (Instr.ior, p + 1 - p) = _
  rw [Nat.add_sub_cancel_left]
theorem dk_lor (h : dB code p = a :: t) (ha : a.toNat = 129) : decode code p = .ok (Instr.lor, 1) := by
  have e := du1 h
  rw [ha] at e
  show Except.bind (Except.bind ((Reader.u1 : Decoder Nat) code p) _) _ = _
  rw [e]
  show Except.ok (Instr.lor, p + 1 - p) = _
  rw [Nat.add_sub_cancel_left]
theorem dk_ixor (h : dB code p = a :: t) (ha : a.toNat = 130) : decode code p = .ok (Instr.ixor, 1) := by
  have e := du1 h
  rw [ha] at e
  show Except.bind (Except.bind ((Reader.u1 : Decoder Nat) code p) _) _ = _
  rw [e]
  show Except.ok (Instr.ixor, p + 1 - p) = _
  rw [Nat.add_sub_cancel_left]
theorem dk_lxor (h : dB code p = a :: t) (ha : a.toNat = 131) : decode code p = .ok (Instr.lxor, 1) := by
  have e := du1 h
  rw [ha] at e
  show Except.bind (Except.bind ((Reader.u1 : Decoder Nat) code p) _) _ = _
  rw [e]
  show Except.ok (Instr.lxor, p + 1 - p) = _
  rw [Nat.add_sub_cancel_left]
theorem dk_i2l (h : dB code p = a :: t) (ha : a.toNat = 133) : decode code p = .ok (Instr.i2l, 1) := by
  have e := du1 h
  rw [ha] at e
  show Except.bind (Except.bind ((Reader.u1 : Decoder Nat) code p) _) _ = _
  rw [e]
  show Except.ok (Instr.i2l, p + 1 - p) = _
  rw [Nat.add_sub_cancel_left]
theorem dk_l2i (h : dB code p = a :: t) (ha : a.toNat = 136) : decode code p = .ok (Instr.l2i, 1) := by
  have e := du1 h
  rw [ha] at e
  show Except.bind (Except.bind ((Reader.u1 : Decoder Nat) code p) _) _ = _
  rw [e]
  show Except.ok (Instr.l2i, p + 1 - p) = _
  rw [Nat.add_sub_cancel_left]
theorem dk_i2b (h : dB code p = a :: t) (ha : a.toNat = 145) : decode code p = .ok (Instr.i2b, 1) := by
  have e := du1 h
  rw [ha] at e
  show Except.bind (Except.bind ((Reader.u1 : Decoder Nat) code p) _) _ = _
  rw [e]
  show Except.ok (Instr.i2b, p + 1 - p) = _
  rw [Nat.add_sub_cancel_left]
theorem dk_lcmp (h : dB code p = a :: t) (ha : a.toNat = 148) : decode code p = .ok (Instr.lcmp, 1) := by
  have e := du1 h
  rw [ha] at e
  show Except.bind (Except.bind ((Reader.u1 : Decoder Nat) code p) _) _ = _
  rw [e]
  show Except.ok (Instr.lcmp, p + 1 - p) = _
  rw [Nat.add_sub_cancel_left]
theorem dk_ireturn (h : dB code p = a :: t) (ha : a.toNat = 172) : decode code p = .ok (Instr.ireturn, 1) := by
  have e := du1 h
  rw [ha] at e
  show Except.bind (Except.bind ((Reader.u1 : Decoder Nat) code p) _) _ = _
  rw [e]
  show Except.ok (Instr.ireturn, p + 1 - p) = _
  rw [Nat.add_sub_cancel_left]
theorem dk_lreturn (h : dB code p = a :: t) (ha : a.toNat = 173) : decode code p = .ok (Instr.lreturn, 1) := by
  have e := du1 h
  rw [ha] at e
  show Except.bind (Except.bind ((Reader.u1 : Decoder Nat) code p) _) _ = _
  rw [e]
  show Except.ok (Instr.lreturn, p + 1 - p) = _
  rw [Nat.add_sub_cancel_left]
theorem dk_areturn (h : dB code p = a :: t) (ha : a.toNat = 176) : decode code p = .ok (Instr.areturn, 1) := by
  have e := du1 h
  rw [ha] at e
  show Except.bind (Except.bind ((Reader.u1 : Decoder Nat) code p) _) _ = _
  rw [e]
  show Except.ok (Instr.areturn, p + 1 - p) = _
  rw [Nat.add_sub_cancel_left]
theorem dk_return_ (h : dB code p = a :: t) (ha : a.toNat = 177) : decode code p = .ok (Instr.return_, 1) := by
  have e := du1 h
  rw [ha] at e
  show Except.bind (Except.bind ((Reader.u1 : Decoder Nat) code p) _) _ = _
  rw [e]
  show Except.ok (Instr.return_, p + 1 - p) = _
  rw [Nat.add_sub_cancel_left]
theorem dk_arraylength (h : dB code p = a :: t) (ha : a.toNat = 190) : decode code p = .ok (Instr.arraylength, 1) := by
  have e := du1 h
  rw [ha] at e
  show Except.bind (Except.bind ((Reader.u1 : Decoder Nat) code p) _) _ = _
  rw [e]
  show Except.ok (Instr.arraylength, p + 1 - p) = _
  rw [Nat.add_sub_cancel_left]
theorem dk_athrow (h : dB code p = a :: t) (ha : a.toNat = 191) : decode code p = .ok (Instr.athrow, 1) := by
  have e := du1 h
  rw [ha] at e
  show Except.bind (Except.bind ((Reader.u1 : Decoder Nat) code p) _) _ = _
  rw [e]
  show Except.ok (Instr.athrow, p + 1 - p) = _
  rw [Nat.add_sub_cancel_left]
theorem dk_iload_n0 (h : dB code p = a :: t) (ha : a.toNat = 26) : decode code p = .ok (Instr.iload_n ⟨0, by decide⟩, 1) := by
  have e := du1 h
  rw [ha] at e
  show Except.bind (Except.bind ((Reader.u1 : Decoder Nat) code p) _) _ = _
  rw [e]
  show Except.ok (Instr.iload_n ⟨0, by decide⟩, p + 1 - p) = _
  rw [Nat.add_sub_cancel_left]
theorem dk_iload_n1 (h : dB code p = a :: t) (ha : a.toNat = 27) : decode code p = .ok (Instr.iload_n ⟨1, by decide⟩, 1) := by
  have e := du1 h
  rw [ha] at e
  show Except.bind (Except.bind ((Reader.u1 : Decoder Nat) code p) _) _ = _
  rw [e]
  show Except.ok (Instr.iload_n ⟨1, by decide⟩, p + 1 - p) = _
  rw [Nat.add_sub_cancel_left]
theorem dk_iload_n2 (h : dB code p = a :: t) (ha : a.toNat = 28) : decode code p = .ok (Instr.iload_n ⟨2, by decide⟩, 1) := by
  have e := du1 h
  rw [ha] at e
  show Except.bind (Except.bind ((Reader.u1 : Decoder Nat) code p) _) _ = _
  rw [e]
  show Except.ok (Instr.iload_n ⟨2, by decide⟩, p + 1 - p) = _
  rw [Nat.add_sub_cancel_left]
theorem dk_iload_n3 (h : dB code p = a :: t) (ha : a.toNat = 29) : decode code p = .ok (Instr.iload_n ⟨3, by decide⟩, 1) := by
  have e := du1 h
  rw [ha] at e
  show Except.bind (Except.bind ((Reader.u1 : Decoder Nat) code p) _) _ = _
  rw [e]
  show Except.ok (Instr.iload_n ⟨3, by decide⟩, p + 1 - p) = _
  rw [Nat.add_sub_cancel_left]
theorem dk_lload_n0 (h : dB code p = a :: t) (ha : a.toNat = 30) : decode code p = .ok (Instr.lload_n ⟨0, by decide⟩, 1) := by
  have e := du1 h
  rw [ha] at e
  show Except.bind (Except.bind ((Reader.u1 : Decoder Nat) code p) _) _ = _
  rw [e]
  show Except.ok (Instr.lload_n ⟨0, by decide⟩, p + 1 - p) = _
  rw [Nat.add_sub_cancel_left]
theorem dk_lload_n1 (h : dB code p = a :: t) (ha : a.toNat = 31) : decode code p = .ok (Instr.lload_n ⟨1, by decide⟩, 1) := by
  have e := du1 h
  rw [ha] at e
  show Except.bind (Except.bind ((Reader.u1 : Decoder Nat) code p) _) _ = _
  rw [e]
  show Except.ok (Instr.lload_n ⟨1, by decide⟩, p + 1 - p) = _
  rw [Nat.add_sub_cancel_left]
theorem dk_lload_n2 (h : dB code p = a :: t) (ha : a.toNat = 32) : decode code p = .ok (Instr.lload_n ⟨2, by decide⟩, 1) := by
  have e := du1 h
  rw [ha] at e
  show Except.bind (Except.bind ((Reader.u1 : Decoder Nat) code p) _) _ = _
  rw [e]
  show Except.ok (Instr.lload_n ⟨2, by decide⟩, p + 1 - p) = _
  rw [Nat.add_sub_cancel_left]
theorem dk_lload_n3 (h : dB code p = a :: t) (ha : a.toNat = 33) : decode code p = .ok (Instr.lload_n ⟨3, by decide⟩, 1) := by
  have e := du1 h
  rw [ha] at e
  show Except.bind (Except.bind ((Reader.u1 : Decoder Nat) code p) _) _ = _
  rw [e]
  show Except.ok (Instr.lload_n ⟨3, by decide⟩, p + 1 - p) = _
  rw [Nat.add_sub_cancel_left]
theorem dk_aload_n0 (h : dB code p = a :: t) (ha : a.toNat = 42) : decode code p = .ok (Instr.aload_n ⟨0, by decide⟩, 1) := by
  have e := du1 h
  rw [ha] at e
  show Except.bind (Except.bind ((Reader.u1 : Decoder Nat) code p) _) _ = _
  rw [e]
  show Except.ok (Instr.aload_n ⟨0, by decide⟩, p + 1 - p) = _
  rw [Nat.add_sub_cancel_left]
theorem dk_aload_n1 (h : dB code p = a :: t) (ha : a.toNat = 43) : decode code p = .ok (Instr.aload_n ⟨1, by decide⟩, 1) := by
  have e := du1 h
  rw [ha] at e
  show Except.bind (Except.bind ((Reader.u1 : Decoder Nat) code p) _) _ = _
  rw [e]
  show Except.ok (Instr.aload_n ⟨1, by decide⟩, p + 1 - p) = _
  rw [Nat.add_sub_cancel_left]
theorem dk_aload_n2 (h : dB code p = a :: t) (ha : a.toNat = 44) : decode code p = .ok (Instr.aload_n ⟨2, by decide⟩, 1) := by
  have e := du1 h
  rw [ha] at e
  show Except.bind (Except.bind ((Reader.u1 : Decoder Nat) code p) _) _ = _
  rw [e]
  show Except.ok (Instr.aload_n ⟨2, by decide⟩, p + 1 - p) = _
  rw [Nat.add_sub_cancel_left]
theorem dk_aload_n3 (h : dB code p = a :: t) (ha : a.toNat = 45) : decode code p = .ok (Instr.aload_n ⟨3, by decide⟩, 1) := by
  have e := du1 h
  rw [ha] at e
  show Except.bind (Except.bind ((Reader.u1 : Decoder Nat) code p) _) _ = _
  rw [e]
  show Except.ok (Instr.aload_n ⟨3, by decide⟩, p + 1 - p) = _
  rw [Nat.add_sub_cancel_left]
theorem dk_istore_n0 (h : dB code p = a :: t) (ha : a.toNat = 59) : decode code p = .ok (Instr.istore_n ⟨0, by decide⟩, 1) := by
  have e := du1 h
  rw [ha] at e
  show Except.bind (Except.bind ((Reader.u1 : Decoder Nat) code p) _) _ = _
  rw [e]
  show Except.ok (Instr.istore_n ⟨0, by decide⟩, p + 1 - p) = _
  rw [Nat.add_sub_cancel_left]
theorem dk_istore_n1 (h : dB code p = a :: t) (ha : a.toNat = 60) : decode code p = .ok (Instr.istore_n ⟨1, by decide⟩, 1) := by
  have e := du1 h
  rw [ha] at e
  show Except.bind (Except.bind ((Reader.u1 : Decoder Nat) code p) _) _ = _
  rw [e]
  show Except.ok (Instr.istore_n ⟨1, by decide⟩, p + 1 - p) = _
  rw [Nat.add_sub_cancel_left]
theorem dk_istore_n2 (h : dB code p = a :: t) (ha : a.toNat = 61) : decode code p = .ok (Instr.istore_n ⟨2, by decide⟩, 1) := by
  have e := du1 h
  rw [ha] at e
  show Except.bind (Except.bind ((Reader.u1 : Decoder Nat) code p) _) _ = _
  rw [e]
  show Except.ok (Instr.istore_n ⟨2, by decide⟩, p + 1 - p) = _
  rw [Nat.add_sub_cancel_left]
theorem dk_istore_n3 (h : dB code p = a :: t) (ha : a.toNat = 62) : decode code p = .ok (Instr.istore_n ⟨3, by decide⟩, 1) := by
  have e := du1 h
  rw [ha] at e
  show Except.bind (Except.bind ((Reader.u1 : Decoder Nat) code p) _) _ = _
  rw [e]
  show Except.ok (Instr.istore_n ⟨3, by decide⟩, p + 1 - p) = _
  rw [Nat.add_sub_cancel_left]
theorem dk_lstore_n0 (h : dB code p = a :: t) (ha : a.toNat = 63) : decode code p = .ok (Instr.lstore_n ⟨0, by decide⟩, 1) := by
  have e := du1 h
  rw [ha] at e
  show Except.bind (Except.bind ((Reader.u1 : Decoder Nat) code p) _) _ = _
  rw [e]
  show Except.ok (Instr.lstore_n ⟨0, by decide⟩, p + 1 - p) = _
  rw [Nat.add_sub_cancel_left]
theorem dk_lstore_n1 (h : dB code p = a :: t) (ha : a.toNat = 64) : decode code p = .ok (Instr.lstore_n ⟨1, by decide⟩, 1) := by
  have e := du1 h
  rw [ha] at e
  show Except.bind (Except.bind ((Reader.u1 : Decoder Nat) code p) _) _ = _
  rw [e]
  show Except.ok (Instr.lstore_n ⟨1, by decide⟩, p + 1 - p) = _
  rw [Nat.add_sub_cancel_left]
theorem dk_lstore_n2 (h : dB code p = a :: t) (ha : a.toNat = 65) : decode code p = .ok (Instr.lstore_n ⟨2, by decide⟩, 1) := by
  have e := du1 h
  rw [ha] at e
  show Except.bind (Except.bind ((Reader.u1 : Decoder Nat) code p) _) _ = _
  rw [e]
  show Except.ok (Instr.lstore_n ⟨2, by decide⟩, p + 1 - p) = _
  rw [Nat.add_sub_cancel_left]
theorem dk_lstore_n3 (h : dB code p = a :: t) (ha : a.toNat = 66) : decode code p = .ok (Instr.lstore_n ⟨3, by decide⟩, 1) := by
  have e := du1 h
  rw [ha] at e
  show Except.bind (Except.bind ((Reader.u1 : Decoder Nat) code p) _) _ = _
  rw [e]
  show Except.ok (Instr.lstore_n ⟨3, by decide⟩, p + 1 - p) = _
  rw [Nat.add_sub_cancel_left]
theorem dk_astore_n0 (h : dB code p = a :: t) (ha : a.toNat = 75) : decode code p = .ok (Instr.astore_n ⟨0, by decide⟩, 1) := by
  have e := du1 h
  rw [ha] at e
  show Except.bind (Except.bind ((Reader.u1 : Decoder Nat) code p) _) _ = _
  rw [e]
  show Except.ok (Instr.astore_n ⟨0, by decide⟩, p + 1 - p) = _
  rw [Nat.add_sub_cancel_left]
theorem dk_astore_n1 (h : dB code p = a :: t) (ha : a.toNat = 76) : decode code p = .ok (Instr.astore_n ⟨1, by decide⟩, 1) := by
  have e := du1 h
  rw [ha] at e
  show Except.bind (Except.bind ((Reader.u1 : Decoder Nat) code p) _) _ = _
  rw [e]
  show Except.ok (Instr.astore_n ⟨1, by decide⟩, p + 1 - p) = _
  rw [Nat.add_sub_cancel_left]
theorem dk_astore_n2 (h : dB code p = a :: t) (ha : a.toNat = 77) : decode code p = .ok (Instr.astore_n ⟨2, by decide⟩, 1) := by
  have e := du1 h
  rw [ha] at e
  show Except.bind (Except.bind ((Reader.u1 : Decoder Nat) code p) _) _ = _
  rw [e]
  show Except.ok (Instr.astore_n ⟨2, by decide⟩, p + 1 - p) = _
  rw [Nat.add_sub_cancel_left]
theorem dk_astore_n3 (h : dB code p = a :: t) (ha : a.toNat = 78) : decode code p = .ok (Instr.astore_n ⟨3, by decide⟩, 1) := by
  have e := du1 h
  rw [ha] at e
  show Except.bind (Except.bind ((Reader.u1 : Decoder Nat) code p) _) _ = _
  rw [e]
  show Except.ok (Instr.astore_n ⟨3, by decide⟩, p + 1 - p) = _
  rw [Nat.add_sub_cancel_left]
theorem dk_iconstm (h : dB code p = a :: t) (ha : a.toNat = 2) : decode code p = .ok (Instr.iconst (-1), 1) := by
  have e := du1 h
  rw [ha] at e
  show Except.bind (Except.bind ((Reader.u1 : Decoder Nat) code p) _) _ = _
  rw [e]
  show Except.ok (Instr.iconst (-1), p + 1 - p) = _
  rw [Nat.add_sub_cancel_left]
theorem dk_iconst0 (h : dB code p = a :: t) (ha : a.toNat = 3) : decode code p = .ok (Instr.iconst 0, 1) := by
  have e := du1 h
  rw [ha] at e
  show Except.bind (Except.bind ((Reader.u1 : Decoder Nat) code p) _) _ = _
  rw [e]
  show Except.ok (Instr.iconst 0, p + 1 - p) = _
  rw [Nat.add_sub_cancel_left]
theorem dk_iconst1 (h : dB code p = a :: t) (ha : a.toNat = 4) : decode code p = .ok (Instr.iconst 1, 1) := by
  have e := du1 h
  rw [ha] at e
  show Except.bind (Except.bind ((Reader.u1 : Decoder Nat) code p) _) _ = _
  rw [e]
  show Except.ok (Instr.iconst 1, p + 1 - p) = _
  rw [Nat.add_sub_cancel_left]
theorem dk_iconst2 (h : dB code p = a :: t) (ha : a.toNat = 5) : decode code p = .ok (Instr.iconst 2, 1) := by
  have e := du1 h
  rw [ha] at e
  show Except.bind (Except.bind ((Reader.u1 : Decoder Nat) code p) _) _ = _
  rw [e]
  show Except.ok (Instr.iconst 2, p + 1 - p) = _
  rw [Nat.add_sub_cancel_left]
theorem dk_iconst3 (h : dB code p = a :: t) (ha : a.toNat = 6) : decode code p = .ok (Instr.iconst 3, 1) := by
  have e := du1 h
  rw [ha] at e
  show Except.bind (Except.bind ((Reader.u1 : Decoder Nat) code p) _) _ = _
  rw [e]
  show Except.ok (Instr.iconst 3, p + 1 - p) = _
  rw [Nat.add_sub_cancel_left]
theorem dk_iconst4 (h : dB code p = a :: t) (ha : a.toNat = 7) : decode code p = .ok (Instr.iconst 4, 1) := by
  have e := du1 h
  rw [ha] at e
  show Except.bind (Except.bind ((Reader.u1 : Decoder Nat) code p) _) _ = _
  rw [e]
  show Except.ok (Instr.iconst 4, p + 1 - p) = _
  rw [Nat.add_sub_cancel_left]
theorem dk_iconst5 (h : dB code p = a :: t) (ha : a.toNat = 8) : decode code p = .ok (Instr.iconst 5, 1) := by
  have e := du1 h
  rw [ha] at e
  show Except.bind (Except.bind ((Reader.u1 : Decoder Nat) code p) _) _ = _
  rw [e]
  show Except.ok (Instr.iconst 5, p + 1 - p) = _
  rw [Nat.add_sub_cancel_left]
theorem dk_lconst0 (h : dB code p = a :: t) (ha : a.toNat = 9) : decode code p = .ok (Instr.lconst ⟨0, by decide⟩, 1) := by
  have e := du1 h
  rw [ha] at e
  show Except.bind (Except.bind ((Reader.u1 : Decoder Nat) code p) _) _ = _
  rw [e]
  show Except.ok (Instr.lconst ⟨0, by decide⟩, p + 1 - p) = _
  rw [Nat.add_sub_cancel_left]
theorem dk_lconst1 (h : dB code p = a :: t) (ha : a.toNat = 10) : decode code p = .ok (Instr.lconst ⟨1, by decide⟩, 1) := by
  have e := du1 h
  rw [ha] at e
  show Except.bind (Except.bind ((Reader.u1 : Decoder Nat) code p) _) _ = _
  rw [e]
  show Except.ok (Instr.lconst ⟨1, by decide⟩, p + 1 - p) = _
  rw [Nat.add_sub_cancel_left]
theorem dk_ldc (h : dB code p = a :: b :: t) (ha : a.toNat = 18) : decode code p = .ok (Instr.ldc (b.toNat), 2) := by
  have e := du1 h
  rw [ha] at e
  show Except.bind (Except.bind ((Reader.u1 : Decoder Nat) code p) _) _ = _
  rw [e]
  show Except.bind (Except.bind ((Reader.u1 : Decoder Nat) code (p + 1)) _) _ = _
  rw [du1 (dB_1 h)]
  show Except.ok (Instr.ldc (b.toNat), p + 1 + 1 - p) = _
  rw [show p + 1 + 1 - p = 2 by omega]
theorem dk_iload (h : dB code p = a :: b :: t) (ha : a.toNat = 21) : decode code p = .ok (Instr.iload (b.toNat), 2) := by
  have e := du1 h
  rw [ha] at e
  show Except.bind (Except.bind ((Reader.u1 : Decoder Nat) code p) _) _ = _
  rw [e]
  show Except.bind (Except.bind ((Reader.u1 : Decoder Nat) code (p + 1)) _) _ = _
  rw [du1 (dB_1 h)]
  show Except.ok (Instr.iload (b.toNat), p + 1 + 1 - p) = _
  rw [show p + 1 + 1 - p = 2 by omega]
theorem dk_lload (h : dB code p = a :: b :: t) (ha : a.toNat = 22) : decode code p = .ok (Instr.lload (b.toNat), 2) := by
  have e := du1 h
  rw [ha] at e
  show Except.bind (Except.bind ((Reader.u1 : Decoder Nat) code p) _) _ = _
  rw [e]
  show Except.bind (Except.bind ((Reader.u1 : Decoder Nat) code (p + 1)) _) _ = _
  rw [du1 (dB_1 h)]
  show Except.ok (Instr.lload (b.toNat), p + 1 + 1 - p) = _
  rw [show p + 1 + 1 - p = 2 by omega]
theorem dk_aload (h : dB code p = a :: b :: t) (ha : a.toNat = 25) : decode code p = .ok (Instr.aload (b.toNat), 2) := by
  have e := du1 h
  rw [ha] at e
  show Except.bind (Except.bind ((Reader.u1 : Decoder Nat) code p) _) _ = _
  rw [e]
  show Except.bind (Except.bind ((Reader.u1 : Decoder Nat) code (p + 1)) _) _ = _
  rw [du1 (dB_1 h)]
  show Except.ok (Instr.aload (b.toNat), p + 1 + 1 - p) = _
  rw [show p + 1 + 1 - p = 2 by omega]
theorem dk_istore (h : dB code p = a :: b :: t) (ha : a.toNat = 54) : decode code p = .ok (Instr.istore (b.toNat), 2) := by
  have e := du1 h
  rw [ha] at e
  show Except.bind (Except.bind ((Reader.u1 : Decoder Nat) code p) _) _ = _
  rw [e]
  show Except.bind (Except.bind ((Reader.u1 : Decoder Nat) code (p + 1)) _) _ = _
  rw [du1 (dB_1 h)]
  show Except.ok (Instr.istore (b.toNat), p + 1 + 1 - p) = _
  rw [show p + 1 + 1 - p = 2 by omega]
theorem dk_lstore (h : dB code p = a :: b :: t) (ha : a.toNat = 55) : decode code p = .ok (Instr.lstore (b.toNat), 2) := by
  have e := du1 h
  rw [ha] at e
  show Except.bind (Except.bind ((Reader.u1 : Decoder Nat) code p) _) _ = _
  rw [e]
  show Except.bind (Except.bind ((Reader.u1 : Decoder Nat) code (p + 1)) _) _ = _
  rw [du1 (dB_1 h)]
  show Except.ok (Instr.lstore (b.toNat), p + 1 + 1 - p) = _
  rw [show p + 1 + 1 - p = 2 by omega]
theorem dk_astore (h : dB code p = a :: b :: t) (ha : a.toNat = 58) : decode code p = .ok (Instr.astore (b.toNat), 2) := by
  have e := du1 h
  rw [ha] at e
  show Except.bind (Except.bind ((Reader.u1 : Decoder Nat) code p) _) _ = _
  rw [e]
  show Except.bind (Except.bind ((Reader.u1 : Decoder Nat) code (p + 1)) _) _ = _
  rw [du1 (dB_1 h)]
  show Except.ok (Instr.astore (b.toNat), p + 1 + 1 - p) = _
  rw [show p + 1 + 1 - p = 2 by omega]
theorem dk_bipush (h : dB code p = a :: b :: t) (ha : a.toNat = 16) : decode code p = .ok (Instr.bipush (Reader.signed 8 b.toNat), 2) := by
  have e := du1 h
  rw [ha] at e
  show Except.bind (Except.bind ((Reader.u1 : Decoder Nat) code p) _) _ = _
  rw [e]
  show Except.bind (Except.bind ((Reader.s1 : Decoder Int) code (p + 1)) _) _ = _
  rw [ds1 (dB_1 h)]
  show Except.ok (Instr.bipush (Reader.signed 8 b.toNat), p + 1 + 1 - p) = _
  rw [show p + 1 + 1 - p = 2 by omega]
theorem dk_ldc_w (h : dB code p = a :: b :: c :: t) (ha : a.toNat = 19) : decode code p = .ok (Instr.ldc_w (b.toNat * 256 + c.toNat), 3) := by
  have e := du1 h
  rw [ha] at e
  show Except.bind (Except.bind ((Reader.u1 : Decoder Nat) code p) _) _ = _
  rw [e]
  show Except.bind (Except.bind ((Reader.u2 : Decoder Nat) code (p + 1)) _) _ = _
  rw [du2 (dB_1 h)]
  show Except.ok (Instr.ldc_w (b.toNat * 256 + c.toNat), p + 1 + 2 - p) = _
  rw [show p + 1 + 2 - p = 3 by omega]
theorem dk_ldc2_w (h : dB code p = a :: b :: c :: t) (ha : a.toNat = 20) : decode code p = .ok (Instr.ldc2_w (b.toNat * 256 + c.toNat), 3) := by
  have e := du1 h
  rw [ha] at e
  show Except.bind (Except.bind ((Reader.u1 : Decoder Nat) code p) _) _ = _
  rw [e]
  show Except.bind (Except.bind ((Reader.u2 : Decoder Nat) code (p + 1)) _) _ = _
  rw [du2 (dB_1 h)]
  show Except.ok (Instr.ldc2_w (b.toNat * 256 + c.toNat), p + 1 + 2 - p) = _
  rw [show p + 1 + 2 - p = 3 by omega]
theorem dk_getstatic (h : dB code p = a :: b :: c :: t) (ha : a.toNat = 178) : decode code p = .ok (Instr.getstatic (b.toNat * 256 + c.toNat), 3) := by
  have e := du1 h
  rw [ha] at e
  show Except.bind (Except.bind ((Reader.u1 : Decoder Nat) code p) _) _ = _
  rw [e]
  show Except.bind (Except.bind ((Reader.u2 : Decoder Nat) code (p + 1)) _) _ = _
  rw [du2 (dB_1 h)]
  show Except.ok (Instr.getstatic (b.toNat * 256 + c.toNat), p + 1 + 2 - p) = _
  rw [show p + 1 + 2 - p = 3 by omega]
theorem dk_getfield (h : dB code p = a :: b :: c :: t) (ha : a.toNat = 180) : decode code p = .ok (Instr.getfield (b.toNat * 256 + c.toNat), 3) := by
  have e := du1 h
  rw [ha] at e
  show Except.bind (Except.bind ((Reader.u1 : Decoder Nat) code p) _) _ = _
  rw [e]
  show Except.bind (Except.bind ((Reader.u2 : Decoder Nat) code (p + 1)) _) _ = _
  rw [du2 (dB_1 h)]
  show Except.ok (Instr.getfield (b.toNat * 256 + c.toNat), p + 1 + 2 - p) = _
  rw [show p + 1 + 2 - p = 3 by omega]
theorem dk_putfield (h : dB code p = a :: b :: c :: t) (ha : a.toNat = 181) : decode code p = .ok (Instr.putfield (b.toNat * 256 + c.toNat), 3) := by
  have e := du1 h
  rw [ha] at e
  show Except.bind (Except.bind ((Reader.u1 : Decoder Nat) code p) _) _ = _
  rw [e]
  show Except.bind (Except.bind ((Reader.u2 : Decoder Nat) code (p + 1)) _) _ = _
  rw [du2 (dB_1 h)]
  show Except.ok (Instr.putfield (b.toNat * 256 + c.toNat), p + 1 + 2 - p) = _
  rw [show p + 1 + 2 - p = 3 by omega]
theorem dk_invokevirtual (h : dB code p = a :: b :: c :: t) (ha : a.toNat = 182) : decode code p = .ok (Instr.invokevirtual (b.toNat * 256 + c.toNat), 3) := by
  have e := du1 h
  rw [ha] at e
  show Except.bind (Except.bind ((Reader.u1 : Decoder Nat) code p) _) _ = _
  rw [e]
  show Except.bind (Except.bind ((Reader.u2 : Decoder Nat) code (p + 1)) _) _ = _
  rw [du2 (dB_1 h)]
  show Except.ok (Instr.invokevirtual (b.toNat * 256 + c.toNat), p + 1 + 2 - p) = _
  rw [show p + 1 + 2 - p = 3 by omega]
theorem dk_invokespecial (h : dB code p = a :: b :: c :: t) (ha : a.toNat = 183) : decode code p = .ok (Instr.invokespecial (b.toNat * 256 + c.toNat), 3) := by
  have e := du1 h
  rw [ha] at e
  show Except.bind (Except.bind ((Reader.u1 : Decoder Nat) code p) _) _ = _
  rw [e]
  show Except.bind (Except.bind ((Reader.u2 : Decoder Nat) code (p + 1)) _) _ = _
  rw [du2 (dB_1 h)]
  show Except.ok (Instr.invokespecial (b.toNat * 256 + c.toNat), p + 1 + 2 - p) = _
  rw [show p + 1 + 2 - p = 3 by omega]
theorem dk_invokestatic (h : dB code p = a :: b :: c :: t) (ha : a.toNat = 184) : decode code p = .ok (Instr.invokestatic (b.toNat * 256 + c.toNat), 3) := by
  have e := du1 h
  rw [ha] at e
  show Except.bind (Except.bind ((Reader.u1 : Decoder Nat) code p) _) _ = _
  rw [e]
  show Except.bind (Except.bind ((Reader.u2 : Decoder Nat) code (p + 1)) _) _ = _
  rw [du2 (dB_1 h)]
  show Except.ok (Instr.invokestatic (b.toNat * 256 + c.toNat), p + 1 + 2 - p) = _
  rw [show p + 1 + 2 - p = 3 by omega]
theorem dk_new (h : dB code p = a :: b :: c :: t) (ha : a.toNat = 187) : decode code p = .ok (Instr.new (b.toNat * 256 + c.toNat), 3) := by
  have e := du1 h
  rw [ha] at e
  show Except.bind (Except.bind ((Reader.u1 : Decoder Nat) code p) _) _ = _
  rw [e]
  show Except.bind (Except.bind ((Reader.u2 : Decoder Nat) code (p + 1)) _) _ = _
  rw [du2 (dB_1 h)]
  show Except.ok (Instr.new (b.toNat * 256 + c.toNat), p + 1 + 2 - p) = _
  rw [show p + 1 + 2 - p = 3 by omega]
theorem dk_sipush (h : dB code p = a :: b :: c :: t) (ha : a.toNat = 17) : decode code p = .ok (Instr.sipush (Reader.signed 16 (b.toNat * 256 + c.toNat)), 3) := by
  have e := du1 h
  rw [ha] at e
  show Except.bind (Except.bind ((Reader.u1 : Decoder Nat) code p) _) _ = _
  rw [e]
  show Except.bind (Except.bind ((Reader.s2 : Decoder Int) code (p + 1)) _) _ = _
  rw [ds2 (dB_1 h)]
  show Except.ok (Instr.sipush (Reader.signed 16 (b.toNat * 256 + c.toNat)), p + 1 + 2 - p) = _
  rw [show p + 1 + 2 - p = 3 by omega]
theorem dk_goto (h : dB code p = a :: b :: c :: t) (ha : a.toNat = 167) : decode code p = .ok (Instr.goto (Reader.signed 16 (b.toNat * 256 + c.toNat)), 3) := by
  have e := du1 h
  rw [ha] at e
  show Except.bind (Except.bind ((Reader.u1 : Decoder Nat) code p) _) _ = _
  rw [e]
  show Except.bind (Except.bind ((Reader.s2 : Decoder Int) code (p + 1)) _) _ = _
  rw [ds2 (dB_1 h)]
  show Except.ok (Instr.goto (Reader.signed 16 (b.toNat * 256 + c.toNat)), p + 1 + 2 - p) = _
  rw [show p + 1 + 2 - p = 3 by omega]
theorem dk_ifnull (h : dB code p = a :: b :: c :: t) (ha : a.toNat = 198) : decode code p = .ok (Instr.ifnull (Reader.signed 16 (b.toNat * 256 + c.toNat)), 3) := by
  have e := du1 h
  rw [ha] at e
  show Except.bind (Except.bind ((Reader.u1 : Decoder Nat) code p) _) _ = _
  rw [e]
  show Except.bind (Except.bind ((Reader.s2 : Decoder Int) code (p + 1)) _) _ = _
  rw [ds2 (dB_1 h)]
  show Except.ok (Instr.ifnull (Reader.signed 16 (b.toNat * 256 + c.toNat)), p + 1 + 2 - p) = _
  rw [show p + 1 + 2 - p = 3 by omega]
theorem dk_ifnonnull (h : dB code p = a :: b :: c :: t) (ha : a.toNat = 199) : decode code p = .ok (Instr.ifnonnull (Reader.signed 16 (b.toNat * 256 + c.toNat)), 3) := by
  have e := du1 h
  rw [ha] at e
  show Except.bind (Except.bind ((Reader.u1 : Decoder Nat) code p) _) _ = _
  rw [e]
  show Except.bind (Except.bind ((Reader.s2 : Decoder Int) code (p + 1)) _) _ = _
  rw [ds2 (dB_1 h)]
  show Except.ok (Instr.ifnonnull (Reader.signed 16 (b.toNat * 256 + c.toNat)), p + 1 + 2 - p) = _
  rw [show p + 1 + 2 - p = 3 by omega]
theorem dk_ifCond_eq (h : dB code p = a :: b :: c :: t) (ha : a.toNat = 153) : decode code p = .ok (Instr.ifCond .eq (Reader.signed 16 (b.toNat * 256 + c.toNat)), 3) := by
  have e := du1 h
  rw [ha] at e
  show Except.bind (Except.bind ((Reader.u1 : Decoder Nat) code p) _) _ = _
  rw [e]
  show Except.bind (Except.bind ((Reader.s2 : Decoder Int) code (p + 1)) _) _ = _
  rw [ds2 (dB_1 h)]
  show Except.ok (Instr.ifCond .eq (Reader.signed 16 (b.toNat * 256 + c.toNat)), p + 1 + 2 - p) = _
  rw [show p + 1 + 2 - p = 3 by omega]
theorem dk_if_icmp_eq (h : dB code p = a :: b :: c :: t) (ha : a.toNat = 159) : decode code p = .ok (Instr.if_icmp .eq (Reader.signed 16 (b.toNat * 256 + c.toNat)), 3) := by
  have e := du1 h
  rw [ha] at e
  show Except.bind (Except.bind ((Reader.u1 : Decoder Nat) code p) _) _ = _
  rw [e]
  show Except.bind (Except.bind ((Reader.s2 : Decoder Int) code (p + 1)) _) _ = _
  rw [ds2 (dB_1 h)]
  show Except.ok (Instr.if_icmp .eq (Reader.signed 16 (b.toNat * 256 + c.toNat)), p + 1 + 2 - p) = _
  rw [show p + 1 + 2 - p = 3 by omega]
theorem dk_ifCond_ne (h : dB code p = a :: b :: c :: t) (ha : a.toNat = 154) : decode code p = .ok (Instr.ifCond .ne (Reader.signed 16 (b.toNat * 256 + c.toNat)), 3) := by
  have e := du1 h
  rw [ha] at e
  show Except.bind (Except.bind ((Reader.u1 : Decoder Nat) code p) _) _ = _
  rw [e]
  show Except.bind (Except.bind ((Reader.s2 : Decoder Int) code (p + 1)) _) _ = _
  rw [ds2 (dB_1 h)]
  show Except.ok (Instr.ifCond .ne (Reader.signed 16 (b.toNat * 256 + c.toNat)), p + 1 + 2 - p) = _
  rw [show p + 1 + 2 - p = 3 by omega]
theorem dk_if_icmp_ne (h : dB code p = a :: b :: c :: t) (ha : a.toNat = 160) : decode code p = .ok (Instr.if_icmp .ne (Reader.signed 16 (b.toNat * 256 + c.toNat)), 3) := by
  have e := du1 h
  rw [ha] at e
  show Except.bind (Except.bind ((Reader.u1 : Decoder Nat) code p) _) _ = _
  rw [e]
  show Except.bind (Except.bind ((Reader.s2 : Decoder Int) code (p + 1)) _) _ = _
  rw [ds2 (dB_1 h)]
  show Except.ok (Instr.if_icmp .ne (Reader.signed 16 (b.toNat * 256 + c.toNat)), p + 1 + 2 - p) = _
  rw [show p + 1 + 2 - p = 3 by omega]
theorem dk_ifCond_lt (h : dB code p = a :: b :: c :: t) (ha : a.toNat = 155) : decode code p = .ok (Instr.ifCond .lt (Reader.signed 16 (b.toNat * 256 + c.toNat)), 3) := by
  have e := du1 h
  rw [ha] at e
  show Except.bind (Except.bind ((Reader.u1 : Decoder Nat) code p) _) _ = _
  rw [e]
  show Except.bind (Except.bind ((Reader.s2 : Decoder Int) code (p + 1)) _) _ = _
  rw [ds2 (dB_1 h)]
  show Except.ok (Instr.ifCond .lt (Reader.signed 16 (b.toNat * 256 + c.toNat)), p + 1 + 2 - p) = _
  rw [show p + 1 + 2 - p = 3 by omega]
theorem dk_if_icmp_lt (h : dB code p = a :: b :: c :: t) (ha : a.toNat = 161) : decode code p = .ok (Instr.if_icmp .lt (Reader.signed 16 (b.toNat * 256 + c.toNat)), 3) := by
  have e := du1 h
  rw [ha] at e
  show Except.bind (Except.bind ((Reader.u1 : Decoder Nat) code p) _) _ = _
  rw [e]
  show Except.bind (Except.bind ((Reader.s2 : Decoder Int) code (p + 1)) _) _ = _
  rw [ds2 (dB_1 h)]
  show Except.ok (Instr.if_icmp .lt (Reader.signed 16 (b.toNat * 256 + c.toNat)), p + 1 + 2 - p) = _
  rw [show p + 1 + 2 - p = 3 by omega]
theorem dk_ifCond_ge (h : dB code p = a :: b :: c :: t) (ha : a.toNat = 156) : decode code p = .ok (Instr.ifCond .ge (Reader.signed 16 (b.toNat * 256 + c.toNat)), 3) := by
  have e := du1 h
  rw [ha] at e
  show Except.bind (Except.bind ((Reader.u1 : Decoder Nat) code p) _) _ = _
  rw [e]
  show Except.bind (Except.bind ((Reader.s2 : Decoder Int) code (p + 1)) _) _ = _
  rw [ds2 (dB_1 h)]
  show Except.ok (Instr.ifCond .ge (Reader.signed 16 (b.toNat * 256 + c.toNat)), p + 1 + 2 - p) = _
  rw [show p + 1 + 2 - p = 3 by omega]
theorem dk_if_icmp_ge (h : dB code p = a :: b :: c :: t) (ha : a.toNat = 162) : decode code p = .ok (Instr.if_icmp .ge (Reader.signed 16 (b.toNat * 256 + c.toNat)), 3) := by
  have e := du1 h
  rw [ha] at e
  show Except.bind (Except.bind ((Reader.u1 : Decoder Nat) code p) _) _ = _
  rw [e]
  show Except.bind (Except.bind ((Reader.s2 : Decoder Int) code (p + 1)) _) _ = _
  rw [ds2 (dB_1 h)]
  show Except.ok (Instr.if_icmp .ge (Reader.signed 16 (b.toNat * 256 + c.toNat)), p + 1 + 2 - p) = _
  rw [show p + 1 + 2 - p = 3 by omega]
theorem dk_ifCond_gt (h : dB code p = a :: b :: c :: t) (ha : a.toNat = 157) : decode code p = .ok (Instr.ifCond .gt (Reader.signed 16 (b.toNat * 256 + c.toNat)), 3) := by
  have e := du1 h
  rw [ha] at e
  show Except.bind (Except.bind ((Reader.u1 : Decoder Nat) code p) _) _ = _
  rw [e]
  show Except.bind (Except.bind ((Reader.s2 : Decoder Int) code (p + 1)) _) _ = _
  rw [ds2 (dB_1 h)]
  show Except.ok (Instr.ifCond .gt (Reader.signed 16 (b.toNat * 256 + c.toNat)), p + 1 + 2 - p) = _
  rw [show p + 1 + 2 - p = 3 by omega]
theorem dk_if_icmp_gt (h : dB code p = a :: b :: c :: t) (ha : a.toNat = 163) : decode code p = .ok (Instr.if_icmp .gt (Reader.signed 16 (b.toNat * 256 + c.toNat)), 3) := by
  have e := du1 h
  rw [ha] at e
  show Except.bind (Except.bind ((Reader.u1 : Decoder Nat) code p) _) _ = _
  rw [e]
  show Except.bind (Except.bind ((Reader.s2 : Decoder Int) code (p + 1)) _) _ = _
  rw [ds2 (dB_1 h)]
  show Except.ok (Instr.if_icmp .gt (Reader.signed 16 (b.toNat * 256 + c.toNat)), p + 1 + 2 - p) = _
  rw [show p + 1 + 2 - p = 3 by omega]
theorem dk_ifCond_le (h : dB code p = a :: b :: c :: t) (ha : a.toNat = 158) : decode code p = .ok (Instr.ifCond .le (Reader.signed 16 (b.toNat * 256 + c.toNat)), 3) := by
  have e := du1 h
  rw [ha] at e
  show Except.bind (Except.bind ((Reader.u1 : Decoder Nat) code p) _) _ = _
  rw [e]
  show Except.bind (Except.bind ((Reader.s2 : Decoder Int) code (p + 1)) _) _ = _
  rw [ds2 (dB_1 h)]
  show Except.ok (Instr.ifCond .le (Reader.signed 16 (b.toNat * 256 + c.toNat)), p + 1 + 2 - p) = _
  rw [show p + 1 + 2 - p = 3 by omega]
theorem dk_if_icmp_le (h : dB code p = a :: b :: c :: t) (ha : a.toNat = 164) : decode code p = .ok (Instr.if_icmp .le (Reader.signed 16 (b.toNat * 256 + c.toNat)), 3) := by
  have e := du1 h
  rw [ha] at e
  show Except.bind (Except.bind ((Reader.u1 : Decoder Nat) code p) _) _ = _
  rw [e]
  show Except.bind (Except.bind ((Reader.s2 : Decoder Int) code (p + 1)) _) _ = _
  rw [ds2 (dB_1 h)]
  show Except.ok (Instr.if_icmp .le (Reader.signed 16 (b.toNat * 256 + c.toNat)), p + 1 + 2 - p) = _
  rw [show p + 1 + 2 - p = 3 by omega]
theorem dk_iinc (h : dB code p = a :: b :: c :: t) (ha : a.toNat = 132) : decode code p = .ok (Instr.iinc b.toNat (Reader.signed 8 c.toNat), 3) := by
  have e := du1 h
  rw [ha] at e
  show Except.bind (Except.bind ((Reader.u1 : Decoder Nat) code p) _) _ = _
  rw [e]
  show Except.bind (Except.bind ((Reader.u1 : Decoder Nat) code (p + 1)) _) _ = _
  rw [du1 (dB_1 h)]
  show Except.bind (Except.bind ((Reader.s1 : Decoder Int) code (p + 1 + 1)) _) _ = _
  rw [ds1 (dB_1 (dB_1 h))]
  show Except.ok (Instr.iinc b.toNat (Reader.signed 8 c.toNat), p + 1 + 1 + 1 - p) = _
  rw [show p + 1 + 1 + 1 - p = 3 by omega]
end
def q0 (op : Nat) (m : Nat) : List UInt8 → Bool
  | a :: _ => Nat.beq m 1 && Nat.beq a.toNat op
  | [] => false
def q1 (op x m : Nat) : List UInt8 → Bool
  | a :: b :: _ => Nat.beq m 2 && (Nat.beq a.toNat op && Nat.beq b.toNat x)
  | _ => false
def q1s (op : Nat) (x : Int) (m : Nat) : List UInt8 → Bool
  | a :: b :: _ => Nat.beq m 2 && (Nat.beq a.toNat op && decide (Reader.signed 8 b.toNat = x))
  | _ => false
def q2 (op x m : Nat) : List UInt8 → Bool
  | a :: b :: c :: _ => Nat.beq m 3 && (Nat.beq a.toNat op && Nat.beq (b.toNat * 256 + c.toNat) x)
  | _ => false
def q2s (op : Nat) (x : Int) (m : Nat) : List UInt8 → Bool
  | a :: b :: c :: _ => Nat.beq m 3 && (Nat.beq a.toNat op && decide (Reader.signed 16 (b.toNat * 256 + c.toNat) = x))
  | _ => false
def qi (x : Nat) (z : Int) (m : Nat) : List UInt8 → Bool
  | a :: b :: c :: _ => Nat.beq m 3 && (Nat.beq a.toNat 132 && (Nat.beq b.toNat x && decide (Reader.signed 8 c.toNat = z)))
  | _ => false
theorem q0_ok {op m : Nat} {l : List UInt8} (h : q0 op m l = true) : ∃ a t, l = a :: t ∧ m = 1 ∧ a.toNat = op := by
  match l, h with
  | a :: t, h =>
    have h := (Bool.and_eq_true _ _).mp h
    exact ⟨a, t, rfl, Nat.eq_of_beq_eq_true h.1, Nat.eq_of_beq_eq_true h.2⟩
theorem q1_ok {op x m : Nat} {l : List UInt8} (h : q1 op x m l = true) : ∃ a b t, l = a :: b :: t ∧ m = 2 ∧ a.toNat = op ∧ b.toNat = x := by
  match l, h with
  | a :: b :: t, h =>
    have h := (Bool.and_eq_true _ _).mp h
    have h2 := (Bool.and_eq_true _ _).mp h.2
    exact ⟨a, b, t, rfl, Nat.eq_of_beq_eq_true h.1, Nat.eq_of_beq_eq_true h2.1, Nat.eq_of_beq_eq_true h2.2⟩
theorem q1s_ok {op m : Nat} {x : Int} {l : List UInt8} (h : q1s op x m l = true) : ∃ a b t, l = a :: b :: t ∧ m = 2 ∧ a.toNat = op ∧ Reader.signed 8 b.toNat = x := by
  match l, h with
  | a :: b :: t, h =>
    have h := (Bool.and_eq_true _ _).mp h
    have h2 := (Bool.and_eq_true _ _).mp h.2
    exact ⟨a, b, t, rfl, Nat.eq_of_beq_eq_true h.1, Nat.eq_of_beq_eq_true h2.1, of_decide_eq_true h2.2⟩
theorem q2_ok {op x m : Nat} {l : List UInt8} (h : q2 op x m l = true) : ∃ a b c t, l = a :: b :: c :: t ∧ m = 3 ∧ a.toNat = op ∧ b.toNat * 256 + c.toNat = x := by
  match l, h with
  | a :: b :: c :: t, h =>
    have h := (Bool.and_eq_true _ _).mp h
    have h2 := (Bool.and_eq_true _ _).mp h.2
    exact ⟨a, b, c, t, rfl, Nat.eq_of_beq_eq_true h.1, Nat.eq_of_beq_eq_true h2.1, Nat.eq_of_beq_eq_true h2.2⟩
theorem q2s_ok {op m : Nat} {x : Int} {l : List UInt8} (h : q2s op x m l = true) : ∃ a b c t, l = a :: b :: c :: t ∧ m = 3 ∧ a.toNat = op ∧ Reader.signed 16 (b.toNat * 256 + c.toNat) = x := by
  match l, h with
  | a :: b :: c :: t, h =>
    have h := (Bool.and_eq_true _ _).mp h
    have h2 := (Bool.and_eq_true _ _).mp h.2
    exact ⟨a, b, c, t, rfl, Nat.eq_of_beq_eq_true h.1, Nat.eq_of_beq_eq_true h2.1, of_decide_eq_true h2.2⟩
theorem qi_ok {x m : Nat} {z : Int} {l : List UInt8} (h : qi x z m l = true) : ∃ a b c t, l = a :: b :: c :: t ∧ m = 3 ∧ a.toNat = 132 ∧ b.toNat = x ∧ Reader.signed 8 c.toNat = z := by
  match l, h with
  | a :: b :: c :: t, h =>
    have h := (Bool.and_eq_true _ _).mp h
    have h2 := (Bool.and_eq_true _ _).mp h.2
    have h3 := (Bool.and_eq_true _ _).mp h2.2
    exact ⟨a, b, c, t, rfl, Nat.eq_of_beq_eq_true h.1, Nat.eq_of_beq_eq_true h2.1, Nat.eq_of_beq_eq_true h3.1, of_decide_eq_true h3.2⟩
def ec (i : Instr) (m : Nat) (l : List UInt8) : Bool := match i with
  | .iaload => q0 46 m l
  | .laload => q0 47 m l
  | .aaload => q0 50 m l
  | .baload => q0 51 m l
  | .iastore => q0 79 m l
  | .lastore => q0 80 m l
  | .aastore => q0 83 m l
  | .bastore => q0 84 m l
  | .pop => q0 87 m l
  | .pop2 => q0 88 m l
  | .dup => q0 89 m l
  | .dup2 => q0 92 m l
  | .iadd => q0 96 m l
  | .ladd => q0 97 m l
  | .isub => q0 100 m l
  | .lsub => q0 101 m l
  | .imul => q0 104 m l
  | .idiv => q0 108 m l
  | .irem => q0 112 m l
  | .lneg => q0 117 m l
  | .ishl => q0 120 m l
  | .lshl => q0 121 m l
  | .ishr => q0 122 m l
  | .lshr => q0 123 m l
  | .iushr => q0 124 m l
  | .lushr => q0 125 m l
  | .iand => q0 126 m l
  | .land => q0 127 m l
  | .ior => q0 128 m l
  | .lor => q0 129 m l
  | .ixor => q0 130 m l
  | .lxor => q0 131 m l
  | .i2l => q0 133 m l
  | .l2i => q0 136 m l
  | .i2b => q0 145 m l
  | .lcmp => q0 148 m l
  | .ireturn => q0 172 m l
  | .lreturn => q0 173 m l
  | .areturn => q0 176 m l
  | .return_ => q0 177 m l
  | .arraylength => q0 190 m l
  | .athrow => q0 191 m l
  | .iload_n k => q0 (26 + k.val) m l
  | .lload_n k => q0 (30 + k.val) m l
  | .aload_n k => q0 (42 + k.val) m l
  | .istore_n k => q0 (59 + k.val) m l
  | .lstore_n k => q0 (63 + k.val) m l
  | .astore_n k => q0 (75 + k.val) m l
  | .lconst k => q0 (9 + k.val) m l
  | .iconst (Int.negSucc 0) => q0 2 m l
  | .iconst (Int.ofNat 0) => q0 3 m l
  | .iconst (Int.ofNat 1) => q0 4 m l
  | .iconst (Int.ofNat 2) => q0 5 m l
  | .iconst (Int.ofNat 3) => q0 6 m l
  | .iconst (Int.ofNat 4) => q0 7 m l
  | .iconst (Int.ofNat 5) => q0 8 m l
  | .ldc x => q1 18 x m l
  | .iload x => q1 21 x m l
  | .lload x => q1 22 x m l
  | .aload x => q1 25 x m l
  | .istore x => q1 54 x m l
  | .lstore x => q1 55 x m l
  | .astore x => q1 58 x m l
  | .bipush x => q1s 16 x m l
  | .ldc_w x => q2 19 x m l
  | .ldc2_w x => q2 20 x m l
  | .getstatic x => q2 178 x m l
  | .getfield x => q2 180 x m l
  | .putfield x => q2 181 x m l
  | .invokevirtual x => q2 182 x m l
  | .invokespecial x => q2 183 x m l
  | .invokestatic x => q2 184 x m l
  | .new x => q2 187 x m l
  | .sipush x => q2s 17 x m l
  | .goto x => q2s 167 x m l
  | .ifnull x => q2s 198 x m l
  | .ifnonnull x => q2s 199 x m l
  | .ifCond .eq x => q2s 153 x m l
  | .if_icmp .eq x => q2s 159 x m l
  | .ifCond .ne x => q2s 154 x m l
  | .if_icmp .ne x => q2s 160 x m l
  | .ifCond .lt x => q2s 155 x m l
  | .if_icmp .lt x => q2s 161 x m l
  | .ifCond .ge x => q2s 156 x m l
  | .if_icmp .ge x => q2s 162 x m l
  | .ifCond .gt x => q2s 157 x m l
  | .if_icmp .gt x => q2s 163 x m l
  | .ifCond .le x => q2s 158 x m l
  | .if_icmp .le x => q2s 164 x m l
  | .iinc x z => qi x z m l
  | _ => false
theorem ec_ok {code : ByteArray} {p : Nat} : ∀ (i : Instr) (m : Nat), ec i m (dB code p) = true → decode code p = .ok (i, m) := fun i m h => by
  unfold ec at h
  split at h
  · obtain ⟨a, t, e, rfl, ha⟩ := q0_ok h
    exact dk_iaload e ha
  · obtain ⟨a, t, e, rfl, ha⟩ := q0_ok h
    exact dk_laload e ha
  · obtain ⟨a, t, e, rfl, ha⟩ := q0_ok h
    exact dk_aaload e ha
  · obtain ⟨a, t, e, rfl, ha⟩ := q0_ok h
    exact dk_baload e ha
  · obtain ⟨a, t, e, rfl, ha⟩ := q0_ok h
    exact dk_iastore e ha
  · obtain ⟨a, t, e, rfl, ha⟩ := q0_ok h
    exact dk_lastore e ha
  · obtain ⟨a, t, e, rfl, ha⟩ := q0_ok h
    exact dk_aastore e ha
  · obtain ⟨a, t, e, rfl, ha⟩ := q0_ok h
    exact dk_bastore e ha
  · obtain ⟨a, t, e, rfl, ha⟩ := q0_ok h
    exact dk_pop e ha
  · obtain ⟨a, t, e, rfl, ha⟩ := q0_ok h
    exact dk_pop2 e ha
  · obtain ⟨a, t, e, rfl, ha⟩ := q0_ok h
    exact dk_dup e ha
  · obtain ⟨a, t, e, rfl, ha⟩ := q0_ok h
    exact dk_dup2 e ha
  · obtain ⟨a, t, e, rfl, ha⟩ := q0_ok h
    exact dk_iadd e ha
  · obtain ⟨a, t, e, rfl, ha⟩ := q0_ok h
    exact dk_ladd e ha
  · obtain ⟨a, t, e, rfl, ha⟩ := q0_ok h
    exact dk_isub e ha
  · obtain ⟨a, t, e, rfl, ha⟩ := q0_ok h
    exact dk_lsub e ha
  · obtain ⟨a, t, e, rfl, ha⟩ := q0_ok h
    exact dk_imul e ha
  · obtain ⟨a, t, e, rfl, ha⟩ := q0_ok h
    exact dk_idiv e ha
  · obtain ⟨a, t, e, rfl, ha⟩ := q0_ok h
    exact dk_irem e ha
  · obtain ⟨a, t, e, rfl, ha⟩ := q0_ok h
    exact dk_lneg e ha
  · obtain ⟨a, t, e, rfl, ha⟩ := q0_ok h
    exact dk_ishl e ha
  · obtain ⟨a, t, e, rfl, ha⟩ := q0_ok h
    exact dk_lshl e ha
  · obtain ⟨a, t, e, rfl, ha⟩ := q0_ok h
    exact dk_ishr e ha
  · obtain ⟨a, t, e, rfl, ha⟩ := q0_ok h
    exact dk_lshr e ha
  · obtain ⟨a, t, e, rfl, ha⟩ := q0_ok h
    exact dk_iushr e ha
  · obtain ⟨a, t, e, rfl, ha⟩ := q0_ok h
    exact dk_lushr e ha
  · obtain ⟨a, t, e, rfl, ha⟩ := q0_ok h
    exact dk_iand e ha
  · obtain ⟨a, t, e, rfl, ha⟩ := q0_ok h
    exact dk_land e ha
  · obtain ⟨a, t, e, rfl, ha⟩ := q0_ok h
    exact dk_ior e ha
  · obtain ⟨a, t, e, rfl, ha⟩ := q0_ok h
    exact dk_lor e ha
  · obtain ⟨a, t, e, rfl, ha⟩ := q0_ok h
    exact dk_ixor e ha
  · obtain ⟨a, t, e, rfl, ha⟩ := q0_ok h
    exact dk_lxor e ha
  · obtain ⟨a, t, e, rfl, ha⟩ := q0_ok h
    exact dk_i2l e ha
  · obtain ⟨a, t, e, rfl, ha⟩ := q0_ok h
    exact dk_l2i e ha
  · obtain ⟨a, t, e, rfl, ha⟩ := q0_ok h
    exact dk_i2b e ha
  · obtain ⟨a, t, e, rfl, ha⟩ := q0_ok h
    exact dk_lcmp e ha
  · obtain ⟨a, t, e, rfl, ha⟩ := q0_ok h
    exact dk_ireturn e ha
  · obtain ⟨a, t, e, rfl, ha⟩ := q0_ok h
    exact dk_lreturn e ha
  · obtain ⟨a, t, e, rfl, ha⟩ := q0_ok h
    exact dk_areturn e ha
  · obtain ⟨a, t, e, rfl, ha⟩ := q0_ok h
    exact dk_return_ e ha
  · obtain ⟨a, t, e, rfl, ha⟩ := q0_ok h
    exact dk_arraylength e ha
  · obtain ⟨a, t, e, rfl, ha⟩ := q0_ok h
    exact dk_athrow e ha
  · obtain ⟨a, t, e, rfl, ha⟩ := q0_ok h
    rename_i k
    match k, ha with
    | ⟨0, _⟩, ha => exact dk_iload_n0 e ha
    | ⟨1, _⟩, ha => exact dk_iload_n1 e ha
    | ⟨2, _⟩, ha => exact dk_iload_n2 e ha
    | ⟨3, _⟩, ha => exact dk_iload_n3 e ha
  · obtain ⟨a, t, e, rfl, ha⟩ := q0_ok h
    rename_i k
    match k, ha with
    | ⟨0, _⟩, ha => exact dk_lload_n0 e ha
    | ⟨1, _⟩, ha => exact dk_lload_n1 e ha
    | ⟨2, _⟩, ha => exact dk_lload_n2 e ha
    | ⟨3, _⟩, ha => exact dk_lload_n3 e ha
  · obtain ⟨a, t, e, rfl, ha⟩ := q0_ok h
    rename_i k
    match k, ha with
    | ⟨0, _⟩, ha => exact dk_aload_n0 e ha
    | ⟨1, _⟩, ha => exact dk_aload_n1 e ha
    | ⟨2, _⟩, ha => exact dk_aload_n2 e ha
    | ⟨3, _⟩, ha => exact dk_aload_n3 e ha
  · obtain ⟨a, t, e, rfl, ha⟩ := q0_ok h
    rename_i k
    match k, ha with
    | ⟨0, _⟩, ha => exact dk_istore_n0 e ha
    | ⟨1, _⟩, ha => exact dk_istore_n1 e ha
    | ⟨2, _⟩, ha => exact dk_istore_n2 e ha
    | ⟨3, _⟩, ha => exact dk_istore_n3 e ha
  · obtain ⟨a, t, e, rfl, ha⟩ := q0_ok h
    rename_i k
    match k, ha with
    | ⟨0, _⟩, ha => exact dk_lstore_n0 e ha
    | ⟨1, _⟩, ha => exact dk_lstore_n1 e ha
    | ⟨2, _⟩, ha => exact dk_lstore_n2 e ha
    | ⟨3, _⟩, ha => exact dk_lstore_n3 e ha
  · obtain ⟨a, t, e, rfl, ha⟩ := q0_ok h
    rename_i k
    match k, ha with
    | ⟨0, _⟩, ha => exact dk_astore_n0 e ha
    | ⟨1, _⟩, ha => exact dk_astore_n1 e ha
    | ⟨2, _⟩, ha => exact dk_astore_n2 e ha
    | ⟨3, _⟩, ha => exact dk_astore_n3 e ha
  · obtain ⟨a, t, e, rfl, ha⟩ := q0_ok h
    rename_i k
    match k, ha with
    | ⟨0, _⟩, ha => exact dk_lconst0 e ha
    | ⟨1, _⟩, ha => exact dk_lconst1 e ha
  · obtain ⟨a, t, e, rfl, ha⟩ := q0_ok h
    exact dk_iconstm e ha
  · obtain ⟨a, t, e, rfl, ha⟩ := q0_ok h
    exact dk_iconst0 e ha
  · obtain ⟨a, t, e, rfl, ha⟩ := q0_ok h
    exact dk_iconst1 e ha
  · obtain ⟨a, t, e, rfl, ha⟩ := q0_ok h
    exact dk_iconst2 e ha
  · obtain ⟨a, t, e, rfl, ha⟩ := q0_ok h
    exact dk_iconst3 e ha
  · obtain ⟨a, t, e, rfl, ha⟩ := q0_ok h
    exact dk_iconst4 e ha
  · obtain ⟨a, t, e, rfl, ha⟩ := q0_ok h
    exact dk_iconst5 e ha
  · obtain ⟨a, b, t, e, rfl, ha, rfl⟩ := q1_ok h
    exact dk_ldc e ha
  · obtain ⟨a, b, t, e, rfl, ha, rfl⟩ := q1_ok h
    exact dk_iload e ha
  · obtain ⟨a, b, t, e, rfl, ha, rfl⟩ := q1_ok h
    exact dk_lload e ha
  · obtain ⟨a, b, t, e, rfl, ha, rfl⟩ := q1_ok h
    exact dk_aload e ha
  · obtain ⟨a, b, t, e, rfl, ha, rfl⟩ := q1_ok h
    exact dk_istore e ha
  · obtain ⟨a, b, t, e, rfl, ha, rfl⟩ := q1_ok h
    exact dk_lstore e ha
  · obtain ⟨a, b, t, e, rfl, ha, rfl⟩ := q1_ok h
    exact dk_astore e ha
  · obtain ⟨a, b, t, e, rfl, ha, rfl⟩ := q1s_ok h
    exact dk_bipush e ha
  · obtain ⟨a, b, c, t, e, rfl, ha, rfl⟩ := q2_ok h
    exact dk_ldc_w e ha
  · obtain ⟨a, b, c, t, e, rfl, ha, rfl⟩ := q2_ok h
    exact dk_ldc2_w e ha
  · obtain ⟨a, b, c, t, e, rfl, ha, rfl⟩ := q2_ok h
    exact dk_getstatic e ha
  · obtain ⟨a, b, c, t, e, rfl, ha, rfl⟩ := q2_ok h
    exact dk_getfield e ha
  · obtain ⟨a, b, c, t, e, rfl, ha, rfl⟩ := q2_ok h
    exact dk_putfield e ha
  · obtain ⟨a, b, c, t, e, rfl, ha, rfl⟩ := q2_ok h
    exact dk_invokevirtual e ha
  · obtain ⟨a, b, c, t, e, rfl, ha, rfl⟩ := q2_ok h
    exact dk_invokespecial e ha
  · obtain ⟨a, b, c, t, e, rfl, ha, rfl⟩ := q2_ok h
    exact dk_invokestatic e ha
  · obtain ⟨a, b, c, t, e, rfl, ha, rfl⟩ := q2_ok h
    exact dk_new e ha
  · obtain ⟨a, b, c, t, e, rfl, ha, rfl⟩ := q2s_ok h
    exact dk_sipush e ha
  · obtain ⟨a, b, c, t, e, rfl, ha, rfl⟩ := q2s_ok h
    exact dk_goto e ha
  · obtain ⟨a, b, c, t, e, rfl, ha, rfl⟩ := q2s_ok h
    exact dk_ifnull e ha
  · obtain ⟨a, b, c, t, e, rfl, ha, rfl⟩ := q2s_ok h
    exact dk_ifnonnull e ha
  · obtain ⟨a, b, c, t, e, rfl, ha, rfl⟩ := q2s_ok h
    exact dk_ifCond_eq e ha
  · obtain ⟨a, b, c, t, e, rfl, ha, rfl⟩ := q2s_ok h
    exact dk_if_icmp_eq e ha
  · obtain ⟨a, b, c, t, e, rfl, ha, rfl⟩ := q2s_ok h
    exact dk_ifCond_ne e ha
  · obtain ⟨a, b, c, t, e, rfl, ha, rfl⟩ := q2s_ok h
    exact dk_if_icmp_ne e ha
  · obtain ⟨a, b, c, t, e, rfl, ha, rfl⟩ := q2s_ok h
    exact dk_ifCond_lt e ha
  · obtain ⟨a, b, c, t, e, rfl, ha, rfl⟩ := q2s_ok h
    exact dk_if_icmp_lt e ha
  · obtain ⟨a, b, c, t, e, rfl, ha, rfl⟩ := q2s_ok h
    exact dk_ifCond_ge e ha
  · obtain ⟨a, b, c, t, e, rfl, ha, rfl⟩ := q2s_ok h
    exact dk_if_icmp_ge e ha
  · obtain ⟨a, b, c, t, e, rfl, ha, rfl⟩ := q2s_ok h
    exact dk_ifCond_gt e ha
  · obtain ⟨a, b, c, t, e, rfl, ha, rfl⟩ := q2s_ok h
    exact dk_if_icmp_gt e ha
  · obtain ⟨a, b, c, t, e, rfl, ha, rfl⟩ := q2s_ok h
    exact dk_ifCond_le e ha
  · obtain ⟨a, b, c, t, e, rfl, ha, rfl⟩ := q2s_ok h
    exact dk_if_icmp_le e ha
  · obtain ⟨a, b, c, t, e, rfl, ha, rfl, rfl⟩ := qi_ok h
    exact dk_iinc e ha
  · exact absurd h Bool.false_ne_true
def wk (code : ByteArray) : List m_I → Nat → List UInt8 → Bool
  | [], _, _ => true
  | e :: r, p, l => Nat.beq e.1 p && ((ec e.2.1 e.2.2 l || decide (decode code e.1 = .ok (e.2.1, e.2.2))) && wk code r (p + e.2.2) (l.drop e.2.2))
theorem wk_al {code : ByteArray} : ∀ {tbl : List m_I} {p : Nat}, wk code tbl p (dB code p) = true → tbl.all (fun e => decide (decode code e.1 = .ok (e.2.1, e.2.2))) = true
  | [], _, _ => rfl
  | e :: r, p, h => by
    have h1 := (Bool.and_eq_true _ _).mp h
    have h2 := (Bool.and_eq_true _ _).mp h1.2
    have ep : e.1 = p := Nat.eq_of_beq_eq_true h1.1
    have h3 : wk code r (p + e.2.2) (dB code (p + e.2.2)) = true := by
      have q := h2.2
      unfold dB at q ⊢
      rw [List.drop_drop] at q
      exact q
    have h4 : decode code e.1 = .ok (e.2.1, e.2.2) := by
      rcases (Bool.or_eq_true _ _).mp h2.1 with q | q
      · rw [ep]
        exact ec_ok _ _ q
      · exact of_decide_eq_true q
    rw [List.all_cons, wk_al h3, Bool.and_true]
    exact decide_eq_true h4
-- THE DATA AGREE WITH THE STATEMENT: each code table decodes, each word stands in the tables.
theorem m_kq0_0 : m_dk code m_c0_0 = true := wk_al (code := code) (p := 0) (by decide +kernel)
theorem m_kq0_1 : m_dk code m_c0_1 = true := wk_al (code := code) (p := 226) (by decide +kernel)
theorem m_kq0_2 : m_dk code m_c0_2 = true := wk_al (code := code) (p := 286) (by decide +kernel)
theorem m_kq0_3 : m_dk code m_c0_3 = true := wk_al (code := code) (p := 350) (by decide +kernel)
theorem m_kq0_4 : m_dk code m_c0_4 = true := wk_al (code := code) (p := 410) (by decide +kernel)
theorem m_kq0_5 : m_dk code m_c0_5 = true := wk_al (code := code) (p := 474) (by decide +kernel)
theorem m_kq0_6 : m_dk code m_c0_6 = true := wk_al (code := code) (p := 536) (by decide +kernel)
theorem m_kq0_7 : m_dk code m_c0_7 = true := wk_al (code := code) (p := 600) (by decide +kernel)
theorem m_kq0_8 : m_dk code m_c0_8 = true := wk_al (code := code) (p := 656) (by decide +kernel)
theorem m_kq0_9 : m_dk code m_c0_9 = true := wk_al (code := code) (p := 714) (by decide +kernel)
theorem m_kq0_10 : m_dk code m_c0_10 = true := wk_al (code := code) (p := 770) (by decide +kernel)
theorem m_kq0_11 : m_dk code m_c0_11 = true := wk_al (code := code) (p := 830) (by decide +kernel)
theorem m_kq0_12 : m_dk code m_c0_12 = true := wk_al (code := code) (p := 894) (by decide +kernel)
theorem m_kq0_13 : m_dk code m_c0_13 = true := wk_al (code := code) (p := 954) (by decide +kernel)
theorem m_kq0_14 : m_dk code m_c0_14 = true := wk_al (code := code) (p := 1019) (by decide +kernel)
theorem m_kq0_15 : m_dk code m_c0_15 = true := wk_al (code := code) (p := 1081) (by decide +kernel)
theorem m_kq0_16 : m_dk code m_c0_16 = true := wk_al (code := code) (p := 1140) (by decide +kernel)
theorem m_kq0_17 : m_dk code m_c0_17 = true := wk_al (code := code) (p := 1200) (by decide +kernel)
theorem m_kq0_18 : m_dk code m_c0_18 = true := wk_al (code := code) (p := 1265) (by decide +kernel)
theorem m_kq0_19 : m_dk code m_c0_19 = true := wk_al (code := code) (p := 1325) (by decide +kernel)
theorem m_kq0_20 : m_dk code m_c0_20 = true := wk_al (code := code) (p := 1386) (by decide +kernel)
theorem m_kq0_21 : m_dk code m_c0_21 = true := wk_al (code := code) (p := 1452) (by decide +kernel)
theorem m_kq0_22 : m_dk code m_c0_22 = true := wk_al (code := code) (p := 1512) (by decide +kernel)
theorem m_kq0_23 : m_dk code m_c0_23 = true := wk_al (code := code) (p := 1576) (by decide +kernel)
theorem m_kq0_24 : m_dk code m_c0_24 = true := wk_al (code := code) (p := 1634) (by decide +kernel)
theorem m_kq0_25 : m_dk code m_c0_25 = true := wk_al (code := code) (p := 1692) (by decide +kernel)
theorem m_kq0_26 : m_dk code m_c0_26 = true := wk_al (code := code) (p := 1752) (by decide +kernel)
theorem m_kq0_27 : m_dk code m_c0_27 = true := wk_al (code := code) (p := 1816) (by decide +kernel)
theorem m_kq0_28 : m_dk code m_c0_28 = true := wk_al (code := code) (p := 1882) (by decide +kernel)
theorem m_kq0_29 : m_dk code m_c0_29 = true := wk_al (code := code) (p := 1941) (by decide +kernel)
theorem m_kq0_30 : m_dk code m_c0_30 = true := wk_al (code := code) (p := 2008) (by decide +kernel)
theorem m_kq10_0 : m_dk prog_1_method_4_code m_c10_0 = true := wk_al (code := prog_1_method_4_code) (p := 0) (by decide +kernel)
theorem m_kq10_1 : m_dk prog_1_method_4_code m_c10_1 = true := wk_al (code := prog_1_method_4_code) (p := 97) (by decide +kernel)
theorem m_kq10_2 : m_dk prog_1_method_4_code m_c10_2 = true := wk_al (code := prog_1_method_4_code) (p := 203) (by decide +kernel)
theorem m_kq15_0 : m_dk prog_6_method_3_code m_c15_0 = true := wk_al (code := prog_6_method_3_code) (p := 0) (by decide +kernel)
theorem m_kq15_1 : m_dk prog_6_method_3_code m_c15_1 = true := wk_al (code := prog_6_method_3_code) (p := 91) (by decide +kernel)
theorem m_kq15_2 : m_dk prog_6_method_3_code m_c15_2 = true := wk_al (code := prog_6_method_3_code) (p := 184) (by decide +kernel)
theorem m_kq16_0 : m_dk prog_6_method_6_code m_c16_0 = true := wk_al (code := prog_6_method_6_code) (p := 0) (by decide +kernel)
theorem m_kq16_1 : m_dk prog_6_method_6_code m_c16_1 = true := wk_al (code := prog_6_method_6_code) (p := 100) (by decide +kernel)
theorem m_kq19 : m_dok m_d19 = true := wk_al (code := prog_6_method_10_code) (p := 0) (by decide +kernel)
theorem m_kq20 : m_dok m_d20 = true := wk_al (code := prog_6_method_8_code) (p := 0) (by decide +kernel)
theorem m_kq21 : m_dok m_d21 = true := wk_al (code := prog_16_method_54_code) (p := 0) (by decide +kernel)
theorem m_kq22 : m_dok m_d22 = true := wk_al (code := prog_16_method_152_code) (p := 0) (by decide +kernel)
theorem m_kq23 : m_dok m_d23 = true := wk_al (code := prog_16_method_56_code) (p := 0) (by decide +kernel)
theorem m_kq24 : m_dok m_d24 = true := wk_al (code := prog_16_method_154_code) (p := 0) (by decide +kernel)
theorem m_kq25 : m_dok m_d25 = true := wk_al (code := prog_17_method_2_code) (p := 0) (by decide +kernel)
theorem m_kq26 : m_dok m_d26 = true := wk_al (code := prog_16_method_155_code) (p := 0) (by decide +kernel)
theorem m_kq27 : m_dok m_d27 = true := wk_al (code := prog_21_method_11_code) (p := 0) (by decide +kernel)
theorem m_kq28 : m_dok m_d28 = true := wk_al (code := prog_18_method_83_code) (p := 0) (by decide +kernel)
theorem m_kq29 : m_dok m_d29 = true := wk_al (code := prog_18_method_91_code) (p := 0) (by decide +kernel)
theorem m_kq30 : m_dok m_d30 = true := wk_al (code := prog_18_method_6_code) (p := 0) (by decide +kernel)
theorem m_kq31 : m_dok m_d31 = true := wk_al (code := prog_18_method_5_code) (p := 0) (by decide +kernel)
theorem m_kq32 : m_dok m_d32 = true := wk_al (code := prog_6_method_12_code) (p := 0) (by decide +kernel)
theorem m_kq33 : m_dok m_d33 = true := wk_al (code := prog_6_method_9_code) (p := 0) (by decide +kernel)
theorem m_kq34 : m_dok m_d34 = true := wk_al (code := prog_6_method_4_code) (p := 0) (by decide +kernel)
theorem m_kq35 : m_dok m_d35 = true := wk_al (code := prog_6_method_5_code) (p := 0) (by decide +kernel)
theorem m_kq36 : m_dok m_d36 = true := wk_al (code := prog_2_method_3_code) (p := 0) (by decide +kernel)
theorem m_kq37 : m_dok m_d37 = true := wk_al (code := prog_20_method_104_code) (p := 0) (by decide +kernel)
theorem m_kq38 : m_dok m_d38 = true := wk_al (code := prog_20_method_30_code) (p := 0) (by decide +kernel)
theorem m_kq39 : m_dok m_d39 = true := wk_al (code := prog_2_method_4_code) (p := 0) (by decide +kernel)
theorem m_kq40 : m_dok m_d40 = true := wk_al (code := prog_2_method_7_code) (p := 0) (by decide +kernel)
theorem m_kq41 : m_dok m_d41 = true := wk_al (code := prog_1_method_41_code) (p := 0) (by decide +kernel)
theorem m_kq42 : m_dok m_d42 = true := wk_al (code := prog_5_method_1_code) (p := 0) (by decide +kernel)
theorem m_kq43 : m_dok m_d43 = true := wk_al (code := prog_4_method_1_code) (p := 0) (by decide +kernel)
theorem m_kq44 : m_dok m_d44 = true := wk_al (code := prog_3_method_1_code) (p := 0) (by decide +kernel)
theorem m_kq45_0 : m_dk prog_5_method_7_code m_c45_0 = true := wk_al (code := prog_5_method_7_code) (p := 0) (by decide +kernel)
theorem m_kq45_1 : m_dk prog_5_method_7_code m_c45_1 = true := wk_al (code := prog_5_method_7_code) (p := 88) (by decide +kernel)
theorem m_kq45 : m_dok m_d45 = true := (m_dapp m_kq45_0 m_kq45_1)
theorem m_kq46 : m_dok m_d46 = true := wk_al (code := prog_4_method_2_code) (p := 0) (by decide +kernel)
theorem m_kq47 : m_dok m_d47 = true := wk_al (code := prog_15_method_65_code) (p := 0) (by decide +kernel)
theorem m_kq48 : m_dok m_d48 = true := wk_al (code := prog_20_method_103_code) (p := 0) (by decide +kernel)
theorem m_kq49 : m_dok m_d49 = true := wk_al (code := prog_5_method_10_code) (p := 0) (by decide +kernel)
theorem m_kq50 : m_dok m_d50 = true := wk_al (code := prog_5_method_11_code) (p := 0) (by decide +kernel)
theorem m_kq51 : m_dok m_d51 = true := wk_al (code := prog_3_method_2_code) (p := 0) (by decide +kernel)
theorem m_kq52 : m_dok m_d52 = true := wk_al (code := prog_1_method_44_code) (p := 0) (by decide +kernel)
theorem m_kq53 : m_dok m_d53 = true := wk_al (code := prog_3_method_3_code) (p := 0) (by decide +kernel)
theorem m_kq54 : m_dok m_d54 = true := wk_al (code := prog_2_method_5_code) (p := 0) (by decide +kernel)
theorem m_kq55 : m_dok m_d55 = true := wk_al (code := prog_2_method_6_code) (p := 0) (by decide +kernel)
theorem m_kq56_0 : m_dk prog_5_method_12_code m_c56_0 = true := wk_al (code := prog_5_method_12_code) (p := 0) (by decide +kernel)
theorem m_kq56_1 : m_dk prog_5_method_12_code m_c56_1 = true := wk_al (code := prog_5_method_12_code) (p := 121) (by decide +kernel)
theorem m_kq56 : m_dok m_d56 = true := (m_dapp m_kq56_0 m_kq56_1)
theorem m_kq57 : m_dok m_d57 = true := wk_al (code := prog_5_method_2_code) (p := 0) (by decide +kernel)
theorem m_kq58 : m_dok m_d58 = true := wk_al (code := prog_5_method_13_code) (p := 0) (by decide +kernel)
theorem m_kq59 : m_dok m_d59 = true := wk_al (code := prog_5_method_14_code) (p := 0) (by decide +kernel)
theorem m_kq60 : m_dok m_d60 = true := wk_al (code := prog_1_method_47_code) (p := 0) (by decide +kernel)
theorem m_kq61_0 : m_dk prog_4_method_9_code m_c61_0 = true := wk_al (code := prog_4_method_9_code) (p := 0) (by decide +kernel)
theorem m_kq61_1 : m_dk prog_4_method_9_code m_c61_1 = true := wk_al (code := prog_4_method_9_code) (p := 85) (by decide +kernel)
theorem m_kq61 : m_dok m_d61 = true := (m_dapp m_kq61_0 m_kq61_1)
theorem m_kq62 : m_dok m_d62 = true := wk_al (code := prog_20_method_123_code) (p := 0) (by decide +kernel)
theorem m_kq63 : m_dok m_d63 = true := wk_al (code := prog_20_method_124_code) (p := 0) (by decide +kernel)
theorem m_kq64_0 : m_dk prog_4_method_11_code m_c64_0 = true := wk_al (code := prog_4_method_11_code) (p := 0) (by decide +kernel)
theorem m_kq64_1 : m_dk prog_4_method_11_code m_c64_1 = true := wk_al (code := prog_4_method_11_code) (p := 89) (by decide +kernel)
theorem m_kq64 : m_dok m_d64 = true := (m_dapp m_kq64_0 m_kq64_1)
theorem m_kq65_0 : m_dk prog_4_method_10_code m_c65_0 = true := wk_al (code := prog_4_method_10_code) (p := 0) (by decide +kernel)
theorem m_kq65_1 : m_dk prog_4_method_10_code m_c65_1 = true := wk_al (code := prog_4_method_10_code) (p := 88) (by decide +kernel)
theorem m_kq65 : m_dok m_d65 = true := (m_dapp m_kq65_0 m_kq65_1)
theorem m_kq66 : m_dok m_d66 = true := wk_al (code := prog_4_method_3_code) (p := 0) (by decide +kernel)
theorem m_kq67 : m_dok m_d67 = true := wk_al (code := prog_4_method_4_code) (p := 0) (by decide +kernel)
theorem m_kq68 : m_dok m_d68 = true := wk_al (code := prog_4_method_8_code) (p := 0) (by decide +kernel)
theorem m_kq69 : m_dok m_d69 = true := wk_al (code := prog_4_method_5_code) (p := 0) (by decide +kernel)
theorem m_kq70 : m_dok m_d70 = true := wk_al (code := prog_5_method_15_code) (p := 0) (by decide +kernel)
theorem m_kq71 : m_dok m_d71 = true := wk_al (code := prog_4_method_14_code) (p := 0) (by decide +kernel)
theorem m_kq72 : m_dok m_d72 = true := wk_al (code := prog_4_method_12_code) (p := 0) (by decide +kernel)
theorem m_kq73_0 : m_dk prog_4_method_15_code m_c73_0 = true := wk_al (code := prog_4_method_15_code) (p := 0) (by decide +kernel)
theorem m_kq73_1 : m_dk prog_4_method_15_code m_c73_1 = true := wk_al (code := prog_4_method_15_code) (p := 98) (by decide +kernel)
theorem m_kq73_2 : m_dk prog_4_method_15_code m_c73_2 = true := wk_al (code := prog_4_method_15_code) (p := 198) (by decide +kernel)
theorem m_kq73_3 : m_dk prog_4_method_15_code m_c73_3 = true := wk_al (code := prog_4_method_15_code) (p := 291) (by decide +kernel)
theorem m_kq73 : m_dok m_d73 = true := (m_dapp m_kq73_0 (m_dapp m_kq73_1 (m_dapp m_kq73_2 m_kq73_3)))
theorem m_kq74_0 : m_dk prog_9_method_2_code m_c74_0 = true := wk_al (code := prog_9_method_2_code) (p := 0) (by decide +kernel)
theorem m_kq74_1 : m_dk prog_9_method_2_code m_c74_1 = true := wk_al (code := prog_9_method_2_code) (p := 89) (by decide +kernel)
theorem m_kq74_2 : m_dk prog_9_method_2_code m_c74_2 = true := wk_al (code := prog_9_method_2_code) (p := 178) (by decide +kernel)
theorem m_kq74 : m_dok m_d74 = true := (m_dapp m_kq74_0 (m_dapp m_kq74_1 m_kq74_2))
theorem m_kq75 : m_dok m_d75 = true := wk_al (code := prog_9_method_3_code) (p := 0) (by decide +kernel)
theorem m_kq76 : m_dok m_d76 = true := wk_al (code := prog_9_method_5_code) (p := 0) (by decide +kernel)
theorem m_kq77 : m_dok m_d77 = true := wk_al (code := prog_1_method_48_code) (p := 0) (by decide +kernel)
theorem m_kq78 : m_dok m_d78 = true := wk_al (code := prog_1_method_49_code) (p := 0) (by decide +kernel)
theorem m_kq79 : m_dok m_d79 = true := wk_al (code := prog_4_method_16_code) (p := 0) (by decide +kernel)
theorem m_kq80 : m_dok m_d80 = true := wk_al (code := prog_4_method_13_code) (p := 0) (by decide +kernel)
theorem m_kq81_0 : m_dk prog_5_method_9_code m_c81_0 = true := wk_al (code := prog_5_method_9_code) (p := 0) (by decide +kernel)
theorem m_kq81_1 : m_dk prog_5_method_9_code m_c81_1 = true := wk_al (code := prog_5_method_9_code) (p := 86) (by decide +kernel)
theorem m_kq81 : m_dok m_d81 = true := (m_dapp m_kq81_0 m_kq81_1)
theorem m_kq82 : m_dok m_d82 = true := wk_al (code := prog_13_method_49_code) (p := 0) (by decide +kernel)
theorem m_kq83 : m_dok m_d83 = true := wk_al (code := prog_5_method_5_code) (p := 0) (by decide +kernel)
theorem m_kq84 : m_dok m_d84 = true := wk_al (code := prog_5_method_4_code) (p := 0) (by decide +kernel)
theorem m_kq85 : m_dok m_d85 = true := wk_al (code := prog_5_method_8_code) (p := 0) (by decide +kernel)
theorem m_kq86 : m_dok m_d86 = true := wk_al (code := prog_4_method_7_code) (p := 0) (by decide +kernel)
theorem m_kq87 : m_dok m_d87 = true := wk_al (code := prog_1_method_5_code) (p := 0) (by decide +kernel)
theorem m_kq88 : m_dok m_d88 = true := wk_al (code := prog_1_method_6_code) (p := 0) (by decide +kernel)
theorem m_kq89 : m_dok m_d89 = true := wk_al (code := prog_1_method_7_code) (p := 0) (by decide +kernel)
theorem m_kq90 : m_dok m_d90 = true := wk_al (code := prog_1_method_40_code) (p := 0) (by decide +kernel)
theorem m_kq91 : m_dok m_d91 = true := wk_al (code := prog_1_method_8_code) (p := 0) (by decide +kernel)
theorem m_kq92 : m_dok m_d92 = true := wk_al (code := prog_1_method_9_code) (p := 0) (by decide +kernel)
theorem m_kq93 : m_dok m_d93 = true := wk_al (code := prog_1_method_10_code) (p := 0) (by decide +kernel)
theorem m_kq94 : m_dok m_d94 = true := wk_al (code := prog_1_method_11_code) (p := 0) (by decide +kernel)
theorem m_kq95 : m_dok m_d95 = true := wk_al (code := prog_8_method_3_code) (p := 0) (by decide +kernel)
theorem m_kq96 : m_dok m_d96 = true := wk_al (code := prog_1_method_12_code) (p := 0) (by decide +kernel)
theorem m_kq97 : m_dok m_d97 = true := wk_al (code := prog_1_method_13_code) (p := 0) (by decide +kernel)
theorem m_kq98 : m_dok m_d98 = true := wk_al (code := prog_7_method_2_code) (p := 0) (by decide +kernel)
theorem m_kq99 : m_dok m_d99 = true := wk_al (code := prog_4_method_6_code) (p := 0) (by decide +kernel)
theorem m_kq100 : m_dok m_d100 = true := wk_al (code := prog_7_method_4_code) (p := 0) (by decide +kernel)
theorem m_kq101 : m_dok m_d101 = true := wk_al (code := prog_7_method_5_code) (p := 0) (by decide +kernel)
theorem m_kq102 : m_dok m_d102 = true := wk_al (code := prog_1_method_42_code) (p := 0) (by decide +kernel)
theorem m_kq103 : m_dok m_d103 = true := wk_al (code := prog_9_method_4_code) (p := 0) (by decide +kernel)
theorem m_kq104 : m_dok m_d104 = true := wk_al (code := prog_9_method_7_code) (p := 0) (by decide +kernel)
theorem m_kq105 : m_dok m_d105 = true := wk_al (code := prog_9_method_8_code) (p := 0) (by decide +kernel)
theorem m_kq106 : m_dok m_d106 = true := wk_al (code := prog_5_method_6_code) (p := 0) (by decide +kernel)
theorem m_kq107 : m_dok m_d107 = true := wk_al (code := prog_1_method_14_code) (p := 0) (by decide +kernel)
theorem m_kq108_0 : m_dk prog_1_method_15_code m_c108_0 = true := wk_al (code := prog_1_method_15_code) (p := 0) (by decide +kernel)
theorem m_kq108_1 : m_dk prog_1_method_15_code m_c108_1 = true := wk_al (code := prog_1_method_15_code) (p := 125) (by decide +kernel)
theorem m_kq108 : m_dok m_d108 = true := (m_dapp m_kq108_0 m_kq108_1)
theorem m_kq109 : m_dok m_d109 = true := wk_al (code := prog_1_method_16_code) (p := 0) (by decide +kernel)
theorem m_kq110 : m_dok m_d110 = true := wk_al (code := prog_1_method_17_code) (p := 0) (by decide +kernel)
theorem m_kq111 : m_dok m_d111 = true := wk_al (code := prog_9_method_6_code) (p := 0) (by decide +kernel)
theorem m_kq112 : m_dok m_d112 = true := wk_al (code := prog_1_method_18_code) (p := 0) (by decide +kernel)
theorem m_kq113 : m_dok m_d113 = true := wk_al (code := prog_9_method_9_code) (p := 0) (by decide +kernel)
theorem m_kq114 : m_dok m_d114 = true := wk_al (code := prog_1_method_19_code) (p := 0) (by decide +kernel)
theorem m_kq115 : m_dok m_d115 = true := wk_al (code := prog_9_method_10_code) (p := 0) (by decide +kernel)
theorem m_kq116 : m_dok m_d116 = true := wk_al (code := prog_9_method_11_code) (p := 0) (by decide +kernel)
theorem m_kq117 : m_dok m_d117 = true := wk_al (code := prog_9_method_12_code) (p := 0) (by decide +kernel)
theorem m_kq118 : m_dok m_d118 = true := wk_al (code := prog_9_method_13_code) (p := 0) (by decide +kernel)
theorem m_kq119 : m_dok m_d119 = true := wk_al (code := prog_1_method_20_code) (p := 0) (by decide +kernel)
theorem m_kq120 : m_dok m_d120 = true := wk_al (code := prog_3_method_4_code) (p := 0) (by decide +kernel)
theorem m_kq121 : m_dok m_d121 = true := wk_al (code := prog_9_method_14_code) (p := 0) (by decide +kernel)
theorem m_kq122 : m_dok m_d122 = true := wk_al (code := prog_1_method_21_code) (p := 0) (by decide +kernel)
theorem m_kq123 : m_dok m_d123 = true := wk_al (code := prog_1_method_43_code) (p := 0) (by decide +kernel)
theorem m_kq124_0 : m_dk prog_9_method_18_code m_c124_0 = true := wk_al (code := prog_9_method_18_code) (p := 0) (by decide +kernel)
theorem m_kq124_1 : m_dk prog_9_method_18_code m_c124_1 = true := wk_al (code := prog_9_method_18_code) (p := 94) (by decide +kernel)
theorem m_kq124 : m_dok m_d124 = true := (m_dapp m_kq124_0 m_kq124_1)
theorem m_kq125 : m_dok m_d125 = true := wk_al (code := prog_9_method_17_code) (p := 0) (by decide +kernel)
theorem m_kq126 : m_dok m_d126 = true := wk_al (code := prog_9_method_19_code) (p := 0) (by decide +kernel)
theorem m_kq127 : m_dok m_d127 = true := wk_al (code := prog_1_method_22_code) (p := 0) (by decide +kernel)
theorem m_kq128 : m_dok m_d128 = true := wk_al (code := prog_9_method_15_code) (p := 0) (by decide +kernel)
theorem m_kq129 : m_dok m_d129 = true := wk_al (code := prog_9_method_16_code) (p := 0) (by decide +kernel)
theorem m_kq130 : m_dok m_d130 = true := wk_al (code := prog_1_method_23_code) (p := 0) (by decide +kernel)
theorem m_kq131 : m_dok m_d131 = true := wk_al (code := prog_3_method_5_code) (p := 0) (by decide +kernel)
theorem m_kq132 : m_dok m_d132 = true := wk_al (code := prog_1_method_24_code) (p := 0) (by decide +kernel)
theorem m_kq133_0 : m_dk prog_3_method_9_code m_c133_0 = true := wk_al (code := prog_3_method_9_code) (p := 0) (by decide +kernel)
theorem m_kq133_1 : m_dk prog_3_method_9_code m_c133_1 = true := wk_al (code := prog_3_method_9_code) (p := 95) (by decide +kernel)
theorem m_kq133 : m_dok m_d133 = true := (m_dapp m_kq133_0 m_kq133_1)
theorem m_kq134 : m_dok m_d134 = true := wk_al (code := prog_3_method_8_code) (p := 0) (by decide +kernel)
theorem m_kq135 : m_dok m_d135 = true := wk_al (code := prog_20_method_101_code) (p := 0) (by decide +kernel)
theorem m_kq136 : m_dok m_d136 = true := wk_al (code := prog_3_method_7_code) (p := 0) (by decide +kernel)
theorem m_kq137 : m_dok m_d137 = true := wk_al (code := prog_15_method_66_code) (p := 0) (by decide +kernel)
theorem m_kq138 : m_dok m_d138 = true := wk_al (code := prog_15_method_70_code) (p := 0) (by decide +kernel)
theorem m_kq139 : m_dok m_d139 = true := wk_al (code := prog_3_method_6_code) (p := 0) (by decide +kernel)
theorem m_kq140 : m_dok m_d140 = true := wk_al (code := prog_1_method_46_code) (p := 0) (by decide +kernel)
theorem m_kq141 : m_dok m_d141 = true := wk_al (code := prog_1_method_25_code) (p := 0) (by decide +kernel)
theorem m_kq142 : m_dok m_d142 = true := wk_al (code := prog_3_method_11_code) (p := 0) (by decide +kernel)
theorem m_kq143 : m_dok m_d143 = true := wk_al (code := prog_3_method_10_code) (p := 0) (by decide +kernel)
theorem m_kq144 : m_dok m_d144 = true := wk_al (code := prog_1_method_26_code) (p := 0) (by decide +kernel)
theorem m_kq145 : m_dok m_d145 = true := wk_al (code := prog_5_method_16_code) (p := 0) (by decide +kernel)
theorem m_kq146 : m_dok m_d146 = true := wk_al (code := prog_1_method_27_code) (p := 0) (by decide +kernel)
theorem m_kq147 : m_dok m_d147 = true := wk_al (code := prog_1_method_28_code) (p := 0) (by decide +kernel)
theorem m_kq148 : m_dok m_d148 = true := wk_al (code := prog_7_method_6_code) (p := 0) (by decide +kernel)
theorem m_kq149 : m_dok m_d149 = true := wk_al (code := prog_1_method_29_code) (p := 0) (by decide +kernel)
theorem m_kq150 : m_dok m_d150 = true := wk_al (code := prog_5_method_3_code) (p := 0) (by decide +kernel)
theorem m_kq151 : m_dok m_d151 = true := wk_al (code := prog_7_method_3_code) (p := 0) (by decide +kernel)
theorem m_kq152 : m_dok m_d152 = true := wk_al (code := prog_1_method_30_code) (p := 0) (by decide +kernel)
theorem m_kq153_0 : m_dk prog_7_method_7_code m_c153_0 = true := wk_al (code := prog_7_method_7_code) (p := 0) (by decide +kernel)
theorem m_kq153_1 : m_dk prog_7_method_7_code m_c153_1 = true := wk_al (code := prog_7_method_7_code) (p := 95) (by decide +kernel)
theorem m_kq153 : m_dok m_d153 = true := (m_dapp m_kq153_0 m_kq153_1)
theorem m_kq154 : m_dok m_d154 = true := wk_al (code := prog_1_method_45_code) (p := 0) (by decide +kernel)
theorem m_kq155 : m_dok m_d155 = true := wk_al (code := prog_14_method_50_code) (p := 0) (by decide +kernel)
theorem m_kq156 : m_dok m_d156 = true := wk_al (code := prog_1_method_31_code) (p := 0) (by decide +kernel)
theorem m_kq157_0 : m_dk prog_7_method_12_code m_c157_0 = true := wk_al (code := prog_7_method_12_code) (p := 0) (by decide +kernel)
theorem m_kq157_1 : m_dk prog_7_method_12_code m_c157_1 = true := wk_al (code := prog_7_method_12_code) (p := 92) (by decide +kernel)
theorem m_kq157 : m_dok m_d157 = true := (m_dapp m_kq157_0 m_kq157_1)
theorem m_kq158 : m_dok m_d158 = true := wk_al (code := prog_7_method_8_code) (p := 0) (by decide +kernel)
theorem m_kq159 : m_dok m_d159 = true := wk_al (code := prog_7_method_9_code) (p := 0) (by decide +kernel)
theorem m_kq160 : m_dok m_d160 = true := wk_al (code := prog_7_method_11_code) (p := 0) (by decide +kernel)
theorem m_kq161 : m_dok m_d161 = true := wk_al (code := prog_7_method_10_code) (p := 0) (by decide +kernel)
theorem m_kq162 : m_dok m_d162 = true := wk_al (code := prog_1_method_32_code) (p := 0) (by decide +kernel)
theorem m_kq163_0 : m_dk prog_7_method_13_code m_c163_0 = true := wk_al (code := prog_7_method_13_code) (p := 0) (by decide +kernel)
theorem m_kq163_1 : m_dk prog_7_method_13_code m_c163_1 = true := wk_al (code := prog_7_method_13_code) (p := 89) (by decide +kernel)
theorem m_kq163 : m_dok m_d163 = true := (m_dapp m_kq163_0 m_kq163_1)
theorem m_kq164 : m_dok m_d164 = true := wk_al (code := prog_1_method_33_code) (p := 0) (by decide +kernel)
theorem m_kq165 : m_dok m_d165 = true := wk_al (code := prog_7_method_14_code) (p := 0) (by decide +kernel)
theorem m_kq166 : m_dok m_d166 = true := wk_al (code := prog_1_method_34_code) (p := 0) (by decide +kernel)
theorem m_kq167 : m_dok m_d167 = true := wk_al (code := prog_7_method_15_code) (p := 0) (by decide +kernel)
theorem m_kq168 : m_dok m_d168 = true := wk_al (code := prog_1_method_35_code) (p := 0) (by decide +kernel)
theorem m_kq169 : m_dok m_d169 = true := wk_al (code := prog_5_method_17_code) (p := 0) (by decide +kernel)
theorem m_kq170 : m_dok m_d170 = true := wk_al (code := prog_1_method_36_code) (p := 0) (by decide +kernel)
theorem m_kq171 : m_dok m_d171 = true := wk_al (code := prog_5_method_18_code) (p := 0) (by decide +kernel)
theorem m_kq172_0 : m_dk prog_5_method_19_code m_c172_0 = true := wk_al (code := prog_5_method_19_code) (p := 0) (by decide +kernel)
theorem m_kq172_1 : m_dk prog_5_method_19_code m_c172_1 = true := wk_al (code := prog_5_method_19_code) (p := 98) (by decide +kernel)
theorem m_kq172 : m_dok m_d172 = true := (m_dapp m_kq172_0 m_kq172_1)
theorem m_kq173 : m_dok m_d173 = true := wk_al (code := prog_5_method_20_code) (p := 0) (by decide +kernel)
theorem m_kq174_0 : m_dk prog_5_method_21_code m_c174_0 = true := wk_al (code := prog_5_method_21_code) (p := 0) (by decide +kernel)
theorem m_kq174_1 : m_dk prog_5_method_21_code m_c174_1 = true := wk_al (code := prog_5_method_21_code) (p := 78) (by decide +kernel)
theorem m_kq174 : m_dok m_d174 = true := (m_dapp m_kq174_0 m_kq174_1)
theorem m_kq175 : m_dok m_d175 = true := wk_al (code := prog_5_method_22_code) (p := 0) (by decide +kernel)
theorem m_kq176 : m_dok m_d176 = true := wk_al (code := prog_1_method_37_code) (p := 0) (by decide +kernel)
theorem m_kq177 : m_dok m_d177 = true := wk_al (code := prog_5_method_23_code) (p := 0) (by decide +kernel)
theorem m_kq178 : m_dok m_d178 = true := wk_al (code := prog_1_method_38_code) (p := 0) (by decide +kernel)
theorem m_kq179_0 : m_dk prog_5_method_25_code m_c179_0 = true := wk_al (code := prog_5_method_25_code) (p := 0) (by decide +kernel)
theorem m_kq179_1 : m_dk prog_5_method_25_code m_c179_1 = true := wk_al (code := prog_5_method_25_code) (p := 99) (by decide +kernel)
theorem m_kq179 : m_dok m_d179 = true := (m_dapp m_kq179_0 m_kq179_1)
theorem m_kq180 : m_dok m_d180 = true := wk_al (code := prog_5_method_24_code) (p := 0) (by decide +kernel)
theorem m_kq181 : m_dok m_d181 = true := wk_al (code := prog_5_method_26_code) (p := 0) (by decide +kernel)
theorem m_kq182_0 : m_dk prog_11_method_1_code m_c182_0 = true := wk_al (code := prog_11_method_1_code) (p := 0) (by decide +kernel)
theorem m_kq182_1 : m_dk prog_11_method_1_code m_c182_1 = true := wk_al (code := prog_11_method_1_code) (p := 102) (by decide +kernel)
theorem m_kq182_2 : m_dk prog_11_method_1_code m_c182_2 = true := wk_al (code := prog_11_method_1_code) (p := 202) (by decide +kernel)
theorem m_kq182_3 : m_dk prog_11_method_1_code m_c182_3 = true := wk_al (code := prog_11_method_1_code) (p := 306) (by decide +kernel)
theorem m_kq182 : m_dok m_d182 = true := (m_dapp m_kq182_0 (m_dapp m_kq182_1 (m_dapp m_kq182_2 m_kq182_3)))
theorem m_kq183 : m_dok m_d183 = true := wk_al (code := prog_11_method_8_code) (p := 0) (by decide +kernel)
theorem m_kq184 : m_dok m_d184 = true := wk_al (code := prog_11_method_9_code) (p := 0) (by decide +kernel)
theorem m_kq185 : m_dok m_d185 = true := wk_al (code := prog_11_method_10_code) (p := 0) (by decide +kernel)
theorem m_kq186 : m_dok m_d186 = true := wk_al (code := prog_11_method_3_code) (p := 0) (by decide +kernel)
theorem m_kq187_0 : m_dk prog_11_method_18_code m_c187_0 = true := wk_al (code := prog_11_method_18_code) (p := 0) (by decide +kernel)
theorem m_kq187_1 : m_dk prog_11_method_18_code m_c187_1 = true := wk_al (code := prog_11_method_18_code) (p := 83) (by decide +kernel)
theorem m_kq187 : m_dok m_d187 = true := (m_dapp m_kq187_0 m_kq187_1)
theorem m_kq188 : m_dok m_d188 = true := wk_al (code := prog_11_method_7_code) (p := 0) (by decide +kernel)
theorem m_kq189_0 : m_dk prog_11_method_17_code m_c189_0 = true := wk_al (code := prog_11_method_17_code) (p := 0) (by decide +kernel)
theorem m_kq189_1 : m_dk prog_11_method_17_code m_c189_1 = true := wk_al (code := prog_11_method_17_code) (p := 92) (by decide +kernel)
theorem m_kq189 : m_dok m_d189 = true := (m_dapp m_kq189_0 m_kq189_1)
theorem m_kq190_0 : m_dk prog_11_method_12_code m_c190_0 = true := wk_al (code := prog_11_method_12_code) (p := 0) (by decide +kernel)
theorem m_kq190_1 : m_dk prog_11_method_12_code m_c190_1 = true := wk_al (code := prog_11_method_12_code) (p := 97) (by decide +kernel)
theorem m_kq190_2 : m_dk prog_11_method_12_code m_c190_2 = true := wk_al (code := prog_11_method_12_code) (p := 195) (by decide +kernel)
theorem m_kq190 : m_dok m_d190 = true := (m_dapp m_kq190_0 (m_dapp m_kq190_1 m_kq190_2))
theorem m_kq191 : m_dok m_d191 = true := wk_al (code := prog_11_method_11_code) (p := 0) (by decide +kernel)
theorem m_kq192_0 : m_dk prog_11_method_16_code m_c192_0 = true := wk_al (code := prog_11_method_16_code) (p := 0) (by decide +kernel)
theorem m_kq192_1 : m_dk prog_11_method_16_code m_c192_1 = true := wk_al (code := prog_11_method_16_code) (p := 98) (by decide +kernel)
theorem m_kq192_2 : m_dk prog_11_method_16_code m_c192_2 = true := wk_al (code := prog_11_method_16_code) (p := 186) (by decide +kernel)
theorem m_kq192_3 : m_dk prog_11_method_16_code m_c192_3 = true := wk_al (code := prog_11_method_16_code) (p := 286) (by decide +kernel)
theorem m_kq192 : m_dok m_d192 = true := (m_dapp m_kq192_0 (m_dapp m_kq192_1 (m_dapp m_kq192_2 m_kq192_3)))
theorem m_kq193 : m_dok m_d193 = true := wk_al (code := prog_11_method_13_code) (p := 0) (by decide +kernel)
theorem m_kq194 : m_dok m_d194 = true := wk_al (code := prog_11_method_14_code) (p := 0) (by decide +kernel)
theorem m_kq195 : m_dok m_d195 = true := wk_al (code := prog_11_method_15_code) (p := 0) (by decide +kernel)
theorem m_kq196 : m_dok m_d196 = true := wk_al (code := prog_11_method_19_code) (p := 0) (by decide +kernel)
theorem m_kq197 : m_dok m_d197 = true := wk_al (code := prog_11_method_22_code) (p := 0) (by decide +kernel)
theorem m_kq198 : m_dok m_d198 = true := wk_al (code := prog_11_method_20_code) (p := 0) (by decide +kernel)
theorem m_kq199 : m_dok m_d199 = true := wk_al (code := prog_11_method_21_code) (p := 0) (by decide +kernel)
theorem m_kq200 : m_dok m_d200 = true := wk_al (code := prog_11_method_49_code) (p := 0) (by decide +kernel)
theorem m_kq201_0 : m_dk prog_11_method_44_code m_c201_0 = true := wk_al (code := prog_11_method_44_code) (p := 0) (by decide +kernel)
theorem m_kq201_1 : m_dk prog_11_method_44_code m_c201_1 = true := wk_al (code := prog_11_method_44_code) (p := 81) (by decide +kernel)
theorem m_kq201_2 : m_dk prog_11_method_44_code m_c201_2 = true := wk_al (code := prog_11_method_44_code) (p := 169) (by decide +kernel)
theorem m_kq201 : m_dok m_d201 = true := (m_dapp m_kq201_0 (m_dapp m_kq201_1 m_kq201_2))
theorem m_kq202 : m_dok m_d202 = true := wk_al (code := prog_11_method_40_code) (p := 0) (by decide +kernel)
theorem m_kq203_0 : m_dk prog_11_method_38_code m_c203_0 = true := wk_al (code := prog_11_method_38_code) (p := 0) (by decide +kernel)
theorem m_kq203_1 : m_dk prog_11_method_38_code m_c203_1 = true := wk_al (code := prog_11_method_38_code) (p := 84) (by decide +kernel)
theorem m_kq203 : m_dok m_d203 = true := (m_dapp m_kq203_0 m_kq203_1)
theorem m_kq204 : m_dok m_d204 = true := wk_al (code := prog_11_method_43_code) (p := 0) (by decide +kernel)
theorem m_kq205 : m_dok m_d205 = true := wk_al (code := prog_11_method_39_code) (p := 0) (by decide +kernel)
theorem m_kq206 : m_dok m_d206 = true := wk_al (code := prog_11_method_42_code) (p := 0) (by decide +kernel)
theorem m_kq207 : m_dok m_d207 = true := wk_al (code := prog_11_method_41_code) (p := 0) (by decide +kernel)
theorem m_kq208 : m_dok m_d208 = true := wk_al (code := prog_11_method_37_code) (p := 0) (by decide +kernel)
theorem m_kq209_0 : m_dk prog_11_method_26_code m_c209_0 = true := wk_al (code := prog_11_method_26_code) (p := 0) (by decide +kernel)
theorem m_kq209_1 : m_dk prog_11_method_26_code m_c209_1 = true := wk_al (code := prog_11_method_26_code) (p := 80) (by decide +kernel)
theorem m_kq209_2 : m_dk prog_11_method_26_code m_c209_2 = true := wk_al (code := prog_11_method_26_code) (p := 167) (by decide +kernel)
theorem m_kq209 : m_dok m_d209 = true := (m_dapp m_kq209_0 (m_dapp m_kq209_1 m_kq209_2))
theorem m_kq210_0 : m_dk prog_11_method_25_code m_c210_0 = true := wk_al (code := prog_11_method_25_code) (p := 0) (by decide +kernel)
theorem m_kq210_1 : m_dk prog_11_method_25_code m_c210_1 = true := wk_al (code := prog_11_method_25_code) (p := 83) (by decide +kernel)
theorem m_kq210 : m_dok m_d210 = true := (m_dapp m_kq210_0 m_kq210_1)
theorem m_kq211 : m_dok m_d211 = true := wk_al (code := prog_11_method_24_code) (p := 0) (by decide +kernel)
theorem m_kq212 : m_dok m_d212 = true := wk_al (code := prog_11_method_23_code) (p := 0) (by decide +kernel)
theorem m_kq213 : m_dok m_d213 = true := wk_al (code := prog_11_method_30_code) (p := 0) (by decide +kernel)
theorem m_kq214 : m_dok m_d214 = true := wk_al (code := prog_11_method_27_code) (p := 0) (by decide +kernel)
theorem m_kq215 : m_dok m_d215 = true := wk_al (code := prog_11_method_29_code) (p := 0) (by decide +kernel)
theorem m_kq216 : m_dok m_d216 = true := wk_al (code := prog_11_method_31_code) (p := 0) (by decide +kernel)
theorem m_kq217 : m_dok m_d217 = true := wk_al (code := prog_11_method_28_code) (p := 0) (by decide +kernel)
theorem m_kq218_0 : m_dk prog_11_method_35_code m_c218_0 = true := wk_al (code := prog_11_method_35_code) (p := 0) (by decide +kernel)
theorem m_kq218_1 : m_dk prog_11_method_35_code m_c218_1 = true := wk_al (code := prog_11_method_35_code) (p := 89) (by decide +kernel)
theorem m_kq218_2 : m_dk prog_11_method_35_code m_c218_2 = true := wk_al (code := prog_11_method_35_code) (p := 179) (by decide +kernel)
theorem m_kq218_3 : m_dk prog_11_method_35_code m_c218_3 = true := wk_al (code := prog_11_method_35_code) (p := 263) (by decide +kernel)
theorem m_kq218 : m_dok m_d218 = true := (m_dapp m_kq218_0 (m_dapp m_kq218_1 (m_dapp m_kq218_2 m_kq218_3)))
theorem m_kq219 : m_dok m_d219 = true := wk_al (code := prog_11_method_33_code) (p := 0) (by decide +kernel)
theorem m_kq220_0 : m_dk prog_11_method_34_code m_c220_0 = true := wk_al (code := prog_11_method_34_code) (p := 0) (by decide +kernel)
theorem m_kq220_1 : m_dk prog_11_method_34_code m_c220_1 = true := wk_al (code := prog_11_method_34_code) (p := 84) (by decide +kernel)
theorem m_kq220 : m_dok m_d220 = true := (m_dapp m_kq220_0 m_kq220_1)
theorem m_kq221_0 : m_dk prog_11_method_36_code m_c221_0 = true := wk_al (code := prog_11_method_36_code) (p := 0) (by decide +kernel)
theorem m_kq221_1 : m_dk prog_11_method_36_code m_c221_1 = true := wk_al (code := prog_11_method_36_code) (p := 83) (by decide +kernel)
theorem m_kq221 : m_dok m_d221 = true := (m_dapp m_kq221_0 m_kq221_1)
theorem m_kq222 : m_dok m_d222 = true := wk_al (code := prog_11_method_32_code) (p := 0) (by decide +kernel)
theorem m_kq223 : m_dok m_d223 = true := wk_al (code := prog_11_method_51_code) (p := 0) (by decide +kernel)
theorem m_kq224 : m_dok m_d224 = true := wk_al (code := prog_11_method_50_code) (p := 0) (by decide +kernel)
theorem m_kq225 : m_dok m_d225 = true := wk_al (code := prog_11_method_48_code) (p := 0) (by decide +kernel)
theorem m_kq226 : m_dok m_d226 = true := wk_al (code := prog_11_method_52_code) (p := 0) (by decide +kernel)
theorem m_kq227 : m_dok m_d227 = true := wk_al (code := prog_11_method_57_code) (p := 0) (by decide +kernel)
theorem m_kq228 : m_dok m_d228 = true := wk_al (code := prog_11_method_45_code) (p := 0) (by decide +kernel)
theorem m_kq229 : m_dok m_d229 = true := wk_al (code := prog_11_method_47_code) (p := 0) (by decide +kernel)
theorem m_kq230_0 : m_dk prog_11_method_53_code m_c230_0 = true := wk_al (code := prog_11_method_53_code) (p := 0) (by decide +kernel)
theorem m_kq230_1 : m_dk prog_11_method_53_code m_c230_1 = true := wk_al (code := prog_11_method_53_code) (p := 85) (by decide +kernel)
theorem m_kq230 : m_dok m_d230 = true := (m_dapp m_kq230_0 m_kq230_1)
theorem m_kq231 : m_dok m_d231 = true := wk_al (code := prog_11_method_54_code) (p := 0) (by decide +kernel)
theorem m_kq232 : m_dok m_d232 = true := wk_al (code := prog_11_method_4_code) (p := 0) (by decide +kernel)
theorem m_kq233 : m_dok m_d233 = true := wk_al (code := prog_11_method_55_code) (p := 0) (by decide +kernel)
theorem m_kq234 : m_dok m_d234 = true := wk_al (code := prog_11_method_56_code) (p := 0) (by decide +kernel)
theorem m_kq235 : m_dok m_d235 = true := wk_al (code := prog_11_method_58_code) (p := 0) (by decide +kernel)
theorem m_kq236_0 : m_dk prog_11_method_59_code m_c236_0 = true := wk_al (code := prog_11_method_59_code) (p := 0) (by decide +kernel)
theorem m_kq236_1 : m_dk prog_11_method_59_code m_c236_1 = true := wk_al (code := prog_11_method_59_code) (p := 90) (by decide +kernel)
theorem m_kq236 : m_dok m_d236 = true := (m_dapp m_kq236_0 m_kq236_1)
theorem m_kq237 : m_dok m_d237 = true := wk_al (code := prog_11_method_60_code) (p := 0) (by decide +kernel)
theorem m_kq238 : m_dok m_d238 = true := wk_al (code := prog_11_method_61_code) (p := 0) (by decide +kernel)
theorem m_kq239 : m_dok m_d239 = true := wk_al (code := prog_11_method_62_code) (p := 0) (by decide +kernel)
theorem m_kq240 : m_dok m_d240 = true := wk_al (code := prog_11_method_46_code) (p := 0) (by decide +kernel)
theorem m_kq241 : m_dok m_d241 = true := wk_al (code := prog_11_method_64_code) (p := 0) (by decide +kernel)
theorem m_kq242_0 : m_dk prog_11_method_63_code m_c242_0 = true := wk_al (code := prog_11_method_63_code) (p := 0) (by decide +kernel)
theorem m_kq242_1 : m_dk prog_11_method_63_code m_c242_1 = true := wk_al (code := prog_11_method_63_code) (p := 86) (by decide +kernel)
theorem m_kq242 : m_dok m_d242 = true := (m_dapp m_kq242_0 m_kq242_1)
theorem m_kq243 : m_dok m_d243 = true := wk_al (code := prog_11_method_65_code) (p := 0) (by decide +kernel)
theorem m_kq244 : m_dok m_d244 = true := wk_al (code := prog_11_method_68_code) (p := 0) (by decide +kernel)
theorem m_kq245 : m_dok m_d245 = true := wk_al (code := prog_11_method_66_code) (p := 0) (by decide +kernel)
theorem m_kq246 : m_dok m_d246 = true := wk_al (code := prog_11_method_67_code) (p := 0) (by decide +kernel)
theorem m_kq247 : m_dok m_d247 = true := wk_al (code := prog_11_method_69_code) (p := 0) (by decide +kernel)
theorem m_kq248_0 : m_dk prog_11_method_74_code m_c248_0 = true := wk_al (code := prog_11_method_74_code) (p := 0) (by decide +kernel)
theorem m_kq248_1 : m_dk prog_11_method_74_code m_c248_1 = true := wk_al (code := prog_11_method_74_code) (p := 90) (by decide +kernel)
theorem m_kq248 : m_dok m_d248 = true := (m_dapp m_kq248_0 m_kq248_1)
theorem m_kq249 : m_dok m_d249 = true := wk_al (code := prog_11_method_70_code) (p := 0) (by decide +kernel)
theorem m_kq250 : m_dok m_d250 = true := wk_al (code := prog_11_method_72_code) (p := 0) (by decide +kernel)
theorem m_kq251 : m_dok m_d251 = true := wk_al (code := prog_11_method_71_code) (p := 0) (by decide +kernel)
theorem m_kq252 : m_dok m_d252 = true := wk_al (code := prog_11_method_73_code) (p := 0) (by decide +kernel)
theorem m_kq253_0 : m_dk prog_11_method_83_code m_c253_0 = true := wk_al (code := prog_11_method_83_code) (p := 0) (by decide +kernel)
theorem m_kq253_1 : m_dk prog_11_method_83_code m_c253_1 = true := wk_al (code := prog_11_method_83_code) (p := 91) (by decide +kernel)
theorem m_kq253_2 : m_dk prog_11_method_83_code m_c253_2 = true := wk_al (code := prog_11_method_83_code) (p := 186) (by decide +kernel)
theorem m_kq253 : m_dok m_d253 = true := (m_dapp m_kq253_0 (m_dapp m_kq253_1 m_kq253_2))
theorem m_kq254 : m_dok m_d254 = true := wk_al (code := prog_11_method_75_code) (p := 0) (by decide +kernel)
theorem m_kq255_0 : m_dk prog_11_method_82_code m_c255_0 = true := wk_al (code := prog_11_method_82_code) (p := 0) (by decide +kernel)
theorem m_kq255_1 : m_dk prog_11_method_82_code m_c255_1 = true := wk_al (code := prog_11_method_82_code) (p := 82) (by decide +kernel)
theorem m_kq255_2 : m_dk prog_11_method_82_code m_c255_2 = true := wk_al (code := prog_11_method_82_code) (p := 177) (by decide +kernel)
theorem m_kq255 : m_dok m_d255 = true := (m_dapp m_kq255_0 (m_dapp m_kq255_1 m_kq255_2))
theorem m_kq256 : m_dok m_d256 = true := wk_al (code := prog_11_method_77_code) (p := 0) (by decide +kernel)
theorem m_kq257 : m_dok m_d257 = true := wk_al (code := prog_11_method_81_code) (p := 0) (by decide +kernel)
theorem m_kq258 : m_dok m_d258 = true := wk_al (code := prog_11_method_79_code) (p := 0) (by decide +kernel)
theorem m_kq259 : m_dok m_d259 = true := wk_al (code := prog_11_method_76_code) (p := 0) (by decide +kernel)
theorem m_kq260 : m_dok m_d260 = true := wk_al (code := prog_11_method_78_code) (p := 0) (by decide +kernel)
theorem m_kq261 : m_dok m_d261 = true := wk_al (code := prog_11_method_80_code) (p := 0) (by decide +kernel)
theorem m_kq262_0 : m_dk prog_11_method_85_code m_c262_0 = true := wk_al (code := prog_11_method_85_code) (p := 0) (by decide +kernel)
theorem m_kq262_1 : m_dk prog_11_method_85_code m_c262_1 = true := wk_al (code := prog_11_method_85_code) (p := 92) (by decide +kernel)
theorem m_kq262 : m_dok m_d262 = true := (m_dapp m_kq262_0 m_kq262_1)
theorem m_kq263 : m_dok m_d263 = true := wk_al (code := prog_11_method_84_code) (p := 0) (by decide +kernel)
theorem m_kq264 : m_dok m_d264 = true := wk_al (code := prog_11_method_86_code) (p := 0) (by decide +kernel)
theorem m_kq265_0 : m_dk prog_11_method_90_code m_c265_0 = true := wk_al (code := prog_11_method_90_code) (p := 0) (by decide +kernel)
theorem m_kq265_1 : m_dk prog_11_method_90_code m_c265_1 = true := wk_al (code := prog_11_method_90_code) (p := 94) (by decide +kernel)
theorem m_kq265_2 : m_dk prog_11_method_90_code m_c265_2 = true := wk_al (code := prog_11_method_90_code) (p := 196) (by decide +kernel)
theorem m_kq265 : m_dok m_d265 = true := (m_dapp m_kq265_0 (m_dapp m_kq265_1 m_kq265_2))
theorem m_kq266 : m_dok m_d266 = true := wk_al (code := prog_11_method_88_code) (p := 0) (by decide +kernel)
theorem m_kq267 : m_dok m_d267 = true := wk_al (code := prog_11_method_89_code) (p := 0) (by decide +kernel)
theorem m_kq268_0 : m_dk prog_11_method_91_code m_c268_0 = true := wk_al (code := prog_11_method_91_code) (p := 0) (by decide +kernel)
theorem m_kq268_1 : m_dk prog_11_method_91_code m_c268_1 = true := wk_al (code := prog_11_method_91_code) (p := 94) (by decide +kernel)
theorem m_kq268 : m_dok m_d268 = true := (m_dapp m_kq268_0 m_kq268_1)
theorem m_kq269 : m_dok m_d269 = true := wk_al (code := prog_11_method_87_code) (p := 0) (by decide +kernel)
theorem m_kq270 : m_dok m_d270 = true := wk_al (code := prog_11_method_92_code) (p := 0) (by decide +kernel)
theorem m_kq271 : m_dok m_d271 = true := wk_al (code := prog_11_method_94_code) (p := 0) (by decide +kernel)
theorem m_kq272 : m_dok m_d272 = true := wk_al (code := prog_11_method_93_code) (p := 0) (by decide +kernel)
theorem m_kq273 : m_dok m_d273 = true := wk_al (code := prog_11_method_95_code) (p := 0) (by decide +kernel)
theorem m_kq274 : m_dok m_d274 = true := wk_al (code := prog_11_method_96_code) (p := 0) (by decide +kernel)
theorem m_kq275_0 : m_dk prog_11_method_98_code m_c275_0 = true := wk_al (code := prog_11_method_98_code) (p := 0) (by decide +kernel)
theorem m_kq275_1 : m_dk prog_11_method_98_code m_c275_1 = true := wk_al (code := prog_11_method_98_code) (p := 94) (by decide +kernel)
theorem m_kq275 : m_dok m_d275 = true := (m_dapp m_kq275_0 m_kq275_1)
theorem m_kq276 : m_dok m_d276 = true := wk_al (code := prog_11_method_97_code) (p := 0) (by decide +kernel)
theorem m_kq277 : m_dok m_d277 = true := wk_al (code := prog_11_method_101_code) (p := 0) (by decide +kernel)
theorem m_kq278_0 : m_dk prog_11_method_100_code m_c278_0 = true := wk_al (code := prog_11_method_100_code) (p := 0) (by decide +kernel)
theorem m_kq278_1 : m_dk prog_11_method_100_code m_c278_1 = true := wk_al (code := prog_11_method_100_code) (p := 85) (by decide +kernel)
theorem m_kq278 : m_dok m_d278 = true := (m_dapp m_kq278_0 m_kq278_1)
theorem m_kq279 : m_dok m_d279 = true := wk_al (code := prog_11_method_99_code) (p := 0) (by decide +kernel)
theorem m_kq280 : m_dok m_d280 = true := wk_al (code := prog_11_method_103_code) (p := 0) (by decide +kernel)
theorem m_kq281_0 : m_dk prog_11_method_102_code m_c281_0 = true := wk_al (code := prog_11_method_102_code) (p := 0) (by decide +kernel)
theorem m_kq281_1 : m_dk prog_11_method_102_code m_c281_1 = true := wk_al (code := prog_11_method_102_code) (p := 81) (by decide +kernel)
theorem m_kq281_2 : m_dk prog_11_method_102_code m_c281_2 = true := wk_al (code := prog_11_method_102_code) (p := 162) (by decide +kernel)
theorem m_kq281 : m_dok m_d281 = true := (m_dapp m_kq281_0 (m_dapp m_kq281_1 m_kq281_2))
theorem m_kq282 : m_dok m_d282 = true := wk_al (code := prog_11_method_105_code) (p := 0) (by decide +kernel)
theorem m_kq283_0 : m_dk prog_11_method_104_code m_c283_0 = true := wk_al (code := prog_11_method_104_code) (p := 0) (by decide +kernel)
theorem m_kq283_1 : m_dk prog_11_method_104_code m_c283_1 = true := wk_al (code := prog_11_method_104_code) (p := 88) (by decide +kernel)
theorem m_kq283 : m_dok m_d283 = true := (m_dapp m_kq283_0 m_kq283_1)
theorem m_kq284 : m_dok m_d284 = true := wk_al (code := prog_11_method_106_code) (p := 0) (by decide +kernel)
theorem m_kq285_0 : m_dk prog_11_method_107_code m_c285_0 = true := wk_al (code := prog_11_method_107_code) (p := 0) (by decide +kernel)
theorem m_kq285_1 : m_dk prog_11_method_107_code m_c285_1 = true := wk_al (code := prog_11_method_107_code) (p := 94) (by decide +kernel)
theorem m_kq285_2 : m_dk prog_11_method_107_code m_c285_2 = true := wk_al (code := prog_11_method_107_code) (p := 193) (by decide +kernel)
theorem m_kq285 : m_dok m_d285 = true := (m_dapp m_kq285_0 (m_dapp m_kq285_1 m_kq285_2))
theorem m_kq286 : m_dok m_d286 = true := wk_al (code := prog_11_method_108_code) (p := 0) (by decide +kernel)
theorem m_kq287 : m_dok m_d287 = true := wk_al (code := prog_11_method_109_code) (p := 0) (by decide +kernel)
theorem m_kq288 : m_dok m_d288 = true := wk_al (code := prog_11_method_110_code) (p := 0) (by decide +kernel)
theorem m_kq289 : m_dok m_d289 = true := wk_al (code := prog_11_method_6_code) (p := 0) (by decide +kernel)
theorem m_kq290 : m_dok m_d290 = true := wk_al (code := prog_11_method_5_code) (p := 0) (by decide +kernel)
theorem m_kq291 : m_dok m_d291 = true := wk_al (code := prog_11_method_111_code) (p := 0) (by decide +kernel)

