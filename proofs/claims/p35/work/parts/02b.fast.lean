-- BYTES HELD AGAINST INSTRUCTIONS, FAST: one lemma an opcode, a walk along a code's bytes (printed by wip/gen/gen2b.py)
def dB (code : ByteArray) (p : Nat) : List UInt8 := code.data.toList.drop p
theorem dB_1 {code : ByteArray} {p : Nat} {a : UInt8} {t : List UInt8} (h : dB code p = a :: t) : dB code (p + 1) = t := by
  unfold dB at *
  have e := congrArg (List.drop 1) h
  rw [List.drop_drop] at e
  exact e
theorem du1 {code : ByteArray} {p : Nat} {a : UInt8} {t : List UInt8} (h : dB code p = a :: t) : (Reader.u1 : Decoder Nat) code p = .ok (a.toNat, p + 1) := by
  have h1 : code.data.toList[p]? = some a := by
    have e := congrArg (fun l : List UInt8 => l[0]?) h
    unfold dB at e
    rw [List.getElem?_drop] at e
    exact e
  obtain ⟨hp, e1⟩ := List.getElem?_eq_some_iff.mp h1
  have hp' : p < code.size := hp
  have e : (Reader.u1 : Decoder Nat) code p = (dite (p < code.size) (fun _ => (do set (p + 1); pure code[p].toNat : Decoder Nat)) (fun _ => throw (HasTruncated.truncated p))) code p := rfl
  rw [e, dif_pos hp']
  show Except.ok (code[p].toNat, p + 1) = _
  have e2 : code[p] = a := e1
  rw [e2]
theorem du2 {code : ByteArray} {p : Nat} {a b : UInt8} {t : List UInt8} (h : dB code p = a :: b :: t) : (Reader.u2 : Decoder Nat) code p = .ok (a.toNat * 256 + b.toNat, p + 2) := by
  show Except.bind ((Reader.u1 : Decoder Nat) code p) _ = _
  rw [du1 h]
  show Except.bind ((Reader.u1 : Decoder Nat) code (p + 1)) _ = _
  rw [du1 (dB_1 h)]
  rfl
theorem ds1 {code : ByteArray} {p : Nat} {a : UInt8} {t : List UInt8} (h : dB code p = a :: t) : (Reader.s1 : Decoder Int) code p = .ok (Reader.signed 8 a.toNat, p + 1) := by
  show Except.bind ((Reader.u1 : Decoder Nat) code p) _ = _
  rw [du1 h]
  rfl
theorem ds2 {code : ByteArray} {p : Nat} {a b : UInt8} {t : List UInt8} (h : dB code p = a :: b :: t) : (Reader.s2 : Decoder Int) code p = .ok (Reader.signed 16 (a.toNat * 256 + b.toNat), p + 2) := by
  show Except.bind ((Reader.u2 : Decoder Nat) code p) _ = _
  rw [du2 h]
  rfl
section
variable {code : ByteArray} {p : Nat} {a b c : UInt8} {t : List UInt8}
theorem dk_iaload (h : dB code p = a :: t) (ha : a.toNat = 46) : decode code p = .ok (Instr.iaload, 1) := by
  have e := du1 h
  rw [ha] at e
  show Except.bind (Except.bind ((Reader.u1 : Decoder Nat) code p) _) _ = _
  rw [e]
  show Except.ok (Instr.iaload, p + 1 - p) = _
  rw [Nat.add_sub_cancel_left]
theorem dk_laload (h : dB code p = a :: t) (ha : a.toNat = 47) : decode code p = .ok (Instr.laload, 1) := by
  have e := du1 h
  rw [ha] at e
  show Except.bind (Except.bind ((Reader.u1 : Decoder Nat) code p) _) _ = _
  rw [e]
  show Except.ok (Instr.laload, p + 1 - p) = _
  rw [Nat.add_sub_cancel_left]
theorem dk_aaload (h : dB code p = a :: t) (ha : a.toNat = 50) : decode code p = .ok (Instr.aaload, 1) := by
  have e := du1 h
  rw [ha] at e
  show Except.bind (Except.bind ((Reader.u1 : Decoder Nat) code p) _) _ = _
  rw [e]
  show Except.ok (Instr.aaload, p + 1 - p) = _
  rw [Nat.add_sub_cancel_left]
theorem dk_baload (h : dB code p = a :: t) (ha : a.toNat = 51) : decode code p = .ok (Instr.baload, 1) := by
  have e := du1 h
  rw [ha] at e
  show Except.bind (Except.bind ((Reader.u1 : Decoder Nat) code p) _) _ = _
  rw [e]
  show Except.ok (Instr.baload, p + 1 - p) = _
  rw [Nat.add_sub_cancel_left]
theorem dk_iastore (h : dB code p = a :: t) (ha : a.toNat = 79) : decode code p = .ok (Instr.iastore, 1) := by
  have e := du1 h
  rw [ha] at e
  show Except.bind (Except.bind ((Reader.u1 : Decoder Nat) code p) _) _ = _
  rw [e]
  show Except.ok (Instr.iastore, p + 1 - p) = _
  rw [Nat.add_sub_cancel_left]
theorem dk_lastore (h : dB code p = a :: t) (ha : a.toNat = 80) : decode code p = .ok (Instr.lastore, 1) := by
  have e := du1 h
  rw [ha] at e
  show Except.bind (Except.bind ((Reader.u1 : Decoder Nat) code p) _) _ = _
  rw [e]
  show Except.ok (Instr.lastore, p + 1 - p) = _
  rw [Nat.add_sub_cancel_left]
theorem dk_aastore (h : dB code p = a :: t) (ha : a.toNat = 83) : decode code p = .ok (Instr.aastore, 1) := by
  have e := du1 h
  rw [ha] at e
  show Except.bind (Except.bind ((Reader.u1 : Decoder Nat) code p) _) _ = _
  rw [e]
  show Except.ok (Instr.aastore, p + 1 - p) = _
  rw [Nat.add_sub_cancel_left]
theorem dk_bastore (h : dB code p = a :: t) (ha : a.toNat = 84) : decode code p = .ok (Instr.bastore, 1) := by
  have e := du1 h
  rw [ha] at e
  show Except.bind (Except.bind ((Reader.u1 : Decoder Nat) code p) _) _ = _
  rw [e]
  show Except.ok (Instr.bastore, p + 1 - p) = _
  rw [Nat.add_sub_cancel_left]
theorem dk_pop (h : dB code p = a :: t) (ha : a.toNat = 87) : decode code p = .ok (Instr.pop, 1) := by
  have e := du1 h
  rw [ha] at e
  show Except.bind (Except.bind ((Reader.u1 : Decoder Nat) code p) _) _ = _
  rw [e]
  show Except.ok (Instr.pop, p + 1 - p) = _
  rw [Nat.add_sub_cancel_left]
theorem dk_pop2 (h : dB code p = a :: t) (ha : a.toNat = 88) : decode code p = .ok (Instr.pop2, 1) := by
  have e := du1 h
  rw [ha] at e
  show Except.bind (Except.bind ((Reader.u1 : Decoder Nat) code p) _) _ = _
  rw [e]
  show Except.ok (Instr.pop2, p + 1 - p) = _
  rw [Nat.add_sub_cancel_left]
theorem dk_dup (h : dB code p = a :: t) (ha : a.toNat = 89) : decode code p = .ok (Instr.dup, 1) := by
  have e := du1 h
  rw [ha] at e
  show Except.bind (Except.bind ((Reader.u1 : Decoder Nat) code p) _) _ = _
  rw [e]
  show Except.ok (Instr.dup, p + 1 - p) = _
  rw [Nat.add_sub_cancel_left]
theorem dk_dup2 (h : dB code p = a :: t) (ha : a.toNat = 92) : decode code p = .ok (Instr.dup2, 1) := by
  have e := du1 h
  rw [ha] at e
  show Except.bind (Except.bind ((Reader.u1 : Decoder Nat) code p) _) _ = _
  rw [e]
  show Except.ok (Instr.dup2, p + 1 - p) = _
  rw [Nat.add_sub_cancel_left]
theorem dk_iadd (h : dB code p = a :: t) (ha : a.toNat = 96) : decode code p = .ok (Instr.iadd, 1) := by
  have e := du1 h
  rw [ha] at e
  show Except.bind (Except.bind ((Reader.u1 : Decoder Nat) code p) _) _ = _
  rw [e]
  show Except.ok (Instr.iadd, p + 1 - p) = _
  rw [Nat.add_sub_cancel_left]
theorem dk_ladd (h : dB code p = a :: t) (ha : a.toNat = 97) : decode code p = .ok (Instr.ladd, 1) := by
  have e := du1 h
  rw [ha] at e
  show Except.bind (Except.bind ((Reader.u1 : Decoder Nat) code p) _) _ = _
  rw [e]
  show Except.ok (Instr.ladd, p + 1 - p) = _
  rw [Nat.add_sub_cancel_left]
theorem dk_isub (h : dB code p = a :: t) (ha : a.toNat = 100) : decode code p = .ok (Instr.isub, 1) := by
  have e := du1 h
  rw [ha] at e
  show Except.bind (Except.bind ((Reader.u1 : Decoder Nat) code p) _) _ = _
  rw [e]
  show Except.ok (Instr.isub, p + 1 - p) = _
  rw [Nat.add_sub_cancel_left]
theorem dk_lsub (h : dB code p = a :: t) (ha : a.toNat = 101) : decode code p = .ok (Instr.lsub, 1) := by
  have e := du1 h
  rw [ha] at e
  show Except.bind (Except.bind ((Reader.u1 : Decoder Nat) code p) _) _ = _
  rw [e]
  show Except.ok (Instr.lsub, p + 1 - p) = _
  rw [Nat.add_sub_cancel_left]
theorem dk_imul (h : dB code p = a :: t) (ha : a.toNat = 104) : decode code p = .ok (Instr.imul, 1) := by
  have e := du1 h
  rw [ha] at e
  show Except.bind (Except.bind ((Reader.u1 : Decoder Nat) code p) _) _ = _
  rw [e]
  show Except.ok (Instr.imul, p + 1 - p) = _
  rw [Nat.add_sub_cancel_left]
theorem dk_idiv (h : dB code p = a :: t) (ha : a.toNat = 108) : decode code p = .ok (Instr.idiv, 1) := by
  have e := du1 h
  rw [ha] at e
  show Except.bind (Except.bind ((Reader.u1 : Decoder Nat) code p) _) _ = _
  rw [e]
  show Except.ok (Instr.idiv, p + 1 - p) = _
  rw [Nat.add_sub_cancel_left]
theorem dk_irem (h : dB code p = a :: t) (ha : a.toNat = 112) : decode code p = .ok (Instr.irem, 1) := by
  have e := du1 h
  rw [ha] at e
  show Except.bind (Except.bind ((Reader.u1 : Decoder Nat) code p) _) _ = _
  rw [e]
  show Except.ok (Instr.irem, p + 1 - p) = _
  rw [Nat.add_sub_cancel_left]
theorem dk_lneg (h : dB code p = a :: t) (ha : a.toNat = 117) : decode code p = .ok (Instr.lneg, 1) := by
  have e := du1 h
  rw [ha] at e
  show Except.bind (Except.bind ((Reader.u1 : Decoder Nat) code p) _) _ = _
  rw [e]
  show Except.ok (Instr.lneg, p + 1 - p) = _
  rw [Nat.add_sub_cancel_left]
theorem dk_ishl (h : dB code p = a :: t) (ha : a.toNat = 120) : decode code p = .ok (Instr.ishl, 1) := by
  have e := du1 h
  rw [ha] at e
  show Except.bind (Except.bind ((Reader.u1 : Decoder Nat) code p) _) _ = _
  rw [e]
  show Except.ok (Instr.ishl, p + 1 - p) = _
  rw [Nat.add_sub_cancel_left]
theorem dk_lshl (h : dB code p = a :: t) (ha : a.toNat = 121) : decode code p = .ok (Instr.lshl, 1) := by
  have e := du1 h
  rw [ha] at e
  show Except.bind (Except.bind ((Reader.u1 : Decoder Nat) code p) _) _ = _
  rw [e]
  show Except.ok (Instr.lshl, p + 1 - p) = _
  rw [Nat.add_sub_cancel_left]
theorem dk_ishr (h : dB code p = a :: t) (ha : a.toNat = 122) : decode code p = .ok (Instr.ishr, 1) := by
  have e := du1 h
  rw [ha] at e
  show Except.bind (Except.bind ((Reader.u1 : Decoder Nat) code p) _) _ = _
  rw [e]
  show Except.ok (Instr.ishr, p + 1 - p) = _
  rw [Nat.add_sub_cancel_left]
theorem dk_lshr (h : dB code p = a :: t) (ha : a.toNat = 123) : decode code p = .ok (Instr.lshr, 1) := by
  have e := du1 h
  rw [ha] at e
  show Except.bind (Except.bind ((Reader.u1 : Decoder Nat) code p) _) _ = _
  rw [e]
  show Except.ok (Instr.lshr, p + 1 - p) = _
  rw [Nat.add_sub_cancel_left]
theorem dk_iushr (h : dB code p = a :: t) (ha : a.toNat = 124) : decode code p = .ok (Instr.iushr, 1) := by
  have e := du1 h
  rw [ha] at e
  show Except.bind (Except.bind ((Reader.u1 : Decoder Nat) code p) _) _ = _
  rw [e]
  show Except.ok (Instr.iushr, p + 1 - p) = _
  rw [Nat.add_sub_cancel_left]
theorem dk_lushr (h : dB code p = a :: t) (ha : a.toNat = 125) : decode code p = .ok (Instr.lushr, 1) := by
  have e := du1 h
  rw [ha] at e
  show Except.bind (Except.bind ((Reader.u1 : Decoder Nat) code p) _) _ = _
  rw [e]
  show Except.ok (Instr.lushr, p + 1 - p) = _
  rw [Nat.add_sub_cancel_left]
theorem dk_iand (h : dB code p = a :: t) (ha : a.toNat = 126) : decode code p = .ok (Instr.iand, 1) := by
  have e := du1 h
  rw [ha] at e
  show Except.bind (Except.bind ((Reader.u1 : Decoder Nat) code p) _) _ = _
  rw [e]
  show Except.ok (Instr.iand, p + 1 - p) = _
  rw [Nat.add_sub_cancel_left]
theorem dk_land (h : dB code p = a :: t) (ha : a.toNat = 127) : decode code p = .ok (Instr.land, 1) := by
  have e := du1 h
  rw [ha] at e
  show Except.bind (Except.bind ((Reader.u1 : Decoder Nat) code p) _) _ = _
  rw [e]
  show Except.ok (Instr.land, p + 1 - p) = _
  rw [Nat.add_sub_cancel_left]
theorem dk_ior (h : dB code p = a :: t) (ha : a.toNat = 128) : decode code p = .ok (Instr.ior, 1) := by
  have e := du1 h
  rw [ha] at e
  show Except.bind (Except.bind ((Reader.u1 : Decoder Nat) code p) _) _ = _
  rw [e]
  show Except.ok (Instr.ior, p + 1 - p) = _
  rw [Nat.add_sub_cancel_left]
theorem dk_lor (h : dB code p = a :: t) (ha : a.toNat = 129) : decode code p = .ok (Instr.lor, 1) := by
  have e := du1 h
  rw [ha] at e
  show Except.bind (Except.bind ((Reader.u1 : Decoder Nat) code p) _) _ = _
  rw [e]
  show Except.ok (Instr.lor, p + 1 - p) = _
  rw [Nat.add_sub_cancel_left]
theorem dk_ixor (h : dB code p = a :: t) (ha : a.toNat = 130) : decode code p = .ok (Instr.ixor, 1) := by
  have e := du1 h
  rw [ha] at e
  show Except.bind (Except.bind ((Reader.u1 : Decoder Nat) code p) _) _ = _
  rw [e]
  show Except.ok (Instr.ixor, p + 1 - p) = _
  rw [Nat.add_sub_cancel_left]
theorem dk_lxor (h : dB code p = a :: t) (ha : a.toNat = 131) : decode code p = .ok (Instr.lxor, 1) := by
  have e := du1 h
  rw [ha] at e
  show Except.bind (Except.bind ((Reader.u1 : Decoder Nat) code p) _) _ = _
  rw [e]
  show Except.ok (Instr.lxor, p + 1 - p) = _
  rw [Nat.add_sub_cancel_left]
theorem dk_i2l (h : dB code p = a :: t) (ha : a.toNat = 133) : decode code p = .ok (Instr.i2l, 1) := by
  have e := du1 h
  rw [ha] at e
  show Except.bind (Except.bind ((Reader.u1 : Decoder Nat) code p) _) _ = _
  rw [e]
  show Except.ok (Instr.i2l, p + 1 - p) = _
  rw [Nat.add_sub_cancel_left]
theorem dk_l2i (h : dB code p = a :: t) (ha : a.toNat = 136) : decode code p = .ok (Instr.l2i, 1) := by
  have e := du1 h
  rw [ha] at e
  show Except.bind (Except.bind ((Reader.u1 : Decoder Nat) code p) _) _ = _
  rw [e]
  show Except.ok (Instr.l2i, p + 1 - p) = _
  rw [Nat.add_sub_cancel_left]
theorem dk_i2b (h : dB code p = a :: t) (ha : a.toNat = 145) : decode code p = .ok (Instr.i2b, 1) := by
  have e := du1 h
  rw [ha] at e
  show Except.bind (Except.bind ((Reader.u1 : Decoder Nat) code p) _) _ = _
  rw [e]
  show Except.ok (Instr.i2b, p + 1 - p) = _
  rw [Nat.add_sub_cancel_left]
theorem dk_lcmp (h : dB code p = a :: t) (ha : a.toNat = 148) : decode code p = .ok (Instr.lcmp, 1) := by
  have e := du1 h
  rw [ha] at e
  show Except.bind (Except.bind ((Reader.u1 : Decoder Nat) code p) _) _ = _
  rw [e]
  show Except.ok (Instr.lcmp, p + 1 - p) = _
  rw [Nat.add_sub_cancel_left]
theorem dk_ireturn (h : dB code p = a :: t) (ha : a.toNat = 172) : decode code p = .ok (Instr.ireturn, 1) := by
  have e := du1 h
  rw [ha] at e
  show Except.bind (Except.bind ((Reader.u1 : Decoder Nat) code p) _) _ = _
  rw [e]
  show Except.ok (Instr.ireturn, p + 1 - p) = _
  rw [Nat.add_sub_cancel_left]
theorem dk_lreturn (h : dB code p = a :: t) (ha : a.toNat = 173) : decode code p = .ok (Instr.lreturn, 1) := by
  have e := du1 h
  rw [ha] at e
  show Except.bind (Except.bind ((Reader.u1 : Decoder Nat) code p) _) _ = _
  rw [e]
  show Except.ok (Instr.lreturn, p + 1 - p) = _
  rw [Nat.add_sub_cancel_left]
theorem dk_areturn (h : dB code p = a :: t) (ha : a.toNat = 176) : decode code p = .ok (Instr.areturn, 1) := by
  have e := du1 h
  rw [ha] at e
  show Except.bind (Except.bind ((Reader.u1 : Decoder Nat) code p) _) _ = _
  rw [e]
  show Except.ok (Instr.areturn, p + 1 - p) = _
  rw [Nat.add_sub_cancel_left]
theorem dk_return_ (h : dB code p = a :: t) (ha : a.toNat = 177) : decode code p = .ok (Instr.return_, 1) := by
  have e := du1 h
  rw [ha] at e
  show Except.bind (Except.bind ((Reader.u1 : Decoder Nat) code p) _) _ = _
  rw [e]
  show Except.ok (Instr.return_, p + 1 - p) = _
  rw [Nat.add_sub_cancel_left]
theorem dk_arraylength (h : dB code p = a :: t) (ha : a.toNat = 190) : decode code p = .ok (Instr.arraylength, 1) := by
  have e := du1 h
  rw [ha] at e
  show Except.bind (Except.bind ((Reader.u1 : Decoder Nat) code p) _) _ = _
  rw [e]
  show Except.ok (Instr.arraylength, p + 1 - p) = _
  rw [Nat.add_sub_cancel_left]
theorem dk_athrow (h : dB code p = a :: t) (ha : a.toNat = 191) : decode code p = .ok (Instr.athrow, 1) := by
  have e := du1 h
  rw [ha] at e
  show Except.bind (Except.bind ((Reader.u1 : Decoder Nat) code p) _) _ = _
  rw [e]
  show Except.ok (Instr.athrow, p + 1 - p) = _
  rw [Nat.add_sub_cancel_left]
theorem dk_iload_n0 (h : dB code p = a :: t) (ha : a.toNat = 26) : decode code p = .ok (Instr.iload_n ⟨0, by decide⟩, 1) := by
  have e := du1 h
  rw [ha] at e
  show Except.bind (Except.bind ((Reader.u1 : Decoder Nat) code p) _) _ = _
  rw [e]
  show Except.ok (Instr.iload_n ⟨0, by decide⟩, p + 1 - p) = _
  rw [Nat.add_sub_cancel_left]
theorem dk_iload_n1 (h : dB code p = a :: t) (ha : a.toNat = 27) : decode code p = .ok (Instr.iload_n ⟨1, by decide⟩, 1) := by
  have e := du1 h
  rw [ha] at e
  show Except.bind (Except.bind ((Reader.u1 : Decoder Nat) code p) _) _ = _
  rw [e]
  show Except.ok (Instr.iload_n ⟨1, by decide⟩, p + 1 - p) = _
  rw [Nat.add_sub_cancel_left]
theorem dk_iload_n2 (h : dB code p = a :: t) (ha : a.toNat = 28) : decode code p = .ok (Instr.iload_n ⟨2, by decide⟩, 1) := by
  have e := du1 h
  rw [ha] at e
  show Except.bind (Except.bind ((Reader.u1 : Decoder Nat) code p) _) _ = _
  rw [e]
  show Except.ok (Instr.iload_n ⟨2, by decide⟩, p + 1 - p) = _
  rw [Nat.add_sub_cancel_left]
theorem dk_iload_n3 (h : dB code p = a :: t) (ha : a.toNat = 29) : decode code p = .ok (Instr.iload_n ⟨3, by decide⟩, 1) := by
  have e := du1 h
  rw [ha] at e
  show Except.bind (Except.bind ((Reader.u1 : Decoder Nat) code p) _) _ = _
  rw [e]
  show Except.ok (Instr.iload_n ⟨3, by decide⟩, p + 1 - p) = _
  rw [Nat.add_sub_cancel_left]
theorem dk_lload_n0 (h : dB code p = a :: t) (ha : a.toNat = 30) : decode code p = .ok (Instr.lload_n ⟨0, by decide⟩, 1) := by
  have e := du1 h
  rw [ha] at e
  show Except.bind (Except.bind ((Reader.u1 : Decoder Nat) code p) _) _ = _
  rw [e]
  show Except.ok (Instr.lload_n ⟨0, by decide⟩, p + 1 - p) = _
  rw [Nat.add_sub_cancel_left]
theorem dk_lload_n1 (h : dB code p = a :: t) (ha : a.toNat = 31) : decode code p = .ok (Instr.lload_n ⟨1, by decide⟩, 1) := by
  have e := du1 h
  rw [ha] at e
  show Except.bind (Except.bind ((Reader.u1 : Decoder Nat) code p) _) _ = _
  rw [e]
  show Except.ok (Instr.lload_n ⟨1, by decide⟩, p + 1 - p) = _
  rw [Nat.add_sub_cancel_left]
theorem dk_lload_n2 (h : dB code p = a :: t) (ha : a.toNat = 32) : decode code p = .ok (Instr.lload_n ⟨2, by decide⟩, 1) := by
  have e := du1 h
  rw [ha] at e
  show Except.bind (Except.bind ((Reader.u1 : Decoder Nat) code p) _) _ = _
  rw [e]
  show Except.ok (Instr.lload_n ⟨2, by decide⟩, p + 1 - p) = _
  rw [Nat.add_sub_cancel_left]
theorem dk_lload_n3 (h : dB code p = a :: t) (ha : a.toNat = 33) : decode code p = .ok (Instr.lload_n ⟨3, by decide⟩, 1) := by
  have e := du1 h
  rw [ha] at e
  show Except.bind (Except.bind ((Reader.u1 : Decoder Nat) code p) _) _ = _
  rw [e]
  show Except.ok (Instr.lload_n ⟨3, by decide⟩, p + 1 - p) = _
  rw [Nat.add_sub_cancel_left]
theorem dk_aload_n0 (h : dB code p = a :: t) (ha : a.toNat = 42) : decode code p = .ok (Instr.aload_n ⟨0, by decide⟩, 1) := by
  have e := du1 h
  rw [ha] at e
  show Except.bind (Except.bind ((Reader.u1 : Decoder Nat) code p) _) _ = _
  rw [e]
  show Except.ok (Instr.aload_n ⟨0, by decide⟩, p + 1 - p) = _
  rw [Nat.add_sub_cancel_left]
theorem dk_aload_n1 (h : dB code p = a :: t) (ha : a.toNat = 43) : decode code p = .ok (Instr.aload_n ⟨1, by decide⟩, 1) := by
  have e := du1 h
  rw [ha] at e
  show Except.bind (Except.bind ((Reader.u1 : Decoder Nat) code p) _) _ = _
  rw [e]
  show Except.ok (Instr.aload_n ⟨1, by decide⟩, p + 1 - p) = _
  rw [Nat.add_sub_cancel_left]
theorem dk_aload_n2 (h : dB code p = a :: t) (ha : a.toNat = 44) : decode code p = .ok (Instr.aload_n ⟨2, by decide⟩, 1) := by
  have e := du1 h
  rw [ha] at e
  show Except.bind (Except.bind ((Reader.u1 : Decoder Nat) code p) _) _ = _
  rw [e]
  show Except.ok (Instr.aload_n ⟨2, by decide⟩, p + 1 - p) = _
  rw [Nat.add_sub_cancel_left]
theorem dk_aload_n3 (h : dB code p = a :: t) (ha : a.toNat = 45) : decode code p = .ok (Instr.aload_n ⟨3, by decide⟩, 1) := by
  have e := du1 h
  rw [ha] at e
  show Except.bind (Except.bind ((Reader.u1 : Decoder Nat) code p) _) _ = _
  rw [e]
  show Except.ok (Instr.aload_n ⟨3, by decide⟩, p + 1 - p) = _
  rw [Nat.add_sub_cancel_left]
theorem dk_istore_n0 (h : dB code p = a :: t) (ha : a.toNat = 59) : decode code p = .ok (Instr.istore_n ⟨0, by decide⟩, 1) := by
  have e := du1 h
  rw [ha] at e
  show Except.bind (Except.bind ((Reader.u1 : Decoder Nat) code p) _) _ = _
  rw [e]
  show Except.ok (Instr.istore_n ⟨0, by decide⟩, p + 1 - p) = _
  rw [Nat.add_sub_cancel_left]
theorem dk_istore_n1 (h : dB code p = a :: t) (ha : a.toNat = 60) : decode code p = .ok (Instr.istore_n ⟨1, by decide⟩, 1) := by
  have e := du1 h
  rw [ha] at e
  show Except.bind (Except.bind ((Reader.u1 : Decoder Nat) code p) _) _ = _
  rw [e]
  show Except.ok (Instr.istore_n ⟨1, by decide⟩, p + 1 - p) = _
  rw [Nat.add_sub_cancel_left]
theorem dk_istore_n2 (h : dB code p = a :: t) (ha : a.toNat = 61) : decode code p = .ok (Instr.istore_n ⟨2, by decide⟩, 1) := by
  have e := du1 h
  rw [ha] at e
  show Except.bind (Except.bind ((Reader.u1 : Decoder Nat) code p) _) _ = _
  rw [e]
  show Except.ok (Instr.istore_n ⟨2, by decide⟩, p + 1 - p) = _
  rw [Nat.add_sub_cancel_left]
theorem dk_istore_n3 (h : dB code p = a :: t) (ha : a.toNat = 62) : decode code p = .ok (Instr.istore_n ⟨3, by decide⟩, 1) := by
  have e := du1 h
  rw [ha] at e
  show Except.bind (Except.bind ((Reader.u1 : Decoder Nat) code p) _) _ = _
  rw [e]
  show Except.ok (Instr.istore_n ⟨3, by decide⟩, p + 1 - p) = _
  rw [Nat.add_sub_cancel_left]
theorem dk_lstore_n0 (h : dB code p = a :: t) (ha : a.toNat = 63) : decode code p = .ok (Instr.lstore_n ⟨0, by decide⟩, 1) := by
  have e := du1 h
  rw [ha] at e
  show Except.bind (Except.bind ((Reader.u1 : Decoder Nat) code p) _) _ = _
  rw [e]
  show Except.ok (Instr.lstore_n ⟨0, by decide⟩, p + 1 - p) = _
  rw [Nat.add_sub_cancel_left]
theorem dk_lstore_n1 (h : dB code p = a :: t) (ha : a.toNat = 64) : decode code p = .ok (Instr.lstore_n ⟨1, by decide⟩, 1) := by
  have e := du1 h
  rw [ha] at e
  show Except.bind (Except.bind ((Reader.u1 : Decoder Nat) code p) _) _ = _
  rw [e]
  show Except.ok (Instr.lstore_n ⟨1, by decide⟩, p + 1 - p) = _
  rw [Nat.add_sub_cancel_left]
theorem dk_lstore_n2 (h : dB code p = a :: t) (ha : a.toNat = 65) : decode code p = .ok (Instr.lstore_n ⟨2, by decide⟩, 1) := by
  have e := du1 h
  rw [ha] at e
  show Except.bind (Except.bind ((Reader.u1 : Decoder Nat) code p) _) _ = _
  rw [e]
  show Except.ok (Instr.lstore_n ⟨2, by decide⟩, p + 1 - p) = _
  rw [Nat.add_sub_cancel_left]
theorem dk_lstore_n3 (h : dB code p = a :: t) (ha : a.toNat = 66) : decode code p = .ok (Instr.lstore_n ⟨3, by decide⟩, 1) := by
  have e := du1 h
  rw [ha] at e
  show Except.bind (Except.bind ((Reader.u1 : Decoder Nat) code p) _) _ = _
  rw [e]
  show Except.ok (Instr.lstore_n ⟨3, by decide⟩, p + 1 - p) = _
  rw [Nat.add_sub_cancel_left]
theorem dk_astore_n0 (h : dB code p = a :: t) (ha : a.toNat = 75) : decode code p = .ok (Instr.astore_n ⟨0, by decide⟩, 1) := by
  have e := du1 h
  rw [ha] at e
  show Except.bind (Except.bind ((Reader.u1 : Decoder Nat) code p) _) _ = _
  rw [e]
  show Except.ok (Instr.astore_n ⟨0, by decide⟩, p + 1 - p) = _
  rw [Nat.add_sub_cancel_left]
theorem dk_astore_n1 (h : dB code p = a :: t) (ha : a.toNat = 76) : decode code p = .ok (Instr.astore_n ⟨1, by decide⟩, 1) := by
  have e := du1 h
  rw [ha] at e
  show Except.bind (Except.bind ((Reader.u1 : Decoder Nat) code p) _) _ = _
  rw [e]
  show Except.ok (Instr.astore_n ⟨1, by decide⟩, p + 1 - p) = _
  rw [Nat.add_sub_cancel_left]
theorem dk_astore_n2 (h : dB code p = a :: t) (ha : a.toNat = 77) : decode code p = .ok (Instr.astore_n ⟨2, by decide⟩, 1) := by
  have e := du1 h
  rw [ha] at e
  show Except.bind (Except.bind ((Reader.u1 : Decoder Nat) code p) _) _ = _
  rw [e]
  show Except.ok (Instr.astore_n ⟨2, by decide⟩, p + 1 - p) = _
  rw [Nat.add_sub_cancel_left]
theorem dk_astore_n3 (h : dB code p = a :: t) (ha : a.toNat = 78) : decode code p = .ok (Instr.astore_n ⟨3, by decide⟩, 1) := by
  have e := du1 h
  rw [ha] at e
  show Except.bind (Except.bind ((Reader.u1 : Decoder Nat) code p) _) _ = _
  rw [e]
  show Except.ok (Instr.astore_n ⟨3, by decide⟩, p + 1 - p) = _
  rw [Nat.add_sub_cancel_left]
theorem dk_iconstm (h : dB code p = a :: t) (ha : a.toNat = 2) : decode code p = .ok (Instr.iconst (-1), 1) := by
  have e := du1 h
  rw [ha] at e
  show Except.bind (Except.bind ((Reader.u1 : Decoder Nat) code p) _) _ = _
  rw [e]
  show Except.ok (Instr.iconst (-1), p + 1 - p) = _
  rw [Nat.add_sub_cancel_left]
theorem dk_iconst0 (h : dB code p = a :: t) (ha : a.toNat = 3) : decode code p = .ok (Instr.iconst 0, 1) := by
  have e := du1 h
  rw [ha] at e
  show Except.bind (Except.bind ((Reader.u1 : Decoder Nat) code p) _) _ = _
  rw [e]
  show Except.ok (Instr.iconst 0, p + 1 - p) = _
  rw [Nat.add_sub_cancel_left]
theorem dk_iconst1 (h : dB code p = a :: t) (ha : a.toNat = 4) : decode code p = .ok (Instr.iconst 1, 1) := by
  have e := du1 h
  rw [ha] at e
  show Except.bind (Except.bind ((Reader.u1 : Decoder Nat) code p) _) _ = _
  rw [e]
  show Except.ok (Instr.iconst 1, p + 1 - p) = _
  rw [Nat.add_sub_cancel_left]
theorem dk_iconst2 (h : dB code p = a :: t) (ha : a.toNat = 5) : decode code p = .ok (Instr.iconst 2, 1) := by
  have e := du1 h
  rw [ha] at e
  show Except.bind (Except.bind ((Reader.u1 : Decoder Nat) code p) _) _ = _
  rw [e]
  show Except.ok (Instr.iconst 2, p + 1 - p) = _
  rw [Nat.add_sub_cancel_left]
theorem dk_iconst3 (h : dB code p = a :: t) (ha : a.toNat = 6) : decode code p = .ok (Instr.iconst 3, 1) := by
  have e := du1 h
  rw [ha] at e
  show Except.bind (Except.bind ((Reader.u1 : Decoder Nat) code p) _) _ = _
  rw [e]
  show Except.ok (Instr.iconst 3, p + 1 - p) = _
  rw [Nat.add_sub_cancel_left]
theorem dk_iconst4 (h : dB code p = a :: t) (ha : a.toNat = 7) : decode code p = .ok (Instr.iconst 4, 1) := by
  have e := du1 h
  rw [ha] at e
  show Except.bind (Except.bind ((Reader.u1 : Decoder Nat) code p) _) _ = _
  rw [e]
  show Except.ok (Instr.iconst 4, p + 1 - p) = _
  rw [Nat.add_sub_cancel_left]
theorem dk_iconst5 (h : dB code p = a :: t) (ha : a.toNat = 8) : decode code p = .ok (Instr.iconst 5, 1) := by
  have e := du1 h
  rw [ha] at e
  show Except.bind (Except.bind ((Reader.u1 : Decoder Nat) code p) _) _ = _
  rw [e]
  show Except.ok (Instr.iconst 5, p + 1 - p) = _
  rw [Nat.add_sub_cancel_left]
theorem dk_lconst0 (h : dB code p = a :: t) (ha : a.toNat = 9) : decode code p = .ok (Instr.lconst ⟨0, by decide⟩, 1) := by
  have e := du1 h
  rw [ha] at e
  show Except.bind (Except.bind ((Reader.u1 : Decoder Nat) code p) _) _ = _
  rw [e]
  show Except.ok (Instr.lconst ⟨0, by decide⟩, p + 1 - p) = _
  rw [Nat.add_sub_cancel_left]
theorem dk_lconst1 (h : dB code p = a :: t) (ha : a.toNat = 10) : decode code p = .ok (Instr.lconst ⟨1, by decide⟩, 1) := by
  have e := du1 h
  rw [ha] at e
  show Except.bind (Except.bind ((Reader.u1 : Decoder Nat) code p) _) _ = _
  rw [e]
  show Except.ok (Instr.lconst ⟨1, by decide⟩, p + 1 - p) = _
  rw [Nat.add_sub_cancel_left]
theorem dk_ldc (h : dB code p = a :: b :: t) (ha : a.toNat = 18) : decode code p = .ok (Instr.ldc (b.toNat), 2) := by
  have e := du1 h
  rw [ha] at e
  show Except.bind (Except.bind ((Reader.u1 : Decoder Nat) code p) _) _ = _
  rw [e]
  show Except.bind (Except.bind ((Reader.u1 : Decoder Nat) code (p + 1)) _) _ = _
  rw [du1 (dB_1 h)]
  show Except.ok (Instr.ldc (b.toNat), p + 1 + 1 - p) = _
  rw [show p + 1 + 1 - p = 2 by omega]
theorem dk_iload (h : dB code p = a :: b :: t) (ha : a.toNat = 21) : decode code p = .ok (Instr.iload (b.toNat), 2) := by
  have e := du1 h
  rw [ha] at e
  show Except.bind (Except.bind ((Reader.u1 : Decoder Nat) code p) _) _ = _
  rw [e]
  show Except.bind (Except.bind ((Reader.u1 : Decoder Nat) code (p + 1)) _) _ = _
  rw [du1 (dB_1 h)]
  show Except.ok (Instr.iload (b.toNat), p + 1 + 1 - p) = _
  rw [show p + 1 + 1 - p = 2 by omega]
theorem dk_lload (h : dB code p = a :: b :: t) (ha : a.toNat = 22) : decode code p = .ok (Instr.lload (b.toNat), 2) := by
  have e := du1 h
  rw [ha] at e
  show Except.bind (Except.bind ((Reader.u1 : Decoder Nat) code p) _) _ = _
  rw [e]
  show Except.bind (Except.bind ((Reader.u1 : Decoder Nat) code (p + 1)) _) _ = _
  rw [du1 (dB_1 h)]
  show Except.ok (Instr.lload (b.toNat), p + 1 + 1 - p) = _
  rw [show p + 1 + 1 - p = 2 by omega]
theorem dk_aload (h : dB code p = a :: b :: t) (ha : a.toNat = 25) : decode code p = .ok (Instr.aload (b.toNat), 2) := by
  have e := du1 h
  rw [ha] at e
  show Except.bind (Except.bind ((Reader.u1 : Decoder Nat) code p) _) _ = _
  rw [e]
  show Except.bind (Except.bind ((Reader.u1 : Decoder Nat) code (p + 1)) _) _ = _
  rw [du1 (dB_1 h)]
  show Except.ok (Instr.aload (b.toNat), p + 1 + 1 - p) = _
  rw [show p + 1 + 1 - p = 2 by omega]
theorem dk_istore (h : dB code p = a :: b :: t) (ha : a.toNat = 54) : decode code p = .ok (Instr.istore (b.toNat), 2) := by
  have e := du1 h
  rw [ha] at e
  show Except.bind (Except.bind ((Reader.u1 : Decoder Nat) code p) _) _ = _
  rw [e]
  show Except.bind (Except.bind ((Reader.u1 : Decoder Nat) code (p + 1)) _) _ = _
  rw [du1 (dB_1 h)]
  show Except.ok (Instr.istore (b.toNat), p + 1 + 1 - p) = _
  rw [show p + 1 + 1 - p = 2 by omega]
theorem dk_lstore (h : dB code p = a :: b :: t) (ha : a.toNat = 55) : decode code p = .ok (Instr.lstore (b.toNat), 2) := by
  have e := du1 h
  rw [ha] at e
  show Except.bind (Except.bind ((Reader.u1 : Decoder Nat) code p) _) _ = _
  rw [e]
  show Except.bind (Except.bind ((Reader.u1 : Decoder Nat) code (p + 1)) _) _ = _
  rw [du1 (dB_1 h)]
  show Except.ok (Instr.lstore (b.toNat), p + 1 + 1 - p) = _
  rw [show p + 1 + 1 - p = 2 by omega]
theorem dk_astore (h : dB code p = a :: b :: t) (ha : a.toNat = 58) : decode code p = .ok (Instr.astore (b.toNat), 2) := by
  have e := du1 h
  rw [ha] at e
  show Except.bind (Except.bind ((Reader.u1 : Decoder Nat) code p) _) _ = _
  rw [e]
  show Except.bind (Except.bind ((Reader.u1 : Decoder Nat) code (p + 1)) _) _ = _
  rw [du1 (dB_1 h)]
  show Except.ok (Instr.astore (b.toNat), p + 1 + 1 - p) = _
  rw [show p + 1 + 1 - p = 2 by omega]
theorem dk_bipush (h : dB code p = a :: b :: t) (ha : a.toNat = 16) : decode code p = .ok (Instr.bipush (Reader.signed 8 b.toNat), 2) := by
  have e := du1 h
  rw [ha] at e
  show Except.bind (Except.bind ((Reader.u1 : Decoder Nat) code p) _) _ = _
  rw [e]
  show Except.bind (Except.bind ((Reader.s1 : Decoder Int) code (p + 1)) _) _ = _
  rw [ds1 (dB_1 h)]
  show Except.ok (Instr.bipush (Reader.signed 8 b.toNat), p + 1 + 1 - p) = _
  rw [show p + 1 + 1 - p = 2 by omega]
theorem dk_ldc_w (h : dB code p = a :: b :: c :: t) (ha : a.toNat = 19) : decode code p = .ok (Instr.ldc_w (b.toNat * 256 + c.toNat), 3) := by
  have e := du1 h
  rw [ha] at e
  show Except.bind (Except.bind ((Reader.u1 : Decoder Nat) code p) _) _ = _
  rw [e]
  show Except.bind (Except.bind ((Reader.u2 : Decoder Nat) code (p + 1)) _) _ = _
  rw [du2 (dB_1 h)]
  show Except.ok (Instr.ldc_w (b.toNat * 256 + c.toNat), p + 1 + 2 - p) = _
  rw [show p + 1 + 2 - p = 3 by omega]
theorem dk_ldc2_w (h : dB code p = a :: b :: c :: t) (ha : a.toNat = 20) : decode code p = .ok (Instr.ldc2_w (b.toNat * 256 + c.toNat), 3) := by
  have e := du1 h
  rw [ha] at e
  show Except.bind (Except.bind ((Reader.u1 : Decoder Nat) code p) _) _ = _
  rw [e]
  show Except.bind (Except.bind ((Reader.u2 : Decoder Nat) code (p + 1)) _) _ = _
  rw [du2 (dB_1 h)]
  show Except.ok (Instr.ldc2_w (b.toNat * 256 + c.toNat), p + 1 + 2 - p) = _
  rw [show p + 1 + 2 - p = 3 by omega]
theorem dk_getstatic (h : dB code p = a :: b :: c :: t) (ha : a.toNat = 178) : decode code p = .ok (Instr.getstatic (b.toNat * 256 + c.toNat), 3) := by
  have e := du1 h
  rw [ha] at e
  show Except.bind (Except.bind ((Reader.u1 : Decoder Nat) code p) _) _ = _
  rw [e]
  show Except.bind (Except.bind ((Reader.u2 : Decoder Nat) code (p + 1)) _) _ = _
  rw [du2 (dB_1 h)]
  show Except.ok (Instr.getstatic (b.toNat * 256 + c.toNat), p + 1 + 2 - p) = _
  rw [show p + 1 + 2 - p = 3 by omega]
theorem dk_getfield (h : dB code p = a :: b :: c :: t) (ha : a.toNat = 180) : decode code p = .ok (Instr.getfield (b.toNat * 256 + c.toNat), 3) := by
  have e := du1 h
  rw [ha] at e
  show Except.bind (Except.bind ((Reader.u1 : Decoder Nat) code p) _) _ = _
  rw [e]
  show Except.bind (Except.bind ((Reader.u2 : Decoder Nat) code (p + 1)) _) _ = _
  rw [du2 (dB_1 h)]
  show Except.ok (Instr.getfield (b.toNat * 256 + c.toNat), p + 1 + 2 - p) = _
  rw [show p + 1 + 2 - p = 3 by omega]
theorem dk_putfield (h : dB code p = a :: b :: c :: t) (ha : a.toNat = 181) : decode code p = .ok (Instr.putfield (b.toNat * 256 + c.toNat), 3) := by
  have e := du1 h
  rw [ha] at e
  show Except.bind (Except.bind ((Reader.u1 : Decoder Nat) code p) _) _ = _
  rw [e]
  show Except.bind (Except.bind ((Reader.u2 : Decoder Nat) code (p + 1)) _) _ = _
  rw [du2 (dB_1 h)]
  show Except.ok (Instr.putfield (b.toNat * 256 + c.toNat), p + 1 + 2 - p) = _
  rw [show p + 1 + 2 - p = 3 by omega]
theorem dk_invokevirtual (h : dB code p = a :: b :: c :: t) (ha : a.toNat = 182) : decode code p = .ok (Instr.invokevirtual (b.toNat * 256 + c.toNat), 3) := by
  have e := du1 h
  rw [ha] at e
  show Except.bind (Except.bind ((Reader.u1 : Decoder Nat) code p) _) _ = _
  rw [e]
  show Except.bind (Except.bind ((Reader.u2 : Decoder Nat) code (p + 1)) _) _ = _
  rw [du2 (dB_1 h)]
  show Except.ok (Instr.invokevirtual (b.toNat * 256 + c.toNat), p + 1 + 2 - p) = _
  rw [show p + 1 + 2 - p = 3 by omega]
theorem dk_invokespecial (h : dB code p = a :: b :: c :: t) (ha : a.toNat = 183) : decode code p = .ok (Instr.invokespecial (b.toNat * 256 + c.toNat), 3) := by
  have e := du1 h
  rw [ha] at e
  show Except.bind (Except.bind ((Reader.u1 : Decoder Nat) code p) _) _ = _
  rw [e]
  show Except.bind (Except.bind ((Reader.u2 : Decoder Nat) code (p + 1)) _) _ = _
  rw [du2 (dB_1 h)]
  show Except.ok (Instr.invokespecial (b.toNat * 256 + c.toNat), p + 1 + 2 - p) = _
  rw [show p + 1 + 2 - p = 3 by omega]
theorem dk_invokestatic (h : dB code p = a :: b :: c :: t) (ha : a.toNat = 184) : decode code p = .ok (Instr.invokestatic (b.toNat * 256 + c.toNat), 3) := by
  have e := du1 h
  rw [ha] at e
  show Except.bind (Except.bind ((Reader.u1 : Decoder Nat) code p) _) _ = _
  rw [e]
  show Except.bind (Except.bind ((Reader.u2 : Decoder Nat) code (p + 1)) _) _ = _
  rw [du2 (dB_1 h)]
  show Except.ok (Instr.invokestatic (b.toNat * 256 + c.toNat), p + 1 + 2 - p) = _
  rw [show p + 1 + 2 - p = 3 by omega]
theorem dk_new (h : dB code p = a :: b :: c :: t) (ha : a.toNat = 187) : decode code p = .ok (Instr.new (b.toNat * 256 + c.toNat), 3) := by
  have e := du1 h
  rw [ha] at e
  show Except.bind (Except.bind ((Reader.u1 : Decoder Nat) code p) _) _ = _
  rw [e]
  show Except.bind (Except.bind ((Reader.u2 : Decoder Nat) code (p + 1)) _) _ = _
  rw [du2 (dB_1 h)]
  show Except.ok (Instr.new (b.toNat * 256 + c.toNat), p + 1 + 2 - p) = _
  rw [show p + 1 + 2 - p = 3 by omega]
theorem dk_sipush (h : dB code p = a :: b :: c :: t) (ha : a.toNat = 17) : decode code p = .ok (Instr.sipush (Reader.signed 16 (b.toNat * 256 + c.toNat)), 3) := by
  have e := du1 h
  rw [ha] at e
  show Except.bind (Except.bind ((Reader.u1 : Decoder Nat) code p) _) _ = _
  rw [e]
  show Except.bind (Except.bind ((Reader.s2 : Decoder Int) code (p + 1)) _) _ = _
  rw [ds2 (dB_1 h)]
  show Except.ok (Instr.sipush (Reader.signed 16 (b.toNat * 256 + c.toNat)), p + 1 + 2 - p) = _
  rw [show p + 1 + 2 - p = 3 by omega]
theorem dk_goto (h : dB code p = a :: b :: c :: t) (ha : a.toNat = 167) : decode code p = .ok (Instr.goto (Reader.signed 16 (b.toNat * 256 + c.toNat)), 3) := by
  have e := du1 h
  rw [ha] at e
  show Except.bind (Except.bind ((Reader.u1 : Decoder Nat) code p) _) _ = _
  rw [e]
  show Except.bind (Except.bind ((Reader.s2 : Decoder Int) code (p + 1)) _) _ = _
  rw [ds2 (dB_1 h)]
  show Except.ok (Instr.goto (Reader.signed 16 (b.toNat * 256 + c.toNat)), p + 1 + 2 - p) = _
  rw [show p + 1 + 2 - p = 3 by omega]
theorem dk_ifnull (h : dB code p = a :: b :: c :: t) (ha : a.toNat = 198) : decode code p = .ok (Instr.ifnull (Reader.signed 16 (b.toNat * 256 + c.toNat)), 3) := by
  have e := du1 h
  rw [ha] at e
  show Except.bind (Except.bind ((Reader.u1 : Decoder Nat) code p) _) _ = _
  rw [e]
  show Except.bind (Except.bind ((Reader.s2 : Decoder Int) code (p + 1)) _) _ = _
  rw [ds2 (dB_1 h)]
  show Except.ok (Instr.ifnull (Reader.signed 16 (b.toNat * 256 + c.toNat)), p + 1 + 2 - p) = _
  rw [show p + 1 + 2 - p = 3 by omega]
theorem dk_ifnonnull (h : dB code p = a :: b :: c :: t) (ha : a.toNat = 199) : decode code p = .ok (Instr.ifnonnull (Reader.signed 16 (b.toNat * 256 + c.toNat)), 3) := by
  have e := du1 h
  rw [ha] at e
  show Except.bind (Except.bind ((Reader.u1 : Decoder Nat) code p) _) _ = _
  rw [e]
  show Except.bind (Except.bind ((Reader.s2 : Decoder Int) code (p + 1)) _) _ = _
  rw [ds2 (dB_1 h)]
  show Except.ok (Instr.ifnonnull (Reader.signed 16 (b.toNat * 256 + c.toNat)), p + 1 + 2 - p) = _
  rw [show p + 1 + 2 - p = 3 by omega]
theorem dk_ifCond_eq (h : dB code p = a :: b :: c :: t) (ha : a.toNat = 153) : decode code p = .ok (Instr.ifCond .eq (Reader.signed 16 (b.toNat * 256 + c.toNat)), 3) := by
  have e := du1 h
  rw [ha] at e
  show Except.bind (Except.bind ((Reader.u1 : Decoder Nat) code p) _) _ = _
  rw [e]
  show Except.bind (Except.bind ((Reader.s2 : Decoder Int) code (p + 1)) _) _ = _
  rw [ds2 (dB_1 h)]
  show Except.ok (Instr.ifCond .eq (Reader.signed 16 (b.toNat * 256 + c.toNat)), p + 1 + 2 - p) = _
  rw [show p + 1 + 2 - p = 3 by omega]
theorem dk_if_icmp_eq (h : dB code p = a :: b :: c :: t) (ha : a.toNat = 159) : decode code p = .ok (Instr.if_icmp .eq (Reader.signed 16 (b.toNat * 256 + c.toNat)), 3) := by
  have e := du1 h
  rw [ha] at e
  show Except.bind (Except.bind ((Reader.u1 : Decoder Nat) code p) _) _ = _
  rw [e]
  show Except.bind (Except.bind ((Reader.s2 : Decoder Int) code (p + 1)) _) _ = _
  rw [ds2 (dB_1 h)]
  show Except.ok (Instr.if_icmp .eq (Reader.signed 16 (b.toNat * 256 + c.toNat)), p + 1 + 2 - p) = _
  rw [show p + 1 + 2 - p = 3 by omega]
theorem dk_ifCond_ne (h : dB code p = a :: b :: c :: t) (ha : a.toNat = 154) : decode code p = .ok (Instr.ifCond .ne (Reader.signed 16 (b.toNat * 256 + c.toNat)), 3) := by
  have e := du1 h
  rw [ha] at e
  show Except.bind (Except.bind ((Reader.u1 : Decoder Nat) code p) _) _ = _
  rw [e]
  show Except.bind (Except.bind ((Reader.s2 : Decoder Int) code (p + 1)) _) _ = _
  rw [ds2 (dB_1 h)]
  show Except.ok (Instr.ifCond .ne (Reader.signed 16 (b.toNat * 256 + c.toNat)), p + 1 + 2 - p) = _
  rw [show p + 1 + 2 - p = 3 by omega]
theorem dk_if_icmp_ne (h : dB code p = a :: b :: c :: t) (ha : a.toNat = 160) : decode code p = .ok (Instr.if_icmp .ne (Reader.signed 16 (b.toNat * 256 + c.toNat)), 3) := by
  have e := du1 h
  rw [ha] at e
  show Except.bind (Except.bind ((Reader.u1 : Decoder Nat) code p) _) _ = _
  rw [e]
  show Except.bind (Except.bind ((Reader.s2 : Decoder Int) code (p + 1)) _) _ = _
  rw [ds2 (dB_1 h)]
  show Except.ok (Instr.if_icmp .ne (Reader.signed 16 (b.toNat * 256 + c.toNat)), p + 1 + 2 - p) = _
  rw [show p + 1 + 2 - p = 3 by omega]
theorem dk_ifCond_lt (h : dB code p = a :: b :: c :: t) (ha : a.toNat = 155) : decode code p = .ok (Instr.ifCond .lt (Reader.signed 16 (b.toNat * 256 + c.toNat)), 3) := by
  have e := du1 h
  rw [ha] at e
  show Except.bind (Except.bind ((Reader.u1 : Decoder Nat) code p) _) _ = _
  rw [e]
  show Except.bind (Except.bind ((Reader.s2 : Decoder Int) code (p + 1)) _) _ = _
  rw [ds2 (dB_1 h)]
  show Except.ok (Instr.ifCond .lt (Reader.signed 16 (b.toNat * 256 + c.toNat)), p + 1 + 2 - p) = _
  rw [show p + 1 + 2 - p = 3 by omega]
theorem dk_if_icmp_lt (h : dB code p = a :: b :: c :: t) (ha : a.toNat = 161) : decode code p = .ok (Instr.if_icmp .lt (Reader.signed 16 (b.toNat * 256 + c.toNat)), 3) := by
  have e := du1 h
  rw [ha] at e
  show Except.bind (Except.bind ((Reader.u1 : Decoder Nat) code p) _) _ = _
  rw [e]
  show Except.bind (Except.bind ((Reader.s2 : Decoder Int) code (p + 1)) _) _ = _
  rw [ds2 (dB_1 h)]
  show Except.ok (Instr.if_icmp .lt (Reader.signed 16 (b.toNat * 256 + c.toNat)), p + 1 + 2 - p) = _
  rw [show p + 1 + 2 - p = 3 by omega]
theorem dk_ifCond_ge (h : dB code p = a :: b :: c :: t) (ha : a.toNat = 156) : decode code p = .ok (Instr.ifCond .ge (Reader.signed 16 (b.toNat * 256 + c.toNat)), 3) := by
  have e := du1 h
  rw [ha] at e
  show Except.bind (Except.bind ((Reader.u1 : Decoder Nat) code p) _) _ = _
  rw [e]
  show Except.bind (Except.bind ((Reader.s2 : Decoder Int) code (p + 1)) _) _ = _
  rw [ds2 (dB_1 h)]
  show Except.ok (Instr.ifCond .ge (Reader.signed 16 (b.toNat * 256 + c.toNat)), p + 1 + 2 - p) = _
  rw [show p + 1 + 2 - p = 3 by omega]
theorem dk_if_icmp_ge (h : dB code p = a :: b :: c :: t) (ha : a.toNat = 162) : decode code p = .ok (Instr.if_icmp .ge (Reader.signed 16 (b.toNat * 256 + c.toNat)), 3) := by
  have e := du1 h
  rw [ha] at e
  show Except.bind (Except.bind ((Reader.u1 : Decoder Nat) code p) _) _ = _
  rw [e]
  show Except.bind (Except.bind ((Reader.s2 : Decoder Int) code (p + 1)) _) _ = _
  rw [ds2 (dB_1 h)]
  show Except.ok (Instr.if_icmp .ge (Reader.signed 16 (b.toNat * 256 + c.toNat)), p + 1 + 2 - p) = _
  rw [show p + 1 + 2 - p = 3 by omega]
theorem dk_ifCond_gt (h : dB code p = a :: b :: c :: t) (ha : a.toNat = 157) : decode code p = .ok (Instr.ifCond .gt (Reader.signed 16 (b.toNat * 256 + c.toNat)), 3) := by
  have e := du1 h
  rw [ha] at e
  show Except.bind (Except.bind ((Reader.u1 : Decoder Nat) code p) _) _ = _
  rw [e]
  show Except.bind (Except.bind ((Reader.s2 : Decoder Int) code (p + 1)) _) _ = _
  rw [ds2 (dB_1 h)]
  show Except.ok (Instr.ifCond .gt (Reader.signed 16 (b.toNat * 256 + c.toNat)), p + 1 + 2 - p) = _
  rw [show p + 1 + 2 - p = 3 by omega]
theorem dk_if_icmp_gt (h : dB code p = a :: b :: c :: t) (ha : a.toNat = 163) : decode code p = .ok (Instr.if_icmp .gt (Reader.signed 16 (b.toNat * 256 + c.toNat)), 3) := by
  have e := du1 h
  rw [ha] at e
  show Except.bind (Except.bind ((Reader.u1 : Decoder Nat) code p) _) _ = _
  rw [e]
  show Except.bind (Except.bind ((Reader.s2 : Decoder Int) code (p + 1)) _) _ = _
  rw [ds2 (dB_1 h)]
  show Except.ok (Instr.if_icmp .gt (Reader.signed 16 (b.toNat * 256 + c.toNat)), p + 1 + 2 - p) = _
  rw [show p + 1 + 2 - p = 3 by omega]
theorem dk_ifCond_le (h : dB code p = a :: b :: c :: t) (ha : a.toNat = 158) : decode code p = .ok (Instr.ifCond .le (Reader.signed 16 (b.toNat * 256 + c.toNat)), 3) := by
  have e := du1 h
  rw [ha] at e
  show Except.bind (Except.bind ((Reader.u1 : Decoder Nat) code p) _) _ = _
  rw [e]
  show Except.bind (Except.bind ((Reader.s2 : Decoder Int) code (p + 1)) _) _ = _
  rw [ds2 (dB_1 h)]
  show Except.ok (Instr.ifCond .le (Reader.signed 16 (b.toNat * 256 + c.toNat)), p + 1 + 2 - p) = _
  rw [show p + 1 + 2 - p = 3 by omega]
theorem dk_if_icmp_le (h : dB code p = a :: b :: c :: t) (ha : a.toNat = 164) : decode code p = .ok (Instr.if_icmp .le (Reader.signed 16 (b.toNat * 256 + c.toNat)), 3) := by
  have e := du1 h
  rw [ha] at e
  show Except.bind (Except.bind ((Reader.u1 : Decoder Nat) code p) _) _ = _
  rw [e]
  show Except.bind (Except.bind ((Reader.s2 : Decoder Int) code (p + 1)) _) _ = _
  rw [ds2 (dB_1 h)]
  show Except.ok (Instr.if_icmp .le (Reader.signed 16 (b.toNat * 256 + c.toNat)), p + 1 + 2 - p) = _
  rw [show p + 1 + 2 - p = 3 by omega]
theorem dk_iinc (h : dB code p = a :: b :: c :: t) (ha : a.toNat = 132) : decode code p = .ok (Instr.iinc b.toNat (Reader.signed 8 c.toNat), 3) := by
  have e := du1 h
  rw [ha] at e
  show Except.bind (Except.bind ((Reader.u1 : Decoder Nat) code p) _) _ = _
  rw [e]
  show Except.bind (Except.bind ((Reader.u1 : Decoder Nat) code (p + 1)) _) _ = _
  rw [du1 (dB_1 h)]
  show Except.bind (Except.bind ((Reader.s1 : Decoder Int) code (p + 1 + 1)) _) _ = _
  rw [ds1 (dB_1 (dB_1 h))]
  show Except.ok (Instr.iinc b.toNat (Reader.signed 8 c.toNat), p + 1 + 1 + 1 - p) = _
  rw [show p + 1 + 1 + 1 - p = 3 by omega]
end
def q0 (op : Nat) (m : Nat) : List UInt8 → Bool
  | a :: _ => Nat.beq m 1 && Nat.beq a.toNat op
  | [] => false
def q1 (op x m : Nat) : List UInt8 → Bool
  | a :: b :: _ => Nat.beq m 2 && (Nat.beq a.toNat op && Nat.beq b.toNat x)
  | _ => false
def q1s (op : Nat) (x : Int) (m : Nat) : List UInt8 → Bool
  | a :: b :: _ => Nat.beq m 2 && (Nat.beq a.toNat op && decide (Reader.signed 8 b.toNat = x))
  | _ => false
def q2 (op x m : Nat) : List UInt8 → Bool
  | a :: b :: c :: _ => Nat.beq m 3 && (Nat.beq a.toNat op && Nat.beq (b.toNat * 256 + c.toNat) x)
  | _ => false
def q2s (op : Nat) (x : Int) (m : Nat) : List UInt8 → Bool
  | a :: b :: c :: _ => Nat.beq m 3 && (Nat.beq a.toNat op && decide (Reader.signed 16 (b.toNat * 256 + c.toNat) = x))
  | _ => false
def qi (x : Nat) (z : Int) (m : Nat) : List UInt8 → Bool
  | a :: b :: c :: _ => Nat.beq m 3 && (Nat.beq a.toNat 132 && (Nat.beq b.toNat x && decide (Reader.signed 8 c.toNat = z)))
  | _ => false
theorem q0_ok {op m : Nat} {l : List UInt8} (h : q0 op m l = true) : ∃ a t, l = a :: t ∧ m = 1 ∧ a.toNat = op := by
  match l, h with
  | a :: t, h =>
    have h := (Bool.and_eq_true _ _).mp h
    exact ⟨a, t, rfl, Nat.eq_of_beq_eq_true h.1, Nat.eq_of_beq_eq_true h.2⟩
theorem q1_ok {op x m : Nat} {l : List UInt8} (h : q1 op x m l = true) : ∃ a b t, l = a :: b :: t ∧ m = 2 ∧ a.toNat = op ∧ b.toNat = x := by
  match l, h with
  | a :: b :: t, h =>
    have h := (Bool.and_eq_true _ _).mp h
    have h2 := (Bool.and_eq_true _ _).mp h.2
    exact ⟨a, b, t, rfl, Nat.eq_of_beq_eq_true h.1, Nat.eq_of_beq_eq_true h2.1, Nat.eq_of_beq_eq_true h2.2⟩
theorem q1s_ok {op m : Nat} {x : Int} {l : List UInt8} (h : q1s op x m l = true) : ∃ a b t, l = a :: b :: t ∧ m = 2 ∧ a.toNat = op ∧ Reader.signed 8 b.toNat = x := by
  match l, h with
  | a :: b :: t, h =>
    have h := (Bool.and_eq_true _ _).mp h
    have h2 := (Bool.and_eq_true _ _).mp h.2
    exact ⟨a, b, t, rfl, Nat.eq_of_beq_eq_true h.1, Nat.eq_of_beq_eq_true h2.1, of_decide_eq_true h2.2⟩
theorem q2_ok {op x m : Nat} {l : List UInt8} (h : q2 op x m l = true) : ∃ a b c t, l = a :: b :: c :: t ∧ m = 3 ∧ a.toNat = op ∧ b.toNat * 256 + c.toNat = x := by
  match l, h with
  | a :: b :: c :: t, h =>
    have h := (Bool.and_eq_true _ _).mp h
    have h2 := (Bool.and_eq_true _ _).mp h.2
    exact ⟨a, b, c, t, rfl, Nat.eq_of_beq_eq_true h.1, Nat.eq_of_beq_eq_true h2.1, Nat.eq_of_beq_eq_true h2.2⟩
theorem q2s_ok {op m : Nat} {x : Int} {l : List UInt8} (h : q2s op x m l = true) : ∃ a b c t, l = a :: b :: c :: t ∧ m = 3 ∧ a.toNat = op ∧ Reader.signed 16 (b.toNat * 256 + c.toNat) = x := by
  match l, h with
  | a :: b :: c :: t, h =>
    have h := (Bool.and_eq_true _ _).mp h
    have h2 := (Bool.and_eq_true _ _).mp h.2
    exact ⟨a, b, c, t, rfl, Nat.eq_of_beq_eq_true h.1, Nat.eq_of_beq_eq_true h2.1, of_decide_eq_true h2.2⟩
theorem qi_ok {x m : Nat} {z : Int} {l : List UInt8} (h : qi x z m l = true) : ∃ a b c t, l = a :: b :: c :: t ∧ m = 3 ∧ a.toNat = 132 ∧ b.toNat = x ∧ Reader.signed 8 c.toNat = z := by
  match l, h with
  | a :: b :: c :: t, h =>
    have h := (Bool.and_eq_true _ _).mp h
    have h2 := (Bool.and_eq_true _ _).mp h.2
    have h3 := (Bool.and_eq_true _ _).mp h2.2
    exact ⟨a, b, c, t, rfl, Nat.eq_of_beq_eq_true h.1, Nat.eq_of_beq_eq_true h2.1, Nat.eq_of_beq_eq_true h3.1, of_decide_eq_true h3.2⟩
def ec (i : Instr) (m : Nat) (l : List UInt8) : Bool := match i with
  | .iaload => q0 46 m l
  | .laload => q0 47 m l
  | .aaload => q0 50 m l
  | .baload => q0 51 m l
  | .iastore => q0 79 m l
  | .lastore => q0 80 m l
  | .aastore => q0 83 m l
  | .bastore => q0 84 m l
  | .pop => q0 87 m l
  | .pop2 => q0 88 m l
  | .dup => q0 89 m l
  | .dup2 => q0 92 m l
  | .iadd => q0 96 m l
  | .ladd => q0 97 m l
  | .isub => q0 100 m l
  | .lsub => q0 101 m l
  | .imul => q0 104 m l
  | .idiv => q0 108 m l
  | .irem => q0 112 m l
  | .lneg => q0 117 m l
  | .ishl => q0 120 m l
  | .lshl => q0 121 m l
  | .ishr => q0 122 m l
  | .lshr => q0 123 m l
  | .iushr => q0 124 m l
  | .lushr => q0 125 m l
  | .iand => q0 126 m l
  | .land => q0 127 m l
  | .ior => q0 128 m l
  | .lor => q0 129 m l
  | .ixor => q0 130 m l
  | .lxor => q0 131 m l
  | .i2l => q0 133 m l
  | .l2i => q0 136 m l
  | .i2b => q0 145 m l
  | .lcmp => q0 148 m l
  | .ireturn => q0 172 m l
  | .lreturn => q0 173 m l
  | .areturn => q0 176 m l
  | .return_ => q0 177 m l
  | .arraylength => q0 190 m l
  | .athrow => q0 191 m l
  | .iload_n k => q0 (26 + k.val) m l
  | .lload_n k => q0 (30 + k.val) m l
  | .aload_n k => q0 (42 + k.val) m l
  | .istore_n k => q0 (59 + k.val) m l
  | .lstore_n k => q0 (63 + k.val) m l
  | .astore_n k => q0 (75 + k.val) m l
  | .lconst k => q0 (9 + k.val) m l
  | .iconst (Int.negSucc 0) => q0 2 m l
  | .iconst (Int.ofNat 0) => q0 3 m l
  | .iconst (Int.ofNat 1) => q0 4 m l
  | .iconst (Int.ofNat 2) => q0 5 m l
  | .iconst (Int.ofNat 3) => q0 6 m l
  | .iconst (Int.ofNat 4) => q0 7 m l
  | .iconst (Int.ofNat 5) => q0 8 m l
  | .ldc x => q1 18 x m l
  | .iload x => q1 21 x m l
  | .lload x => q1 22 x m l
  | .aload x => q1 25 x m l
  | .istore x => q1 54 x m l
  | .lstore x => q1 55 x m l
  | .astore x => q1 58 x m l
  | .bipush x => q1s 16 x m l
  | .ldc_w x => q2 19 x m l
  | .ldc2_w x => q2 20 x m l
  | .getstatic x => q2 178 x m l
  | .getfield x => q2 180 x m l
  | .putfield x => q2 181 x m l
  | .invokevirtual x => q2 182 x m l
  | .invokespecial x => q2 183 x m l
  | .invokestatic x => q2 184 x m l
  | .new x => q2 187 x m l
  | .sipush x => q2s 17 x m l
  | .goto x => q2s 167 x m l
  | .ifnull x => q2s 198 x m l
  | .ifnonnull x => q2s 199 x m l
  | .ifCond .eq x => q2s 153 x m l
  | .if_icmp .eq x => q2s 159 x m l
  | .ifCond .ne x => q2s 154 x m l
  | .if_icmp .ne x => q2s 160 x m l
  | .ifCond .lt x => q2s 155 x m l
  | .if_icmp .lt x => q2s 161 x m l
  | .ifCond .ge x => q2s 156 x m l
  | .if_icmp .ge x => q2s 162 x m l
  | .ifCond .gt x => q2s 157 x m l
  | .if_icmp .gt x => q2s 163 x m l
  | .ifCond .le x => q2s 158 x m l
  | .if_icmp .le x => q2s 164 x m l
  | .iinc x z => qi x z m l
  | _ => false
theorem ec_ok {code : ByteArray} {p : Nat} : ∀ (i : Instr) (m : Nat), ec i m (dB code p) = true → decode code p = .ok (i, m) := fun i m h => by
  unfold ec at h
  split at h
  · obtain ⟨a, t, e, rfl, ha⟩ := q0_ok h
    exact dk_iaload e ha
  · obtain ⟨a, t, e, rfl, ha⟩ := q0_ok h
    exact dk_laload e ha
  · obtain ⟨a, t, e, rfl, ha⟩ := q0_ok h
    exact dk_aaload e ha
  · obtain ⟨a, t, e, rfl, ha⟩ := q0_ok h
    exact dk_baload e ha
  · obtain ⟨a, t, e, rfl, ha⟩ := q0_ok h
    exact dk_iastore e ha
  · obtain ⟨a, t, e, rfl, ha⟩ := q0_ok h
    exact dk_lastore e ha
  · obtain ⟨a, t, e, rfl, ha⟩ := q0_ok h
    exact dk_aastore e ha
  · obtain ⟨a, t, e, rfl, ha⟩ := q0_ok h
    exact dk_bastore e ha
  · obtain ⟨a, t, e, rfl, ha⟩ := q0_ok h
    exact dk_pop e ha
  · obtain ⟨a, t, e, rfl, ha⟩ := q0_ok h
    exact dk_pop2 e ha
  · obtain ⟨a, t, e, rfl, ha⟩ := q0_ok h
    exact dk_dup e ha
  · obtain ⟨a, t, e, rfl, ha⟩ := q0_ok h
    exact dk_dup2 e ha
  · obtain ⟨a, t, e, rfl, ha⟩ := q0_ok h
    exact dk_iadd e ha
  · obtain ⟨a, t, e, rfl, ha⟩ := q0_ok h
    exact dk_ladd e ha
  · obtain ⟨a, t, e, rfl, ha⟩ := q0_ok h
    exact dk_isub e ha
  · obtain ⟨a, t, e, rfl, ha⟩ := q0_ok h
    exact dk_lsub e ha
  · obtain ⟨a, t, e, rfl, ha⟩ := q0_ok h
    exact dk_imul e ha
  · obtain ⟨a, t, e, rfl, ha⟩ := q0_ok h
    exact dk_idiv e ha
  · obtain ⟨a, t, e, rfl, ha⟩ := q0_ok h
    exact dk_irem e ha
  · obtain ⟨a, t, e, rfl, ha⟩ := q0_ok h
    exact dk_lneg e ha
  · obtain ⟨a, t, e, rfl, ha⟩ := q0_ok h
    exact dk_ishl e ha
  · obtain ⟨a, t, e, rfl, ha⟩ := q0_ok h
    exact dk_lshl e ha
  · obtain ⟨a, t, e, rfl, ha⟩ := q0_ok h
    exact dk_ishr e ha
  · obtain ⟨a, t, e, rfl, ha⟩ := q0_ok h
    exact dk_lshr e ha
  · obtain ⟨a, t, e, rfl, ha⟩ := q0_ok h
    exact dk_iushr e ha
  · obtain ⟨a, t, e, rfl, ha⟩ := q0_ok h
    exact dk_lushr e ha
  · obtain ⟨a, t, e, rfl, ha⟩ := q0_ok h
    exact dk_iand e ha
  · obtain ⟨a, t, e, rfl, ha⟩ := q0_ok h
    exact dk_land e ha
  · obtain ⟨a, t, e, rfl, ha⟩ := q0_ok h
    exact dk_ior e ha
  · obtain ⟨a, t, e, rfl, ha⟩ := q0_ok h
    exact dk_lor e ha
  · obtain ⟨a, t, e, rfl, ha⟩ := q0_ok h
    exact dk_ixor e ha
  · obtain ⟨a, t, e, rfl, ha⟩ := q0_ok h
    exact dk_lxor e ha
  · obtain ⟨a, t, e, rfl, ha⟩ := q0_ok h
    exact dk_i2l e ha
  · obtain ⟨a, t, e, rfl, ha⟩ := q0_ok h
    exact dk_l2i e ha
  · obtain ⟨a, t, e, rfl, ha⟩ := q0_ok h
    exact dk_i2b e ha
  · obtain ⟨a, t, e, rfl, ha⟩ := q0_ok h
    exact dk_lcmp e ha
  · obtain ⟨a, t, e, rfl, ha⟩ := q0_ok h
    exact dk_ireturn e ha
  · obtain ⟨a, t, e, rfl, ha⟩ := q0_ok h
    exact dk_lreturn e ha
  · obtain ⟨a, t, e, rfl, ha⟩ := q0_ok h
    exact dk_areturn e ha
  · obtain ⟨a, t, e, rfl, ha⟩ := q0_ok h
    exact dk_return_ e ha
  · obtain ⟨a, t, e, rfl, ha⟩ := q0_ok h
    exact dk_arraylength e ha
  · obtain ⟨a, t, e, rfl, ha⟩ := q0_ok h
    exact dk_athrow e ha
  · obtain ⟨a, t, e, rfl, ha⟩ := q0_ok h
    rename_i k
    match k, ha with
    | ⟨0, _⟩, ha => exact dk_iload_n0 e ha
    | ⟨1, _⟩, ha => exact dk_iload_n1 e ha
    | ⟨2, _⟩, ha => exact dk_iload_n2 e ha
    | ⟨3, _⟩, ha => exact dk_iload_n3 e ha
  · obtain ⟨a, t, e, rfl, ha⟩ := q0_ok h
    rename_i k
    match k, ha with
    | ⟨0, _⟩, ha => exact dk_lload_n0 e ha
    | ⟨1, _⟩, ha => exact dk_lload_n1 e ha
    | ⟨2, _⟩, ha => exact dk_lload_n2 e ha
    | ⟨3, _⟩, ha => exact dk_lload_n3 e ha
  · obtain ⟨a, t, e, rfl, ha⟩ := q0_ok h
    rename_i k
    match k, ha with
    | ⟨0, _⟩, ha => exact dk_aload_n0 e ha
    | ⟨1, _⟩, ha => exact dk_aload_n1 e ha
    | ⟨2, _⟩, ha => exact dk_aload_n2 e ha
    | ⟨3, _⟩, ha => exact dk_aload_n3 e ha
  · obtain ⟨a, t, e, rfl, ha⟩ := q0_ok h
    rename_i k
    match k, ha with
    | ⟨0, _⟩, ha => exact dk_istore_n0 e ha
    | ⟨1, _⟩, ha => exact dk_istore_n1 e ha
    | ⟨2, _⟩, ha => exact dk_istore_n2 e ha
    | ⟨3, _⟩, ha => exact dk_istore_n3 e ha
  · obtain ⟨a, t, e, rfl, ha⟩ := q0_ok h
    rename_i k
    match k, ha with
    | ⟨0, _⟩, ha => exact dk_lstore_n0 e ha
    | ⟨1, _⟩, ha => exact dk_lstore_n1 e ha
    | ⟨2, _⟩, ha => exact dk_lstore_n2 e ha
    | ⟨3, _⟩, ha => exact dk_lstore_n3 e ha
  · obtain ⟨a, t, e, rfl, ha⟩ := q0_ok h
    rename_i k
    match k, ha with
    | ⟨0, _⟩, ha => exact dk_astore_n0 e ha
    | ⟨1, _⟩, ha => exact dk_astore_n1 e ha
    | ⟨2, _⟩, ha => exact dk_astore_n2 e ha
    | ⟨3, _⟩, ha => exact dk_astore_n3 e ha
  · obtain ⟨a, t, e, rfl, ha⟩ := q0_ok h
    rename_i k
    match k, ha with
    | ⟨0, _⟩, ha => exact dk_lconst0 e ha
    | ⟨1, _⟩, ha => exact dk_lconst1 e ha
  · obtain ⟨a, t, e, rfl, ha⟩ := q0_ok h
    exact dk_iconstm e ha
  · obtain ⟨a, t, e, rfl, ha⟩ := q0_ok h
    exact dk_iconst0 e ha
  · obtain ⟨a, t, e, rfl, ha⟩ := q0_ok h
    exact dk_iconst1 e ha
  · obtain ⟨a, t, e, rfl, ha⟩ := q0_ok h
    exact dk_iconst2 e ha
  · obtain ⟨a, t, e, rfl, ha⟩ := q0_ok h
    exact dk_iconst3 e ha
  · obtain ⟨a, t, e, rfl, ha⟩ := q0_ok h
    exact dk_iconst4 e ha
  · obtain ⟨a, t, e, rfl, ha⟩ := q0_ok h
    exact dk_iconst5 e ha
  · obtain ⟨a, b, t, e, rfl, ha, rfl⟩ := q1_ok h
    exact dk_ldc e ha
  · obtain ⟨a, b, t, e, rfl, ha, rfl⟩ := q1_ok h
    exact dk_iload e ha
  · obtain ⟨a, b, t, e, rfl, ha, rfl⟩ := q1_ok h
    exact dk_lload e ha
  · obtain ⟨a, b, t, e, rfl, ha, rfl⟩ := q1_ok h
    exact dk_aload e ha
  · obtain ⟨a, b, t, e, rfl, ha, rfl⟩ := q1_ok h
    exact dk_istore e ha
  · obtain ⟨a, b, t, e, rfl, ha, rfl⟩ := q1_ok h
    exact dk_lstore e ha
  · obtain ⟨a, b, t, e, rfl, ha, rfl⟩ := q1_ok h
    exact dk_astore e ha
  · obtain ⟨a, b, t, e, rfl, ha, rfl⟩ := q1s_ok h
    exact dk_bipush e ha
  · obtain ⟨a, b, c, t, e, rfl, ha, rfl⟩ := q2_ok h
    exact dk_ldc_w e ha
  · obtain ⟨a, b, c, t, e, rfl, ha, rfl⟩ := q2_ok h
    exact dk_ldc2_w e ha
  · obtain ⟨a, b, c, t, e, rfl, ha, rfl⟩ := q2_ok h
    exact dk_getstatic e ha
  · obtain ⟨a, b, c, t, e, rfl, ha, rfl⟩ := q2_ok h
    exact dk_getfield e ha
  · obtain ⟨a, b, c, t, e, rfl, ha, rfl⟩ := q2_ok h
    exact dk_putfield e ha
  · obtain ⟨a, b, c, t, e, rfl, ha, rfl⟩ := q2_ok h
    exact dk_invokevirtual e ha
  · obtain ⟨a, b, c, t, e, rfl, ha, rfl⟩ := q2_ok h
    exact dk_invokespecial e ha
  · obtain ⟨a, b, c, t, e, rfl, ha, rfl⟩ := q2_ok h
    exact dk_invokestatic e ha
  · obtain ⟨a, b, c, t, e, rfl, ha, rfl⟩ := q2_ok h
    exact dk_new e ha
  · obtain ⟨a, b, c, t, e, rfl, ha, rfl⟩ := q2s_ok h
    exact dk_sipush e ha
  · obtain ⟨a, b, c, t, e, rfl, ha, rfl⟩ := q2s_ok h
    exact dk_goto e ha
  · obtain ⟨a, b, c, t, e, rfl, ha, rfl⟩ := q2s_ok h
    exact dk_ifnull e ha
  · obtain ⟨a, b, c, t, e, rfl, ha, rfl⟩ := q2s_ok h
    exact dk_ifnonnull e ha
  · obtain ⟨a, b, c, t, e, rfl, ha, rfl⟩ := q2s_ok h
    exact dk_ifCond_eq e ha
  · obtain ⟨a, b, c, t, e, rfl, ha, rfl⟩ := q2s_ok h
    exact dk_if_icmp_eq e ha
  · obtain ⟨a, b, c, t, e, rfl, ha, rfl⟩ := q2s_ok h
    exact dk_ifCond_ne e ha
  · obtain ⟨a, b, c, t, e, rfl, ha, rfl⟩ := q2s_ok h
    exact dk_if_icmp_ne e ha
  · obtain ⟨a, b, c, t, e, rfl, ha, rfl⟩ := q2s_ok h
    exact dk_ifCond_lt e ha
  · obtain ⟨a, b, c, t, e, rfl, ha, rfl⟩ := q2s_ok h
    exact dk_if_icmp_lt e ha
  · obtain ⟨a, b, c, t, e, rfl, ha, rfl⟩ := q2s_ok h
    exact dk_ifCond_ge e ha
  · obtain ⟨a, b, c, t, e, rfl, ha, rfl⟩ := q2s_ok h
    exact dk_if_icmp_ge e ha
  · obtain ⟨a, b, c, t, e, rfl, ha, rfl⟩ := q2s_ok h
    exact dk_ifCond_gt e ha
  · obtain ⟨a, b, c, t, e, rfl, ha, rfl⟩ := q2s_ok h
    exact dk_if_icmp_gt e ha
  · obtain ⟨a, b, c, t, e, rfl, ha, rfl⟩ := q2s_ok h
    exact dk_ifCond_le e ha
  · obtain ⟨a, b, c, t, e, rfl, ha, rfl⟩ := q2s_ok h
    exact dk_if_icmp_le e ha
  · obtain ⟨a, b, c, t, e, rfl, ha, rfl, rfl⟩ := qi_ok h
    exact dk_iinc e ha
  · exact absurd h Bool.false_ne_true
def wk (code : ByteArray) : List m_I → Nat → List UInt8 → Bool
  | [], _, _ => true
  | e :: r, p, l => Nat.beq e.1 p && ((ec e.2.1 e.2.2 l || decide (decode code e.1 = .ok (e.2.1, e.2.2))) && wk code r (p + e.2.2) (l.drop e.2.2))
theorem wk_al {code : ByteArray} : ∀ {tbl : List m_I} {p : Nat}, wk code tbl p (dB code p) = true → tbl.all (fun e => decide (decode code e.1 = .ok (e.2.1, e.2.2))) = true
  | [], _, _ => rfl
  | e :: r, p, h => by
    have h1 := (Bool.and_eq_true _ _).mp h
    have h2 := (Bool.and_eq_true _ _).mp h1.2
    have ep : e.1 = p := Nat.eq_of_beq_eq_true h1.1
    have h3 : wk code r (p + e.2.2) (dB code (p + e.2.2)) = true := by
      have q := h2.2
      unfold dB at q ⊢
      rw [List.drop_drop] at q
      exact q
    have h4 : decode code e.1 = .ok (e.2.1, e.2.2) := by
      rcases (Bool.or_eq_true _ _).mp h2.1 with q | q
      · rw [ep]
        exact ec_ok _ _ q
      · exact of_decide_eq_true q
    rw [List.all_cons, wk_al h3, Bool.and_true]
    exact decide_eq_true h4
