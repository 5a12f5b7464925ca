-- a shift by 0 leaves a number as it is
def jx_shr (pc : Nat) (S : AST) (st : List AT) : Option (List AO) := match st with
  | .inl y :: .inl x :: r => if le_ent (a_iv S) (a_cs S) y = true ∧ le_ent (a_iv S) (a_cs S) (le_mul (-1) y) = true then t_pe (pc + 1) S r x else jx_cc (fun x y => x >>> (y &&& 31)) d_top pc S st
  | _ => none
theorem q_shr {sp : List RS} {ρ : Nat → Nat} {W : List (Nat × Nat)} {K : List Int} {KA : List Nat} {S : AST} {lv' : List (Nat × Value)} {st' : List Value} {h : MH} {pc : Nat} {st : List AT} {σ : Nat → Int} {α : Nat → Nat} (ht : TH sp ρ h) (hw : TW ρ K KA S lv' st' h σ α) (hs : t_sk σ α ρ st st') : T_P sp ρ W K KA (jx_shr pc S st) h (e_ii (fun x y => x >>> (y &&& 31)) pc lv' st' h) := by
  unfold jx_shr
  split
  · next y x r =>
    split
    · next hc =>
      obtain ⟨v, q, e1, ⟨y', rfl, hy⟩, hq1⟩ := t_sc hs
      obtain ⟨v, q2, e2, ⟨x', rfl, hx⟩, hq⟩ := t_sc hq1
      subst e2
      subst e1
      have h1 := le_entS hw.1 hw.2.1 hc.1
      have h2 := le_entS hw.1 hw.2.1 hc.2
      rw [le_mulE] at h2
      have hy0 : y' = 0 := Int32.toInt_inj.mp (by rw [hy]; show le_ev σ y = 0; omega)
      refine q_pe ht hw hq ?_
      rw [hy0, ← hx]
      have : x' >>> ((0 : Int32) &&& 31) = x' := by
        have e0 : ((0 : Int32) &&& 31) = 0 := by decide
        rw [e0]
        exact Int32.shiftRight_zero
      exact congrArg Int32.toInt this
    · exact q_cc (fun x y => x >>> (y &&& 31)) d_top (d_topS (fun x y => x >>> (y &&& 31))) ht hw hs
  · exact q_no
-- every plain step
def j_ex (sp : List RS) (W : List (Nat × Nat)) (CC : Nat × (Nat × Nat)) (i pc : Nat) (ins : Instr) (S : AST) : Option (List AO) := match ins with
  | .iconst n => j_psh (pc + 1) S (Int32.ofInt n)
  | .bipush n => j_psh (pc + 2) S (Int8.ofInt n).toInt32
  | .sipush n => j_psh (pc + 3) S (Int16.ofInt n).toInt32
  | .lconst _ => t_pl (pc + 1) S (a_st S)
  | .aconst_null => j_null (pc + 1) S
  | .ldc idx => j_ldc 2 i idx pc S CC.2.1
  | .ldc_w idx => j_ldc 3 i idx pc S CC.2.1
  | .ldc2_w idx => (match m_jc i idx with
      | some _ => t_pl (pc + 3) S (a_st S)
      | none => none)
  | .iload_n k => j_ild k (pc + 1) S
  | .iload k => j_ild k (pc + 2) S
  | .lload_n k => j_lld k (pc + 1) S
  | .lload k => j_lld k (pc + 2) S
  | .aload_n k => j_ald k (pc + 1) S
  | .aload k => j_ald k (pc + 2) S
  | .istore_n k => j_ist (m_lc i) k (pc + 1) S
  | .istore k => j_ist (m_lc i) k (pc + 2) S
  | .lstore_n k => j_lst (m_lc i) k (pc + 1) S
  | .lstore k => j_lst (m_lc i) k (pc + 2) S
  | .astore_n k => j_ast (m_lc i) k (pc + 1) S
  | .astore k => j_ast (m_lc i) k (pc + 2) S
  | .iinc k z => j_inc (m_lc i) k z pc S
  | .iadd => jx_add pc S (a_st S)
  | .isub => jx_sub pc S (a_st S)
  | .imul => jx_mul pc S (a_st S)
  | .iand => jx_cc (fun x y => x &&& y) d_and pc S (a_st S)
  | .ior => jx_cc (fun x y => x ||| y) d_top pc S (a_st S)
  | .ixor => jx_cc (fun x y => x ^^^ y) d_top pc S (a_st S)
  | .idiv => jx_div pc S (a_st S)
  | .irem => jx_rem pc S (a_st S)
  | .ineg => jx_neg pc S (a_st S)
  | .ishl => jx_cc (fun x y => x <<< (y &&& 31)) d_top pc S (a_st S)
  | .ishr => jx_shr pc S (a_st S)
  | .iushr => jx_cc (fun x y => (x.toUInt32 >>> (y.toUInt32 &&& Int32.toUInt32 31)).toInt32) d_shr pc S (a_st S)
  | .ladd => jx_ll pc S (a_st S)
  | .lsub => jx_ll pc S (a_st S)
  | .land => jx_ll pc S (a_st S)
  | .lor => jx_ll pc S (a_st S)
  | .lxor => jx_ll pc S (a_st S)
  | .lneg => jx_l1 pc S (a_st S)
  | .lshl => jx_li pc S (a_st S)
  | .lshr => jx_li pc S (a_st S)
  | .lushr => jx_li pc S (a_st S)
  | .lcmp => j_lcmp pc S
  | .i2l => jx_il pc S (a_st S)
  | .l2i => jx_l2i pc S (a_st S)
  | .i2b => jx_i1 (fun x => x.toInt8.toInt32) (-128) 127 pc S (a_st S)
  | .i2c => jx_i1 (fun x => (x.toUInt32 % 65536).toInt32) 0 65535 pc S (a_st S)
  | .dup => j_dup pc S
  | .pop => j_pop pc S
  | .pop2 => j_pop2 pc S
  | .dup2 => j_dup2 pc S
  | .goto off => t_to pc off S (a_st S)
  | .ifCond c off => j_if c off pc S
  | .if_icmp c off => j_ic c off pc S
  | .ifnull off => j_inl sp ((pc : Int) + off) ((pc : Int) + 3) S
  | .ifnonnull off => j_inl sp ((pc : Int) + 3) ((pc : Int) + off) S
  | .tableswitch d lo hi offs => j_sw d lo hi offs pc S
  | .getfield idx => j_get sp i idx pc S
  | .putfield idx => j_put sp W i idx pc S
  | .getstatic idx => j_gets i idx pc S CC.1 CC.2.2
  | .iaload => j_iald sp 20 20 pc S
  | .baload => j_iald sp 21 22 pc S
  | .laload => j_lald sp pc S
  | .aaload => j_aald sp pc S
  | .iastore => j_iast sp W pc S
  | .bastore => j_bast sp W pc S
  | .lastore => j_last sp W pc S
  | .aastore => j_aast sp W pc S
  | .arraylength => j_alen sp pc S
  | .invokestatic idx => j_nat sp W 0 i idx pc S
  | _ => none
section
variable {sp : List RS} {ρ : Nat → Nat} {W : List (Nat × Nat)} {K : List Int} {KA : List Nat} {S : AST} {lv' : List (Nat × Value)} {st' : List Value} {h : MH} {pc : Nat} {st : List AT} {σ : Nat → Int} {α : Nat → Nat}
theorem i_b (x : Int32) : -128 ≤ (x.toInt8.toInt32).toInt ∧ (x.toInt8.toInt32).toInt ≤ 127 := by
  rw [Int8.toInt_toInt32]
  have h1 := Int8.le_toInt x.toInt8
  have h2 := Int8.toInt_lt x.toInt8
  omega
theorem i_ch (x : Int32) : 0 ≤ ((x.toUInt32 % 65536).toInt32).toInt ∧ ((x.toUInt32 % 65536).toInt32).toInt ≤ 65535 := by
  have h1 : (x.toUInt32 % 65536).toNat < 65536 := by
    rw [UInt32.toNat_mod]
    exact Nat.mod_lt _ (by decide)
  have h2 : ((x.toUInt32 % 65536).toInt32).toInt = ((x.toUInt32 % 65536).toNat : Int) := by
    have h7 : ((x.toUInt32 % 65536).toInt32).toBitVec = (x.toUInt32 % 65536).toBitVec := rfl
    show ((x.toUInt32 % 65536).toInt32).toBitVec.toInt = _
    rw [h7, BitVec.toInt_eq_toNat_of_lt (by show 2 * (x.toUInt32 % 65536).toNat < 2 ^ 32; omega)]
    rfl
  rw [h2]
  omega
theorem q_inl (i : Nat) (off : Int) (ht : TH sp ρ h) (hw : TW ρ K KA S lv' st' h σ α) : T_P sp ρ W K KA (j_inl sp ((pc : Int) + off) ((pc : Int) + 3) S) h (m_ex i pc (.ifnull off) lv' st' h) := by
  have hs := hw.2.2.2.2.2.2
  unfold j_inl
  split
  · next o R nn r hst =>
    rw [hst] at hs
    obtain ⟨v, q, rfl, ⟨rfl, hrf⟩, hq⟩ := t_sc hs
    refine q_nul ht hw hq hrf (fun h0 e => ?_) (fun h0 e => ?_)
    · show (if α o = 0 then m_tg pc off lv' q h else if 16 ≤ α o then m_go (pc + 3) lv' q h else none) = _
      rw [if_pos e]
      unfold m_tg
      rw [if_pos h0]
    · show (if α o = 0 then m_tg pc off lv' q h else if 16 ≤ α o then m_go (pc + 3) lv' q h else none) = _
      rw [if_neg (by omega), if_pos e]
      unfold m_go
      have : ((pc : Int) + 3).toNat = pc + 3 := by omega
      rw [this]
  · exact q_no
theorem q_inn (i : Nat) (off : Int) (ht : TH sp ρ h) (hw : TW ρ K KA S lv' st' h σ α) : T_P sp ρ W K KA (j_inl sp ((pc : Int) + 3) ((pc : Int) + off) S) h (m_ex i pc (.ifnonnull off) lv' st' h) := by
  have hs := hw.2.2.2.2.2.2
  unfold j_inl
  split
  · next o R nn r hst =>
    rw [hst] at hs
    obtain ⟨v, q, rfl, ⟨rfl, hrf⟩, hq⟩ := t_sc hs
    refine q_nul ht hw hq hrf (fun h0 e => ?_) (fun h0 e => ?_)
    · show (if α o = 0 then m_go (pc + 3) lv' q h else if 16 ≤ α o then m_tg pc off lv' q h else none) = _
      rw [if_pos e]
      unfold m_go
      have : ((pc : Int) + 3).toNat = pc + 3 := by omega
      rw [this]
    · show (if α o = 0 then m_go (pc + 3) lv' q h else if 16 ≤ α o then m_tg pc off lv' q h else none) = _
      rw [if_neg (by omega), if_pos e]
      unfold m_tg
      rw [if_pos h0]
  · exact q_no
set_option maxHeartbeats 4000000 in
theorem q_ex (CC : Nat × (Nat × Nat)) (i : Nat) (ins : Instr) (hc1 : t_rf ρ CC.1 true 1) (hc2 : ∀ a, 2 ≤ a → a < 8 → t_rf ρ CC.2.1 true a) (hc3 : t_rf ρ CC.2.2 true 15) (hlen : ∀ (R : Nat) (rs : RS), sp[R]? = some rs → rs.1.2.2 < 1000 ∨ ¬ (30 ≤ rs.1.1 ∧ rs.1.1 < 33)) (ht : TH sp ρ h) (hw : TW ρ K KA S lv' st' h σ α) : T_P sp ρ W K KA (j_ex sp W CC i pc ins S) h (m_ex i pc ins lv' st' h) := by
  have hs := hw.2.2.2.2.2.2
  cases ins with
  | iconst n => exact q_psh _ ht hw
  | bipush n => exact q_psh _ ht hw
  | sipush n => exact q_psh _ ht hw
  | lconst n => exact q_pl ht hw hs
  | aconst_null => exact q_null ht hw
  | ldc idx => exact q_ldc 2 i idx _ hc2 ht hw
  | ldc_w idx => exact q_ldc 3 i idx _ hc2 ht hw
  | ldc2_w idx =>
    show T_P sp ρ W K KA (match m_jc i idx with
      | some _ => t_pl (pc + 3) S (a_st S)
      | none => none) h (match m_jc i idx with
      | some x => m_go (pc + 3) lv' (.long x :: st') h
      | none => none)
    generalize m_jc i idx = o
    match o with
    | none => exact q_no
    | some x => exact q_pl ht hw hs
  | iload_n k => exact q_ild k ht hw
  | iload k => exact q_ild k ht hw
  | lload_n k => exact q_lld k ht hw
  | lload k => exact q_lld k ht hw
  | aload_n k => exact q_ald k ht hw
  | aload k => exact q_ald k ht hw
  | istore_n k => exact q_ist _ k ht hw
  | istore k => exact q_ist _ k ht hw
  | lstore_n k => exact q_lst _ k ht hw
  | lstore k => exact q_lst _ k ht hw
  | astore_n k => exact q_ast _ k ht hw
  | astore k => exact q_ast _ k ht hw
  | iinc k z => exact q_inc _ k z ht hw
  | iadd => exact q_add ht hw hs
  | isub => exact q_sub ht hw hs
  | imul => exact q_mul ht hw hs
  | iand => exact q_cc (fun x y => x &&& y) d_and d_andS ht hw hs
  | ior => exact q_cc (fun x y => x ||| y) d_top (d_topS (fun x y => x ||| y)) ht hw hs
  | ixor => exact q_cc (fun x y => x ^^^ y) d_top (d_topS (fun x y => x ^^^ y)) ht hw hs
  | idiv => exact q_div ht hw hs
  | irem => exact q_rem ht hw hs
  | ineg => exact q_neg ht hw hs
  | ishl => exact q_cc (fun x y => x <<< (y &&& 31)) d_top (d_topS (fun x y => x <<< (y &&& 31))) ht hw hs
  | ishr => exact q_shr ht hw hs
  | iushr => exact q_cc (fun x y => (x.toUInt32 >>> (y.toUInt32 &&& Int32.toUInt32 31)).toInt32) d_shr d_shrS ht hw hs
  | ladd => exact q_ll _ ht hw hs
  | lsub => exact q_ll _ ht hw hs
  | land => exact q_ll _ ht hw hs
  | lor => exact q_ll _ ht hw hs
  | lxor => exact q_ll _ ht hw hs
  | lneg => exact q_l1 _ ht hw hs
  | lshl => exact q_li _ ht hw hs
  | lshr => exact q_li _ ht hw hs
  | lushr => exact q_li _ ht hw hs
  | lcmp => exact q_lcmp i ht hw
  | i2l => exact q_il _ ht hw hs
  | l2i => exact q_l2i _ ht hw hs
  | i2b => exact q_i1 (fun x => x.toInt8.toInt32) (-128) 127 i_b ht hw hs
  | i2c => exact q_i1 (fun x => (x.toUInt32 % 65536).toInt32) 0 65535 i_ch ht hw hs
  | dup => exact q_dup ht hw i
  | pop => exact q_pop ht hw i
  | pop2 => exact q_pop2 ht hw i
  | dup2 => exact q_dup2 ht hw i
  | goto off => exact q_to off ht hw hs
  | ifCond c off => exact q_if c off ht hw i
  | if_icmp c off => exact q_ic c off ht hw i
  | ifnull off => exact q_inl i off ht hw
  | ifnonnull off => exact q_inn i off ht hw
  | tableswitch d lo hi offs => exact q_sw i d lo hi offs ht hw
  | getfield idx => exact q_get i idx ht hw
  | putfield idx => exact q_put i idx ht hw
  | getstatic idx => exact q_gets i idx _ _ hc1 hc3 ht hw
  | iaload => exact q_iald 20 20 ht hw
  | baload => exact q_iald 21 22 ht hw
  | laload => exact q_lald ht hw
  | aaload => exact q_aald ht hw
  | iastore => exact q_iast ht hw
  | bastore => exact q_bast ht hw
  | lastore => exact q_last ht hw
  | aastore => exact q_aast hlen ht hw
  | arraylength => exact q_alen ht hw
  | invokestatic idx => exact q_nat 0 i idx ht hw
  | _ => exact q_no
end
