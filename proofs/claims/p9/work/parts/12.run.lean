-- WHAT A STEP CAN BE; THE RUN
section RUN
variable {i : Nat} {pc : Nat} {lv : List (Nat × Value)} {st : List Value} {h : MH}
def m_il (h : MH) (o : Option MA) : Prop := ∀ q, o = some q → ∃ S : MS, q = .inl S ∧ h_n h ≤ h_n S.2.2.2 ∧ h_z h ≤ h_z S.2.2.2
theorem il_none : m_il h none := fun q h => by cases h
theorem il_go {h1 : MH} (h2 : h_n h ≤ h_n h1) (h3 : h_z h ≤ h_z h1) : m_il h (m_go pc lv st h1) := fun q hq => by
  cases hq
  exact ⟨_, rfl, h2, h3⟩
theorem il_id : m_il h (m_go pc lv st h) := il_go (Nat.le_refl _) (Nat.le_refl _)
theorem il_tg {off : Int} : m_il h (m_tg pc off lv st h) := by
  unfold m_tg
  split
  · exact il_id
  · exact il_none
theorem il_br {t : Bool} {off : Int} : m_il h (m_br t pc off lv st h) := by
  unfold m_br
  split
  · split
    · exact il_id
    · exact il_id
  · exact il_none
theorem il_e_ii {f : Int32 → Int32 → Int32} : m_il h (e_ii f pc lv st h) := by
  unfold e_ii
  repeat' split
  all_goals first | exact il_none | exact il_id
theorem il_e_ll {f : Int64 → Int64 → Int64} : m_il h (e_ll f pc lv st h) := by
  unfold e_ll
  repeat' split
  all_goals first | exact il_none | exact il_id
theorem il_e_li {f : Int64 → Int32 → Int64} : m_il h (e_li f pc lv st h) := by
  unfold e_li
  repeat' split
  all_goals first | exact il_none | exact il_id
theorem il_e_i {f : Int32 → Value} : m_il h (e_i f pc lv st h) := by
  unfold e_i
  repeat' split
  all_goals first | exact il_none | exact il_id
theorem il_e_l {f : Int64 → Value} : m_il h (e_l f pc lv st h) := by
  unfold e_l
  repeat' split
  all_goals first | exact il_none | exact il_id
theorem il_e_dv {f : Int32 → Int32 → Int32} : m_il h (e_dv f pc lv st h) := by
  unfold e_dv
  repeat' split
  all_goals first | exact il_none | exact il_id
theorem il_e_ild {k : Nat} : m_il h (e_ild k pc lv st h) := by
  unfold e_ild
  repeat' split
  all_goals first | exact il_none | exact il_id
theorem il_e_lld {k : Nat} : m_il h (e_lld k pc lv st h) := by
  unfold e_lld
  repeat' split
  all_goals first | exact il_none | exact il_id
theorem il_e_ald {k : Nat} : m_il h (e_ald k pc lv st h) := by
  unfold e_ald
  repeat' split
  all_goals first | exact il_none | exact il_id
theorem il_e_ist {n k : Nat} : m_il h (e_ist n k pc lv st h) := by
  unfold e_ist
  repeat' split
  all_goals first | exact il_none | exact il_id
theorem il_e_lst {n k : Nat} : m_il h (e_lst n k pc lv st h) := by
  unfold e_lst
  repeat' split
  all_goals first | exact il_none | exact il_id
theorem il_e_ast {n k : Nat} : m_il h (e_ast n k pc lv st h) := by
  unfold e_ast
  repeat' split
  all_goals first | exact il_none | exact il_id
theorem il_e_inc {n k : Nat} {z : Int} : m_il h (e_inc n k z pc lv st h) := by
  unfold e_inc
  repeat' split
  all_goals first | exact il_none | exact il_id
theorem il_e_get {idx : Nat} : m_il h (e_get i idx pc lv st h) := by
  unfold e_get
  repeat' split
  all_goals first | exact il_none | exact il_id | exact il_go (Nat.le_refl _) (Nat.le_refl _) | exact il_go (Nat.le_add_right _ _) (Nat.le_add_right _ _)
theorem il_e_put {idx : Nat} : m_il h (e_put i idx pc lv st h) := by
  unfold e_put
  repeat' split
  all_goals first | exact il_none | exact il_id | exact il_go (Nat.le_refl _) (Nat.le_refl _) | exact il_go (Nat.le_add_right _ _) (Nat.le_add_right _ _)
theorem il_e_new {idx : Nat} : m_il h (e_new i idx pc lv st h) := by
  unfold e_new
  repeat' split
  all_goals first | exact il_none | exact il_id | exact il_go (Nat.le_refl _) (Nat.le_refl _) | exact il_go (Nat.le_add_right _ _) (Nat.le_add_right _ _)
theorem il_e_anew {idx : Nat} : m_il h (e_anew i idx pc lv st h) := by
  unfold e_anew
  repeat' split
  all_goals first | exact il_none | exact il_id | exact il_go (Nat.le_refl _) (Nat.le_refl _) | exact il_go (Nat.le_add_right _ _) (Nat.le_add_right _ _)
theorem il_e_grid {idx : Nat} : m_il h (e_grid i idx pc lv st h) := by
  unfold e_grid
  repeat' split
  all_goals first | exact il_none | exact il_id | exact il_go (Nat.le_refl _) (Nat.le_refl _) | exact il_go (Nat.le_add_right _ _) (Nat.le_add_right _ _)
theorem il_e_gets {idx : Nat} : m_il h (e_gets i idx pc lv st h) := by
  unfold e_gets
  repeat' split
  all_goals first | exact il_none | exact il_id | exact il_go (Nat.le_refl _) (Nat.le_refl _) | exact il_go (Nat.le_add_right _ _) (Nat.le_add_right _ _)
theorem il_e_iald {k0 k1 : Nat} : m_il h (e_iald k0 k1 pc lv st h) := by
  unfold e_iald
  repeat' split
  all_goals first | exact il_none | exact il_id
theorem il_e_lald : m_il h (e_lald pc lv st h) := by
  unfold e_lald
  repeat' split
  all_goals first | exact il_none | exact il_id | exact il_go (Nat.le_refl _) (Nat.le_refl _)
theorem il_e_aald : m_il h (e_aald pc lv st h) := by
  unfold e_aald
  repeat' split
  all_goals first | exact il_none | exact il_id | exact il_go (Nat.le_refl _) (Nat.le_refl _)
theorem il_e_iast : m_il h (e_iast pc lv st h) := by
  unfold e_iast
  repeat' split
  all_goals first | exact il_none | exact il_id | exact il_go (Nat.le_refl _) (Nat.le_refl _)
theorem il_e_bast : m_il h (e_bast pc lv st h) := by
  unfold e_bast
  repeat' split
  all_goals first | exact il_none | exact il_id | exact il_go (Nat.le_refl _) (Nat.le_refl _)
theorem il_e_last : m_il h (e_last pc lv st h) := by
  unfold e_last
  repeat' split
  all_goals first | exact il_none | exact il_id | exact il_go (Nat.le_refl _) (Nat.le_refl _)
theorem il_e_aast : m_il h (e_aast pc lv st h) := by
  unfold e_aast
  repeat' split
  all_goals first | exact il_none | exact il_id | exact il_go (Nat.le_refl _) (Nat.le_refl _)
theorem il_e_alen : m_il h (e_alen pc lv st h) := by
  unfold e_alen
  repeat' split
  all_goals first | exact il_none | exact il_id | exact il_go (Nat.le_refl _) (Nat.le_refl _)
theorem il_e_newa {t : ArrayType} : m_il h (e_newa t pc lv st h) := by
  unfold e_newa
  repeat' split
  all_goals first | exact il_none | exact il_go (Nat.le_add_right _ _) (Nat.le_add_right _ _)
theorem il_e_ldc {w idx : Nat} : m_il h (e_ldc w i idx pc lv st h) := by
  unfold e_ldc
  repeat' split
  all_goals first | exact il_none | exact il_id
theorem il_e_cp : m_il h (e_cp i pc lv st h) := by
  unfold e_cp
  repeat' split
  all_goals first | exact il_none | exact il_go (Nat.le_refl _) (Nat.le_refl _)
theorem il_e_call {kd idx : Nat} {q : MA} (hq : e_call kd i idx pc lv st h = some q) : (∃ S : MS, q = .inl S ∧ h_n h ≤ h_n S.2.2.2 ∧ h_z h ≤ h_z S.2.2.2) ∨ ∃ c, q = .inr (.inr c) := by
  revert hq
  unfold e_call
  repeat' split
  all_goals intro hq
  all_goals first | (exact Or.inl (il_e_cp q hq)) | (exact Or.inl (il_id q hq)) | (exact Or.inr ⟨_, (Option.some.inj hq).symm⟩) | (exact absurd hq (by simp))
def m_ri (t : Option FieldType) (ins : Instr) (v : Option Value) : Prop := (∃ x, v = some (.int x) ∧ ins = .ireturn ∧ m_rok t x = true) ∨ (∃ x, v = some (.long x) ∧ ins = .lreturn ∧ t = some .long) ∨ (∃ x, v = some (.ref x) ∧ ins = .areturn ∧ m_rr t = true) ∨ (v = none ∧ ins = .return_ ∧ t = none)
def m_kdi (kd idx : Nat) (ins : Instr) : Prop := (kd = 0 ∧ ins = .invokestatic idx) ∨ (kd = 1 ∧ ins = .invokevirtual idx) ∨ (kd = 2 ∧ ins = .invokespecial idx)
theorem m_stq {q : MA} (hs : m_st i pc lv st h = some q) : (∃ S : MS, q = .inl S ∧ h_n h ≤ h_n S.2.2.2 ∧ h_z h ≤ h_z S.2.2.2) ∨ (∃ (v : Option Value) (ins : Instr), q = .inr (.inl (v, h)) ∧ decode (m_m i).2.2.1 pc = .ok (ins, 1) ∧ m_ri (m_rt i) ins v ∧ st = v.toList) ∨ (∃ (cl : Nat × List Value × List Value × Nat) (kd idx : Nat) (ins : Instr), q = .inr (.inr cl) ∧ decode (m_m i).2.2.1 pc = .ok (ins, 3) ∧ m_kdi kd idx ins ∧ e_call kd i idx pc lv st h = some (.inr (.inr cl))) := by
  unfold m_st at hs
  split at hs
  · next e9 he9 =>
    split at hs
    · next hlen =>
      have hd := m_dec he9
      obtain ⟨ins, len⟩ := e9
      dsimp only at hs hlen
      cases ins with
      | iadd => exact Or.inl (il_e_ii q hs)
      | isub => exact Or.inl (il_e_ii q hs)
      | imul => exact Or.inl (il_e_ii q hs)
      | iand => exact Or.inl (il_e_ii q hs)
      | ior => exact Or.inl (il_e_ii q hs)
      | ixor => exact Or.inl (il_e_ii q hs)
      | ishl => exact Or.inl (il_e_ii q hs)
      | ishr => exact Or.inl (il_e_ii q hs)
      | iushr => exact Or.inl (il_e_ii q hs)
      | idiv => exact Or.inl (il_e_dv q hs)
      | irem => exact Or.inl (il_e_dv q hs)
      | ineg => exact Or.inl (il_e_i q hs)
      | i2l => exact Or.inl (il_e_i q hs)
      | i2b => exact Or.inl (il_e_i q hs)
      | i2c => exact Or.inl (il_e_i q hs)
      | ladd => exact Or.inl (il_e_ll q hs)
      | lsub => exact Or.inl (il_e_ll q hs)
      | land => exact Or.inl (il_e_ll q hs)
      | lor => exact Or.inl (il_e_ll q hs)
      | lxor => exact Or.inl (il_e_ll q hs)
      | lshl => exact Or.inl (il_e_li q hs)
      | lshr => exact Or.inl (il_e_li q hs)
      | lushr => exact Or.inl (il_e_li q hs)
      | lneg => exact Or.inl (il_e_l q hs)
      | l2i => exact Or.inl (il_e_l q hs)
      | iconst k => exact Or.inl (il_id q hs)
      | lconst k => exact Or.inl (il_id q hs)
      | bipush k => exact Or.inl (il_id q hs)
      | sipush k => exact Or.inl (il_id q hs)
      | aconst_null => exact Or.inl (il_id q hs)
      | iload k => exact Or.inl (il_e_ild q hs)
      | iload_n k => exact Or.inl (il_e_ild q hs)
      | lload k => exact Or.inl (il_e_lld q hs)
      | lload_n k => exact Or.inl (il_e_lld q hs)
      | aload k => exact Or.inl (il_e_ald q hs)
      | aload_n k => exact Or.inl (il_e_ald q hs)
      | istore k => exact Or.inl (il_e_ist q hs)
      | istore_n k => exact Or.inl (il_e_ist q hs)
      | lstore k => exact Or.inl (il_e_lst q hs)
      | lstore_n k => exact Or.inl (il_e_lst q hs)
      | astore k => exact Or.inl (il_e_ast q hs)
      | astore_n k => exact Or.inl (il_e_ast q hs)
      | iinc k z => exact Or.inl (il_e_inc q hs)
      | goto o => exact Or.inl (il_tg q hs)
      | getfield k => exact Or.inl (il_e_get q hs)
      | putfield k => exact Or.inl (il_e_put q hs)
      | getstatic k => exact Or.inl (il_e_gets q hs)
      | new k => exact Or.inl (il_e_new q hs)
      | anewarray k => exact Or.inl (il_e_anew q hs)
      | multianewarray idx d =>
        simp only [m_ex] at hs
        split at hs
        · exact Or.inl (il_e_grid q hs)
        · cases hs
      | iaload => exact Or.inl (il_e_iald q hs)
      | baload => exact Or.inl (il_e_iald q hs)
      | laload => exact Or.inl (il_e_lald q hs)
      | aaload => exact Or.inl (il_e_aald q hs)
      | iastore => exact Or.inl (il_e_iast q hs)
      | bastore => exact Or.inl (il_e_bast q hs)
      | lastore => exact Or.inl (il_e_last q hs)
      | aastore => exact Or.inl (il_e_aast q hs)
      | arraylength => exact Or.inl (il_e_alen q hs)
      | newarray t => exact Or.inl (il_e_newa q hs)
      | ldc k => exact Or.inl (il_e_ldc q hs)
      | ldc_w k => exact Or.inl (il_e_ldc q hs)
      | dup =>
        refine Or.inl ((show m_il h _ from ?_) q hs)
        simp only [m_ex]
        repeat' split
        all_goals first | exact il_none | exact il_id | exact il_tg | exact il_br
      | pop =>
        refine Or.inl ((show m_il h _ from ?_) q hs)
        simp only [m_ex]
        repeat' split
        all_goals first | exact il_none | exact il_id | exact il_tg | exact il_br
      | pop2 =>
        refine Or.inl ((show m_il h _ from ?_) q hs)
        simp only [m_ex]
        repeat' split
        all_goals first | exact il_none | exact il_id | exact il_tg | exact il_br
      | dup2 =>
        refine Or.inl ((show m_il h _ from ?_) q hs)
        simp only [m_ex]
        repeat' split
        all_goals first | exact il_none | exact il_id | exact il_tg | exact il_br
      | lcmp =>
        refine Or.inl ((show m_il h _ from ?_) q hs)
        simp only [m_ex]
        repeat' split
        all_goals first | exact il_none | exact il_id | exact il_tg | exact il_br
      | ldc2_w k =>
        refine Or.inl ((show m_il h _ from ?_) q hs)
        simp only [m_ex]
        repeat' split
        all_goals first | exact il_none | exact il_id | exact il_tg | exact il_br
      | ifCond cc o =>
        refine Or.inl ((show m_il h _ from ?_) q hs)
        simp only [m_ex]
        repeat' split
        all_goals first | exact il_none | exact il_id | exact il_tg | exact il_br
      | if_icmp cc o =>
        refine Or.inl ((show m_il h _ from ?_) q hs)
        simp only [m_ex]
        repeat' split
        all_goals first | exact il_none | exact il_id | exact il_tg | exact il_br
      | ifnull o =>
        refine Or.inl ((show m_il h _ from ?_) q hs)
        simp only [m_ex]
        repeat' split
        all_goals first | exact il_none | exact il_id | exact il_tg | exact il_br
      | ifnonnull o =>
        refine Or.inl ((show m_il h _ from ?_) q hs)
        simp only [m_ex]
        repeat' split
        all_goals first | exact il_none | exact il_id | exact il_tg | exact il_br
      | tableswitch d lo hi offs =>
        refine Or.inl ((show m_il h _ from ?_) q hs)
        simp only [m_ex]
        repeat' split
        all_goals first | exact il_none | exact il_id | exact il_tg | exact il_br
      | invokestatic k =>
        cases (m_l1 (a := 0) 3 (by decide) hlen)
        rcases il_e_call hs with h9 | ⟨cl, h9⟩
        · exact Or.inl h9
        · subst h9
          exact Or.inr (Or.inr ⟨cl, 0, k, _, rfl, hd, Or.inl ⟨rfl, rfl⟩, hs⟩)
      | invokevirtual k =>
        cases (m_l1 (a := 0) 3 (by decide) hlen)
        rcases il_e_call hs with h9 | ⟨cl, h9⟩
        · exact Or.inl h9
        · subst h9
          exact Or.inr (Or.inr ⟨cl, 1, k, _, rfl, hd, Or.inr (Or.inl ⟨rfl, rfl⟩), hs⟩)
      | invokespecial k =>
        cases (m_l1 (a := 0) 3 (by decide) hlen)
        rcases il_e_call hs with h9 | ⟨cl, h9⟩
        · exact Or.inl h9
        · subst h9
          exact Or.inr (Or.inr ⟨cl, 2, k, _, rfl, hd, Or.inr (Or.inr ⟨rfl, rfl⟩), hs⟩)
      | ireturn =>
        cases (m_l1 (a := 0) 1 (by decide) hlen)
        simp only [m_ex] at hs
        split at hs
        · split at hs
          · next hr9 =>
            cases hs
            exact Or.inr (Or.inl ⟨_, _, rfl, hd, Or.inl ⟨_, rfl, rfl, hr9⟩, rfl⟩)
          · cases hs
        · cases hs
      | lreturn =>
        cases (m_l1 (a := 0) 1 (by decide) hlen)
        simp only [m_ex] at hs
        split at hs
        · split at hs
          · next hr9 =>
            cases hs
            exact Or.inr (Or.inl ⟨_, _, rfl, hd, Or.inr (Or.inl ⟨_, rfl, rfl, hr9⟩), rfl⟩)
          · cases hs
        · cases hs
      | areturn =>
        cases (m_l1 (a := 0) 1 (by decide) hlen)
        simp only [m_ex] at hs
        split at hs
        · split at hs
          · next hr9 =>
            cases hs
            exact Or.inr (Or.inl ⟨_, _, rfl, hd, Or.inr (Or.inr (Or.inl ⟨_, rfl, rfl, hr9⟩)), rfl⟩)
          · cases hs
        · cases hs
      | return_ =>
        cases (m_l1 (a := 0) 1 (by decide) hlen)
        simp only [m_ex] at hs
        split at hs
        · split at hs
          · next hr9 =>
            cases hs
            exact Or.inr (Or.inl ⟨_, _, rfl, hd, Or.inr (Or.inr (Or.inr ⟨rfl, rfl, hr9⟩)), rfl⟩)
          · cases hs
        · cases hs
      | _ => exact absurd hs (by simp [m_ex])
    · cases hs
  · cases hs
def m_rn : Nat → Nat → Nat → List (Nat × Value) → List Value → MH → Option (Option Value × MH)
  | 0, _, _, _, _, _ => none
  | n + 1, i, pc, lv, st, h => match m_st i pc lv st h with
    | some (.inl (pc', lv', st', h')) => m_rn n i pc' lv' st' h'
    | some (.inr (.inl q)) => some q
    | some (.inr (.inr (j, as, r, pc'))) => if m_cat as ≤ m_lc j then (match m_rn n j 0 (lv_args 0 as) [] h with
      | some (v, h') => m_rn n i pc' lv (v.toList ++ r) h'
      | none => none) else none
    | none => none
theorem m_mono : ∀ (n i pc : Nat) (lv : List (Nat × Value)) (st : List Value) (h : MH) (v : Option Value) (h' : MH), m_rn n i pc lv st h = some (v, h') → h_n h ≤ h_n h' ∧ h_z h ≤ h_z h'
  | 0, _, _, _, _, _, _, _, hr => by cases hr
  | n + 1, i, pc, lv, st, h, v, h', hr => by
    rw [m_rn] at hr
    split at hr
    · next pc1 lv1 st1 h1 hs =>
      rcases m_stq hs with ⟨S, g1, g2, g3⟩ | ⟨v9, ins, g1, -⟩ | ⟨cl, kd, idx, ins, g1, -⟩
      · cases g1
        obtain ⟨k1, k2⟩ := m_mono n _ _ _ _ _ _ _ hr
        exact ⟨Nat.le_trans g2 k1, Nat.le_trans g3 k2⟩
      · cases g1
      · cases g1
    · next q hs =>
      cases hr
      rcases m_stq hs with ⟨S, g1, -⟩ | ⟨v9, ins, g1, -⟩ | ⟨cl, kd, idx, ins, g1, -⟩
      · cases g1
      · cases g1
        exact ⟨Nat.le_refl _, Nat.le_refl _⟩
      · cases g1
    · next j as r pc1 hs =>
      split at hr
      · split at hr
        · next v1 h1 hr1 =>
          obtain ⟨k1, k2⟩ := m_mono n _ _ _ _ _ _ _ hr1
          obtain ⟨k3, k4⟩ := m_mono n _ _ _ _ _ _ _ hr
          exact ⟨Nat.le_trans k1 k3, Nat.le_trans k2 k4⟩
        · cases hr
      · cases hr
    · cases hr
end RUN
-- how a run ends in its frame
def m_RET (p : Program) (l : Launch) (e : Env) (R : Room) (s : State) (m : MethodId) (args : Array Value) (below : List Frame) (meth : Method) (c : Code) (Q : State → Prop) (i : Nat) (D : va_G) (tA : Nat → ClassId) (cst : Nat → Value) (b : Nat) (v : Option Value) (h' : MH) (cE sE : Nat) : Prop :=
  ∀ (pc : Nat) (ls : Array Slot) (H : Heap) (locs : List Loc) (ins : Instr), decode (m_m i).2.2.1 pc = .ok (ins, 1) → m_ri (m_rt i) ins v → HR D tA cst b s h' H → (∀ q ∈ locs, b ≤ q.base) → W p l e R s m args below meth c H locs cE sE Q (F0 m pc ls (v.map (mv cst b)).toList)
theorem m_rokS {t : Option FieldType} {x : Int32} (h : m_rok t x = true) : ∃ ty, t = some ty ∧ narrow ty (.int x) = .int x := by
  unfold m_rok at h
  split at h
  · exact ⟨_, rfl, rfl⟩
  · exact ⟨_, rfl, congrArg Value.int (of_decide_eq_true h)⟩
  · exact ⟨_, rfl, congrArg Value.int (of_decide_eq_true h)⟩
  · exact ⟨_, rfl, congrArg Value.int (of_decide_eq_true h)⟩
  · cases h
theorem m_rrS {t : Option FieldType} (h : m_rr t = true) : ∃ ty, t = some ty ∧ ((∃ n, ty = .object n) ∨ ∃ t, ty = .array t) := by
  unfold m_rr at h
  split at h
  · exact ⟨_, rfl, Or.inl ⟨_, rfl⟩⟩
  · exact ⟨_, rfl, Or.inr ⟨_, rfl⟩⟩
  · cases h
theorem m_plain {j : Nat} (hj : j < 292) (n1 : j ≠ m_jmin) (n2 : j ≠ m_jmax) (n3 : j ≠ m_jminl) (n4 : j ≠ m_jmaxl) : plainName (m_m j).2.1.cls = true := by
  have h2 : (List.range 292).all (fun j => decide (j = m_jmin) || decide (j = m_jmax) || decide (j = m_jminl) || decide (j = m_jmaxl) || plainName (m_m j).2.1.cls) = true := by decide +kernel
  have h3 := List.all_eq_true.mp h2 j (List.mem_range.mpr hj)
  simpa [n1, n2, n3, n4] using h3
-- the words of a method's arguments fit its locals
def m_szok (j : Nat) (as : List Value) : Prop := m_cat as ≤ m_lc j
theorem m_lgsz {cst : Nat → Value} {b : Nat} (hc : m_cok cst) (as : List Value) : (lg_sl (as.map (mv cst b))).length = m_cat as := by
  induction as with
  | nil => rfl
  | cons x t ih =>
    have e1 : lg_sl ((x :: t).map (mv cst b)) = (if (mv cst b x).category = 2 then [Slot.val (mv cst b x), Slot.second] else [Slot.val (mv cst b x)]) ++ lg_sl (t.map (mv cst b)) := rfl
    rw [e1, List.length_append, ih, mv_cat hc]
    have e2 : m_cat (x :: t) = x.category + m_cat t := rfl
    rw [e2]
    rcases lv_cat x with q | q <;> rw [q] <;> rfl
-- a method's run is its contract
theorem m_callj {kd i idx pc : Nat} {lv : List (Nat × Value)} {st : List Value} {h : MH} {j : Nat} {as r : List Value} {pc' : Nat} (hs : e_call kd i idx pc lv st h = some (.inr (.inr (j, as, r, pc')))) : 0 < j ∧ j < 292 ∧ j ≠ m_jmin ∧ j ≠ m_jmax ∧ j ≠ m_jminl ∧ j ≠ m_jmaxl ∧ as.length ≤ 1 + m_na j := by
  revert hs
  unfold e_call
  split
  · next nest j9 hf =>
    split
    · split
      · split <;> simp [m_go]
      · simp
    · split
      · split
        · intro hs
          obtain ⟨S, g1, -⟩ := il_e_cp _ hs
          cases g1
        · simp
      · split
        · split
          · split <;> simp [m_go]
          · simp
        · next hm1 =>
          split
          · split
            · split <;> simp [m_go]
            · simp
          · next hm2 =>
            split
            · next hk =>
              obtain ⟨g1, g2, -⟩ := hk
              split
              · split
                · intro hs
                  cases hs
                  refine ⟨g1, g2, fun q => hm1 (Or.inl q), fun q => hm1 (Or.inr q), fun q => hm2 (Or.inl q), fun q => hm2 (Or.inr q), ?_⟩
                  rw [List.length_reverse, List.length_take]
                  omega
                · simp
              · split
                · next a r9 hdrop =>
                  by_cases hst : m_na j9 + 1 ≤ st.length ∧ m_cat r9 ≤ 8 ∧ (if (m_m j9).2.1.cls = "java/lang/String" then (h_k h a).1 = 40 else m_cnm ((h_k h a).1 - 1) = (m_m j9).2.1.cls ∧ 16 ≤ a ∧ 0 < (h_k h a).1 ∧ (h_k h a).1 < 11)
                  · rw [if_pos hst]
                    intro hs
                    cases hs
                    refine ⟨g1, g2, fun q => hm1 (Or.inl q), fun q => hm1 (Or.inr q), fun q => hm2 (Or.inl q), fun q => hm2 (Or.inr q), ?_⟩
                    rw [List.length_cons, List.length_reverse, List.length_take]
                    omega
                  · rw [if_neg hst]
                    simp
                · simp
            · simp
  · simp
theorem m_metI (l : Launch) (D : va_G) (tA : Nat → ClassId) (cst : Nat → Value) (b : Nat) {j : Nat} {as : List Value} {h : MH} {v : Option Value} {h' : MH}
    (hrun : ∀ {p : Program} {e : Env} {R : Room} {s : State} {m : MethodId} {args : Array Value} {below : List Frame} {meth : Method} {c : Code} {Q : State → Prop}, SC p s m args meth c R j D tA cst b → ∀ (H : Heap) (locs : List Loc) (cells slots : Nat) (ls : Array Slot), HR D tA cst b s h H → (∀ q ∈ locs, b ≤ q.base) → lv_has ls (m_lc j) (ml cst b (lv_args 0 as)) → cells + (h_n h' - h_n h) ≤ R.cells → slots + (h_z h' - h_z h) ≤ R.slots → m_RET p l e R s m args below meth c Q j D tA cst b v h' (cells + (h_n h' - h_n h)) (slots + (h_z h' - h_z h)) → W p l e R s m args below meth c H locs cells slots Q (F0 m 0 ls (([] : List Value).map (mv cst b))))
    {kd i idx pc : Nat} {lv : List (Nat × Value)} {st : List Value} {r : List Value} {pc' : Nat} (hs : e_call kd i idx pc lv st h = some (.inr (.inr (j, as, r, pc')))) (hc : m_cok cst) (hsz : m_szok j as) : m_met l D tA cst b j as h v h' := by
  obtain ⟨hj0, hjN, n1, n2, n3, n4, -⟩ := m_callj hs
  unfold m_met
  refine Met.ofW (cc := (m_m j).2.2.1) (maxL := m_lc j) (ret := m_rt j) (m_plain hjN n1 n2 n3 n4) rfl ?_
  intro p e s m args below meth c s₁ B hml hv
  obtain ⟨hargs, hR, hks⟩ := hv
  have hts := atoms_spec (ws := m_ws j) B.pre
  have C : SC p s m args meth c (headSpec (m_ws j) (m_rm j (h_n h' - h_n h) (h_z h' - h_z h))).room j D tA cst b := ⟨B.exec, B.bytes, hml, findClass_of_methodNamed B.named, fun w hw => hts w (List.mem_cons_of_mem _ hw), B.notSynchronized, fun hk => by
    have h9 := (name_of_methodNamed B.named B.method).1
    rw [h9]
    have hnok := m_kn _ (m_mem j)
    simp only [m_nok, Bool.and_eq_true, decide_eq_true_eq] at hnok
    exact (hnok.2.2.2.2 hk).1, Nat.le_refl _, Nat.le_refl _, hks, hc, B.returns⟩
  subst hargs
  rw [lg_entry_eq]
  have hl := lv_entry (as.map (mv cst b)) (n := m_lc j) (by rw [m_lgsz hc]; exact hsz)
  rw [ml_args hc] at hl
  refine hrun C s.heap [] 0 0 _ hR (fun q hq => by cases hq) hl ?_ ?_ ?_
  · show 0 + _ ≤ h_n h' - h_n h
    omega
  · show 0 + _ ≤ h_z h' - h_z h
    omega
  · intro pc ls H locs ins hd hri hR1 hlo
    rw [Nat.zero_add, Nat.zero_add]
    have hq : ∀ t : State, t.heap = H → s.WarmedH t.vm → m_Qc D tA cst b v h' ((as.map (mv cst b)).toArray) s (.returned (v.map (mv cst b))) t := fun t ht hW => ⟨rfl, by rw [ht]; exact HR.moved hW.alike hR1⟩
    have hlocks := B.notSynchronized
    rcases hri with ⟨x, e1, e2, e3⟩ | ⟨x, e1, e2, e3⟩ | ⟨x, e1, e2, e3⟩ | ⟨e1, e2, e3⟩
    · subst e1
      subst e2
      obtain ⟨ty, hty, hn⟩ := m_rokS e3
      exact W.zret B.exec B.bytes (B.returns.trans hty) hn hq hlo hd
    · subst e1
      subst e2
      exact W.lret B.exec B.bytes (B.returns.trans e3) hq hlo hd
    · subst e1
      subst e2
      obtain ⟨ty, hty, hn⟩ := m_rrS e3
      exact W.aret B.exec B.bytes (B.returns.trans hty) hn (mv_ref hc x) hq hlo hd
    · subst e1
      subst e2
      exact W.vret B.exec B.bytes (B.returns.trans e3) hq hlo hd
theorem m_sim (l : Launch) (D : va_G) (tA : Nat → ClassId) (cst : Nat → Value) (b : Nat) : ∀ (n i pc : Nat) (lv : List (Nat × Value)) (st : List Value) (h : MH) (v : Option Value) (h' : MH), m_rn n i pc lv st h = some (v, h') →
    ∀ {p : Program} {e : Env} {R : Room} {s : State} {m : MethodId} {args : Array Value} {below : List Frame} {meth : Method} {c : Code} {Q : State → Prop}, SC p s m args meth c R i D tA cst b → ∀ (H : Heap) (locs : List Loc) (cells slots : Nat) (ls : Array Slot), HR D tA cst b s h H → (∀ q ∈ locs, b ≤ q.base) → lv_has ls (m_lc i) (ml cst b lv) → cells + (h_n h' - h_n h) ≤ R.cells → slots + (h_z h' - h_z h) ≤ R.slots → m_RET p l e R s m args below meth c Q i D tA cst b v h' (cells + (h_n h' - h_n h)) (slots + (h_z h' - h_z h)) →
      W p l e R s m args below meth c H locs cells slots Q (F0 m pc ls (st.map (mv cst b)))
  | 0, _, _, _, _, _, _, _, hr => by cases hr
  | n + 1, i, pc, lv, st, h, v, h', hr => fun C H locs cells slots ls hR hlo hl hcl hsl hret => by
    rw [m_rn] at hr
    split at hr
    · next pc1 lv1 st1 h1 hs =>
      obtain ⟨k1, k2⟩ := m_mono n _ _ _ _ _ _ _ hr
      have hgg : h_n h ≤ h_n h1 ∧ h_z h ≤ h_z h1 := by
        rcases m_stq hs with ⟨S, g1, g2⟩ | ⟨v9, ins, g1, -⟩ | ⟨cl, kd, idx, ins, g1, -⟩
        · cases g1
          exact g2
        · cases g1
        · cases g1
      obtain ⟨g1, g2⟩ := hgg
      refine (m_inl C hR hlo hl (by omega) (by omega) hs).2 (by dsimp only; omega) (by dsimp only; omega) (fun H' locs' ls' a1 a2 a3 => ?_)
      dsimp only at a1 a2 a3 ⊢
      refine m_sim l D tA cst b n _ _ _ _ _ _ _ hr C H' locs' _ _ ls' a1 a2 a3 (by omega) (by omega) ?_
      rw [show cells + (h_n h1 - h_n h) + (h_n h' - h_n h1) = cells + (h_n h' - h_n h) by omega, show slots + (h_z h1 - h_z h) + (h_z h' - h_z h1) = slots + (h_z h' - h_z h) by omega]
      exact hret
    · next q hs =>
      cases hr
      rcases m_stq hs with ⟨S, g1, -⟩ | ⟨v9, ins, g1, g2, g3, g4⟩ | ⟨cl, kd, idx, ins, g1, -⟩
      · cases g1
      · cases g1
        rw [Nat.sub_self, Nat.sub_self] at hret
        have hst : st.map (mv cst b) = (v.map (mv cst b)).toList := by
          rw [g4]
          cases v <;> rfl
        rw [hst]
        exact hret pc ls H locs ins g2 g3 hR hlo
      · cases g1
    · next j as r pc1 hs =>
      split at hr
      · next hsz =>
       split at hr
       · next v1 h1 hr1 =>
        obtain ⟨k1, k2⟩ := m_mono n _ _ _ _ _ _ _ hr1
        obtain ⟨k3, k4⟩ := m_mono n _ _ _ _ _ _ _ hr
        rcases m_stq hs with ⟨S, g1, -⟩ | ⟨v9, ins, g1, -⟩ | ⟨cl, kd, idx, ins, g1, g2, g3, g4⟩
        · cases g1
        · cases g1
        · cases g1
          refine m_callW C hR hlo hl g2 g3 g4 (m_metI l D tA cst b (fun {p e R s m args below meth c Q} C9 H9 locs9 cells9 slots9 ls9 => m_sim l D tA cst b n _ _ _ _ _ _ _ hr1 C9 H9 locs9 cells9 slots9 ls9) g4 C.2.2.2.2.2.2.2.2.2.2.1 hsz) (by omega) (by omega) (fun hpc H' locs' a1 a2 => ?_)
          refine m_sim l D tA cst b n _ _ _ _ _ _ _ hr C H' locs' _ _ ls a1 a2 hl (by omega) (by omega) ?_
          rw [show cells + (h_n h1 - h_n h) + (h_n h' - h_n h1) = cells + (h_n h' - h_n h) by omega, show slots + (h_z h1 - h_z h) + (h_z h' - h_z h1) = slots + (h_z h' - h_z h) by omega]
          exact hret
       · cases hr
      · cases hr
    · cases hr
