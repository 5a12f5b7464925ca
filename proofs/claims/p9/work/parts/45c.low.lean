-- WHAT STANDS BELOW THE FIRST MADE THING STAYS (rows, not objects)
def mlow (h h2 : MH) : Prop := ∀ a, a < 16 → h_k h2 a = h_k h a ∧ (20 ≤ (h_k h a).1 → ∀ j, h_i h2 a j = h_i h a j)
theorem mlow.refl {h : MH} : mlow h h := fun _ _ => ⟨rfl, fun _ _ => rfl⟩
theorem mlow.trans {h h1 h2 : MH} (f : mlow h h1) (g : mlow h1 h2) : mlow h h2 := fun a h3 => by
  obtain ⟨f1, f2⟩ := f a h3
  obtain ⟨g1, g2⟩ := g a h3
  exact ⟨g1.trans f1, fun h4 j => (g2 (by rw [f1]; exact h4) j).trans (f2 h4 j)⟩
section LOW
variable {i : Nat} {pc : Nat} {lv : List (Nat × Value)} {st : List Value} {h : MH}
def m_lw (h : MH) (o : Option MA) : Prop := ∀ q, o = some q → ∃ S : MS, q = .inl S ∧ mlow h S.2.2.2
theorem lo_none : m_lw h none := fun q h => by cases h
theorem lo_go {h1 : MH} (h2 : mlow h h1) : m_lw h (m_go pc lv st h1) := fun q hq => by
  cases hq
  exact ⟨_, rfl, h2⟩
theorem lo_si {a k : Nat} {x : Int32} (hc : 16 ≤ a ∨ (h_k h a).1 < 20) : mlow h (h_si h a k x) := fun b h1 => ⟨rfl, fun h2 j => by
  have hne : b ≠ a := fun e => by
    rw [e] at h1 h2
    omega
  show m_u (h_i h) a (m_u (h_i h a) k x) b j = _
  rw [m_uN _ _ _ _ hne]⟩
theorem lo_sl {a k : Nat} {x : Int64} : mlow h (h_sl h a k x) := fun b h1 => ⟨rfl, fun _ j => rfl⟩
theorem lo_sr {a k x : Nat} : mlow h (h_sr h a k x) := fun b h1 => ⟨rfl, fun _ j => rfl⟩
theorem lo_new {k len sz : Nat} : mlow h (h_new h k len sz) := fun b h1 => ⟨by
    show m_u (h_k h) (16 + h.1.1) (k, len) b = _
    rw [m_uN _ _ _ _ (by omega)], fun _ j => by
    show m_u (h_i h) (16 + h.1.1) (fun _ => 0) b j = _
    rw [m_uN _ _ _ _ (by omega)]⟩
theorem lo_grid {n k : Nat} : mlow h (h_grid h n k) := fun b h1 => ⟨by
    show (if b = 16 + h.1.1 then (33, n) else if 16 + h.1.1 < b ∧ b ≤ 16 + h.1.1 + n then (20, k) else h_k h b) = _
    rw [if_neg (by omega), if_neg (by omega)], fun _ j => by
    show (if 16 + h.1.1 ≤ b ∧ b ≤ 16 + h.1.1 + n then (fun _ => 0) else h_i h b) j = _
    rw [if_neg (by omega)]⟩
theorem lo_cpi {a0 a1 s d n : Nat} (hc : 16 ≤ a1) : mlow h (h_cpi h a0 a1 s d n) := fun b h1 => ⟨rfl, fun _ j => by
  show m_u (h_i h) a1 _ b j = _
  rw [m_uN _ _ _ _ (by omega)]⟩
theorem lo_cpl {a0 a1 s d n : Nat} : mlow h (h_cpl h a0 a1 s d n) := fun b h1 => ⟨rfl, fun _ j => rfl⟩
theorem lo_id : m_lw h (m_go pc lv st h) := lo_go mlow.refl
theorem lo_tg {off : Int} : m_lw h (m_tg pc off lv st h) := by
  unfold m_tg
  split
  · exact lo_id
  · exact lo_none
theorem lo_br {t : Bool} {off : Int} : m_lw h (m_br t pc off lv st h) := by
  unfold m_br
  split
  · split
    · exact lo_id
    · exact lo_id
  · exact lo_none
theorem lo_e_ii {f : Int32 → Int32 → Int32} : m_lw h (e_ii f pc lv st h) := by
  unfold e_ii
  repeat' split
  all_goals first | exact lo_none | exact lo_id
theorem lo_e_ll {f : Int64 → Int64 → Int64} : m_lw h (e_ll f pc lv st h) := by
  unfold e_ll
  repeat' split
  all_goals first | exact lo_none | exact lo_id
theorem lo_e_li {f : Int64 → Int32 → Int64} : m_lw h (e_li f pc lv st h) := by
  unfold e_li
  repeat' split
  all_goals first | exact lo_none | exact lo_id
theorem lo_e_i {f : Int32 → Value} : m_lw h (e_i f pc lv st h) := by
  unfold e_i
  repeat' split
  all_goals first | exact lo_none | exact lo_id
theorem lo_e_l {f : Int64 → Value} : m_lw h (e_l f pc lv st h) := by
  unfold e_l
  repeat' split
  all_goals first | exact lo_none | exact lo_id
theorem lo_e_dv {f : Int32 → Int32 → Int32} : m_lw h (e_dv f pc lv st h) := by
  unfold e_dv
  repeat' split
  all_goals first | exact lo_none | exact lo_id
theorem lo_e_ild {k : Nat} : m_lw h (e_ild k pc lv st h) := by
  unfold e_ild
  repeat' split
  all_goals first | exact lo_none | exact lo_id
theorem lo_e_lld {k : Nat} : m_lw h (e_lld k pc lv st h) := by
  unfold e_lld
  repeat' split
  all_goals first | exact lo_none | exact lo_id
theorem lo_e_ald {k : Nat} : m_lw h (e_ald k pc lv st h) := by
  unfold e_ald
  repeat' split
  all_goals first | exact lo_none | exact lo_id
theorem lo_e_ist {n k : Nat} : m_lw h (e_ist n k pc lv st h) := by
  unfold e_ist
  repeat' split
  all_goals first | exact lo_none | exact lo_id
theorem lo_e_lst {n k : Nat} : m_lw h (e_lst n k pc lv st h) := by
  unfold e_lst
  repeat' split
  all_goals first | exact lo_none | exact lo_id
theorem lo_e_ast {n k : Nat} : m_lw h (e_ast n k pc lv st h) := by
  unfold e_ast
  repeat' split
  all_goals first | exact lo_none | exact lo_id
theorem lo_e_inc {n k : Nat} {z : Int} : m_lw h (e_inc n k z pc lv st h) := by
  unfold e_inc
  repeat' split
  all_goals first | exact lo_none | exact lo_id
theorem lo_e_get {idx : Nat} : m_lw h (e_get i idx pc lv st h) := by
  unfold e_get
  repeat' split
  all_goals first | exact lo_none | exact lo_id
theorem lo_e_put {idx : Nat} : m_lw h (e_put i idx pc lv st h) := by
  unfold e_put
  repeat' split
  all_goals first | exact lo_none | exact lo_id | (rename_i hc; exact lo_go (lo_si (Or.inr (by have := hc.1; have := hc.2.1; omega)))) | exact lo_go lo_sl | exact lo_go lo_sr
theorem lo_e_new {idx : Nat} : m_lw h (e_new i idx pc lv st h) := by
  unfold e_new
  repeat' split
  all_goals first | exact lo_none | exact lo_id | exact lo_go lo_new
theorem lo_e_anew {idx : Nat} : m_lw h (e_anew i idx pc lv st h) := by
  unfold e_anew
  repeat' split
  all_goals first | exact lo_none | exact lo_id | exact lo_go lo_new
theorem lo_e_grid {idx : Nat} : m_lw h (e_grid i idx pc lv st h) := by
  unfold e_grid
  repeat' split
  all_goals first | exact lo_none | exact lo_id | exact lo_go lo_grid
theorem lo_e_gets {idx : Nat} : m_lw h (e_gets i idx pc lv st h) := by
  unfold e_gets
  repeat' split
  all_goals first | exact lo_none | exact lo_id
theorem lo_e_iald {k0 k1 : Nat} : m_lw h (e_iald k0 k1 pc lv st h) := by
  unfold e_iald
  repeat' split
  all_goals first | exact lo_none | exact lo_id
theorem lo_e_lald : m_lw h (e_lald pc lv st h) := by
  unfold e_lald
  repeat' split
  all_goals first | exact lo_none | exact lo_id
theorem lo_e_aald : m_lw h (e_aald pc lv st h) := by
  unfold e_aald
  repeat' split
  all_goals first | exact lo_none | exact lo_id
theorem lo_e_iast : m_lw h (e_iast pc lv st h) := by
  unfold e_iast
  repeat' split
  all_goals first | exact lo_none | exact lo_id | (rename_i hc; exact lo_go (lo_si (Or.inl hc.1)))
theorem lo_e_bast : m_lw h (e_bast pc lv st h) := by
  unfold e_bast
  repeat' split
  all_goals first | exact lo_none | exact lo_id | (rename_i hc; exact lo_go (lo_si (Or.inl hc.1)))
theorem lo_e_last : m_lw h (e_last pc lv st h) := by
  unfold e_last
  repeat' split
  all_goals first | exact lo_none | exact lo_id | exact lo_go lo_sl
theorem lo_e_aast : m_lw h (e_aast pc lv st h) := by
  unfold e_aast
  repeat' split
  all_goals first | exact lo_none | exact lo_id | exact lo_go lo_sr
theorem lo_e_alen : m_lw h (e_alen pc lv st h) := by
  unfold e_alen
  repeat' split
  all_goals first | exact lo_none | exact lo_id
theorem lo_e_newa {t : ArrayType} : m_lw h (e_newa t pc lv st h) := by
  unfold e_newa
  repeat' split
  all_goals first | exact lo_none | exact lo_id | exact lo_go lo_new
theorem lo_e_ldc {w idx : Nat} : m_lw h (e_ldc w i idx pc lv st h) := by
  unfold e_ldc
  repeat' split
  all_goals first | exact lo_none | exact lo_id
theorem lo_e_cp : m_lw h (e_cp i pc lv st h) := by
  unfold e_cp
  split
  · split
    · next hc =>
      split
      · exact lo_go (lo_cpi hc.2.1)
      · split
        · exact lo_go lo_cpl
        · exact lo_none
    · exact lo_none
  · exact lo_none
theorem lo_e_call {kd idx : Nat} {q : MA} (hq : e_call kd i idx pc lv st h = some q) : (∃ S : MS, q = .inl S ∧ mlow h S.2.2.2) ∨ ∃ c, q = .inr (.inr c) := by
  revert hq
  unfold e_call
  repeat' split
  all_goals intro hq
  all_goals first | (exact Or.inl (lo_e_cp q hq)) | (exact Or.inl (lo_id q hq)) | (exact Or.inr ⟨_, (Option.some.inj hq).symm⟩) | (exact absurd hq (by simp))
theorem m_stw {q : MA} (hs : m_st i pc lv st h = some q) : (∃ S : MS, q = .inl S ∧ mlow h S.2.2.2) ∨ (∃ (v : Option Value) (ins : Instr), q = .inr (.inl (v, h)) ∧ decode (m_m i).2.2.1 pc = .ok (ins, 1) ∧ m_ri (m_rt i) ins v ∧ st = v.toList) ∨ (∃ (cl : Nat × List Value × List Value × Nat) (kd idx : Nat) (ins : Instr), q = .inr (.inr cl) ∧ decode (m_m i).2.2.1 pc = .ok (ins, 3) ∧ m_kdi kd idx ins ∧ e_call kd i idx pc lv st h = some (.inr (.inr cl))) := by
  unfold m_st at hs
  split at hs
  · next e9 he9 =>
    split at hs
    · next hlen =>
      have hd := m_dec he9
      obtain ⟨ins, len⟩ := e9
      dsimp only at hs hlen
      cases ins with
      | iadd => exact Or.inl (lo_e_ii q hs)
      | isub => exact Or.inl (lo_e_ii q hs)
      | imul => exact Or.inl (lo_e_ii q hs)
      | iand => exact Or.inl (lo_e_ii q hs)
      | ior => exact Or.inl (lo_e_ii q hs)
      | ixor => exact Or.inl (lo_e_ii q hs)
      | ishl => exact Or.inl (lo_e_ii q hs)
      | ishr => exact Or.inl (lo_e_ii q hs)
      | iushr => exact Or.inl (lo_e_ii q hs)
      | idiv => exact Or.inl (lo_e_dv q hs)
      | irem => exact Or.inl (lo_e_dv q hs)
      | ineg => exact Or.inl (lo_e_i q hs)
      | i2l => exact Or.inl (lo_e_i q hs)
      | i2b => exact Or.inl (lo_e_i q hs)
      | i2c => exact Or.inl (lo_e_i q hs)
      | ladd => exact Or.inl (lo_e_ll q hs)
      | lsub => exact Or.inl (lo_e_ll q hs)
      | land => exact Or.inl (lo_e_ll q hs)
      | lor => exact Or.inl (lo_e_ll q hs)
      | lxor => exact Or.inl (lo_e_ll q hs)
      | lshl => exact Or.inl (lo_e_li q hs)
      | lshr => exact Or.inl (lo_e_li q hs)
      | lushr => exact Or.inl (lo_e_li q hs)
      | lneg => exact Or.inl (lo_e_l q hs)
      | l2i => exact Or.inl (lo_e_l q hs)
      | iconst k => exact Or.inl (lo_id q hs)
      | lconst k => exact Or.inl (lo_id q hs)
      | bipush k => exact Or.inl (lo_id q hs)
      | sipush k => exact Or.inl (lo_id q hs)
      | aconst_null => exact Or.inl (lo_id q hs)
      | iload k => exact Or.inl (lo_e_ild q hs)
      | iload_n k => exact Or.inl (lo_e_ild q hs)
      | lload k => exact Or.inl (lo_e_lld q hs)
      | lload_n k => exact Or.inl (lo_e_lld q hs)
      | aload k => exact Or.inl (lo_e_ald q hs)
      | aload_n k => exact Or.inl (lo_e_ald q hs)
      | istore k => exact Or.inl (lo_e_ist q hs)
      | istore_n k => exact Or.inl (lo_e_ist q hs)
      | lstore k => exact Or.inl (lo_e_lst q hs)
      | lstore_n k => exact Or.inl (lo_e_lst q hs)
      | astore k => exact Or.inl (lo_e_ast q hs)
      | astore_n k => exact Or.inl (lo_e_ast q hs)
      | iinc k z => exact Or.inl (lo_e_inc q hs)
      | goto o => exact Or.inl (lo_tg q hs)
      | getfield k => exact Or.inl (lo_e_get q hs)
      | putfield k => exact Or.inl (lo_e_put q hs)
      | getstatic k => exact Or.inl (lo_e_gets q hs)
      | new k => exact Or.inl (lo_e_new q hs)
      | anewarray k => exact Or.inl (lo_e_anew q hs)
      | multianewarray idx d =>
        simp only [m_ex] at hs
        split at hs
        · exact Or.inl (lo_e_grid q hs)
        · cases hs
      | iaload => exact Or.inl (lo_e_iald q hs)
      | baload => exact Or.inl (lo_e_iald q hs)
      | laload => exact Or.inl (lo_e_lald q hs)
      | aaload => exact Or.inl (lo_e_aald q hs)
      | iastore => exact Or.inl (lo_e_iast q hs)
      | bastore => exact Or.inl (lo_e_bast q hs)
      | lastore => exact Or.inl (lo_e_last q hs)
      | aastore => exact Or.inl (lo_e_aast q hs)
      | arraylength => exact Or.inl (lo_e_alen q hs)
      | newarray t => exact Or.inl (lo_e_newa q hs)
      | ldc k => exact Or.inl (lo_e_ldc q hs)
      | ldc_w k => exact Or.inl (lo_e_ldc q hs)
      | dup =>
        refine Or.inl ((show m_lw h _ from ?_) q hs)
        simp only [m_ex]
        repeat' split
        all_goals first | exact lo_none | exact lo_id | exact lo_tg | exact lo_br
      | pop =>
        refine Or.inl ((show m_lw h _ from ?_) q hs)
        simp only [m_ex]
        repeat' split
        all_goals first | exact lo_none | exact lo_id | exact lo_tg | exact lo_br
      | pop2 =>
        refine Or.inl ((show m_lw h _ from ?_) q hs)
        simp only [m_ex]
        repeat' split
        all_goals first | exact lo_none | exact lo_id | exact lo_tg | exact lo_br
      | dup2 =>
        refine Or.inl ((show m_lw h _ from ?_) q hs)
        simp only [m_ex]
        repeat' split
        all_goals first | exact lo_none | exact lo_id | exact lo_tg | exact lo_br
      | lcmp =>
        refine Or.inl ((show m_lw h _ from ?_) q hs)
        simp only [m_ex]
        repeat' split
        all_goals first | exact lo_none | exact lo_id | exact lo_tg | exact lo_br
      | ldc2_w k =>
        refine Or.inl ((show m_lw h _ from ?_) q hs)
        simp only [m_ex]
        repeat' split
        all_goals first | exact lo_none | exact lo_id | exact lo_tg | exact lo_br
      | ifCond cc o =>
        refine Or.inl ((show m_lw h _ from ?_) q hs)
        simp only [m_ex]
        repeat' split
        all_goals first | exact lo_none | exact lo_id | exact lo_tg | exact lo_br
      | if_icmp cc o =>
        refine Or.inl ((show m_lw h _ from ?_) q hs)
        simp only [m_ex]
        repeat' split
        all_goals first | exact lo_none | exact lo_id | exact lo_tg | exact lo_br
      | ifnull o =>
        refine Or.inl ((show m_lw h _ from ?_) q hs)
        simp only [m_ex]
        repeat' split
        all_goals first | exact lo_none | exact lo_id | exact lo_tg | exact lo_br
      | ifnonnull o =>
        refine Or.inl ((show m_lw h _ from ?_) q hs)
        simp only [m_ex]
        repeat' split
        all_goals first | exact lo_none | exact lo_id | exact lo_tg | exact lo_br
      | tableswitch d lo hi offs =>
        refine Or.inl ((show m_lw h _ from ?_) q hs)
        simp only [m_ex]
        repeat' split
        all_goals first | exact lo_none | exact lo_id | exact lo_tg | exact lo_br
      | invokestatic k =>
        cases (m_l1 (a := 0) 3 (by decide) hlen)
        rcases lo_e_call hs with h9 | ⟨cl, h9⟩
        · exact Or.inl h9
        · subst h9
          exact Or.inr (Or.inr ⟨cl, 0, k, _, rfl, hd, Or.inl ⟨rfl, rfl⟩, hs⟩)
      | invokevirtual k =>
        cases (m_l1 (a := 0) 3 (by decide) hlen)
        rcases lo_e_call hs with h9 | ⟨cl, h9⟩
        · exact Or.inl h9
        · subst h9
          exact Or.inr (Or.inr ⟨cl, 1, k, _, rfl, hd, Or.inr (Or.inl ⟨rfl, rfl⟩), hs⟩)
      | invokespecial k =>
        cases (m_l1 (a := 0) 3 (by decide) hlen)
        rcases lo_e_call hs with h9 | ⟨cl, h9⟩
        · exact Or.inl h9
        · subst h9
          exact Or.inr (Or.inr ⟨cl, 2, k, _, rfl, hd, Or.inr (Or.inr ⟨rfl, rfl⟩), hs⟩)
      | ireturn =>
        cases (m_l1 (a := 0) 1 (by decide) hlen)
        simp only [m_ex] at hs
        split at hs
        · split at hs
          · next hr9 =>
            cases hs
            exact Or.inr (Or.inl ⟨_, _, rfl, hd, Or.inl ⟨_, rfl, rfl, hr9⟩, rfl⟩)
          · cases hs
        · cases hs
      | lreturn =>
        cases (m_l1 (a := 0) 1 (by decide) hlen)
        simp only [m_ex] at hs
        split at hs
        · split at hs
          · next hr9 =>
            cases hs
            exact Or.inr (Or.inl ⟨_, _, rfl, hd, Or.inr (Or.inl ⟨_, rfl, rfl, hr9⟩), rfl⟩)
          · cases hs
        · cases hs
      | areturn =>
        cases (m_l1 (a := 0) 1 (by decide) hlen)
        simp only [m_ex] at hs
        split at hs
        · split at hs
          · next hr9 =>
            cases hs
            exact Or.inr (Or.inl ⟨_, _, rfl, hd, Or.inr (Or.inr (Or.inl ⟨_, rfl, rfl, hr9⟩)), rfl⟩)
          · cases hs
        · cases hs
      | return_ =>
        cases (m_l1 (a := 0) 1 (by decide) hlen)
        simp only [m_ex] at hs
        split at hs
        · split at hs
          · next hr9 =>
            cases hs
            exact Or.inr (Or.inl ⟨_, _, rfl, hd, Or.inr (Or.inr (Or.inr ⟨rfl, rfl, hr9⟩)), rfl⟩)
          · cases hs
        · cases hs
      | _ => exact absurd hs (by simp [m_ex])
    · cases hs
  · cases hs
theorem mlow_rn : ∀ (n i pc : Nat) (lv : List (Nat × Value)) (st : List Value) (h : MH) (v : Option Value) (h' : MH), m_rn n i pc lv st h = some (v, h') → mlow h h'
  | 0, _, _, _, _, _, _, _, hr => by cases hr
  | n + 1, i, pc, lv, st, h, v, h', hr => by
    rw [m_rn] at hr
    split at hr
    · next pc1 lv1 st1 h1 hs =>
      rcases m_stw hs with ⟨S, g1, g2⟩ | ⟨v9, ins, g1, -⟩ | ⟨cl, kd, idx, ins, g1, -⟩
      · cases g1
        exact mlow.trans g2 (mlow_rn n _ _ _ _ _ _ _ hr)
      · cases g1
      · cases g1
    · next q hs =>
      cases hr
      rcases m_stw hs with ⟨S, g1, -⟩ | ⟨v9, ins, g1, -⟩ | ⟨cl, kd, idx, ins, g1, -⟩
      · cases g1
      · cases g1
        exact mlow.refl
      · cases g1
    · next j as r pc1 hs =>
      split at hr
      · split at hr
        · next v1 h1 h2 => exact mlow.trans (mlow_rn n _ _ _ _ _ _ _ h2) (mlow_rn n _ _ _ _ _ _ _ hr)
        · cases hr
      · cases hr
    · cases hr
end LOW
