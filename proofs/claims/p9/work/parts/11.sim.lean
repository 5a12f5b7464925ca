-- EVERY STEP, AND THE WHOLE RUN
section SIMM
variable {p : Program} {l : Launch} {e : Env} {R : Room} {s : State} {m : MethodId} {args : Array Value} {below : List Frame} {meth : Method} {c : Code} {Q : State → Prop} {i : Nat} {D : va_G} {tA : Nat → ClassId} {cst : Nat → Value} {b : Nat}
variable {H : Heap} {locs : List Loc} {cells slots : Nat} {pc : Nat} {ls : Array Slot} {lv : List (Nat × Value)} {st : List Value} {h : MH} {S : MS}
theorem m_l1 {a b : Nat} (k : Nat) (hk : 0 < k) (h : k = b ∨ k = 0) : b = k := by omega
set_option maxHeartbeats 4000000 in
theorem m_inl (C : SC p s m args meth c R i D tA cst b) (hR : HR D tA cst b s h H) (hlo : ∀ q ∈ locs, b ≤ q.base) (hl : lv_has ls (m_lc i) (ml cst b lv)) (hcl : cells ≤ R.cells) (hsl : slots ≤ R.slots) (hs : m_st i pc lv st h = some (.inl S)) : GS p l e R s m args below meth c H locs cells slots Q i D tA cst b h pc ls st S := by
  unfold m_st at hs
  split at hs
  · next e9 he9 =>
    split at hs
    · next hlen =>
      have hd := m_dec he9
      obtain ⟨ins, len⟩ := e9
      dsimp only at hs hlen
      cases ins with
      | iadd => exact PS.gs hR hlo (y_iadd C hl hd (m_l1 (a := 0) 1 (by decide) hlen) hs)
      | isub => exact PS.gs hR hlo (y_isub C hl hd (m_l1 (a := 0) 1 (by decide) hlen) hs)
      | imul => exact PS.gs hR hlo (y_imul C hl hd (m_l1 (a := 0) 1 (by decide) hlen) hs)
      | iand => exact PS.gs hR hlo (y_iand C hl hd (m_l1 (a := 0) 1 (by decide) hlen) hs)
      | ior => exact PS.gs hR hlo (y_ior C hl hd (m_l1 (a := 0) 1 (by decide) hlen) hs)
      | ixor => exact PS.gs hR hlo (y_ixor C hl hd (m_l1 (a := 0) 1 (by decide) hlen) hs)
      | ishl => exact PS.gs hR hlo (y_ishl C hl hd (m_l1 (a := 0) 1 (by decide) hlen) hs)
      | ishr => exact PS.gs hR hlo (y_ishr C hl hd (m_l1 (a := 0) 1 (by decide) hlen) hs)
      | iushr => exact PS.gs hR hlo (y_iushr C hl hd (m_l1 (a := 0) 1 (by decide) hlen) hs)
      | ladd => exact PS.gs hR hlo (y_ladd C hl hd (m_l1 (a := 0) 1 (by decide) hlen) hs)
      | lsub => exact PS.gs hR hlo (y_lsub C hl hd (m_l1 (a := 0) 1 (by decide) hlen) hs)
      | land => exact PS.gs hR hlo (y_land C hl hd (m_l1 (a := 0) 1 (by decide) hlen) hs)
      | lor => exact PS.gs hR hlo (y_lor C hl hd (m_l1 (a := 0) 1 (by decide) hlen) hs)
      | lxor => exact PS.gs hR hlo (y_lxor C hl hd (m_l1 (a := 0) 1 (by decide) hlen) hs)
      | lshl => exact PS.gs hR hlo (y_lshl C hl hd (m_l1 (a := 0) 1 (by decide) hlen) hs)
      | lshr => exact PS.gs hR hlo (y_lshr C hl hd (m_l1 (a := 0) 1 (by decide) hlen) hs)
      | lushr => exact PS.gs hR hlo (y_lushr C hl hd (m_l1 (a := 0) 1 (by decide) hlen) hs)
      | idiv => exact PS.gs hR hlo (y_idiv C hl hd (m_l1 (a := 0) 1 (by decide) hlen) hs)
      | irem => exact PS.gs hR hlo (y_irem C hl hd (m_l1 (a := 0) 1 (by decide) hlen) hs)
      | ineg => exact PS.gs hR hlo (y_ineg C hl hd (m_l1 (a := 0) 1 (by decide) hlen) hs)
      | lneg => exact PS.gs hR hlo (y_lneg C hl hd (m_l1 (a := 0) 1 (by decide) hlen) hs)
      | i2l => exact PS.gs hR hlo (y_i2l C hl hd (m_l1 (a := 0) 1 (by decide) hlen) hs)
      | i2b => exact PS.gs hR hlo (y_i2b C hl hd (m_l1 (a := 0) 1 (by decide) hlen) hs)
      | i2c => exact PS.gs hR hlo (y_i2c C hl hd (m_l1 (a := 0) 1 (by decide) hlen) hs)
      | l2i => exact PS.gs hR hlo (y_l2i C hl hd (m_l1 (a := 0) 1 (by decide) hlen) hs)
      | lcmp => exact PS.gs hR hlo (y_lcmp C hl hd (m_l1 (a := 0) 1 (by decide) hlen) hs)
      | dup => exact PS.gs hR hlo (y_dup C hl hd (m_l1 (a := 0) 1 (by decide) hlen) hs)
      | pop => exact PS.gs hR hlo (y_pop C hl hd (m_l1 (a := 0) 1 (by decide) hlen) hs)
      | pop2 => exact PS.gs hR hlo (y_pop2 C hl hd (m_l1 (a := 0) 1 (by decide) hlen) hs)
      | dup2 => exact PS.gs hR hlo (y_dup2 C hl hd (m_l1 (a := 0) 1 (by decide) hlen) hs)
      | iconst k => exact PS.gs hR hlo (y_iconst C hl hd (m_l1 (a := 0) 1 (by decide) hlen) hs)
      | lconst k => exact PS.gs hR hlo (y_lconst C hl hd (m_l1 (a := 0) 1 (by decide) hlen) hs)
      | iload_n k => exact PS.gs hR hlo (y_iload_n C hl hd (m_l1 (a := 0) 1 (by decide) hlen) hs)
      | lload_n k => exact PS.gs hR hlo (y_lload_n C hl hd (m_l1 (a := 0) 1 (by decide) hlen) hs)
      | aload_n k => exact PS.gs hR hlo (y_aload_n C hl hd (m_l1 (a := 0) 1 (by decide) hlen) hs)
      | istore_n k => exact PS.gs hR hlo (y_istore_n C hl hd (m_l1 (a := 0) 1 (by decide) hlen) hs)
      | lstore_n k => exact PS.gs hR hlo (y_lstore_n C hl hd (m_l1 (a := 0) 1 (by decide) hlen) hs)
      | astore_n k => exact PS.gs hR hlo (y_astore_n C hl hd (m_l1 (a := 0) 1 (by decide) hlen) hs)
      | aconst_null => exact PS.gs hR hlo (y_aconst C hl hd (m_l1 (a := 0) 1 (by decide) hlen) hs)
      | bipush k => exact PS.gs hR hlo (y_bipush C hl hd (m_l1 (a := 0) 2 (by decide) hlen) hs)
      | iload k => exact PS.gs hR hlo (y_iload C hl hd (m_l1 (a := 0) 2 (by decide) hlen) hs)
      | lload k => exact PS.gs hR hlo (y_lload C hl hd (m_l1 (a := 0) 2 (by decide) hlen) hs)
      | aload k => exact PS.gs hR hlo (y_aload C hl hd (m_l1 (a := 0) 2 (by decide) hlen) hs)
      | istore k => exact PS.gs hR hlo (y_istore C hl hd (m_l1 (a := 0) 2 (by decide) hlen) hs)
      | lstore k => exact PS.gs hR hlo (y_lstore C hl hd (m_l1 (a := 0) 2 (by decide) hlen) hs)
      | astore k => exact PS.gs hR hlo (y_astore C hl hd (m_l1 (a := 0) 2 (by decide) hlen) hs)
      | sipush k => exact PS.gs hR hlo (y_sipush C hl hd (m_l1 (a := 0) 3 (by decide) hlen) hs)
      | iinc k z => exact PS.gs hR hlo (y_iinc C hl hd (m_l1 (a := 0) 3 (by decide) hlen) hs)
      | goto o => exact PS.gs hR hlo (y_goto C hl hd (m_l1 (a := 0) 3 (by decide) hlen) hs)
      | ifnull o => exact PS.gs hR hlo (y_ifnull C hl hd (m_l1 (a := 0) 3 (by decide) hlen) hs)
      | ifnonnull o => exact PS.gs hR hlo (y_ifnonnull C hl hd (m_l1 (a := 0) 3 (by decide) hlen) hs)
      | if_icmp cc o => cases cc with
        | eq => exact PS.gs hR hlo (y_icmp_eq C hl hd (m_l1 (a := 0) 3 (by decide) hlen) hs)
        | ne => exact PS.gs hR hlo (y_icmp_ne C hl hd (m_l1 (a := 0) 3 (by decide) hlen) hs)
        | lt => exact PS.gs hR hlo (y_icmp_lt C hl hd (m_l1 (a := 0) 3 (by decide) hlen) hs)
        | ge => exact PS.gs hR hlo (y_icmp_ge C hl hd (m_l1 (a := 0) 3 (by decide) hlen) hs)
        | gt => exact PS.gs hR hlo (y_icmp_gt C hl hd (m_l1 (a := 0) 3 (by decide) hlen) hs)
        | le => exact PS.gs hR hlo (y_icmp_le C hl hd (m_l1 (a := 0) 3 (by decide) hlen) hs)
      | ifCond cc o => cases cc with
        | eq => exact PS.gs hR hlo (y_if_eq C hl hd (m_l1 (a := 0) 3 (by decide) hlen) hs)
        | ne => exact PS.gs hR hlo (y_if_ne C hl hd (m_l1 (a := 0) 3 (by decide) hlen) hs)
        | lt => exact PS.gs hR hlo (y_if_lt C hl hd (m_l1 (a := 0) 3 (by decide) hlen) hs)
        | ge => exact PS.gs hR hlo (y_if_ge C hl hd (m_l1 (a := 0) 3 (by decide) hlen) hs)
        | gt => exact PS.gs hR hlo (y_if_gt C hl hd (m_l1 (a := 0) 3 (by decide) hlen) hs)
        | le => exact PS.gs hR hlo (y_if_le C hl hd (m_l1 (a := 0) 3 (by decide) hlen) hs)
      | tableswitch d lo hi offs => exact PS.gs hR hlo (y_tsw C hl hd hs)
      | getfield idx => cases (m_l1 (a := 0) 3 (by decide) hlen); exact PS.gs hR hlo (z_get C hR hl hd hs)
      | putfield idx => cases (m_l1 (a := 0) 3 (by decide) hlen); exact HS.gs (z_put C hR hlo hl hd hs)
      | getstatic idx => cases (m_l1 (a := 0) 3 (by decide) hlen); exact PS.gs hR hlo (z_gets C hR hl hd hs)
      | iaload => cases (m_l1 (a := 0) 1 (by decide) hlen); exact PS.gs hR hlo (z_iald C hR hl hd hs)
      | baload => cases (m_l1 (a := 0) 1 (by decide) hlen); exact PS.gs hR hlo (z_bald C hR hl hd hs)
      | laload => cases (m_l1 (a := 0) 1 (by decide) hlen); exact PS.gs hR hlo (z_lald C hR hl hd hs)
      | aaload => cases (m_l1 (a := 0) 1 (by decide) hlen); exact PS.gs hR hlo (z_aald C hR hl hd hs)
      | iastore => cases (m_l1 (a := 0) 1 (by decide) hlen); exact HS.gs (z_iast C hR hlo hl hd hs)
      | bastore => cases (m_l1 (a := 0) 1 (by decide) hlen); exact HS.gs (z_bast C hR hlo hl hd hs)
      | lastore => cases (m_l1 (a := 0) 1 (by decide) hlen); exact HS.gs (z_last C hR hlo hl hd hs)
      | aastore => cases (m_l1 (a := 0) 1 (by decide) hlen); exact HS.gs (z_aast C hR hlo hl hd hs)
      | arraylength => cases (m_l1 (a := 0) 1 (by decide) hlen); exact PS.gs hR hlo (z_alen C hR hl hd hs)
      | newarray t => cases (m_l1 (a := 0) 2 (by decide) hlen); exact z_newa C hR hlo hl hd hs
      | new idx => cases (m_l1 (a := 0) 3 (by decide) hlen); exact z_new C hR hlo hl hd hs
      | anewarray idx => cases (m_l1 (a := 0) 3 (by decide) hlen); exact z_anew C hR hlo hl hd hs
      | ldc idx => cases (m_l1 (a := 0) 2 (by decide) hlen); exact PS.gs hR hlo (z_ldc C hl hd hs)
      | ldc_w idx => cases (m_l1 (a := 0) 3 (by decide) hlen); exact PS.gs hR hlo (z_ldcw C hl hd hs)
      | ldc2_w idx => cases (m_l1 (a := 0) 3 (by decide) hlen); exact PS.gs hR hlo (z_ldc2 C hl hd hs)
      | invokestatic idx => cases (m_l1 (a := 0) 3 (by decide) hlen); exact HS.gs (z_call1 C hR hlo hl hcl hsl hd (Or.inl ⟨rfl, rfl⟩) hs)
      | invokevirtual idx => cases (m_l1 (a := 0) 3 (by decide) hlen); exact HS.gs (z_call1 C hR hlo hl hcl hsl hd (Or.inr (Or.inl ⟨rfl, rfl⟩)) hs)
      | invokespecial idx => cases (m_l1 (a := 0) 3 (by decide) hlen); exact HS.gs (z_call1 C hR hlo hl hcl hsl hd (Or.inr (Or.inr ⟨rfl, rfl⟩)) hs)
      | multianewarray idx d =>
        cases (m_l1 (a := 0) 4 (by decide) hlen)
        simp only [m_ex] at hs
        split at hs
        · next hd2 =>
          subst hd2
          exact z_grid C hR hlo hl hd hs
        · cases hs
      | ireturn =>
        exfalso
        revert hs
        simp only [m_ex]
        repeat' split
        all_goals simp
      | lreturn =>
        exfalso
        revert hs
        simp only [m_ex]
        repeat' split
        all_goals simp
      | areturn =>
        exfalso
        revert hs
        simp only [m_ex]
        repeat' split
        all_goals simp
      | return_ =>
        exfalso
        revert hs
        simp only [m_ex]
        repeat' split
        all_goals simp
      | _ => exact absurd hs (by simp [m_ex])
    · cases hs
  · cases hs
-- what a method answers, and what it leaves
def m_Pc (D : va_G) (tA : Nat → ClassId) (cst : Nat → Value) (b : Nat) (h : MH) (as : List Value) : Array Value → State → Prop := fun a U => a = (as.map (mv cst b)).toArray ∧ HR D tA cst b U h U.heap ∧ KS D tA cst U
def m_Qc (D : va_G) (tA : Nat → ClassId) (cst : Nat → Value) (b : Nat) (v : Option Value) (h : MH) : Array Value → State → Outcome → State → Prop := fun _ _ o t => o = .returned (v.map (mv cst b)) ∧ HR D tA cst b t h t.heap
def m_rm (j mc ms : Nat) : Room := { frames := m_fr j, cells := mc, slots := ms, locals := m_lo j }
def m_ws (j : Nat) : List Cond := m_cw (m_m j) :: m_tg0
def m_met (l : Launch) (D : va_G) (tA : Nat → ClassId) (cst : Nat → Value) (b j : Nat) (as : List Value) (h : MH) (v : Option Value) (h' : MH) : Prop := Met l (m_m j).2.1 (m_ws j) (m_rm j (h_n h' - h_n h) (h_z h' - h_z h)) (m_Pc D tA cst b h as) (m_Qc D tA cst b v h') (h_n h' - h_n h) (h_z h' - h_z h) (fun q => b ≤ q)
theorem m_blind {h : MH} {as : List Value} : FrameBlind (m_Pc D tA cst b h as) := fun a U g mk q => ⟨q.1, HR.moved (u := U) (U := U.calling g mk a) (Vm.Alike.refl U.vm) q.2.1, KS.same (s := U) (U := U.calling g mk a) rfl q.2.2⟩
theorem m_pre {as : List Value} (hR : HR D tA cst b s h H) (hks : KS D tA cst s) (U : State) (hU : U.heap = H) (hW : s.WarmedH U.vm) : m_Pc D tA cst b h as (as.map (mv cst b)).toArray U := ⟨rfl, by rw [hU]; exact HR.moved hW.alike hR, KS.warm hW hks⟩
theorem m_cwin {j : Nat} (hj0 : 0 < j) (hj : j < 292) : m_cw (m_m j) ∈ m_tg0 := m_tgI (m_KC j hj0 hj) rfl
theorem m_gin {j : Nat} (hj0 : 0 < j) (hj : j < 292) : GoodIn m_tg0 (m_ws j) := by
  intro w hw
  rcases List.mem_cons.mp hw with q | q
  · rw [q]
    exact ⟨m_cwin hj0 hj, good_of_word rfl⟩
  · exact ⟨q, good_of_word (List.mem_filter.mp q).2⟩
theorem m_after {Qa : State → Outcome → State → Prop} {rest st0 : List Value} {mc ms : Nat} (hlo : ∀ q ∈ locs, b ≤ q.base) (hr : va_Run p l e R s m args below meth c H locs cells slots mc ms (F0 m pc ls st0) rest Qa (fun q => b ≤ q))
    (kk : ∀ (v : Option Value) (st₀ t : State) (L : List Loc), Qa st₀ (.returned v) t → s.vm.Alike t.vm → (∀ q ∈ locs ++ L, b ≤ q.base) → W p l e R s m args below meth c t.heap (locs ++ L) (cells + mc) (slots + ms) Q (F0 m (pc + 3) ls (v.toList ++ rest))) : W p l e R s m args below meth c H locs cells slots Q (F0 m pc ls st0) := by
  intro T hT X
  obtain ⟨v, st₀, t, T', L, h0, X', hL, e1, e2, hq, stp⟩ := hr T hT X
  obtain ⟨t2, a1, b1⟩ := kk v st₀ t L hq (by rw [← e2]; exact X'.warmed.alike) (fun q hq9 => by
    rcases List.mem_append.mp hq9 with h9 | h9
    · exact hlo q h9
    · exact hL q h9) T' e1 X'
  exact ⟨t2, stp t2 a1, b1⟩
theorem m_map_rev (as : List Value) : ((as.map (mv cst b)).reverse : List Value) = as.reverse.map (mv cst b) := by rw [List.map_reverse]
set_option maxHeartbeats 1000000 in
theorem m_callW (C : SC p s m args meth c R i D tA cst b) (hR : HR D tA cst b s h H) (hlo : ∀ q ∈ locs, b ≤ q.base) (hl : lv_has ls (m_lc i) (ml cst b lv)) {kd idx j pc' : Nat} {ins : Instr} {as r : List Value} {v1 : Option Value} {h1 : MH} (hd : decode (m_m i).2.2.1 pc = .ok (ins, 3)) (hi : (kd = 0 ∧ ins = .invokestatic idx) ∨ (kd = 1 ∧ ins = .invokevirtual idx) ∨ (kd = 2 ∧ ins = .invokespecial idx)) (hs : e_call kd i idx pc lv st h = some (.inr (.inr (j, as, r, pc'))))
    (hM : m_met l D tA cst b j as h v1 h1) (hcl : cells + (h_n h1 - h_n h) ≤ R.cells) (hsl : slots + (h_z h1 - h_z h) ≤ R.slots)
    (kk : pc' = pc + 3 → ∀ (H' : Heap) (locs' : List Loc), HR D tA cst b s h1 H' → (∀ q ∈ locs', b ≤ q.base) → W p l e R s m args below meth c H' locs' (cells + (h_n h1 - h_n h)) (slots + (h_z h1 - h_z h)) Q (F0 m pc' ls ((v1.toList ++ r).map (mv cst b)))) : W p l e R s m args below meth c H locs cells slots Q (F0 m pc ls (st.map (mv cst b))) := by
  obtain ⟨hx, hb, hml, hown, hts, hlocks, hini, hfr, hlo9, hks, hc, hr⟩ := id C
  unfold e_call at hs
  split at hs
  · next nest j9 hf =>
    have hw := m_mlw hf
    split at hs
    · split at hs
      · split at hs <;> cases hs
      · cases hs
    · split at hs
      · split at hs
        · exfalso
          revert hs
          unfold e_cp
          repeat' split
          all_goals simp [m_go]
        · cases hs
      · split at hs
        · split at hs
          · split at hs <;> cases hs
          · cases hs
        · next hj900 hj901 hmm1 =>
          split at hs
          · split at hs
            · split at hs <;> cases hs
            · cases hs
          · next hmm2 =>
            split at hs
            · next hk =>
              obtain ⟨hj0, hjN, hkind, hf1, hf2⟩ := hk
              have hnm : m_name j9 = (m_m j9).2.1 := m_nameq hjN hj900 hj901
              have hnok := m_kn _ (m_mem j9)
              have hkw := m_KW j9 hj0 hjN
              simp only [m_nok, Bool.and_eq_true, decide_eq_true_eq] at hnok
              obtain ⟨-, hn1, hn2, hn3, hn4⟩ := hnok
              have hG := m_gin hj0 hjN
              have hinit : Cond.initialized (m_m j9).2.1.cls ∈ m_tg0 := m_tgI (hkw _ (by unfold m_kw; split <;> exact List.mem_cons_self)) rfl
              have hlen : ∀ sig, parseMethodDescriptor (m_m j9).2.1.desc = some sig → m_na j9 = sig.parameters.length := fun sig hsig => by
                rw [hsig] at hn3
                exact (Option.some.inj hn3).symm
              have fin : ∀ st₀ t L (v : Option Value), j9 = j → pc + 3 = pc' → m_Qc D tA cst b v1 h1 ((as.map (mv cst b)).toArray) st₀ (.returned v) t → s.vm.Alike t.vm → (∀ q ∈ locs ++ L, b ≤ q.base) → ∀ r9, r9 = r → W p l e R s m args below meth c t.heap (locs ++ L) (cells + (h_n h1 - h_n h)) (slots + (h_z h1 - h_z h)) Q (F0 m (pc + 3) ls (v.toList ++ r9.map (mv cst b))) := by
                intro st₀ t L v ej ep hq hal hlo2 r9 hr9
                subst hr9
                obtain ⟨hv, hR1⟩ := hq
                have hv : v = v1.map (mv cst b) := by
                  cases hv
                  rfl
                have K := kk ep.symm t.heap (locs ++ L) (HR.moved hal.symm hR1) hlo2
                rw [← ep] at K
                rw [hv]
                cases v1 with
                | none => exact K
                | some v9 => exact K
              have hB : m_met l D tA cst b j as h v1 h1 → j9 = j → Cond.code (m_m j9).2.1 (m_m j9).2.2.1 (m_lc j9) (m_rt j9) ∈ m_ws j9 := fun _ _ => List.mem_cons_self
              split at hs
              · next hk0 =>
                subst hk0
                have hins : ins = .invokestatic idx := by
                  rcases hi with ⟨-, q⟩ | ⟨q, -⟩ | ⟨q, -⟩
                  · exact q
                  · omega
                  · omega
                subst hins
                split at hs
                · next hst =>
                  cases hs
                  have hstat : Cond.static (m_m j).2.1 ∈ m_tg0 := m_tgI (hkw _ (by unfold m_kw; rw [show (m_m j).2.2.2.2.2.1 = 0 from hkind]; exact List.mem_cons_of_mem _ List.mem_cons_self)) rfl
                  have hAs : ((st.take (m_na j)).reverse.map (mv cst b)).length = m_na j := by
                    rw [List.length_map, List.length_reverse, List.length_take]
                    omega
                  have hstk : st.map (mv cst b) = ((st.take (m_na j)).reverse.map (mv cst b)).reverse ++ (st.drop (m_na j)).map (mv cst b) := by
                    rw [← List.map_reverse, List.reverse_reverse, ← List.map_append, List.take_append_drop]
                  unfold m_met at hM
                  have hp : PreS s H (m_Pc D tA cst b h (st.take (m_na j)).reverse) ((st.take (m_na j)).reverse.map (mv cst b)) := ⟨m_blind, fun U hU hW => m_pre hR hks U hU hW⟩
                  rcases Nat.eq_zero_or_pos nest with hn0 | hn0
                  · subst hn0
                    have hlk : (Cond.methodLink (m_m i).2.1.cls idx (m_m j).2.1).before args s = true := by
                      rw [← hnm]
                      exact hts _ (m_tgI hw rfl)
                    exact m_after hlo (va_runS (n := m_na j) (rest := (st.drop (m_na j)).map (mv cst b)) ⟨hx, hb, hml, hown, hts⟩ hM ⟨⟨rfl, rfl, Nat.le_trans hf1 hfr, Nat.le_trans hf2 hlo9, pay_in hts hG, hB hM rfl, hts _ (m_cwin hj0 hjN), hts _ hinit, ⟨hn1, hn2⟩, hlen, hlk⟩, hts _ hstat⟩ hp rfl hAs hl.1 hstk (lv_room (by rw [mv_sum hc]; exact hst.2)) hd ⟨hcl, hsl⟩) (fun v st₀ t L hq hal hlo2 => fin st₀ t L v rfl rfl hq hal hlo2 _ rfl)
                  · have hlk : (Cond.methodLinkNest (m_m i).2.1.cls idx (m_m j).2.1 "PastHeaps").before args s = true := by
                      rw [← hnm]
                      unfold m_mw at hw
                      rw [if_neg (show ¬ ((idx, nest, j) : Nat × Nat × Nat).2.1 = 0 from Nat.ne_of_gt hn0)] at hw
                      exact va_Nw.use rfl (hks.2.1 _ hw rfl)
                    exact m_after hlo (va_runSN (n := m_na j) (rest := (st.drop (m_na j)).map (mv cst b)) ⟨hx, hb, hml, hown, hts⟩ hM ⟨⟨⟨rfl, rfl, Nat.le_trans hf1 hfr, Nat.le_trans hf2 hlo9, pay_in hts hG, hB hM rfl⟩, hts _ (m_cwin hj0 hjN), hts _ hinit, ⟨hn1, hn2⟩, hlen, hlk⟩, hts _ hstat, trivial⟩ hp rfl hAs hl.1 hstk (lv_room (by rw [mv_sum hc]; exact hst.2)) hd ⟨hcl, hsl⟩) (fun v st₀ t L hq hal hlo2 => fin st₀ t L v rfl rfl hq hal hlo2 _ rfl)
                · cases hs
              · next hk0 =>
                split at hs
                · next a r9 hdrop =>
                  by_cases hst : m_na j9 + 1 ≤ st.length ∧ m_cat r9 ≤ 8 ∧ (if (m_m j9).2.1.cls = "java/lang/String" then (h_k h a).1 = 40 else m_cnm ((h_k h a).1 - 1) = (m_m j9).2.1.cls ∧ 16 ≤ a ∧ 0 < (h_k h a).1 ∧ (h_k h a).1 < 11)
                  · rw [if_pos hst] at hs
                    obtain ⟨hst1, hst2, hrec⟩ := hst
                    cases hs
                    have hAs : ((st.take (m_na j)).reverse.map (mv cst b)).length = m_na j := by
                      rw [List.length_map, List.length_reverse, List.length_take]
                      omega
                    have hrecv : ∃ (y : Nat) (cellB : Cell), mv cst b (.ref a) = .ref y ∧ H[y]? = some cellB ∧ cellB.vm.isStatics = false ∧ s.vm.findClass (m_m j).2.1.cls = some cellB.cls := by
                      split at hrec
                      · next hstr =>
                        have ha : a < 16 := by
                          rcases Nat.lt_or_ge a 16 with q | q
                          · exact q
                          · rcases hR.cell q (by omega) with ⟨q1, q2, q3⟩ | ⟨q1, q2, q3⟩
                            · omega
                            · rw [hrec] at q1
                              exact absurd q1 (by decide)
                        have ha0 : a ≠ 0 := by
                          intro e9
                          rw [e9] at hrec
                          have := hR.2.2.2.2.2
                          omega
                        have hq := hR.2.2.2.1 a ha
                        unfold m_cst at hq
                        rw [hrec] at hq
                        obtain ⟨y, g1, g2, ⟨cell, g3, g4, g5, g6⟩, -, -⟩ := hq
                        exact ⟨y, cell, by rw [mv_cst ha0 ha, g1], g3, g4, by rw [hstr]; exact g5⟩
                      · obtain ⟨hnm9, ha, hk1, hk2⟩ := hrec
                        have hci : (h_k h a).1 - 1 < 10 := by omega
                        obtain ⟨q, hq, -⟩ := m_clf _ hci
                        obtain ⟨cv, kC, g1, g2, g3, g4, g5, g6, g7⟩ := z_objc hks hR (show (h_k h a).1 = ((h_k h a).1 - 1) + 1 by omega) hci hq
                        have hq1 : q.1 = (m_m j).2.1.cls := by
                          rw [← hnm9]
                          unfold m_cnm
                          rw [hq]
                        exact ⟨_, cv, mv_dyn ha, g1, g7, by rw [← hq1]; exact g6⟩
                    obtain ⟨y, cellB, hy, hcB, hoB, hclB⟩ := hrecv
                    have hstk : st.map (mv cst b) = ((st.take (m_na j)).reverse.map (mv cst b)).reverse ++ .ref y :: r.map (mv cst b) := by
                      rw [← List.map_reverse, List.reverse_reverse]
                      conv => lhs; rw [← List.take_append_drop (m_na j) st, hdrop]
                      rw [List.map_append, List.map_cons, hy]
                    have hmap : (((.ref a : Value) :: (st.take (m_na j)).reverse).map (mv cst b)) = .ref y :: (st.take (m_na j)).reverse.map (mv cst b) := by
                      rw [List.map_cons, hy]
                    unfold m_met at hM
                    have hpre9 : ∀ U : State, U.heap = H → s.WarmedH U.vm → m_Pc D tA cst b h (.ref a :: (st.take (m_na j)).reverse) (.ref y :: (st.take (m_na j)).reverse.map (mv cst b)).toArray U := fun U hU hW => by
                      rw [← hmap]
                      exact m_pre hR hks U hU hW
                    have fin2 : ∀ (v : Option Value) (st₀ t : State) (L : List Loc), m_Qc D tA cst b v1 h1 ((.ref y :: (st.take (m_na j)).reverse.map (mv cst b)).toArray) st₀ (.returned v) t → s.vm.Alike t.vm → (∀ q ∈ locs ++ L, b ≤ q.base) → W p l e R s m args below meth c t.heap (locs ++ L) (cells + (h_n h1 - h_n h)) (slots + (h_z h1 - h_z h)) Q (F0 m (pc + 3) ls (v.toList ++ r.map (mv cst b))) := fun v st₀ t L hq hal hlo2 => fin st₀ t L v rfl rfl hq hal hlo2 _ rfl
                    rcases hi with ⟨q, -⟩ | ⟨q, hins⟩ | ⟨q, hins⟩
                    · exact absurd q hk0
                    · subst q
                      subst hins
                      have hinst : Cond.instanceMethod (m_m j).2.1 ∈ m_tg0 := m_tgI (hkw _ (by unfold m_kw; rw [show (m_m j).2.2.2.2.2.1 = 1 from hkind]; exact List.mem_cons_of_mem _ List.mem_cons_self)) rfl
                      have hsel : Cond.selects (m_m j).2.1.cls (m_m j).2.1 (m_m j).2.1 ∈ m_tg0 := m_tgI (hkw _ (by unfold m_kw; rw [show (m_m j).2.2.2.2.2.1 = 1 from hkind]; exact List.mem_cons_of_mem _ (List.mem_cons_of_mem _ List.mem_cons_self))) rfl
                      have hp : PreV s H (m_m j).2.1.cls y (m_Pc D tA cst b h (.ref a :: (st.take (m_na j)).reverse)) ((st.take (m_na j)).reverse.map (mv cst b)) := ⟨m_blind, ⟨cellB, hcB, hoB, hclB⟩, hpre9⟩
                      rcases Nat.eq_zero_or_pos nest with hn0 | hn0
                      · subst hn0
                        have hlk : (Cond.methodLink (m_m i).2.1.cls idx (m_m j).2.1).before args s = true := by
                          rw [← hnm]
                          exact hts _ (m_tgI hw rfl)
                        exact m_after hlo (va_runV (n := m_na j) (rest := r.map (mv cst b)) ⟨hx, hb, hml, hown, hts⟩ hM ⟨⟨rfl, rfl, Nat.le_trans hf1 hfr, Nat.le_trans hf2 hlo9, pay_in hts hG, hB hM rfl, hts _ (m_cwin hj0 hjN), hts _ hinit, ⟨hn1, hn2⟩, hlen, hlk⟩, hts _ hinst, hts _ hsel⟩ hp rfl hAs hl.1 hstk (lv_room (by rw [mv_sum hc]; exact hst2)) hd ⟨hcl, hsl⟩) fin2
                      · have hlk : (Cond.methodLinkNest (m_m i).2.1.cls idx (m_m j).2.1 "PastHeaps").before args s = true := by
                          rw [← hnm]
                          unfold m_mw at hw
                          rw [if_neg (show ¬ ((idx, nest, j) : Nat × Nat × Nat).2.1 = 0 from Nat.ne_of_gt hn0)] at hw
                          exact va_Nw.use rfl (hks.2.1 _ hw rfl)
                        exact m_after hlo (va_runVN (n := m_na j) (rest := r.map (mv cst b)) ⟨hx, hb, hml, hown, hts⟩ hM ⟨⟨⟨rfl, rfl, Nat.le_trans hf1 hfr, Nat.le_trans hf2 hlo9, pay_in hts hG, hB hM rfl⟩, hts _ (m_cwin hj0 hjN), hts _ hinit, ⟨hn1, hn2⟩, hlen, hlk⟩, hts _ hinst, hts _ hsel⟩ hp rfl hAs hl.1 hstk (lv_room (by rw [mv_sum hc]; exact hst2)) hd ⟨hcl, hsl⟩) fin2
                    · subst q
                      subst hins
                      have hinst : Cond.instanceMethod (m_m j).2.1 ∈ m_tg0 := m_tgI (hkw _ (by unfold m_kw; rw [show (m_m j).2.2.2.2.2.1 = 2 from hkind]; exact List.mem_cons_of_mem _ List.mem_cons_self)) rfl
                      obtain ⟨hy1, hret⟩ := hn4 hkind
                      have hp : PreS s H (m_Pc D tA cst b h (.ref a :: (st.take (m_na j)).reverse)) (.ref y :: (st.take (m_na j)).reverse.map (mv cst b)) := ⟨m_blind, hpre9⟩
                      have hcode9 : (Cond.code (m_m j).2.1 (m_m j).2.2.1 (m_lc j) none).before args s = true := by
                        rw [← hret]
                        exact hts _ (m_cwin hj0 hjN)
                      have hB9 : Cond.code (m_m j).2.1 (m_m j).2.2.1 (m_lc j) none ∈ m_ws j := by
                        rw [← hret]
                        exact hB hM rfl
                      rcases Nat.eq_zero_or_pos nest with hn0 | hn0
                      · subst hn0
                        have hlk : (Cond.methodLink (m_m i).2.1.cls idx (m_m j).2.1).before args s = true := by
                          rw [← hnm]
                          exact hts _ (m_tgI hw rfl)
                        exact m_after hlo (va_runI (n := m_na j) (rest := r.map (mv cst b)) ⟨hx, hb, hml, hown, hts⟩ hM ⟨⟨rfl, rfl, Nat.le_trans hf1 hfr, Nat.le_trans hf2 hlo9, pay_in hts hG, hB9, hcode9, hts _ hinit, ⟨hn1, hn2⟩, hlen, hlk⟩, hy1, hts _ hinst⟩ hp rfl hAs hl.1 hstk (lv_room (by rw [mv_sum hc]; exact hst2)) hd ⟨hcl, hsl⟩) fin2
                      · have hlk : (Cond.methodLinkNest (m_m i).2.1.cls idx (m_m j).2.1 "PastHeaps").before args s = true := by
                          rw [← hnm]
                          unfold m_mw at hw
                          rw [if_neg (show ¬ ((idx, nest, j) : Nat × Nat × Nat).2.1 = 0 from Nat.ne_of_gt hn0)] at hw
                          exact va_Nw.use rfl (hks.2.1 _ hw rfl)
                        exact m_after hlo (va_runIN (n := m_na j) (rest := r.map (mv cst b)) ⟨hx, hb, hml, hown, hts⟩ hM ⟨⟨⟨rfl, rfl, Nat.le_trans hf1 hfr, Nat.le_trans hf2 hlo9, pay_in hts hG, hB9⟩, hcode9, hts _ hinit, ⟨hn1, hn2⟩, hlen, hlk⟩, hy1, hts _ hinst⟩ hp rfl hAs hl.1 hstk (lv_room (by rw [mv_sum hc]; exact hst2)) hd ⟨hcl, hsl⟩) fin2
                  · rw [if_neg hst] at hs
                    cases hs
                · cases hs
            · cases hs
  · cases hs
end SIMM
