-- ELEMENTS AT A PLACE THAT IS ONLY A WORD: read twice, the same
def y_ix (S : AST) (j : LE) : Option (AST × Nat) := match j with
  | ([(n, 1)], 0) => some (S, n)
  | j => if f_S (a_nx S) S = true ∧ l_fr (a_nx S) j.1 = true then some (w_nx (w_cs (w_iv S ((a_nx S, (-2147483648, 2147483647)) :: a_iv S)) (le_sub (le_s (a_nx S)) j :: le_sub j (le_s (a_nx S)) :: a_cs S)) (a_nx S + 1), a_nx S) else none
def y_rd (sp : List RS) (S : AST) (o R n : Nat) : Option AST := if r_ev S o R = true ∧ f_S (a_nx S) S = true ∧ o ≠ a_nx S ∧ n ≠ a_nx S then (match sp[R]? with
  | some rs => if rs.2.2.1 = true ∧ t_ix sp S o R (le_s n) rs.1.2.1 = true then (match r_ft rs 0 with
    | some (.inl p) => some (w_nx (w_ca (w_iv S ((a_nx S, p) :: a_iv S)) (((o, (R, 5000 + n)), .inl (le_s (a_nx S))) :: a_ca S)) (a_nx S + 1))
    | some (.inr (.inr q)) => some (w_nx (w_ca S (((o, (R, 5000 + n)), .inr (.inr (a_nx S, q))) :: a_ca S)) (a_nx S + 1))
    | _ => none) else none
  | none => none) else none
section
variable {sp : List RS} {ρ : Nat → Nat} {W : List (Nat × Nat)} {K : List Int} {KA : List Nat} {S S' : AST} {lv' : List (Nat × Value)} {st' : List Value} {h : MH} {pc : Nat} {σ : Nat → Int} {α : Nat → Nat}
theorem y_ixS {j : LE} {x : Int32} {n : Nat} (hw : TW ρ K KA S lv' st' h σ α) (hx : x.toInt = le_ev σ j) (e : y_ix S j = some (S', n)) : (∃ σ' α', TW ρ K KA S' lv' st' h σ' α') ∧ a_st S' = a_st S := by
  unfold y_ix at e
  split at e
  · cases e
    exact ⟨⟨σ, α, hw⟩, rfl⟩
  · split at e
    · next hc =>
      cases e
      refine ⟨⟨s_up σ (a_nx S) x.toInt, o_up α (a_nx S) 0, ?_⟩, rfl⟩
      obtain ⟨w1, w2, w3, w4, w5, w6, w7⟩ := f_SS x.toInt 0 hc.1 hw
      have hn : s_up σ (a_nx S) x.toInt (a_nx S) = x.toInt := if_pos rfl
      have hj : le_ev (s_up σ (a_nx S) x.toInt) j = x.toInt := by rw [le_frS σ _ _ j hc.2, hx]
      refine ⟨fun q hq => ?_, fun q hq => ?_, w3, w4, w5, w6, w7⟩
      · rcases List.mem_cons.mp hq with e | hq
        · rw [e]
          dsimp only
          rw [hn]
          exact g_iT x
        · exact w1 q hq
      · rcases List.mem_cons.mp hq with e | hq
        · rw [e, le_subE, le_sE, hn, hj]
          omega
        · rcases List.mem_cons.mp hq with e | hq
          · rw [e, le_subE, le_sE, hn, hj]
            omega
          · exact w2 q hq
    · cases e
theorem y_rdS {o R n : Nat} (ht : TH sp ρ h) (hw : TW ρ K KA S lv' st' h σ α) (e : y_rd sp S o R n = some S') : (∃ σ' α', TW ρ K KA S' lv' st' h σ' α') ∧ a_st S' = a_st S := by
  unfold y_rd at e
  split at e
  · next hc =>
    obtain ⟨c1, c2, c3, c4⟩ := hc
    obtain ⟨hR, ha, hρ⟩ := r_evS hw c1
    split at e
    · next rs hsp =>
      have hcell := t_spec ht hR hsp hρ
      split at e
      · next har2 =>
        obtain ⟨har, hti⟩ := har2
        have hzn := t_ixZ hw hcell.2.1.1 hti
        rw [le_sE] at hzn
        have hzl : rs.2.2.1 = true → (σ n).toNat < (h_k h (α o)).2 := fun _ => by omega
        have hft : ∀ i, r_ft rs i = r_ft rs 0 := fun i => by
          unfold r_ft
          rw [har]
        have hkx : ∀ σ : Nat → Int, t_kx σ (5000 + n) = (σ n).toNat := fun σ => by
          unfold t_kx
          rw [if_neg (by omega), Nat.add_sub_cancel_left]
        split at e
        · next p hp =>
          cases e
          have hv : p.1 ≤ (h_i h (α o) (σ n).toNat).toInt ∧ (h_i h (α o) (σ n).toNat).toInt ≤ p.2 := hcell.2.2.2 (σ n).toNat _ ((hft _).trans hp) hzl
          refine ⟨⟨s_up σ (a_nx S) (h_i h (α o) (σ n).toNat).toInt, o_up α (a_nx S) 0, ?_⟩, rfl⟩
          obtain ⟨w1, w2, w3, w4, w5, w6, w7⟩ := f_SS (h_i h (α o) (σ n).toNat).toInt 0 c2 hw
          have hn : s_up σ (a_nx S) (h_i h (α o) (σ n).toNat).toInt (a_nx S) = (h_i h (α o) (σ n).toNat).toInt := if_pos rfl
          have hnn : s_up σ (a_nx S) (h_i h (α o) (σ n).toNat).toInt n = σ n := if_neg c4
          have ho : o_up α (a_nx S) 0 o = α o := if_neg c3
          refine ⟨fun q hq => ?_, w2, fun q hq => ?_, w4, w5, w6, w7⟩
          · rcases List.mem_cons.mp hq with e | hq
            · rw [e]
              dsimp only
              rw [hn]
              exact hv
            · exact w1 q hq
          · rcases List.mem_cons.mp hq with e | hq
            · rw [e]
              dsimp only
              rw [ho]
              refine ⟨⟨ha, hρ⟩, ?_⟩
              unfold t_fv
              dsimp only
              rw [if_neg (by omega), hkx, hnn, le_sE, hn]
            · exact w3 q hq
        · next q0 hp =>
          cases e
          have hv : t_rf ρ q0.1 q0.2 (h_r h (α o) (σ n).toNat) := hcell.2.2.2 (σ n).toNat _ ((hft _).trans hp) hzl
          refine ⟨⟨s_up σ (a_nx S) 0, o_up α (a_nx S) (h_r h (α o) (σ n).toNat), ?_⟩, rfl⟩
          obtain ⟨w1, w2, w3, w4, w5, w6, w7⟩ := f_SS 0 (h_r h (α o) (σ n).toNat) c2 hw
          have hn : o_up α (a_nx S) (h_r h (α o) (σ n).toNat) (a_nx S) = h_r h (α o) (σ n).toNat := if_pos rfl
          have hnn : s_up σ (a_nx S) 0 n = σ n := if_neg c4
          have ho : o_up α (a_nx S) (h_r h (α o) (σ n).toNat) o = α o := if_neg c3
          refine ⟨w1, w2, fun q hq => ?_, w4, w5, w6, w7⟩
          rcases List.mem_cons.mp hq with e | hq
          · rw [e]
            dsimp only
            rw [ho]
            refine ⟨⟨ha, hρ⟩, ?_⟩
            show h_r h (α o) (t_kx (s_up σ (a_nx S) 0) (5000 + n)) = o_up α (a_nx S) (h_r h (α o) (σ n).toNat) (a_nx S) ∧ t_rf ρ q0.1 q0.2 (o_up α (a_nx S) (h_r h (α o) (σ n).toNat) (a_nx S))
            rw [hkx, hnn, hn]
            exact ⟨rfl, hv⟩
          · exact w3 q hq
        · cases e
      · cases e
    · cases e
  · cases e
end
-- the reading itself: known now
def y_st (sp : List RS) (S : AST) (o R : Nat) (j : LE) : Option AST := match c_sk S o R j (a_ca S) with
  | some _ => some S
  | none => (match y_ix S j with
    | some (S1, n) => y_rd sp S1 o R n
    | none => none)
def y_gi (pc : Nat) (S : AST) (o R : Nat) (j : LE) (r : List AT) : Option (List AO) := match c_sk S o R j (a_ca S) with
  | some (.inl e) => t_pe (pc + 1) S r e
  | _ => none
def y_gr (pc : Nat) (S : AST) (o R : Nat) (j : LE) (r : List AT) : Option (List AO) := match c_sk S o R j (a_ca S) with
  | some (.inr (.inr q)) => t_go (pc + 1) S (.inr (.inr q) :: r)
  | _ => none
def j_sali (sp : List RS) (k0 k1 pc : Nat) (S : AST) : Option (List AO) := match a_st S with
  | .inl j :: .inr (.inr (o, (R, true))) :: r => if R = 0 then none else (match sp[R]? with
    | some rs => if (rs.1.1 = k0 ∨ rs.1.1 = k1) ∧ t_ix sp S o R j rs.1.2.1 = true then (match y_st sp S o R j with
      | some S2 => y_gi pc S2 o R j r
      | none => none) else none
    | none => none)
  | _ => none
def j_sala (sp : List RS) (pc : Nat) (S : AST) : Option (List AO) := match a_st S with
  | .inl j :: .inr (.inr (o, (R, true))) :: r => if R = 0 then none else (match sp[R]? with
    | some rs => if (30 ≤ rs.1.1 ∧ rs.1.1 < 34) ∧ t_ix sp S o R j rs.1.2.1 = true then (match y_st sp S o R j with
      | some S2 => y_gr pc S2 o R j r
      | none => none) else none
    | none => none)
  | _ => none
section
variable {sp : List RS} {ρ : Nat → Nat} {W : List (Nat × Nat)} {K : List Int} {KA : List Nat} {S S' : AST} {lv' : List (Nat × Value)} {st' : List Value} {h : MH} {pc : Nat} {σ : Nat → Int} {α : Nat → Nat}
theorem y_stS {o R : Nat} {j : LE} {x : Int32} (ht : TH sp ρ h) (hw : TW ρ K KA S lv' st' h σ α) (hx : x.toInt = le_ev σ j) (e : y_st sp S o R j = some S') : (∃ σ' α', TW ρ K KA S' lv' st' h σ' α') ∧ a_st S' = a_st S := by
  unfold y_st at e
  split at e
  · cases e
    exact ⟨⟨σ, α, hw⟩, rfl⟩
  · split at e
    · next S1 n h1 =>
      obtain ⟨⟨σ1, α1, w1⟩, e1⟩ := y_ixS hw hx h1
      obtain ⟨g, e2⟩ := y_rdS ht w1 e
      exact ⟨g, e2.trans e1⟩
    · cases e
theorem q_sali (k0 k1 : Nat) (ht : TH sp ρ h) (hw : TW ρ K KA S lv' st' h σ α) : T_P sp ρ W K KA (j_sali sp k0 k1 pc S) h (e_iald k0 k1 pc lv' st' h) := by
  have hs := hw.2.2.2.2.2.2
  unfold j_sali
  split
  · next j o R r hst =>
    have hst0 := hst
    rw [hst] at hs
    obtain ⟨v, q, rfl, ⟨x, rfl, hx⟩, hq1⟩ := t_sc hs
    obtain ⟨v, q, rfl, ⟨rfl, hrf⟩, hq⟩ := t_sc hq1
    obtain ⟨ha0, haR⟩ := t_nn hrf
    dsimp only at ha0 haR
    split
    · exact q_no
    · next hR =>
      split
      · next rs hsp =>
        have hcell := t_spec ht hR hsp haR
        split
        · next hk =>
          have hin := t_ixS (n := 0) hw hx hcell.2.1.1 hk.2
          unfold e_iald
          dsimp only
          rw [if_pos (show ((h_k h (α o)).1 = k0 ∨ (h_k h (α o)).1 = k1) ∧ m_in x (h_k h (α o)).2 = true from ⟨by rw [hcell.1]; exact hk.1, hin⟩)]
          split
          · next S2 h2 =>
            obtain ⟨⟨σ2, α2, w2⟩, e2⟩ := y_stS ht hw hx h2
            have hs2 := w2.2.2.2.2.2.2
            rw [e2, hst0] at hs2
            obtain ⟨⟨x2, ex, hx2⟩, ⟨er, hrf2⟩, hq2⟩ := hs2
            cases ex
            unfold y_gi
            split
            · next e he =>
              obtain ⟨n, m1, m2⟩ := c_skm he
              have hc := (w2.2.2.1 _ m1).2
              have hn := u_eqS w2 m2
              rw [le_sE] at hn
              unfold t_fv at hc
              dsimp only at hc
              have hkx : t_kx σ2 (5000 + n) = x.toNatClampNeg := by
                unfold t_kx
                rw [if_neg (by omega), Nat.add_sub_cancel_left, hn, ← hx2]
                rfl
              rw [if_neg (by omega), hkx] at hc
              have ea : α o = α2 o := Value.ref.inj er
              rw [← ea] at hc
              exact q_pe ht w2 hq2 hc
            · exact q_no
          · exact q_no
        · exact q_no
      · exact q_no
  · exact q_no
theorem q_sala (ht : TH sp ρ h) (hw : TW ρ K KA S lv' st' h σ α) : T_P sp ρ W K KA (j_sala sp pc S) h (e_aald pc lv' st' h) := by
  have hs := hw.2.2.2.2.2.2
  unfold j_sala
  split
  · next j o R r hst =>
    have hst0 := hst
    rw [hst] at hs
    obtain ⟨v, q, rfl, ⟨x, rfl, hx⟩, hq1⟩ := t_sc hs
    obtain ⟨v, q, rfl, ⟨rfl, hrf⟩, hq⟩ := t_sc hq1
    obtain ⟨ha0, haR⟩ := t_nn hrf
    dsimp only at ha0 haR
    split
    · exact q_no
    · next hR =>
      split
      · next rs hsp =>
        have hcell := t_spec ht hR hsp haR
        split
        · next hk =>
          have hin := t_ixS (n := 0) hw hx hcell.2.1.1 hk.2
          unfold e_aald
          dsimp only
          rw [if_pos (show (30 ≤ (h_k h (α o)).1 ∧ (h_k h (α o)).1 < 34) ∧ m_in x (h_k h (α o)).2 = true from ⟨by rw [hcell.1]; exact hk.1, hin⟩)]
          split
          · next S2 h2 =>
            obtain ⟨⟨σ2, α2, w2⟩, e2⟩ := y_stS ht hw hx h2
            have hs2 := w2.2.2.2.2.2.2
            rw [e2, hst0] at hs2
            obtain ⟨⟨x2, ex, hx2⟩, ⟨er, hrf2⟩, hq2⟩ := hs2
            cases ex
            unfold y_gr
            split
            · next q0 he =>
              obtain ⟨n, m1, m2⟩ := c_skm he
              obtain ⟨hc, hc2⟩ := (w2.2.2.1 _ m1).2
              have hn := u_eqS w2 m2
              rw [le_sE] at hn
              have hkx : t_kx σ2 (5000 + n) = x.toNatClampNeg := by
                unfold t_kx
                rw [if_neg (by omega), Nat.add_sub_cancel_left, hn, ← hx2]
                rfl
              have ea : α o = α2 o := Value.ref.inj er
              dsimp only at hc
              rw [hkx, ← ea] at hc
              rw [hc]
              exact q_go (st := .inr (.inr q0) :: r) ht w2 ⟨⟨rfl, hc2⟩, hq2⟩
            · exact q_no
          · exact q_no
        · exact q_no
      · exact q_no
  · exact q_no
end
