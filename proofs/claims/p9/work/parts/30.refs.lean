-- rows of longs and of references; null; lcmp
def j_lald (sp : List RS) (pc : Nat) (S : AST) : Option (List AO) := match a_st S with
  | .inl j :: .inr (.inr (o, (R, true))) :: r => if R = 0 then none else (match sp[R]? with
    | some rs => if rs.1.1 = 25 ∧ t_ix sp S o R j rs.1.2.1 = true then t_pl (pc + 1) S r else none
    | none => none)
  | _ => none
def j_aald (sp : List RS) (pc : Nat) (S : AST) : Option (List AO) := match a_st S with
  | .inl j :: .inr (.inr (o, (R, true))) :: r => if R = 0 then none else (match sp[R]? with
    | some rs => if (30 ≤ rs.1.1 ∧ rs.1.1 < 34) ∧ rs.2.2.1 = true ∧ t_ix sp S o R j rs.1.2.1 = true then (match r_ft rs 0 with
      | some (.inr (.inr q)) => t_rr (pc + 1) S r false o R 0 q.1 q.2
      | _ => none) else none
    | none => none)
  | _ => none
def j_lcmp (pc : Nat) (S : AST) : Option (List AO) := match a_st S with
  | .inr (.inl _) :: .inr (.inl _) :: r => t_pi (pc + 1) S r (-2147483648) 2147483647
  | _ => none
section
variable {sp : List RS} {ρ : Nat → Nat} {W : List (Nat × Nat)} {K : List Int} {KA : List Nat} {S : AST} {lv' : List (Nat × Value)} {st' : List Value} {h : MH} {pc : Nat} {st : List AT} {σ : Nat → Int} {α : Nat → Nat}
theorem q_lald (ht : TH sp ρ h) (hw : TW ρ K KA S lv' st' h σ α) : T_P sp ρ W K KA (j_lald sp pc S) h (e_lald pc lv' st' h) := by
  have hs := hw.2.2.2.2.2.2
  unfold j_lald
  split
  · next j o R r hst =>
    rw [hst] at hs
    obtain ⟨v, q, rfl, ⟨x, rfl, hx⟩, hq1⟩ := t_sc hs
    obtain ⟨v, q, rfl, ⟨rfl, hrf⟩, hq⟩ := t_sc hq1
    obtain ⟨ha0, haR⟩ := t_nn hrf
    dsimp only at ha0 haR
    split
    · exact q_no
    · next hR =>
      split
      · next rs hsp =>
        have hcell := t_spec ht hR hsp haR
        split
        · next hk =>
          unfold e_lald
          dsimp only
          have hin := t_ixS (n := 0) hw hx hcell.2.1.1 hk.2
          rw [if_pos (show (h_k h (α o)).1 = 25 ∧ m_in x (h_k h (α o)).2 = true from ⟨by rw [hcell.1]; exact hk.1, hin⟩)]
          exact q_pl ht hw hq
        · exact q_no
      · exact q_no
  · exact q_no
theorem q_aald (ht : TH sp ρ h) (hw : TW ρ K KA S lv' st' h σ α) : T_P sp ρ W K KA (j_aald sp pc S) h (e_aald pc lv' st' h) := by
  have hs := hw.2.2.2.2.2.2
  unfold j_aald
  split
  · next j o R r hst =>
    rw [hst] at hs
    obtain ⟨v, q, rfl, ⟨x, rfl, hx⟩, hq1⟩ := t_sc hs
    obtain ⟨v, q, rfl, ⟨rfl, hrf⟩, hq⟩ := t_sc hq1
    obtain ⟨ha0, haR⟩ := t_nn hrf
    dsimp only at ha0 haR
    split
    · exact q_no
    · next hR =>
      split
      · next rs hsp =>
        have hcell := t_spec ht hR hsp haR
        split
        · next hk =>
          unfold e_aald
          dsimp only
          have hin := t_ixS (n := 0) hw hx hcell.2.1.1 hk.2.2
          rw [if_pos (show (30 ≤ (h_k h (α o)).1 ∧ (h_k h (α o)).1 < 34) ∧ m_in x (h_k h (α o)).2 = true from ⟨by rw [hcell.1]; exact hk.1, hin⟩)]
          split
          · next q2 hp =>
            have e0 : r_ft rs x.toNatClampNeg = some (.inr (.inr q2)) := by
              unfold r_ft at hp ⊢
              rw [hk.2.1] at hp ⊢
              exact hp
            have hf := hcell.2.2.2 _ _ e0 (fun _ => m_inL hin)
            exact q_rr ht hw hq hf (fun z => by cases z)
          · exact q_no
        · exact q_no
      · exact q_no
  · exact q_no
theorem q_lcmp (i : Nat) (ht : TH sp ρ h) (hw : TW ρ K KA S lv' st' h σ α) : T_P sp ρ W K KA (j_lcmp pc S) h (m_ex i pc .lcmp lv' st' h) := by
  have hs := hw.2.2.2.2.2.2
  unfold j_lcmp
  split
  · next u1 u2 r hst =>
    rw [hst] at hs
    obtain ⟨v, q, rfl, ⟨y', rfl⟩, hq1⟩ := t_sc hs
    obtain ⟨v, q, rfl, ⟨x', rfl⟩, hq⟩ := t_sc hq1
    obtain ⟨k1, k2⟩ := g_iT (lg_cmp x' y')
    exact q_pi (x := lg_cmp x' y') ht hw hq k1 k2
  · exact q_no
theorem q_dup2 (ht : TH sp ρ h) (hw : TW ρ K KA S lv' st' h σ α) (i : Nat) : T_P sp ρ W K KA (j_dup2 pc S) h (m_ex i pc .dup2 lv' st' h) := by
  have hs := hw.2.2.2.2.2.2
  unfold j_dup2
  split
  · next a b r hst =>
    rw [hst] at hs
    obtain ⟨v, q, rfl, hv, hq1⟩ := t_sc hs
    obtain ⟨w, q, rfl, hw2, hq⟩ := t_sc hq1
    show T_P sp ρ W K KA _ h (if v.category = 1 ∧ w.category = 1 then m_go (pc + 1) lv' (v :: w :: v :: w :: q) h else none)
    rw [a_catE hv, a_catE hw2]
    split
    · exact q_go (st := a :: b :: a :: b :: r) ht hw ⟨hv, hw2, hv, hw2, hq⟩
    · exact q_no
  · exact q_no
end
