-- references into a row, known numbers and words, copies
def j_aast (sp : List RS) (W : List (Nat × Nat)) (pc : Nat) (S : AST) : Option (List AO) := match a_st S with
  | .inr (.inr (o2, (R2, true))) :: .inl j :: .inr (.inr (o, (R, true))) :: r => if R = 0 ∨ R2 = 0 then none else (match sp[R]?, sp[R2]? with
    | some rs, some rs2 => if (30 ≤ rs.1.1 ∧ rs.1.1 < 33) ∧ rs.2.1 = true ∧ rs.2.2.1 = true ∧ t_ix sp S o R j rs.1.2.1 = true ∧ W.contains (R, 1001) = true ∧ rs2.2.1 = true ∧ rs2.1.1 = m_el rs.1.1 then (match r_ft rs 0 with
      | some (.inr (.inr f)) => if t_asg (o2, (R2, true)) f = true then some [(pc + 1, w_fs (w_ca S (c_oE R (a_ca S))) (a_lv S) r)] else none
      | _ => none) else none
    | _, _ => none)
  | _ => none
def j_ldc (w : Nat) (i idx pc : Nat) (S : AST) (RT : Nat) : Option (List AO) := match m_ic i idx with
  | some x => t_pe (pc + w) S (a_st S) (le_c x.toInt)
  | none => if w = 2 then (match m_sc i idx with
      | some a => if 2 ≤ a ∧ a < 8 then t_rr (pc + w) S (a_st S) false 0 0 0 RT true else none
      | none => none) else none
section
variable {sp : List RS} {ρ : Nat → Nat} {W : List (Nat × Nat)} {K : List Int} {KA : List Nat} {S : AST} {lv' : List (Nat × Value)} {st' : List Value} {h : MH} {pc : Nat} {st : List AT} {σ : Nat → Int} {α : Nat → Nat}
theorem c_oEa (R : Nat) (ca : CA) : (c_oE R ca).all (fun q => !(q.1.2.1 == R) || q.1.2.2 == 1000) = true := List.all_eq_true.mpr (fun q hq => (List.mem_filter.mp hq).2)
theorem s_srC2 {a k R x : Nat} {ca : CA} (hk : k < 1000) (hR : ρ a = R) (hc : t_ca σ α ρ h ca) (hn : ca.all (fun q => !(q.1.2.1 == R) || q.1.2.2 == 1000) = true) : t_ca σ α ρ (h_sr h a k x) ca := by
  intro q hq
  obtain ⟨g1, g2⟩ := hc q hq
  refine ⟨g1, ?_⟩
  have hn2 := List.all_eq_true.mp hn q hq
  obtain ⟨⟨o, R2, k2⟩, t⟩ := q
  dsimp only at g1 g2 hn2 ⊢
  have hne : ¬ (α o = a ∧ t_kx σ k2 = k) := fun z => by
    rw [z.1, hR] at g1
    rw [← g1.2] at hn2
    have : ¬ k2 = 1000 := fun e => by
      rw [e, t_kxl (by omega)] at z
      omega
    simp [this] at hn2
  cases t with
  | inl e => exact g2
  | inr t => cases t with
    | inl u => trivial
    | inr q =>
      show h_r (h_sr h a k x) (α o) (t_kx σ k2) = α q.1 ∧ _
      rw [s_srR, if_neg hne]
      exact g2
theorem q_ldc (w i idx RT : Nat) (h1 : ∀ a, 2 ≤ a → a < 8 → t_rf ρ RT true a) (ht : TH sp ρ h) (hw : TW ρ K KA S lv' st' h σ α) : T_P sp ρ W K KA (j_ldc w i idx pc S RT) h (e_ldc w i idx pc lv' st' h) := by
  unfold j_ldc e_ldc
  generalize m_ic i idx = o
  generalize m_sc i idx = o2
  match o with
  | some x => exact q_pe (x := x) ht hw hw.2.2.2.2.2.2 (by rw [le_cE])
  | none =>
    dsimp only
    by_cases hw2 : w = 2
    · rw [if_pos hw2, if_pos hw2]
      match o2 with
      | some a =>
        dsimp only
        split
        · next ha => exact q_rr ht hw hw.2.2.2.2.2.2 (h1 a ha.1 ha.2) (fun z => by cases z)
        · exact q_no
      | none => exact q_no
    · rw [if_neg hw2]
      exact q_no
theorem q_aast (hlen : ∀ (R : Nat) (rs : RS), sp[R]? = some rs → rs.1.2.2 < 1000 ∨ ¬ (30 ≤ rs.1.1 ∧ rs.1.1 < 33)) (ht : TH sp ρ h) (hw : TW ρ K KA S lv' st' h σ α) : T_P sp ρ W K KA (j_aast sp W pc S) h (e_aast pc lv' st' h) := by
  have hs := hw.2.2.2.2.2.2
  unfold j_aast
  split
  · next o2 R2 j o R r hst =>
    rw [hst] at hs
    obtain ⟨v, q, rfl, ⟨rfl, hv⟩, hq1⟩ := t_sc hs
    obtain ⟨v, q, rfl, ⟨j', rfl, hj⟩, hq2⟩ := t_sc hq1
    obtain ⟨v, q, rfl, ⟨rfl, hrf⟩, hq⟩ := t_sc hq2
    obtain ⟨ha0, haR⟩ := t_nn hrf
    obtain ⟨hb0, hbR⟩ := t_nn hv
    dsimp only at ha0 haR hb0 hbR
    split
    · exact q_no
    · next hR =>
      split
      · next rs rs2 hsp hsp2 =>
        have hcell := t_spec ht (fun z => hR (Or.inl z)) hsp haR
        have hcel2 := t_spec ht (fun z => hR (Or.inr z)) hsp2 hbR
        split
        · next hk =>
          obtain ⟨k1, k2, k3, k4, k5, k6, k7⟩ := hk
          have hin := t_ixS (n := 0) hw hj hcell.2.1.1 k4
          have hlt : j'.toNatClampNeg < 1000 := by
            have h9 := hin
            unfold m_in at h9
            rw [Bool.and_eq_true] at h9
            have h10 := of_decide_eq_true h9.2
            rcases hlen R rs hsp with q9 | q9
            · have := hcell.2.1.2
              omega
            · exact absurd k1 q9
          split
          · next f hf =>
            split
            · next hr =>
              have e0 : r_ft rs j'.toNatClampNeg = some (.inr (.inr f)) := by
                unfold r_ft at hf ⊢
                rw [k3] at hf ⊢
                exact hf
              unfold e_aast
              dsimp only
              rw [if_pos (show 16 ≤ α o ∧ (30 ≤ (h_k h (α o)).1 ∧ (h_k h (α o)).1 < 33) ∧ m_in j' (h_k h (α o)).2 = true ∧ 16 ≤ α o2 ∧ (h_k h (α o2)).1 = m_el (h_k h (α o)).1 from ⟨hcell.2.2.1 k2, by rw [hcell.1]; exact k1, hin, hcel2.2.2.1 k6, by rw [hcel2.1, hcell.1]; exact k7⟩)]
              have ht2 := s_srT (x := α o2) ht hsp haR e0 (t_asgS hr hv)
              intro L e9
              cases (Option.some.inj e9)
              obtain ⟨w1, w2, w3, w4, w5, w6, w7⟩ := hw
              exact ⟨_, lv', q, _, rfl, s_srF haR (Or.inr (List.contains_iff_mem.mp k5)), _, List.mem_singleton.mpr rfl, ht2, σ, α, w1, w2, s_srC2 hlt haR (t_caF w3) (c_oEa R _), w4, w5, w6, hq⟩
            · exact q_no
          · exact q_no
        · exact q_no
      · exact q_no
  · exact q_no
end
