-- an array's length, its elements
def j_alen (sp : List RS) (pc : Nat) (S : AST) : Option (List AO) := match a_st S with
  | .inr (.inr (o, (R, true))) :: r => if R = 0 then none else (match sp[R]? with
    | some rs => if 20 ≤ rs.1.1 ∧ rs.1.1 < 34 ∧ rs.1.2.2 ≤ 2147483647 then (match c_lk (a_ca S) (o, (R, 1000)) with
      | some (.inl e) => t_pe (pc + 1) S r e
      | some _ => none
      | none => t_ri (pc + 1) S r true o R 1000 rs.1.2.1 rs.1.2.2) else none
    | none => none)
  | _ => none
-- a place that surely lies within
def t_ix (sp : List RS) (S : AST) (o R : Nat) (j : LE) (len : Nat) : Bool := le_ent (a_iv S) (a_cs S) (le_mul (-1) j) && (le_ent (a_iv S) (a_cs S) (le_sub j (le_c ((len : Int) - 1))) || (match c_lk (a_ca S) (o, (R, 1000)) with
  | some (.inl e) => le_ent (a_iv S) (a_cs S) (le_add (le_sub j e) (le_c 1))
  | _ => false))
def j_iald (sp : List RS) (k0 k1 pc : Nat) (S : AST) : Option (List AO) := match a_st S with
  | .inl j :: .inr (.inr (o, (R, true))) :: r => if R = 0 then none else (match sp[R]? with
    | some rs => if (rs.1.1 = k0 ∨ rs.1.1 = k1) ∧ rs.2.2.1 = true ∧ t_ix sp S o R j rs.1.2.1 = true then (match r_ft rs 0 with
      | some (.inl p) => if j.1 = [] ∧ j.2 < 1000 then (match c_lk (a_ca S) (o, (R, j.2.toNat)) with
          | some (.inl e) => t_pe (pc + 1) S r e
          | some _ => none
          | none => t_ri (pc + 1) S r true o R j.2.toNat p.1 p.2) else t_ri (pc + 1) S r false o R 0 p.1 p.2
      | _ => none) else none
    | none => none)
  | _ => none
section
variable {sp : List RS} {ρ : Nat → Nat} {W : List (Nat × Nat)} {K : List Int} {KA : List Nat} {S : AST} {lv' : List (Nat × Value)} {st' : List Value} {h : MH} {pc : Nat} {st : List AT} {σ : Nat → Int} {α : Nat → Nat}
theorem q_alen (ht : TH sp ρ h) (hw : TW ρ K KA S lv' st' h σ α) : T_P sp ρ W K KA (j_alen sp pc S) h (e_alen pc lv' st' h) := by
  have hs := hw.2.2.2.2.2.2
  unfold j_alen
  split
  · next o R r hst =>
    rw [hst] at hs
    obtain ⟨v, q, rfl, ⟨rfl, hrf⟩, hq⟩ := t_sc hs
    obtain ⟨ha0, haR⟩ := t_nn hrf
    dsimp only at ha0 haR
    split
    · exact q_no
    · next hR =>
      split
      · next rs hsp =>
        have hcell := t_spec ht hR hsp haR
        split
        · next hk =>
          unfold e_alen
          dsimp only
          rw [if_pos (show 20 ≤ (h_k h (α o)).1 ∧ (h_k h (α o)).1 < 34 by rw [hcell.1]; exact ⟨hk.1, hk.2.1⟩)]
          have hlen := hcell.2.1
          have hz : (Int32.ofNat (h_k h (α o)).2).toInt = ((h_k h (α o)).2 : Int) := Int32.toInt_ofNat_of_lt (by omega)
          split
          · next e he =>
            have hc := (hw.2.2.1 _ (c_lkm he)).2
            have hv : ((h_k h (α o)).2 : Int) = le_ev σ e := by
              unfold t_fv at hc
              dsimp only at hc
              rw [if_pos rfl] at hc
              exact hc
            exact q_pe ht hw hq (hz.trans hv)
          · exact q_no
          · refine q_ri ht hw hq (by rw [hz]; omega) (by rw [hz]; omega) (fun _ => ⟨⟨ha0, haR⟩, ?_⟩)
            rw [if_pos rfl]
            exact hz.symm
        · exact q_no
      · exact q_no
  · exact q_no
theorem m_inL {j : Int32} {n : Nat} (h : m_in j n = true) : j.toNatClampNeg < n := by
  unfold m_in at h
  rw [Bool.and_eq_true] at h
  exact of_decide_eq_true h.2
theorem t_ixZ {o R : Nat} {j : LE} {len : Nat} (hw : TW ρ K KA S lv' st' h σ α) (hl : len ≤ (h_k h (α o)).2) (k : t_ix sp S o R j len = true) : 0 ≤ le_ev σ j ∧ le_ev σ j < ((h_k h (α o)).2 : Int) := by
  unfold t_ix at k
  rw [Bool.and_eq_true, Bool.or_eq_true] at k
  have h1 := le_entS hw.1 hw.2.1 k.1
  rw [le_mulE] at h1
  refine ⟨by omega, ?_⟩
  rcases k.2 with k2 | k2
  · have h3 := le_entS hw.1 hw.2.1 k2
    rw [le_subE, le_cE] at h3
    omega
  · split at k2
    · next e he =>
      have h3 := le_entS hw.1 hw.2.1 k2
      rw [le_addE, le_subE, le_cE] at h3
      have hc := (hw.2.2.1 _ (c_lkm he)).2
      unfold t_fv at hc
      dsimp only at hc
      rw [if_pos rfl] at hc
      omega
    · cases k2
theorem t_ixS {o R : Nat} {j : LE} {x : Int32} {len n : Nat} (hw : TW ρ K KA S lv' st' h σ α) (hx : x.toInt = le_ev σ j) (hl : len ≤ (h_k h (α o)).2) (k : t_ix sp S o R j len = true) : m_in x (h_k h (α o)).2 = true := by
  unfold t_ix at k
  rw [Bool.and_eq_true, Bool.or_eq_true] at k
  have h1 := le_entS hw.1 hw.2.1 k.1
  rw [le_mulE] at h1
  have h2 : x.toInt < ((h_k h (α o)).2 : Int) := by
    rcases k.2 with k2 | k2
    · have h3 := le_entS hw.1 hw.2.1 k2
      rw [le_subE, le_cE] at h3
      omega
    · split at k2
      · next e he =>
        have h3 := le_entS hw.1 hw.2.1 k2
        rw [le_addE, le_subE, le_cE] at h3
        have hc := (hw.2.2.1 _ (c_lkm he)).2
        unfold t_fv at hc
        dsimp only at hc
        rw [if_pos rfl] at hc
        omega
      · cases k2
  unfold m_in
  rw [Bool.and_eq_true]
  refine ⟨decide_eq_true (fun q => ?_), decide_eq_true ?_⟩
  · have := Int32.lt_iff_toInt_lt.mp q
    have : (0 : Int32).toInt = 0 := by decide
    omega
  · show x.toInt.toNat < _
    omega
theorem q_iald (k0 k1 : Nat) (ht : TH sp ρ h) (hw : TW ρ K KA S lv' st' h σ α) : T_P sp ρ W K KA (j_iald sp k0 k1 pc S) h (e_iald k0 k1 pc lv' st' h) := by
  have hs := hw.2.2.2.2.2.2
  unfold j_iald
  split
  · next j o R r hst =>
    rw [hst] at hs
    obtain ⟨v, q, rfl, ⟨x, rfl, hx⟩, hq1⟩ := t_sc hs
    obtain ⟨v, q, rfl, ⟨rfl, hrf⟩, hq⟩ := t_sc hq1
    obtain ⟨ha0, haR⟩ := t_nn hrf
    dsimp only at ha0 haR
    split
    · exact q_no
    · next hR =>
      split
      · next rs hsp =>
        have hcell := t_spec ht hR hsp haR
        split
        · next hk =>
          unfold e_iald
          dsimp only
          have hin := t_ixS (n := 0) hw hx hcell.2.1.1 hk.2.2
          rw [if_pos (show ((h_k h (α o)).1 = k0 ∨ (h_k h (α o)).1 = k1) ∧ m_in x (h_k h (α o)).2 = true from ⟨by rw [hcell.1]; exact hk.1, hin⟩)]
          split
          · next p hp =>
            have e0 : r_ft rs x.toNatClampNeg = some (.inl p) := by
              unfold r_ft at hp ⊢
              rw [hk.2.1] at hp ⊢
              exact hp
            have hf := hcell.2.2.2 _ _ e0 (fun _ => m_inL hin)
            split
            · next hj =>
              have ej : x.toNatClampNeg = j.2.toNat := by
                show x.toInt.toNat = j.2.toNat
                rw [hx, le_const hj.1]
              have hne : ¬ j.2.toNat = 1000 := by omega
              split
              · next e he =>
                have hc := (hw.2.2.1 _ (c_lkm he)).2
                unfold t_fv at hc
                dsimp only at hc
                rw [if_neg hne, t_kxl (by omega)] at hc
                rw [ej]
                exact q_pe ht hw hq hc
              · exact q_no
              · refine q_ri ht hw hq hf.1 hf.2 (fun _ => ⟨⟨ha0, haR⟩, ?_⟩)
                rw [if_neg hne, ej]
            · exact q_ri ht hw hq hf.1 hf.2 (fun z => by cases z)
          · exact q_no
        · exact q_no
      · exact q_no
  · exact q_no
end
