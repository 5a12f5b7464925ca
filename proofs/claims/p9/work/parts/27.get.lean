-- getfield, an array's length, an array's elements
def j_get (sp : List RS) (i idx pc : Nat) (S : AST) : Option (List AO) := match a_st S, m_fl i idx with
  | .inr (.inr (o, (R, true))) :: r, some (_, c, k) => if R = 0 ∨ 1000 ≤ k then none else (match sp[R]? with
    | some rs => if rs.1.1 = c + 1 ∧ rs.2.2.1 = false then (match c_lk (a_ca S) (o, (R, k)) with
      | some (.inl e) => if (m_ty c k).1 = 0 then t_pe (pc + 3) S r e else none
      | some (.inr (.inl _)) => none
      | some (.inr (.inr q)) => if (m_ty c k).1 = 2 then t_go (pc + 3) S (.inr (.inr q) :: r) else none
      | none => (match r_ft rs k with
        | some (.inl p) => if (m_ty c k).1 = 0 then t_ri (pc + 3) S r true o R k p.1 p.2 else none
        | some (.inr (.inl _)) => if (m_ty c k).1 = 1 then t_pl (pc + 3) S r else none
        | some (.inr (.inr q)) => if (m_ty c k).1 = 2 then t_rr (pc + 3) S r true o R k q.1 q.2 else none
        | none => none)) else none
    | none => none)
  | _, _ => none
section
variable {sp : List RS} {ρ : Nat → Nat} {W : List (Nat × Nat)} {K : List Int} {KA : List Nat} {S : AST} {lv' : List (Nat × Value)} {st' : List Value} {h : MH} {pc : Nat} {st : List AT} {σ : Nat → Int} {α : Nat → Nat}
theorem q_get (i idx : Nat) (ht : TH sp ρ h) (hw : TW ρ K KA S lv' st' h σ α) : T_P sp ρ W K KA (j_get sp i idx pc S) h (e_get i idx pc lv' st' h) := by
  have hs := hw.2.2.2.2.2.2
  unfold j_get
  split
  · next o R r z c k hst ef =>
    rw [hst] at hs
    obtain ⟨v, q, rfl, ⟨rfl, hrf⟩, hq⟩ := t_sc hs
    obtain ⟨ha0, haR⟩ := t_nn hrf
    dsimp only at ha0 haR
    split
    · exact q_no
    · next hR =>
      split
      · next rs hsp =>
        have hcell := t_spec ht (fun z => hR (Or.inl z)) hsp haR
        by_cases hk : rs.1.1 = c + 1 ∧ rs.2.2.1 = false
        · rw [if_pos hk]
          have hk2 : (h_k h (α o)).1 = c + 1 := hcell.1.trans hk.1
          unfold e_get
          rw [ef]
          dsimp only
          rw [if_pos hk2]
          split
          · next e he =>
            have hc := hw.2.2.1 _ (c_lkm he)
            have hv : (h_i h (α o) k).toInt = le_ev σ e := by
              have := hc.2
              unfold t_fv at this
              dsimp only at this
              rw [if_neg (fun z => hR (Or.inr (by omega))), t_kxl (by omega)] at this
              exact this
            split
            · next htag =>
              rw [htag]
              exact q_pe ht hw hq hv
            · exact q_no
          · exact q_no
          · next q2 he =>
            have hc := hw.2.2.1 _ (c_lkm he)
            obtain ⟨e1, e2⟩ := hc.2
            have e3 : h_r h (α o) k = α q2.1 := by
              dsimp only at e1
              rw [t_kxl (show k < 5000 by omega)] at e1
              exact e1
            split
            · next htag =>
              rw [htag]
              rw [e3]
              exact q_go (st := .inr (.inr q2) :: r) ht hw ⟨⟨rfl, e2⟩, hq⟩
            · exact q_no
          · split
            · next p hft =>
              have hf := hcell.2.2.2 k _ hft (fun z => by rw [hk.2] at z; cases z)
              split
              · next htag =>
                rw [htag]
                refine q_ri ht hw hq hf.1 hf.2 (fun _ => ⟨⟨ha0, haR⟩, ?_⟩)
                rw [if_neg (fun z => hR (Or.inr (by omega)))]
              · exact q_no
            · next u hft =>
              split
              · next htag =>
                rw [htag]
                exact q_pl ht hw hq
              · exact q_no
            · next q2 hft =>
              have hf := hcell.2.2.2 k _ hft (fun z => by rw [hk.2] at z; cases z)
              split
              · next htag =>
                rw [htag]
                exact q_rr ht hw hq hf (fun _ => ⟨⟨ha0, haR⟩, rfl⟩)
              · exact q_no
            · exact q_no
        · rw [if_neg hk]
          exact q_no
      · exact q_no
  · exact q_no
end
