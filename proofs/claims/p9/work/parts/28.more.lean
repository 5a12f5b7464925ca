-- more of the checker's steps: known numbers, what stands still, turns of the stack
def j_psh (pc : Nat) (S : AST) (x : Int32) : Option (List AO) := t_pe pc S (a_st S) (le_c x.toInt)
section
variable {sp : List RS} {ρ : Nat → Nat} {W : List (Nat × Nat)} {K : List Int} {KA : List Nat} {S : AST} {lv' : List (Nat × Value)} {st' : List Value} {h : MH} {pc : Nat} {st : List AT} {σ : Nat → Int} {α : Nat → Nat}
theorem q_psh (x : Int32) (ht : TH sp ρ h) (hw : TW ρ K KA S lv' st' h σ α) : T_P sp ρ W K KA (j_psh pc S x) h (m_go pc lv' (.int x :: st') h) := q_pe ht hw hw.2.2.2.2.2.2 (le_cE σ _).symm
end
def j_inc (n k : Nat) (z : Int) (pc : Nat) (S : AST) : Option (List AO) := match m_lk (a_lv S) k with
  | some (.inl e) => if k < n ∧ t_in32 S (le_add e (le_c z)) = true ∧ -128 ≤ z ∧ z ≤ 32767 then t_gl (pc + 3) S (a_s1 (a_lv S) k (.inl (le_add e (le_c z)))) (a_st S) else none
  | _ => none
def j_dup (pc : Nat) (S : AST) : Option (List AO) := match a_st S with
  | v :: r => if a_cat v = 1 then t_go (pc + 1) S (v :: v :: r) else none
  | _ => none
def j_pop (pc : Nat) (S : AST) : Option (List AO) := match a_st S with
  | v :: r => if a_cat v = 1 then t_go (pc + 1) S r else none
  | _ => none
def j_pop2 (pc : Nat) (S : AST) : Option (List AO) := match a_st S with
  | v :: r => if a_cat v = 2 then t_go (pc + 1) S r else none
  | _ => none
def j_dup2 (pc : Nat) (S : AST) : Option (List AO) := match a_st S with
  | v :: w :: r => if a_cat v = 1 ∧ a_cat w = 1 then t_go (pc + 1) S (v :: w :: v :: w :: r) else none
  | _ => none
def t_to (pc : Nat) (off : Int) (S : AST) (st : List AT) : Option (List AO) := if 0 ≤ (pc : Int) + off then t_go ((pc : Int) + off).toNat S st else none
def j_if (c : ClassFile.Cond) (off : Int) (pc : Nat) (S : AST) : Option (List AO) := match a_st S with
  | .inl x :: r => t_br c x (le_c 0) pc off S r
  | _ => none
def j_ic (c : ClassFile.Cond) (off : Int) (pc : Nat) (S : AST) : Option (List AO) := match a_st S with
  | .inl y :: .inl x :: r => t_br c x y pc off S r
  | _ => none
section
variable {sp : List RS} {ρ : Nat → Nat} {W : List (Nat × Nat)} {K : List Int} {KA : List Nat} {S : AST} {lv' : List (Nat × Value)} {st' : List Value} {h : MH} {pc : Nat} {st : List AT} {σ : Nat → Int} {α : Nat → Nat}
theorem q_inc (n k : Nat) (z : Int) (ht : TH sp ρ h) (hw : TW ρ K KA S lv' st' h σ α) : T_P sp ρ W K KA (j_inc n k z pc S) h (e_inc n k z pc lv' st' h) := by
  unfold j_inc e_inc
  split
  · next e he =>
    obtain ⟨v, e2, ⟨x, rfl, hx⟩⟩ := t_lk hw.2.2.2.2.2.1 he
    rw [e2]
    dsimp only
    split
    · next hc =>
      obtain ⟨c1, c2, c3, c4⟩ := hc
      rw [if_pos c1]
      obtain ⟨k1, k2⟩ := q_in32 hw c2
      rw [le_addE, le_cE, ← hx] at k1 k2
      have hz : (Int32.ofInt z).toInt = z := i_ofInt z (by omega) (by omega)
      refine q_gl ht hw (t_s1 hw.2.2.2.2.2.1 ⟨_, rfl, ?_⟩) hw.2.2.2.2.2.2
      rw [i_add _ _ (by rw [hz]; exact k1) (by rw [hz]; exact k2), hz, le_addE, le_cE, hx]
    · exact q_no
  · exact q_no
theorem q_dup (ht : TH sp ρ h) (hw : TW ρ K KA S lv' st' h σ α) (i : Nat) : T_P sp ρ W K KA (j_dup pc S) h (m_ex i pc .dup lv' st' h) := by
  have hs := hw.2.2.2.2.2.2
  unfold j_dup
  split
  · next a r hst =>
    rw [hst] at hs
    obtain ⟨v, q, rfl, hv, hq⟩ := t_sc hs
    show T_P sp ρ W K KA _ h (if v.category = 1 then m_go (pc + 1) lv' (v :: v :: q) h else none)
    rw [a_catE hv]
    split
    · exact q_go (st := a :: a :: r) ht hw ⟨hv, hv, hq⟩
    · exact q_no
  · exact q_no
theorem q_pop (ht : TH sp ρ h) (hw : TW ρ K KA S lv' st' h σ α) (i : Nat) : T_P sp ρ W K KA (j_pop pc S) h (m_ex i pc .pop lv' st' h) := by
  have hs := hw.2.2.2.2.2.2
  unfold j_pop
  split
  · next a r hst =>
    rw [hst] at hs
    obtain ⟨v, q, rfl, hv, hq⟩ := t_sc hs
    show T_P sp ρ W K KA _ h (if v.category = 1 then m_go (pc + 1) lv' q h else none)
    rw [a_catE hv]
    split
    · exact q_go ht hw hq
    · exact q_no
  · exact q_no
theorem q_pop2 (ht : TH sp ρ h) (hw : TW ρ K KA S lv' st' h σ α) (i : Nat) : T_P sp ρ W K KA (j_pop2 pc S) h (m_ex i pc .pop2 lv' st' h) := by
  have hs := hw.2.2.2.2.2.2
  unfold j_pop2
  split
  · next a r hst =>
    rw [hst] at hs
    obtain ⟨v, q, rfl, hv, hq⟩ := t_sc hs
    show T_P sp ρ W K KA _ h (if v.category = 2 then m_go (pc + 1) lv' q h else none)
    rw [a_catE hv]
    split
    · exact q_go ht hw hq
    · exact q_no
  · exact q_no
theorem q_to (off : Int) {st0 : List Value} (ht : TH sp ρ h) (hw : TW ρ K KA S lv' st0 h σ α) (hs : t_sk σ α ρ st st') : T_P sp ρ W K KA (t_to pc off S st) h (m_tg pc off lv' st' h) := by
  unfold t_to m_tg
  split
  · exact q_go ht hw hs
  · exact q_no
theorem q_if (c : ClassFile.Cond) (off : Int) (ht : TH sp ρ h) (hw : TW ρ K KA S lv' st' h σ α) (i : Nat) : T_P sp ρ W K KA (j_if c off pc S) h (m_ex i pc (.ifCond c off) lv' st' h) := by
  have hs := hw.2.2.2.2.2.2
  unfold j_if
  split
  · next x r hst =>
    rw [hst] at hs
    obtain ⟨v, q, rfl, ⟨x', rfl, hx⟩, hq⟩ := t_sc hs
    exact q_br hx (show (0 : Int32).toInt = le_ev σ (le_c 0) by rw [le_cE]; decide) ht hw hq
  · exact q_no
theorem q_ic (c : ClassFile.Cond) (off : Int) (ht : TH sp ρ h) (hw : TW ρ K KA S lv' st' h σ α) (i : Nat) : T_P sp ρ W K KA (j_ic c off pc S) h (m_ex i pc (.if_icmp c off) lv' st' h) := by
  have hs := hw.2.2.2.2.2.2
  unfold j_ic
  split
  · next y x r hst =>
    rw [hst] at hs
    obtain ⟨v, q, rfl, ⟨y', rfl, hy⟩, hq1⟩ := t_sc hs
    obtain ⟨v, q, rfl, ⟨x', rfl, hx⟩, hq⟩ := t_sc hq1
    exact q_br hx hy ht hw hq
  · exact q_no
end
