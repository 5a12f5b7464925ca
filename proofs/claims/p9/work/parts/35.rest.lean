-- rows of bytes, longs, references written; what stands still; the switch
def j_bast (sp : List RS) (W : List (Nat × Nat)) (pc : Nat) (S : AST) : Option (List AO) := match a_st S with
  | .inl _ :: .inl j :: .inr (.inr (o, (R, true))) :: r => if R = 0 then none else (match sp[R]? with
    | some rs => if (rs.1.1 = 21 ∨ rs.1.1 = 22) ∧ rs.2.1 = true ∧ rs.2.2.1 = true ∧ t_ix sp S o R j rs.1.2.1 = true ∧ W.contains (R, 1001) = true then (match r_ft rs 0 with
      | some (.inl p) => if p.1 ≤ -128 ∧ 127 ≤ p.2 then some [(pc + 1, w_fs (w_ca S (c_oE R (a_ca S))) (a_lv S) r)] else none
      | _ => none) else none
    | none => none)
  | _ => none
def j_last (sp : List RS) (W : List (Nat × Nat)) (pc : Nat) (S : AST) : Option (List AO) := match a_st S with
  | .inr (.inl _) :: .inl j :: .inr (.inr (o, (R, true))) :: r => if R = 0 then none else (match sp[R]? with
    | some rs => if rs.1.1 = 25 ∧ rs.2.1 = true ∧ t_ix sp S o R j rs.1.2.1 = true ∧ W.contains (R, 1001) = true then t_go (pc + 1) S r else none
    | none => none)
  | _ => none
def j_gets (i idx pc : Nat) (S : AST) (RL RF : Nat) : Option (List AO) := match m_sf i idx with
  | some 1 => t_pe (pc + 3) S (a_st S) (le_c 1)
  | some 2 => t_rr (pc + 3) S (a_st S) false 0 0 0 RL true
  | some 3 => t_rr (pc + 3) S (a_st S) false 0 0 0 RF true
  | _ => none
def j_sw (d lo hi : Int) (offs : Array Int) (pc : Nat) (S : AST) : Option (List AO) := match a_st S with
  | .inl x :: r => if 0 ≤ (pc : Int) + d ∧ (hi - lo + 1).toNat = offs.size ∧ offs.all (fun o => decide (0 ≤ (pc : Int) + o)) = true then
      some (((t_cnd .lt x (le_c lo) (w_fs S (a_lv S) r)).map (fun S => (((pc : Int) + d).toNat, S))).toList ++ (((t_cnd .gt x (le_c hi) (w_fs S (a_lv S) r)).map (fun S => (((pc : Int) + d).toNat, S))).toList ++ (List.range offs.size).flatMap (fun (i : Nat) => ((t_cnd .eq x (le_c (lo + (i : Int))) (w_fs S (a_lv S) r)).map (fun S => (((pc : Int) + offs.getD i 0).toNat, S))).toList))) else none
  | _ => none
section
variable {sp : List RS} {ρ : Nat → Nat} {W : List (Nat × Nat)} {K : List Int} {KA : List Nat} {S : AST} {lv' : List (Nat × Value)} {st' : List Value} {h : MH} {pc : Nat} {st : List AT} {σ : Nat → Int} {α : Nat → Nat}
theorem i_b0 (x : Int32) : (-128 : Int) ≤ (x.toInt8.toInt32).toInt ∧ (x.toInt8.toInt32).toInt ≤ (127 : Int) := by
  rw [Int8.toInt_toInt32]
  have h1 := Int8.le_toInt x.toInt8
  have h2 := Int8.toInt_lt x.toInt8
  omega
theorem i_z0 (x : Int32) : (0 : Int) ≤ (x &&& 1).toInt ∧ (x &&& 1).toInt ≤ (1 : Int) := by
  have h1 : (x &&& 1).toBitVec.toNat ≤ 1 := by
    show (x.toBitVec &&& (1 : Int32).toBitVec).toNat ≤ 1
    rw [BitVec.toNat_and]
    exact Nat.and_le_right
  have h2 : (x &&& 1).toInt = (x &&& 1).toBitVec.toInt := rfl
  have h4 := BitVec.toInt_eq_toNat_cond (x &&& 1).toBitVec
  split at h4 <;> omega
theorem q_bast (ht : TH sp ρ h) (hw : TW ρ K KA S lv' st' h σ α) : T_P sp ρ W K KA (j_bast sp W pc S) h (e_bast pc lv' st' h) := by
  have hs := hw.2.2.2.2.2.2
  unfold j_bast
  split
  · next x j o R r hst =>
    rw [hst] at hs
    obtain ⟨v, q, rfl, ⟨x', rfl, hx⟩, hq1⟩ := t_sc hs
    obtain ⟨v, q, rfl, ⟨j', rfl, hj⟩, hq2⟩ := t_sc hq1
    obtain ⟨v, q, rfl, ⟨rfl, hrf⟩, hq⟩ := t_sc hq2
    obtain ⟨ha0, haR⟩ := t_nn hrf
    dsimp only at ha0 haR
    split
    · exact q_no
    · next hR =>
      split
      · next rs hsp =>
        have hcell := t_spec ht hR hsp haR
        split
        · next hk =>
          obtain ⟨k1, k2, k3, k4, k5⟩ := hk
          have hin := t_ixS (n := 0) hw hj hcell.2.1.1 k4
          split
          · next p hp =>
            split
            · next hr =>
              have e0 : r_ft rs j'.toNatClampNeg = some (.inl p) := by
                unfold r_ft at hp ⊢
                rw [k3] at hp ⊢
                exact hp
              have key : ∀ z : Int32, (-128 : Int) ≤ z.toInt → z.toInt ≤ (127 : Int) → T_P sp ρ W K KA (some [(pc + 1, w_fs (w_ca S (c_oE R (a_ca S))) (a_lv S) r)]) h (m_go (pc + 1) lv' q (h_si h (α o) j'.toNatClampNeg z)) := by
                intro z z1 z2
                have ht2 := s_siT (x := z) ht hR hsp haR e0 (by omega) (by omega)
                intro L e9
                cases (Option.some.inj e9)
                obtain ⟨w1, w2, w3, w4, w5, w6, w7⟩ := hw
                exact ⟨_, lv', q, _, rfl, s_siF haR (Or.inr (List.contains_iff_mem.mp k5)), _, List.mem_singleton.mpr rfl, ht2, σ, α, w1, w2, s_siE haR w3, w4, w5, w6, hq⟩
              unfold e_bast
              dsimp only
              by_cases k21 : (h_k h (α o)).1 = 21
              · rw [if_pos (show 16 ≤ α o ∧ (h_k h (α o)).1 = 21 ∧ m_in j' (h_k h (α o)).2 = true from ⟨hcell.2.2.1 k2, k21, hin⟩)]
                exact key _ (i_b0 x').1 (i_b0 x').2
              · have k22 : (h_k h (α o)).1 = 22 := by
                  have := hcell.1
                  omega
                rw [if_neg (fun z => k21 z.2.1), if_pos (show 16 ≤ α o ∧ (h_k h (α o)).1 = 22 ∧ m_in j' (h_k h (α o)).2 = true from ⟨hcell.2.2.1 k2, k22, hin⟩)]
                exact key _ (by have := (i_z0 x').1; omega) (by have := (i_z0 x').2; omega)
            · exact q_no
          · exact q_no
        · exact q_no
      · exact q_no
  · exact q_no
theorem q_last (ht : TH sp ρ h) (hw : TW ρ K KA S lv' st' h σ α) : T_P sp ρ W K KA (j_last sp W pc S) h (e_last pc lv' st' h) := by
  have hs := hw.2.2.2.2.2.2
  unfold j_last
  split
  · next x j o R r hst =>
    rw [hst] at hs
    obtain ⟨v, q, rfl, ⟨x', rfl⟩, hq1⟩ := t_sc hs
    obtain ⟨v, q, rfl, ⟨j', rfl, hj⟩, hq2⟩ := t_sc hq1
    obtain ⟨v, q, rfl, ⟨rfl, hrf⟩, hq⟩ := t_sc hq2
    obtain ⟨ha0, haR⟩ := t_nn hrf
    dsimp only at ha0 haR
    split
    · exact q_no
    · next hR =>
      split
      · next rs hsp =>
        have hcell := t_spec ht hR hsp haR
        split
        · next hk =>
          obtain ⟨k1, k2, k4, k5⟩ := hk
          have hin := t_ixS (n := 0) hw hj hcell.2.1.1 k4
          unfold e_last
          dsimp only
          rw [if_pos (show 16 ≤ α o ∧ (h_k h (α o)).1 = 25 ∧ m_in j' (h_k h (α o)).2 = true from ⟨hcell.2.2.1 k2, by rw [hcell.1]; exact k1, hin⟩)]
          intro L e9
          cases (Option.some.inj e9)
          obtain ⟨w1, w2, w3, w4, w5, w6, w7⟩ := hw
          exact ⟨_, lv', q, _, rfl, s_slF haR (Or.inr (List.contains_iff_mem.mp k5)), _, List.mem_singleton.mpr rfl, s_slT ht, σ, α, w1, w2, w3, w4, w5, w6, hq⟩
        · exact q_no
      · exact q_no
  · exact q_no
theorem q_gets (i idx RL RF : Nat) (h1 : t_rf ρ RL true 1) (h3 : t_rf ρ RF true 15) (ht : TH sp ρ h) (hw : TW ρ K KA S lv' st' h σ α) : T_P sp ρ W K KA (j_gets i idx pc S RL RF) h (e_gets i idx pc lv' st' h) := by
  unfold j_gets e_gets
  generalize m_sf i idx = o
  match o with
  | none => exact q_no
  | some 0 => exact q_no
  | some 1 => exact q_pe (x := 1) ht hw hw.2.2.2.2.2.2 (by rw [le_cE]; decide)
  | some 2 => exact q_rr ht hw hw.2.2.2.2.2.2 h1 (fun z => by cases z)
  | some 3 => exact q_rr ht hw hw.2.2.2.2.2.2 h3 (fun z => by cases z)
  | some (n + 4) => exact q_no
theorem q_sw (i : Nat) (d lo hi : Int) (offs : Array Int) (ht : TH sp ρ h) (hw : TW ρ K KA S lv' st' h σ α) : T_P sp ρ W K KA (j_sw d lo hi offs pc S) h (e_sw d lo hi offs pc lv' st' h) := by
  have hs := hw.2.2.2.2.2.2
  unfold j_sw
  split
  · next x r hst =>
    rw [hst] at hs
    obtain ⟨v, q, rfl, ⟨x', rfl, hx⟩, hq⟩ := t_sc hs
    have hw2 := q_fs (st := r) (st' := q) hw hw.2.2.2.2.2.1 hq
    split
    · next hc =>
      obtain ⟨c1, c2, c3⟩ := hc
      intro L e9
      cases e9
      unfold e_sw
      dsimp only
      by_cases h1 : x'.toInt < lo
      · rw [if_pos (Or.inl h1)]
        obtain ⟨S', e1, w⟩ := r_asm (e := le_add (le_sub x (le_c lo)) (le_c 1)) hw2 (by rw [le_addE, le_subE, le_cE, le_cE]; omega)
        refine ⟨_, lv', q, h, if_pos c1, FR.refl _ _ _, S', List.mem_append_left _ ?_, ht, σ, α, w⟩
        show _ ∈ (Option.map _ (t_asm _ _)).toList
        rw [e1]
        exact List.mem_singleton.mpr rfl
      · by_cases h2 : hi < x'.toInt
        · rw [if_pos (Or.inr h2)]
          obtain ⟨S', e1, w⟩ := r_asm (e := le_add (le_sub (le_c hi) x) (le_c 1)) hw2 (by rw [le_addE, le_subE, le_cE, le_cE]; omega)
          refine ⟨_, lv', q, h, if_pos c1, FR.refl _ _ _, S', List.mem_append_right _ (List.mem_append_left _ ?_), ht, σ, α, w⟩
          show _ ∈ (Option.map _ (t_asm _ _)).toList
          rw [e1]
          exact List.mem_singleton.mpr rfl
        · rw [if_neg (by omega)]
          have hlt : (x'.toInt - lo).toNat < offs.size := by omega
          rw [Array.getElem?_eq_getElem hlt]
          dsimp only
          have hoff : 0 ≤ (pc : Int) + offs[(x'.toInt - lo).toNat] := by
            have := (Array.all_eq_true.mp c3) _ hlt
            exact of_decide_eq_true this
          obtain ⟨S1, e1, w1⟩ := r_asm (e := le_sub x (le_c (lo + (((x'.toInt - lo).toNat : Nat) : Int)))) hw2 (by rw [le_subE, le_cE]; omega)
          obtain ⟨S2, e2, w2⟩ := r_asm (e := le_sub (le_c (lo + (((x'.toInt - lo).toNat : Nat) : Int))) x) w1 (by rw [le_subE, le_cE]; omega)
          refine ⟨_, lv', q, h, if_pos hoff, FR.refl _ _ _, S2, List.mem_append_right _ (List.mem_append_right _ (List.mem_flatMap.mpr ⟨(x'.toInt - lo).toNat, List.mem_range.mpr hlt, ?_⟩)), ht, σ, α, w2⟩
          show _ ∈ (Option.map _ ((t_asm _ _).bind (t_asm _))).toList
          rw [e1, Option.bind_some, e2]
          refine List.mem_singleton.mpr ?_
          rw [Array.getD_eq_getD_getElem?, Array.getElem?_eq_getElem hlt]
          rfl
    · exact q_no
  · exact q_no
end
