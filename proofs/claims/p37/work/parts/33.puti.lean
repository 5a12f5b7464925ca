-- putfield of an int, an int into a row
def t_inr (S : AST) (e : LE) (p : Int × Int) : Bool := le_ent (a_iv S) (a_cs S) (le_sub (le_c p.1) e) && le_ent (a_iv S) (a_cs S) (le_sub e (le_c p.2))
def t_Wb (W : List (Nat × Nat)) (R k : Nat) : Bool := W.any (fun q => q.1 == R && (q.2 == k || q.2 == 1001))
def j_iast (sp : List RS) (W : List (Nat × Nat)) (pc : Nat) (S : AST) : Option (List AO) := match a_st S with
  | .inl x :: .inl j :: .inr (.inr (o, (R, true))) :: r => if R = 0 then none else (match sp[R]? with
    | some rs => if rs.1.1 = 20 ∧ rs.2.1 = true ∧ rs.2.2.1 = true ∧ t_ix sp S o R j rs.1.2.1 = true ∧ W.contains (R, 1001) = true ∧ (a_ca S).all (fun q => !(q.1.2.1 == R) || q.1.2.2 == 1000) = true then (match r_ft rs 0 with
      | some (.inl p) => if t_inr S x p = true then t_go (pc + 1) S r else none
      | _ => none) else none
    | none => none)
  | _ => none
section
variable {sp : List RS} {ρ : Nat → Nat} {W : List (Nat × Nat)} {K : List Int} {KA : List Nat} {S : AST} {lv' : List (Nat × Value)} {st' : List Value} {h : MH} {pc : Nat} {st : List AT} {σ : Nat → Int} {α : Nat → Nat}
theorem t_inrS {e : LE} {p : Int × Int} (hw : TW ρ K KA S lv' st' h σ α) (k : t_inr S e p = true) : p.1 ≤ le_ev σ e ∧ le_ev σ e ≤ p.2 := by
  unfold t_inr at k
  rw [Bool.and_eq_true] at k
  have h1 := le_entS hw.1 hw.2.1 k.1
  have h2 := le_entS hw.1 hw.2.1 k.2
  rw [le_subE, le_cE] at h1 h2
  omega
theorem s_siC2 {a k R : Nat} {x : Int32} {ca : CA} (hR : ρ a = R) (hc : t_ca σ α ρ h ca) (hn : ca.all (fun q => !(q.1.2.1 == R) || q.1.2.2 == 1000) = true) : t_ca σ α ρ (h_si h a k x) ca := by
  intro q hq
  obtain ⟨g1, g2⟩ := hc q hq
  refine ⟨g1, ?_⟩
  have hn2 := List.all_eq_true.mp hn q hq
  obtain ⟨⟨o, R2, k2⟩, t⟩ := q
  dsimp only at g1 g2 hn2 ⊢
  cases t with
  | inl e =>
    show if k2 = 1000 then ((h_k h (α o)).2 : Int) = le_ev σ e else (h_i (h_si h a k x) (α o) k2).toInt = le_ev σ e
    by_cases hk : k2 = 1000
    · rw [if_pos hk]
      have g3 : if k2 = 1000 then ((h_k h (α o)).2 : Int) = le_ev σ e else (h_i h (α o) k2).toInt = le_ev σ e := g2
      rw [if_pos hk] at g3
      exact g3
    · have hne : ¬ (α o = a ∧ k2 = k) := fun z => by
        rw [z.1, hR] at g1
        rw [← g1.2] at hn2
        simp [hk] at hn2
      rw [s_siI, if_neg hne]
      exact g2
  | inr t => cases t with
    | inl u => trivial
    | inr q => exact g2
theorem q_iast (ht : TH sp ρ h) (hw : TW ρ K KA S lv' st' h σ α) : T_P sp ρ W K KA (j_iast sp W pc S) h (e_iast pc lv' st' h) := by
  have hs := hw.2.2.2.2.2.2
  unfold j_iast
  split
  · next x j o R r hst =>
    rw [hst] at hs
    obtain ⟨v, q, rfl, ⟨x', rfl, hx⟩, hq1⟩ := t_sc hs
    obtain ⟨v, q, rfl, ⟨j', rfl, hj⟩, hq2⟩ := t_sc hq1
    obtain ⟨v, q, rfl, ⟨rfl, hrf⟩, hq⟩ := t_sc hq2
    obtain ⟨ha0, haR⟩ := t_nn hrf
    dsimp only at ha0 haR
    split
    · exact q_no
    · next hR =>
      split
      · next rs hsp =>
        have hcell := t_spec ht hR hsp haR
        split
        · next hk =>
          obtain ⟨k1, k2, k3, k4, k5, k6⟩ := hk
          unfold e_iast
          dsimp only
          have hin := t_ixS (n := 0) hw hj hcell.2.1.1 k4
          rw [if_pos (show 16 ≤ α o ∧ (h_k h (α o)).1 = 20 ∧ m_in j' (h_k h (α o)).2 = true from ⟨hcell.2.2.1 k2, by rw [hcell.1]; exact k1, hin⟩)]
          split
          · next p hp =>
            split
            · next hr =>
              obtain ⟨r1, r2⟩ := t_inrS hw hr
              have e0 : r_ft rs j'.toNatClampNeg = some (.inl p) := by
                unfold r_ft at hp ⊢
                rw [k3] at hp ⊢
                exact hp
              have ht2 := s_siT (x := x') ht hR hsp haR e0 (by omega) (by omega)
              intro L e9
              cases (Option.some.inj e9)
              obtain ⟨w1, w2, w3, w4, w5, w6, w7⟩ := hw
              exact ⟨_, lv', q, _, rfl, s_siF haR (Or.inr (List.contains_iff_mem.mp k5)), _, List.mem_singleton.mpr rfl, ht2, σ, α, w1, w2, s_siC2 haR w3 k6, w4, w5, w6, hq⟩
            · exact q_no
          · exact q_no
        · exact q_no
      · exact q_no
  · exact q_no
end
