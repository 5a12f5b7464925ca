-- THE ROOM, WHERE ROWS GROW
def dp_g : List (Nat × Nat) := [(0, 1001), (0, 1002), (6, 0), (6, 1), (6, 2), (6, 7), (6, 1002), (25, 0), (25, 1002), (9, 1001), (8, 1001), (29, 0), (47, 0), (39, 1002), (48, 1002)]
theorem rm_grow {ρ ρ' : Nat → Nat} {W : List (Nat × Nat)} {h h' : MH} (ht : TH c_sp ρ h) (f : FQ ρ ρ' W h h') (hn : d_no dp_g W = true) {n L : Nat} (hm : ρ n = 39 ∨ ρ n = 48) (hL : (h_k h (h_r h n 1)).2 = L) (en : h_n h' = h_n h + 2) (ez : h_z h' = h_z h + 16 * L) (hr : h_r h' n 1 < 16 + h_n h') (hL' : (h_k h' (h_r h' n 1)).2 = 2 * L) (l0 : 64 ≤ L) (oth : ∀ a, a ≠ n → a < 16 + h_n h → (ρ a = 39 ∨ ρ a = 48 ∨ ρ a = 0) → h_r h' a 1 = h_r h a 1) (k : t_rm ρ h) : t_rm ρ' h' := by
  obtain ⟨⟨a1, a2, a3, a4, a5⟩, b, c, d, e⟩ := k
  have eP : r_P h' = r_P h := rm_rD f (by decide) hn a1.1 (R := 6) (by decide) (by decide) a1.2
  have eI : r_I h' = r_I h := rm_rD f (by decide) hn a1.1 (R := 6) (by decide) (by decide) a1.2
  have eS : r_S h' = r_S h := rm_rD f (by decide) hn a1.1 (R := 6) (by decide) (by decide) a1.2
  have eT0 : h_r h' (r_S h') 0 = h_r h (r_S h) 0 := by
    rw [eS]
    exact rm_rD f (by decide) hn a4.1 (R := 25) (by decide) (by decide) a4.2
  have eT : r_T h' = r_T h := by
    unfold r_T
    rw [eT0, (f.2.2.2 _ a5.1).1]
  have esl : ∀ k, k < 4 → r_sl h' k = r_sl h k := fun k hk => by
    unfold r_sl
    rw [eP]
    exact rm_eD f (by decide) hn a2.1 (R := 9) (by decide) (by omega) a2.2
  have eim : ∀ k, k < 4 → r_im h' k = r_im h k := fun k hk => by
    unfold r_im
    rw [eI]
    exact rm_eD f (by decide) hn a3.1 (R := 8) (by decide) (by omega) a3.2
  have eno : ∀ k, k < 4 → r_sl h k ≠ 0 → r_no h' k = r_no h k := fun k hk hs => by
    rcases b k hk with z | ⟨z1, z2, z3⟩
    · exact absurd z hs
    · unfold r_no
      rw [esl k hk]
      rcases z1.2 with q | q | q
      · exact rm_rD f (by decide) hn z1.1 (R := 29) (by decide) (by decide) (Or.inl q)
      · exact rm_rD f (by decide) hn z1.1 (R := 47) (by decide) (by decide) (Or.inl q)
      · exact rm_rD f (by decide) hn z1.1 (R := 29) (by decide) (by decide) (Or.inr q)
  have eho : ∀ k, k < 4 → r_sl h k ≠ 0 → r_ho h' k < 16 + h_n h' ∧ (r_no h k = n → r_L h' k = 2 * L ∧ r_L h k = L) ∧ (r_no h k ≠ n → r_L h' k = r_L h k) := fun k hk hs => by
    rcases b k hk with z | ⟨z1, z2, z3⟩
    · exact absurd z hs
    · by_cases e9 : r_no h k = n
      · have e8 : r_ho h' k = h_r h' n 1 := by
          unfold r_ho
          rw [eno k hk hs, e9]
        refine ⟨by rw [e8]; exact hr, fun _ => ⟨?_, ?_⟩, fun z => absurd e9 z⟩
        · unfold r_L
          rw [e8]
          exact hL'
        · unfold r_L r_ho
          rw [e9]
          exact hL
      · have e8 : r_ho h' k = r_ho h k := by
          unfold r_ho
          rw [eno k hk hs]
          exact oth _ e9 z2.1 z2.2
        refine ⟨by rw [e8]; omega, fun z => absurd z e9, fun _ => ?_⟩
        unfold r_L
        rw [e8, (f.2.2.2 _ z3).1]
  have epn : ∀ k, k < 4 → r_pn h k ≤ r_pn h' k ∧ r_pz h k ≤ r_pz h' k ∧ (r_sl h k ≠ 0 → r_no h k = n → r_pn h k + 64 ≤ r_pn h' k ∧ r_pz h k + 16 * L ≤ r_pz h' k) := fun k hk => by
    unfold r_pn r_pz
    rw [esl k hk]
    by_cases hs : r_sl h k = 0
    · rw [if_pos hs, if_pos hs, if_pos hs, if_pos hs]
      exact ⟨Nat.le_refl _, Nat.le_refl _, fun z => absurd hs z⟩
    · rw [if_neg hs, if_neg hs, if_neg hs, if_neg hs]
      obtain ⟨-, q1, q2⟩ := eho k hk hs
      by_cases e9 : r_no h k = n
      · obtain ⟨q3, q4⟩ := q1 e9
        rw [q3, q4]
        exact ⟨by omega, by omega, fun _ _ => ⟨by omega, by omega⟩⟩
      · rw [q2 e9]
        exact ⟨Nat.le_refl _, Nat.le_refl _, fun _ z => absurd z e9⟩
  have eqn : ∀ k, k < 4 → r_qn h' k = r_qn h k ∧ r_qz h' k = r_qz h k := fun k hk => by
    unfold r_qn r_qz
    rw [eim k hk]
    exact ⟨rfl, rfl⟩
  have hin : ∀ {a R : Nat}, r_iu ρ h a R → r_iu ρ' h' a R := fun {a R} q => ⟨by have := q.1; omega, by rw [f.same q.1]; exact q.2⟩
  have hin2 : ∀ {a R R2 : Nat}, r_iu2 ρ h a R R2 → r_iu2 ρ' h' a R R2 := fun {a R R2} q => ⟨by have := q.1; omega, by rw [f.same q.1]; exact q.2⟩
  refine ⟨⟨hin a1, by rw [eP]; exact hin a2, by rw [eI]; exact hin a3, by rw [eS]; exact hin a4, by rw [eT0]; have := a5.1; omega, fun a ha => a5.2.1 a (fq_m f ht hn (by decide) (show (6, 1002) ∈ dp_g by decide) ha).1, fun a ha => by rw [eS]; exact a5.2.2 a (fq_m f ht hn (by decide) (show (25, 1002) ∈ dp_g by decide) ha).1⟩, fun k hk => ?_, fun a ha => ?_, ?_, ?_⟩
  · by_cases hs : r_sl h k = 0
    · exact Or.inl ((esl k hk).trans hs)
    · rcases b k hk with z | ⟨z1, z2, z3⟩
      · exact absurd z hs
      · refine Or.inr ⟨by rw [esl k hk]; exact hin2 z1, by rw [eno k hk hs]; exact hin2 z2, ?_⟩
        exact (eho k hk hs).1
  · have ha2 : ρ a = 39 ∨ ρ a = 48 := by
      rcases ha with q | q
      · exact Or.inl (fq_m f ht hn (by decide) (show (39, 1002) ∈ dp_g by decide) q).1
      · exact Or.inr (fq_m f ht hn (by decide) (show (48, 1002) ∈ dp_g by decide) q).1
    obtain ⟨k, hk, hs, e9⟩ := c a ha2
    exact ⟨k, hk, by rw [esl k hk]; exact hs, by rw [eno k hk hs]; exact e9⟩
  · rw [en, (eqn 0 (by decide)).1, (eqn 1 (by decide)).1, (eqn 2 (by decide)).1, eT]
    obtain ⟨k0, j1, j2, j3⟩ := c n hm
    have p0 := epn 0 (by decide)
    have p1 := epn 1 (by decide)
    have p2 := epn 2 (by decide)
    have p3 := epn 3 (by decide)
    have p9 := (epn k0 j1).2.2 j2 j3.symm
    match k0, j1 with
    | 0, _ => omega
    | 1, _ => omega
    | 2, _ => omega
    | 3, _ => omega
  · rw [ez, (eqn 0 (by decide)).2, (eqn 1 (by decide)).2, (eqn 2 (by decide)).2, eT]
    obtain ⟨k0, j1, j2, j3⟩ := c n hm
    have p0 := epn 0 (by decide)
    have p1 := epn 1 (by decide)
    have p2 := epn 2 (by decide)
    have p3 := epn 3 (by decide)
    have p9 := (epn k0 j1).2.2 j2 j3.symm
    match k0, j1 with
    | 0, _ => omega
    | 1, _ => omega
    | 2, _ => omega
    | 3, _ => omega
