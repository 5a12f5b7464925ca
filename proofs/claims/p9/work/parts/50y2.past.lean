-- THE ROOM, ONE PAST MORE
def dp_p : List (Nat × Nat) := [(0, 1001), (0, 1002), (6, 0), (6, 1), (6, 2), (6, 7), (6, 1002), (25, 0), (25, 1002), (8, 1001), (29, 0), (47, 0), (39, 1), (48, 1), (48, 1002)]
theorem rm_past {ρ ρ' : Nat → Nat} {W : List (Nat × Nat)} {h h' : MH} (ht : TH c_sp ρ h) (f : FQ ρ ρ' W h h') (hn : d_no dp_p W = true) {k9 d z P9 N9 : Nat} (hk9 : k9 < 4) (s0 : r_sl h k9 = 0) (en : h_n h' = h_n h + d) (d1 : d ≤ 164) (ez : h_z h' = h_z h + z) (z1 : z ≤ 5024) (es : ∀ k, k < 4 → k ≠ k9 → h_r h' (r_P h) k = h_r h (r_P h) k) (sP : h_r h' (r_P h) k9 = P9) (P0 : P9 ≠ 0) (Pl : P9 < 16 + h_n h') (Pr : ρ' P9 = 29) (sN : h_r h' P9 0 = N9) (Nl : N9 < 16 + h_n h') (Nr : ρ' N9 = 39) (Hl : h_r h' N9 1 < 16 + h_n h') (HL : (h_k h' (h_r h' N9 1)).2 = 64) (only : ∀ a, ρ' a = 39 ∨ ρ' a = 48 → (ρ a = 39 ∨ ρ a = 48) ∨ a = N9) (k : t_rm ρ h) : t_rm ρ' h' := by
  obtain ⟨⟨a1, a2, a3, a4, a5⟩, b, c, d, e⟩ := k
  have eP : r_P h' = r_P h := rm_rD f (by decide) hn a1.1 (R := 6) (by decide) (by decide) a1.2
  have eI : r_I h' = r_I h := rm_rD f (by decide) hn a1.1 (R := 6) (by decide) (by decide) a1.2
  have eS : r_S h' = r_S h := rm_rD f (by decide) hn a1.1 (R := 6) (by decide) (by decide) a1.2
  have eT0 : h_r h' (r_S h') 0 = h_r h (r_S h) 0 := by
    rw [eS]
    exact rm_rD f (by decide) hn a4.1 (R := 25) (by decide) (by decide) a4.2
  have eT : r_T h' = r_T h := by
    unfold r_T
    rw [eT0, (f.2.2.2 _ a5.1).1]
  have eslA : ∀ k, k < 4 → k ≠ k9 → r_sl h' k = r_sl h k := fun k hk hne => by
    unfold r_sl
    rw [eP]
    exact es k hk hne
  have esl : ∀ k, k < 4 → r_sl h k ≠ 0 → r_sl h' k = r_sl h k := fun k hk hs => eslA k hk (fun e => hs (by rw [e]; exact s0))
  have esn : r_sl h' k9 = P9 := by
    unfold r_sl
    rw [eP]
    exact sP
  have eim : ∀ k, k < 4 → r_im h' k = r_im h k := fun k hk => by
    unfold r_im
    rw [eI]
    exact rm_eD f (by decide) hn a3.1 (R := 8) (by decide) (by omega) a3.2
  have eno : ∀ k, k < 4 → r_sl h k ≠ 0 → r_no h' k = r_no h k := fun k hk hs => by
    rcases b k hk with z | ⟨z1, z2, z3⟩
    · exact absurd z hs
    · unfold r_no
      rw [esl k hk hs]
      rcases z1.2 with q | q | q
      · exact rm_rD f (by decide) hn z1.1 (R := 29) (by decide) (by decide) (Or.inl q)
      · exact rm_rD f (by decide) hn z1.1 (R := 47) (by decide) (by decide) (Or.inl q)
      · exact rm_rD f (by decide) hn z1.1 (R := 29) (by decide) (by decide) (Or.inr q)
  have eho : ∀ k, k < 4 → r_sl h k ≠ 0 → r_ho h' k = r_ho h k ∧ r_L h' k = r_L h k := fun k hk hs => by
    rcases b k hk with z | ⟨z1, z2, z3⟩
    · exact absurd z hs
    · have e1 : r_ho h' k = r_ho h k := by
        unfold r_ho
        rw [eno k hk hs]
        rcases z2.2 with q | q | q
        · exact rm_rD f (by decide) hn z2.1 (R := 39) (by decide) (by decide) (Or.inl q)
        · exact rm_rD f (by decide) hn z2.1 (R := 48) (by decide) (by decide) (Or.inl q)
        · exact rm_rD f (by decide) hn z2.1 (R := 39) (by decide) (by decide) (Or.inr q)
      refine ⟨e1, ?_⟩
      unfold r_L
      rw [e1, (f.2.2.2 _ z3).1]
  have epn : ∀ k, k < 4 → k ≠ k9 → r_pn h' k = r_pn h k ∧ r_pz h' k = r_pz h k := fun k hk hne => by
    unfold r_pn r_pz
    rw [eslA k hk hne]
    by_cases hs : r_sl h k = 0
    · rw [if_pos hs, if_pos hs, if_pos hs, if_pos hs]
      exact ⟨rfl, rfl⟩
    · rw [if_neg hs, if_neg hs, if_neg hs, if_neg hs, (eho k hk hs).2]
      exact ⟨rfl, rfl⟩
  have epk : r_pn h k9 = 0 ∧ r_pz h k9 = 0 ∧ r_pn h' k9 = 164 ∧ r_pz h' k9 = 5024 := by
    have hL : r_L h' k9 = 64 := by
      unfold r_L r_ho r_no
      rw [esn, sN]
      exact HL
    unfold r_pn r_pz
    rw [esn, if_pos s0, if_pos s0, if_neg P0, if_neg P0, hL]
    exact ⟨rfl, rfl, rfl, rfl⟩
  have eqn : ∀ k, k < 4 → r_qn h' k = r_qn h k ∧ r_qz h' k = r_qz h k := fun k hk => by
    unfold r_qn r_qz
    rw [eim k hk]
    exact ⟨rfl, rfl⟩
  have hin : ∀ {a R : Nat}, r_iu ρ h a R → r_iu ρ' h' a R := fun {a R} q => ⟨by have := q.1; omega, by rw [f.same q.1]; exact q.2⟩
  have hin2 : ∀ {a R R2 : Nat}, r_iu2 ρ h a R R2 → r_iu2 ρ' h' a R R2 := fun {a R R2} q => ⟨by have := q.1; omega, by rw [f.same q.1]; exact q.2⟩
  refine ⟨⟨hin a1, by rw [eP]; exact hin a2, by rw [eI]; exact hin a3, by rw [eS]; exact hin a4, by rw [eT0]; have := a5.1; omega, fun a ha => a5.2.1 a (fq_m f ht hn (by decide) (show (6, 1002) ∈ dp_p by decide) ha).1, fun a ha => by rw [eS]; exact a5.2.2 a (fq_m f ht hn (by decide) (show (25, 1002) ∈ dp_p by decide) ha).1⟩, fun k hk => ?_, fun a ha => ?_, ?_, ?_⟩
  · by_cases hne : k = k9
    · subst hne
      refine Or.inr ⟨?_, ?_, ?_⟩
      · rw [esn]
        exact ⟨Pl, Or.inl Pr⟩
      · unfold r_no
        rw [esn, sN]
        exact ⟨Nl, Or.inl Nr⟩
      · unfold r_ho r_no
        rw [esn, sN]
        exact Hl
    · by_cases hs : r_sl h k = 0
      · exact Or.inl ((eslA k hk hne).trans hs)
      · rcases b k hk with z | ⟨z1, z2, z3⟩
        · exact absurd z hs
        · refine Or.inr ⟨by rw [esl k hk hs]; exact hin2 z1, by rw [eno k hk hs]; exact hin2 z2, ?_⟩
          rw [(eho k hk hs).1]
          omega
  · rcases only a ha with ha2 | ha2
    · obtain ⟨k, hk, hs, e9⟩ := c a ha2
      exact ⟨k, hk, by rw [esl k hk hs]; exact hs, by rw [eno k hk hs]; exact e9⟩
    · refine ⟨k9, hk9, by rw [esn]; exact P0, ?_⟩
      unfold r_no
      rw [esn, sN]
      exact ha2
  · rw [en, (eqn 0 (by decide)).1, (eqn 1 (by decide)).1, (eqn 2 (by decide)).1, eT]
    have q0 := epn 0 (by decide)
    have q1 := epn 1 (by decide)
    have q2 := epn 2 (by decide)
    have q3 := epn 3 (by decide)
    match k9, hk9 with
    | 0, _ => have := q1 (by decide); have := q2 (by decide); have := q3 (by decide); omega
    | 1, _ => have := q0 (by decide); have := q2 (by decide); have := q3 (by decide); omega
    | 2, _ => have := q0 (by decide); have := q1 (by decide); have := q3 (by decide); omega
    | 3, _ => have := q0 (by decide); have := q1 (by decide); have := q2 (by decide); omega
  · rw [ez, (eqn 0 (by decide)).2, (eqn 1 (by decide)).2, (eqn 2 (by decide)).2, eT]
    have q0 := epn 0 (by decide)
    have q1 := epn 1 (by decide)
    have q2 := epn 2 (by decide)
    have q3 := epn 3 (by decide)
    match k9, hk9 with
    | 0, _ => have := q1 (by decide); have := q2 (by decide); have := q3 (by decide); omega
    | 1, _ => have := q0 (by decide); have := q2 (by decide); have := q3 (by decide); omega
    | 2, _ => have := q0 (by decide); have := q1 (by decide); have := q3 (by decide); omega
    | 3, _ => have := q0 (by decide); have := q1 (by decide); have := q2 (by decide); omega
