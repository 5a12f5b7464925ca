-- a copy of rows; every plain step
def j_cp (sp : List RS) (W : List (Nat × Nat)) (i pc : Nat) (S : AST) : Option (List AO) := match a_st S with
  | .inl n :: .inl dp :: .inr (.inr (o1, (R1, true))) :: .inl sq :: .inr (.inr (o0, (R0, true))) :: r => if R0 = 0 ∨ R1 = 0 then none else (match sp[R0]?, sp[R1]? with
    | some s0, some s1 => if s0.2.1 = true ∧ s1.2.1 = true ∧ s0.2.2.1 = true ∧ s1.2.2.1 = true ∧ s0.1.1 = s1.1.1 ∧ (s0.1.1 = 20 ∨ s0.1.1 = 21) ∧ W.contains (R1, 1001) = true ∧ 1 ≤ m_fr i ∧ ((r.map a_cat).sum) + 18 ≤ m_lo i ∧ (r.map a_cat).sum ≤ 8 ∧
        le_ent (a_iv S) (a_cs S) (le_mul (-1) sq) = true ∧ le_ent (a_iv S) (a_cs S) (le_mul (-1) dp) = true ∧ le_ent (a_iv S) (a_cs S) (le_mul (-1) n) = true ∧ le_ent (a_iv S) (a_cs S) (le_sub (le_add sq n) (le_c s0.1.2.1)) = true ∧ le_ent (a_iv S) (a_cs S) (le_sub (le_add dp n) (le_c s1.1.2.1)) = true then (match r_ft s0 0, r_ft s1 0 with
      | some (.inl p), some (.inl p2) => if p2.1 ≤ p.1 ∧ p.2 ≤ p2.2 then some [(pc + 3, w_fs (w_ca S (c_oE R1 (a_ca S))) (a_lv S) r)] else none
      | _, _ => none) else none
    | _, _ => none)
  | _ => none
section
variable {sp : List RS} {ρ : Nat → Nat} {W : List (Nat × Nat)} {K : List Int} {KA : List Nat} {S : AST} {lv' : List (Nat × Value)} {st' : List Value} {h : MH} {pc : Nat} {st : List AT} {σ : Nat → Int} {α : Nat → Nat}
theorem t_ct : ∀ {a : List AT} {v : List Value}, t_sk σ α ρ a v → m_cat v = (a.map a_cat).sum
  | [], [], _ => rfl
  | a :: r, v :: q, h => by
    have ih := t_ct h.2
    unfold m_cat at ih ⊢
    rw [List.map_cons, List.map_cons, List.sum_cons, List.sum_cons, ih, a_catE h.1]
  | [], _ :: _, h => h.elim
  | _ :: _, [], h => h.elim
theorem s_cpI (h : MH) (a0 a1 s d n b j : Nat) : h_i (h_cpi h a0 a1 s d n) b j = if b = a1 ∧ (d ≤ j ∧ j < d + n) then h_i h a0 (s + (j - d)) else h_i h b j := by
  show m_u (h_i h) a1 (fun j => if d ≤ j ∧ j < d + n then h_i h a0 (s + (j - d)) else h_i h a1 j) b j = _
  by_cases e : b = a1
  · rw [e, m_uE]
    by_cases e2 : d ≤ j ∧ j < d + n
    · rw [if_pos e2, if_pos ⟨rfl, e2⟩]
    · rw [if_neg e2, if_neg (fun z => e2 z.2)]
  · rw [m_uN _ _ _ _ e, if_neg (fun z => e z.1)]
theorem s_cpT {a0 a1 sx d n R0 R1 : Nat} {s0 s1 : RS} {p p2 : Int × Int} (ht : TH sp ρ h) (h0 : R0 ≠ 0) (hs0 : sp[R0]? = some s0) (hs1 : sp[R1]? = some s1) (ha0 : ρ a0 = R0) (ha1 : ρ a1 = R1) (hr0 : s0.2.2.1 = true) (hr1 : s1.2.2.1 = true) (hf0 : r_ft s0 0 = some (.inl p)) (hf1 : r_ft s1 0 = some (.inl p2)) (hp : p2.1 ≤ p.1 ∧ p.2 ≤ p2.2) (hsz : sx + n ≤ (h_k h a0).2) : TH sp ρ (h_cpi h a0 a1 sx d n) := by
  have hc0 := t_spec ht h0 hs0 ha0
  refine ⟨ht.1, fun b hb => ?_⟩
  obtain ⟨q1, rs2, q2, q3, q4, q5, q6⟩ := ht.2 b hb
  refine ⟨q1, rs2, q2, q3, q4, q5, fun j ft hj hjl => ?_⟩
  have q7 := q6 j ft hj hjl
  cases ft with
  | inl p3 =>
    show p3.1 ≤ (h_i (h_cpi h a0 a1 sx d n) b j).toInt ∧ (h_i (h_cpi h a0 a1 sx d n) b j).toInt ≤ p3.2
    rw [s_cpI]
    by_cases e : b = a1 ∧ (d ≤ j ∧ j < d + n)
    · rw [if_pos e]
      rw [e.1, ha1, hs1] at q2
      cases q2
      have e1 : r_ft s1 j = r_ft s1 0 := by
        unfold r_ft
        rw [hr1]
      rw [e1, hf1] at hj
      cases hj
      have e2 : r_ft s0 (sx + (j - d)) = some (.inl p) := by
        rw [← hf0]
        unfold r_ft
        rw [hr0]
      have q8 := hc0.2.2.2 _ _ e2 (fun _ => by omega)
      have q9 : p.1 ≤ (h_i h a0 (sx + (j - d))).toInt ∧ (h_i h a0 (sx + (j - d))).toInt ≤ p.2 := q8
      omega
    · rw [if_neg e]
      exact q7
  | inr ft => cases ft with
    | inl u => trivial
    | inr q => exact q7
theorem s_cpF {a0 a1 sx d n R1 : Nat} (ha : ρ a1 = R1) (hW : (R1, 1001) ∈ W) : FR ρ W h (h_cpi h a0 a1 sx d n) := by
  refine ⟨rfl, fun _ => rfl, fun b j hj => ⟨?_, rfl, rfl⟩⟩
  rw [s_cpI]
  by_cases e : b = a1 ∧ (d ≤ j ∧ j < d + n)
  · rw [e.1, ha] at hj
    exact absurd (Or.inr hW) hj
  · rw [if_neg e]
theorem s_cpC {a0 a1 sx d n R : Nat} {ca : CA} (hR : ρ a1 = R) (hc : t_ca σ α ρ h ca) (hn : ca.all (fun q => !(q.1.2.1 == R) || q.1.2.2 == 1000) = true) : t_ca σ α ρ (h_cpi h a0 a1 sx d n) ca := by
  intro q hq
  obtain ⟨g1, g2⟩ := hc q hq
  refine ⟨g1, ?_⟩
  have hn2 := List.all_eq_true.mp hn q hq
  obtain ⟨⟨o, R2, k2⟩, t⟩ := q
  dsimp only at g1 g2 hn2 ⊢
  cases t with
  | inl e =>
    show if k2 = 1000 then ((h_k h (α o)).2 : Int) = le_ev σ e else (h_i (h_cpi h a0 a1 sx d n) (α o) (t_kx σ k2)).toInt = le_ev σ e
    have g3 : if k2 = 1000 then ((h_k h (α o)).2 : Int) = le_ev σ e else (h_i h (α o) (t_kx σ k2)).toInt = le_ev σ e := g2
    by_cases hk : k2 = 1000
    · rw [if_pos hk] at g3 ⊢
      exact g3
    · have hne : ¬ α o = a1 := fun z => by
        rw [z, hR] at g1
        rw [← g1.2] at hn2
        simp [hk] at hn2
      have hne2 : ¬ (α o = a1 ∧ (d ≤ t_kx σ k2 ∧ t_kx σ k2 < d + n)) := fun z => hne z.1
      rw [s_cpI, if_neg hne2]
      exact g3
  | inr t => cases t with
    | inl u => trivial
    | inr q => exact g2
theorem q_cp (i : Nat) (ht : TH sp ρ h) (hw : TW ρ K KA S lv' st' h σ α) : T_P sp ρ W K KA (j_cp sp W i pc S) h (e_cp i pc lv' st' h) := by
  have hs := hw.2.2.2.2.2.2
  unfold j_cp
  split
  · next n dp o1 R1 sq o0 R0 r hst =>
    rw [hst] at hs
    obtain ⟨v, q, rfl, ⟨n', rfl, hn⟩, hq1⟩ := t_sc hs
    obtain ⟨v, q, rfl, ⟨dp', rfl, hdp⟩, hq2⟩ := t_sc hq1
    obtain ⟨v, q, rfl, ⟨rfl, hrf1⟩, hq3⟩ := t_sc hq2
    obtain ⟨v, q, rfl, ⟨sq', rfl, hsq⟩, hq4⟩ := t_sc hq3
    obtain ⟨v, q, rfl, ⟨rfl, hrf0⟩, hq⟩ := t_sc hq4
    obtain ⟨a10, a1R⟩ := t_nn hrf1
    obtain ⟨a00, a0R⟩ := t_nn hrf0
    dsimp only at a10 a1R a00 a0R
    split
    · exact q_no
    · next hR =>
      split
      · next s0 s1 hs0 hs1 =>
        have hc0 := t_spec ht (fun z => hR (Or.inl z)) hs0 a0R
        have hc1 := t_spec ht (fun z => hR (Or.inr z)) hs1 a1R
        split
        · next hk =>
          obtain ⟨k1, k2, k3, k4, k5, k6, k7, k9, k10, k11, k12, k13, k14, k15, k16⟩ := hk
          split
          · next p p2 hp hp2 =>
            split
            · next hpp =>
              have l1 := le_entS hw.1 hw.2.1 k12
              have l2 := le_entS hw.1 hw.2.1 k13
              have l3 := le_entS hw.1 hw.2.1 k14
              have l4 := le_entS hw.1 hw.2.1 k15
              have l5 := le_entS hw.1 hw.2.1 k16
              rw [le_mulE] at l1 l2 l3
              rw [le_subE, le_addE, le_cE] at l4 l5
              have e1 : ∀ {x : Int32}, 0 ≤ x.toInt → ¬ x < 0 := fun {x} hx z => by
                have := Int32.lt_iff_toInt_lt.mp z
                have : (0 : Int32).toInt = 0 := by decide
                omega
              have c0 := hc0.2.1.1
              have c1 := hc1.2.1.1
              have f1 : sq'.toNatClampNeg + n'.toNatClampNeg ≤ (h_k h (α o0)).2 := by
                show sq'.toInt.toNat + n'.toInt.toNat ≤ _
                omega
              have f2 : dp'.toNatClampNeg + n'.toNatClampNeg ≤ (h_k h (α o1)).2 := by
                show dp'.toInt.toNat + n'.toInt.toNat ≤ _
                omega
              have hct := t_ct hq
              unfold e_cp
              dsimp only
              have hcc : 16 ≤ α o0 ∧ 16 ≤ α o1 ∧ ¬ sq' < 0 ∧ ¬ dp' < 0 ∧ ¬ n' < 0 ∧ sq'.toNatClampNeg + n'.toNatClampNeg ≤ (h_k h (α o0)).2 ∧ dp'.toNatClampNeg + n'.toNatClampNeg ≤ (h_k h (α o1)).2 ∧ 1 ≤ m_fr i ∧ m_cat q + 18 ≤ m_lo i ∧ m_cat q ≤ 8 := ⟨hc0.2.2.1 k1, hc1.2.2.1 k2, e1 (by omega), e1 (by omega), e1 (by omega), f1, f2, k9, by omega, by omega⟩
              rw [if_pos hcc]
              have hkk : ((h_k h (α o0)).1 = 20 ∧ (h_k h (α o1)).1 = 20) ∨ ((h_k h (α o0)).1 = 21 ∧ (h_k h (α o1)).1 = 21) := by
                rw [hc0.1, hc1.1]
                omega
              rw [if_pos hkk]
              have ht2 := s_cpT (sx := sq'.toNatClampNeg) (d := dp'.toNatClampNeg) (n := n'.toNatClampNeg) ht (fun z => hR (Or.inl z)) hs0 hs1 a0R a1R k3 k4 hp hp2 hpp f1
              intro L e9
              cases (Option.some.inj e9)
              obtain ⟨w1, w2, w3, w4, w5, w6, w7⟩ := hw
              exact ⟨_, lv', q, _, rfl, s_cpF a1R (List.contains_iff_mem.mp k7), _, List.mem_singleton.mpr rfl, ht2, σ, α, w1, w2, s_cpC a1R (t_caF w3) (c_oEa R1 _), w4, w5, w6, hq⟩
            · exact q_no
          · exact q_no
        · exact q_no
      · exact q_no
  · exact q_no
end
