-- putfield: ints, longs, references
def t_asg (q : Nat × (Nat × Bool)) (f : Nat × Bool) : Bool := (q.2.2 || !f.2) && (q.2.1 == 0 || q.2.1 == f.1)
def j_put (sp : List RS) (W : List (Nat × Nat)) (i idx pc : Nat) (S : AST) : Option (List AO) := match a_st S, m_fl i idx with
  | .inl x :: .inr (.inr (o, (R, true))) :: r, some (_, c, k) => if R = 0 ∨ 1000 ≤ k then none else (match sp[R]? with
    | some rs => if rs.1.1 = c + 1 ∧ c < 10 ∧ k < m_nf c ∧ m_ty c k = (0, false) ∧ W.contains (R, k) = true then (match r_ft rs k with
      | some (.inl p) => if t_inr S x p = true then some [(pc + 3, w_fs (w_ca S (((o, (R, k)), .inl x) :: c_out R k (a_ca S))) (a_lv S) r)] else none
      | _ => none) else none
    | none => none)
  | .inr (.inl _) :: .inr (.inr (_, (R, true))) :: r, some (_, c, k) => if R = 0 then none else (match sp[R]? with
    | some rs => if rs.1.1 = c + 1 ∧ c < 10 ∧ k < m_nf c ∧ m_ty c k = (1, false) ∧ W.contains (R, k) = true then t_go (pc + 3) S r else none
    | none => none)
  | .inr (.inr q) :: .inr (.inr (o, (R, true))) :: r, some (nest, c, k) => if R = 0 ∨ 1000 ≤ k then none else (match sp[R]? with
    | some rs => if rs.1.1 = c + 1 ∧ c < 10 ∧ k < m_nf c ∧ (m_ty c k).1 = 2 ∧ ((m_ty c k).2 = true → nest = 0 ∧ m_kind i = 2 ∧ m_ownL.getD i 0 = m_ow i ∧ m_cnm c = (m_m i).2.1.cls) ∧ W.contains (R, k) = true then (match r_ft rs k with
      | some (.inr (.inr f)) => if t_asg q f = true then some [(pc + 3, w_fs (w_ca S (((o, (R, k)), .inr (.inr q)) :: c_out R k (a_ca S))) (a_lv S) r)] else none
      | some (.inr (.inl _)) => some [(pc + 3, w_fs (w_ca S (((o, (R, k)), .inr (.inr q)) :: c_out R k (a_ca S))) (a_lv S) r)]
      | _ => none) else none
    | none => none)
  | _, _ => none
section
variable {sp : List RS} {ρ : Nat → Nat} {W : List (Nat × Nat)} {K : List Int} {KA : List Nat} {S : AST} {lv' : List (Nat × Value)} {st' : List Value} {h : MH} {pc : Nat} {st : List AT} {σ : Nat → Int} {α : Nat → Nat}
theorem t_asgS {q : Nat × (Nat × Bool)} {f : Nat × Bool} (e : t_asg q f = true) (hq : t_rf ρ q.2.1 q.2.2 (α q.1)) : t_rf ρ f.1 f.2 (α q.1) := by
  unfold t_asg at e
  rw [Bool.and_eq_true, Bool.or_eq_true, Bool.or_eq_true] at e
  rcases hq with ⟨z1, z2⟩ | ⟨z1, z2, z3⟩
  · refine Or.inl ⟨z1, ?_⟩
    rcases e.1 with e1 | e1
    · rw [z2] at e1
      cases e1
    · cases hf : f.2 with
      | false => rfl
      | true => rw [hf] at e1; cases e1
  · rcases e.2 with e1 | e1
    · exact absurd (beq_iff_eq.mp e1) z2
    · have := beq_iff_eq.mp e1
      rw [this] at z2 z3
      exact Or.inr ⟨z1, z2, z3⟩
theorem s_srR (h : MH) (a k x b j : Nat) : h_r (h_sr h a k x) b j = if b = a ∧ j = k then x else h_r h b j := by
  show m_u (h_r h) a (m_u (h_r h a) k x) b j = _
  by_cases e : b = a
  · rw [e, m_uE]
    by_cases e2 : j = k
    · rw [if_pos ⟨rfl, e2⟩, e2, m_uE]
    · rw [if_neg (fun z => e2 z.2), m_uN _ _ _ _ e2]
  · rw [m_uN _ _ _ _ e, if_neg (fun z => e z.1)]
theorem s_srT {a k R x : Nat} {rs : RS} {f : Nat × Bool} (ht : TH sp ρ h) (hsp : sp[R]? = some rs) (ha : ρ a = R) (hft : r_ft rs k = some (.inr (.inr f))) (h1 : t_rf ρ f.1 f.2 x) : TH sp ρ (h_sr h a k x) := by
  refine ⟨ht.1, fun b hb => ?_⟩
  obtain ⟨q1, rs2, q2, q3, q4, q5, q6⟩ := ht.2 b hb
  refine ⟨q1, rs2, q2, q3, q4, q5, fun j ft hj hjl => ?_⟩
  have q7 := q6 j ft hj hjl
  cases ft with
  | inl p2 => exact q7
  | inr ft => cases ft with
    | inl u => trivial
    | inr q =>
      show t_rf ρ q.1 q.2 (h_r (h_sr h a k x) b j)
      rw [s_srR]
      by_cases e : b = a ∧ j = k
      · rw [if_pos e]
        rw [e.1, ha, hsp] at q2
        cases q2
        rw [e.2, hft] at hj
        cases hj
        exact h1
      · rw [if_neg e]
        exact q7
theorem s_srU {a k R x : Nat} {rs : RS} {u : Unit} (ht : TH sp ρ h) (hsp : sp[R]? = some rs) (ha : ρ a = R) (hft : r_ft rs k = some (.inr (.inl u))) : TH sp ρ (h_sr h a k x) := by
  refine ⟨ht.1, fun b hb => ?_⟩
  obtain ⟨q1, rs2, q2, q3, q4, q5, q6⟩ := ht.2 b hb
  refine ⟨q1, rs2, q2, q3, q4, q5, fun j ft hj hjl => ?_⟩
  have q7 := q6 j ft hj hjl
  cases ft with
  | inl p2 => exact q7
  | inr ft => cases ft with
    | inl u => trivial
    | inr q =>
      show t_rf ρ q.1 q.2 (h_r (h_sr h a k x) b j)
      rw [s_srR]
      by_cases e : b = a ∧ j = k
      · rw [e.1, ha, hsp] at q2
        cases q2
        rw [e.2, hft] at hj
        cases hj
      · rw [if_neg e]
        exact q7
theorem s_srF {a k R x : Nat} (ha : ρ a = R) (hW : t_W W R k) : FR ρ W h (h_sr h a k x) := by
  refine ⟨rfl, fun _ => rfl, fun b j hj => ⟨rfl, rfl, ?_⟩⟩
  rw [s_srR]
  by_cases e : b = a ∧ j = k
  · rw [e.1, e.2, ha] at hj
    exact absurd hW hj
  · rw [if_neg e]
theorem s_srC {a k R x : Nat} {ca : CA} (ha : ρ a = R) (hc : t_ca σ α ρ h ca) : t_ca σ α ρ (h_sr h a k x) (c_out R k ca) := by
  intro q hq
  obtain ⟨m1, m2⟩ := List.mem_filter.mp hq
  obtain ⟨g1, g2⟩ := hc q m1
  refine ⟨g1, ?_⟩
  obtain ⟨⟨o, R2, k2⟩, t⟩ := q
  dsimp only at g1 g2 m2 ⊢
  have hne : ¬ (α o = a ∧ t_kx σ k2 = k) := fun e => by
    rw [e.1, ha] at g1
    rw [← g1.2] at m2
    by_cases h5 : k2 < 5000
    · rw [t_kxl h5] at e
      rw [e.2] at m2
      simp at m2
    · have : Nat.ble 5000 k2 = true := Nat.ble_eq_true_of_le (by omega)
      rw [this] at m2
      simp at m2
  cases t with
  | inl e => exact g2
  | inr t => cases t with
    | inl u => trivial
    | inr q =>
      show h_r (h_sr h a k x) (α o) (t_kx σ k2) = α q.1 ∧ _
      rw [s_srR, if_neg hne]
      exact g2
theorem s_slT {a k : Nat} {x : Int64} (ht : TH sp ρ h) : TH sp ρ (h_sl h a k x) := by
  refine ⟨ht.1, fun b hb => ?_⟩
  obtain ⟨q1, rs2, q2, q3, q4, q5, q6⟩ := ht.2 b hb
  refine ⟨q1, rs2, q2, q3, q4, q5, fun j ft hj hjl => ?_⟩
  have q7 := q6 j ft hj hjl
  cases ft with
  | inl p2 => exact q7
  | inr ft => cases ft with
    | inl u => trivial
    | inr q => exact q7
theorem s_slF {a k R : Nat} {x : Int64} (ha : ρ a = R) (hW : t_W W R k) : FR ρ W h (h_sl h a k x) := by
  refine ⟨rfl, fun _ => rfl, fun b j hj => ⟨rfl, ?_, rfl⟩⟩
  show m_u (h_l h) a (m_u (h_l h a) k x) b j = _
  by_cases e : b = a
  · rw [e, m_uE]
    by_cases e2 : j = k
    · rw [e, ha, e2] at hj
      exact absurd hW hj
    · rw [m_uN _ _ _ _ e2]
  · rw [m_uN _ _ _ _ e]
theorem q_put (i idx : Nat) (ht : TH sp ρ h) (hw : TW ρ K KA S lv' st' h σ α) : T_P sp ρ W K KA (j_put sp W i idx pc S) h (e_put i idx pc lv' st' h) := by
  have hs := hw.2.2.2.2.2.2
  unfold j_put
  split
  · next x o R r z c k hst ef =>
    rw [hst] at hs
    obtain ⟨v, q, rfl, ⟨x', rfl, hx⟩, hq1⟩ := t_sc hs
    obtain ⟨v, q, rfl, ⟨rfl, hrf⟩, hq⟩ := t_sc hq1
    obtain ⟨ha0, haR⟩ := t_nn hrf
    dsimp only at ha0 haR
    split
    · exact q_no
    · next hR =>
      split
      · next rs hsp =>
        have hR0 : R ≠ 0 := fun z => hR (Or.inl z)
        have hcell := t_spec ht hR0 hsp haR
        split
        · next hk =>
          obtain ⟨k1, k2, k3, k4, k5⟩ := hk
          unfold e_put
          rw [ef]
          dsimp only
          rw [if_pos (show (h_k h (α o)).1 = c + 1 ∧ c < 10 ∧ k < m_nf c ∧ m_ty c k = (0, false) from ⟨hcell.1.trans k1, k2, k3, k4⟩)]
          split
          · next p hp =>
            split
            · next hr =>
              obtain ⟨r1, r2⟩ := t_inrS hw hr
              have ht2 := s_siT (x := x') ht hR0 hsp haR hp (by omega) (by omega)
              intro L e9
              cases (Option.some.inj e9)
              obtain ⟨w1, w2, w3, w4, w5, w6, w7⟩ := hw
              refine ⟨_, lv', q, _, rfl, s_siF haR (Or.inl (List.contains_iff_mem.mp k5)), _, List.mem_singleton.mpr rfl, ht2, σ, α, w1, w2, fun q9 hq9 => ?_, w4, w5, w6, hq⟩
              rcases List.mem_cons.mp hq9 with e | hq9
              · rw [e]
                refine ⟨⟨ha0, haR⟩, ?_⟩
                show if k = 1000 then ((h_k h (α o)).2 : Int) = le_ev σ x else (h_i (h_si h (α o) k x') (α o) (t_kx σ k)).toInt = le_ev σ x
                rw [if_neg (fun z => hR (Or.inr (by omega))), t_kxl (by omega), s_siI, if_pos ⟨rfl, rfl⟩]
                exact hx
              · exact s_siC (fun z => hR (Or.inr (by omega))) haR w3 q9 hq9
            · exact q_no
          · exact q_no
        · exact q_no
      · exact q_no
  · next u o R r z c k hst ef =>
    rw [hst] at hs
    obtain ⟨v, q, rfl, ⟨x', rfl⟩, hq1⟩ := t_sc hs
    obtain ⟨v, q, rfl, ⟨rfl, hrf⟩, hq⟩ := t_sc hq1
    obtain ⟨ha0, haR⟩ := t_nn hrf
    dsimp only at ha0 haR
    split
    · exact q_no
    · next hR =>
      split
      · next rs hsp =>
        have hcell := t_spec ht hR hsp haR
        split
        · next hk =>
          obtain ⟨k1, k2, k3, k4, k5⟩ := hk
          unfold e_put
          rw [ef]
          dsimp only
          rw [if_pos (show (h_k h (α o)).1 = c + 1 ∧ c < 10 ∧ k < m_nf c ∧ m_ty c k = (1, false) from ⟨hcell.1.trans k1, k2, k3, k4⟩)]
          intro L e9
          cases (Option.some.inj e9)
          obtain ⟨w1, w2, w3, w4, w5, w6, w7⟩ := hw
          exact ⟨_, lv', q, _, rfl, s_slF haR (Or.inl (List.contains_iff_mem.mp k5)), _, List.mem_singleton.mpr rfl, s_slT ht, σ, α, w1, w2, w3, w4, w5, w6, hq⟩
        · exact q_no
      · exact q_no
  · next q0 o R r z c k hst ef =>
    rw [hst] at hs
    obtain ⟨v, q, rfl, ⟨rfl, hv⟩, hq1⟩ := t_sc hs
    obtain ⟨v, q, rfl, ⟨rfl, hrf⟩, hq⟩ := t_sc hq1
    obtain ⟨ha0, haR⟩ := t_nn hrf
    dsimp only at ha0 haR
    split
    · exact q_no
    · next hR =>
      split
      · next rs hsp =>
        have hR0 : R ≠ 0 := fun z => hR (Or.inl z)
        have hcell := t_spec ht hR0 hsp haR
        split
        · next hk =>
          obtain ⟨k1, k2, k3, k4, k6, k5⟩ := hk
          unfold e_put
          rw [ef]
          dsimp only
          rw [if_pos ⟨hcell.1.trans k1, k2, k3, k4, k6⟩]
          split
          · next f hf =>
            split
            · next hr =>
              have ht2 := s_srT ht hsp haR hf (t_asgS hr hv)
              intro L e9
              cases (Option.some.inj e9)
              obtain ⟨w1, w2, w3, w4, w5, w6, w7⟩ := hw
              refine ⟨_, lv', q, _, rfl, s_srF haR (Or.inl (List.contains_iff_mem.mp k5)), _, List.mem_singleton.mpr rfl, ht2, σ, α, w1, w2, fun q9 hq9 => ?_, w4, w5, w6, hq⟩
              rcases List.mem_cons.mp hq9 with e | hq9
              · rw [e]
                refine ⟨⟨ha0, haR⟩, ?_, hv⟩
                show h_r (h_sr h (α o) k (α q0.1)) (α o) (t_kx σ k) = α q0.1
                rw [t_kxl (by omega), s_srR, if_pos ⟨rfl, rfl⟩]
              · exact s_srC haR w3 q9 hq9
            · exact q_no
          · next u9 hf =>
            have ht2 := s_srU (x := α q0.1) ht hsp haR hf
            intro L e9
            cases (Option.some.inj e9)
            obtain ⟨w1, w2, w3, w4, w5, w6, w7⟩ := hw
            refine ⟨_, lv', q, _, rfl, s_srF haR (Or.inl (List.contains_iff_mem.mp k5)), _, List.mem_singleton.mpr rfl, ht2, σ, α, w1, w2, fun q9 hq9 => ?_, w4, w5, w6, hq⟩
            rcases List.mem_cons.mp hq9 with e | hq9
            · rw [e]
              refine ⟨⟨ha0, haR⟩, ?_, hv⟩
              show h_r (h_sr h (α o) k (α q0.1)) (α o) (t_kx σ k) = α q0.1
              rw [t_kxl (by omega), s_srR, if_pos ⟨rfl, rfl⟩]
            · exact s_srC haR w3 q9 hq9
          · exact q_no
        · exact q_no
      · exact q_no
  · exact q_no
end
