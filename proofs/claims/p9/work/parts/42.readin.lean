-- a field's worth, known ahead of a call
def a_isr (o R : Nat) (t : AT) : Bool := match t with
  | .inr (.inr q) => Nat.beq q.1 o && (Nat.beq q.2.1 R && q.2.2)
  | _ => false
def r_ev (S : AST) (o R : Nat) : Bool := !(Nat.beq R 0) && ((a_st S).any (fun t => a_isr o R t) || ((a_ca S).any (fun q => a_isr o R q.2) || (a_lv S).any (fun q => a_isr o R q.2)))
def r_in (sp : List RS) (S : AST) (o R f : Nat) : Option AST := match c_lk (a_ca S) (o, (R, f)) with
  | some _ => some S
  | none => if r_ev S o R = true ∧ f_S (a_nx S) S = true ∧ o ≠ a_nx S ∧ f < 5000 then (match sp[R]? with
    | some rs => if f = 1000 then some (w_nx (w_ca (w_iv S ((a_nx S, ((rs.1.2.1 : Int), (rs.1.2.2 : Int))) :: a_iv S)) (((o, (R, 1000)), .inl (le_s (a_nx S))) :: a_ca S)) (a_nx S + 1))
      else if rs.2.2.1 = false ∨ f < rs.1.2.1 then (match r_ft rs f with
        | some (.inl p) => some (w_nx (w_ca (w_iv S ((a_nx S, p) :: a_iv S)) (((o, (R, f)), .inl (le_s (a_nx S))) :: a_ca S)) (a_nx S + 1))
        | some (.inr (.inr q)) => some (w_nx (w_ca S (((o, (R, f)), .inr (.inr (a_nx S, q))) :: a_ca S)) (a_nx S + 1))
        | _ => none) else none
    | none => none) else none
section
variable {sp : List RS} {ρ : Nat → Nat} {K : List Int} {KA : List Nat} {S S' : AST} {lv : List (Nat × Value)} {st : List Value} {h : MH} {σ : Nat → Int} {α : Nat → Nat}
theorem a_isrS {o R : Nat} {t : AT} (k : a_isr o R t = true) : ∃ q : Nat × (Nat × Bool), t = .inr (.inr q) ∧ q.1 = o ∧ q.2.1 = R ∧ q.2.2 = true := by
  unfold a_isr at k
  split at k
  · next q =>
    rw [Bool.and_eq_true, Bool.and_eq_true] at k
    exact ⟨q, rfl, Nat.eq_of_beq_eq_true k.1, Nat.eq_of_beq_eq_true k.2.1, k.2.2⟩
  · cases k
theorem t_skm : ∀ {l : List AT} {v : List Value} {t : AT}, t_sk σ α ρ l v → t ∈ l → ∃ x, t_at σ α ρ t x
  | t :: r, x :: q, t0, hs, hm => by
    rcases List.mem_cons.mp hm with e | hm
    · rw [e]
      exact ⟨x, hs.1⟩
    · exact t_skm hs.2 hm
  | [], _, _, _, hm => by cases hm
  | _ :: _, [], _, hs, _ => hs.elim
theorem r_evS {o R : Nat} (hw : TW ρ K KA S lv st h σ α) (k : r_ev S o R = true) : R ≠ 0 ∧ α o ≠ 0 ∧ ρ (α o) = R := by
  unfold r_ev at k
  rw [Bool.and_eq_true, Bool.or_eq_true, Bool.or_eq_true] at k
  obtain ⟨k0, k⟩ := k
  have hR : R ≠ 0 := fun e => by
    rw [e] at k0
    cases k0
  refine ⟨hR, ?_⟩
  rcases k with k | k | k
  · obtain ⟨t, m, k⟩ := List.any_eq_true.mp k
    obtain ⟨q, rfl, e1, e2, e3⟩ := a_isrS k
    obtain ⟨x, -, hx⟩ := t_skm hw.2.2.2.2.2.2 m
    rw [e3, e2, e1] at hx
    exact t_nn hx
  · obtain ⟨⟨kk, t⟩, m, k⟩ := List.any_eq_true.mp k
    obtain ⟨q, e0, e1, e2, e3⟩ := a_isrS k
    dsimp only at e0
    rw [e0] at m
    obtain ⟨-, -, hx⟩ := hw.2.2.1 _ m
    rw [e3, e2, e1] at hx
    exact t_nn hx
  · obtain ⟨⟨kk, t⟩, m, k⟩ := List.any_eq_true.mp k
    obtain ⟨q, e0, e1, e2, e3⟩ := a_isrS k
    dsimp only at e0
    rw [e0] at m
    obtain ⟨x, -, -, hx⟩ := hw.2.2.2.2.2.1 _ m
    rw [e3, e2, e1] at hx
    exact t_nn hx
theorem r_inS {o R f : Nat} (ht : TH sp ρ h) (hw : TW ρ K KA S lv st h σ α) (e : r_in sp S o R f = some S') : (∃ σ' α', TW ρ K KA S' lv st h σ' α') ∧ a_st S' = a_st S ∧ a_lv S' = a_lv S ∧ a_kp S' = a_kp S ∧ a_ko S' = a_ko S := by
  unfold r_in at e
  split at e
  · cases e
    exact ⟨⟨σ, α, hw⟩, rfl, rfl, rfl, rfl⟩
  · split at e
    · next hc =>
      obtain ⟨c1, c2, c3, c4⟩ := hc
      obtain ⟨hR, ha, hρ⟩ := r_evS hw c1
      split at e
      · next rs hsp =>
        have hcell := t_spec ht hR hsp hρ
        split at e
        · next hf =>
          cases e
          refine ⟨⟨s_up σ (a_nx S) ((h_k h (α o)).2 : Int), o_up α (a_nx S) 0, ?_⟩, rfl, rfl, rfl, rfl⟩
          obtain ⟨w1, w2, w3, w4, w5, w6, w7⟩ := f_SS ((h_k h (α o)).2 : Int) 0 c2 hw
          have hn : s_up σ (a_nx S) ((h_k h (α o)).2 : Int) (a_nx S) = ((h_k h (α o)).2 : Int) := if_pos rfl
          have ho : o_up α (a_nx S) 0 o = α o := if_neg c3
          refine ⟨fun q hq => ?_, w2, fun q hq => ?_, w4, w5, w6, w7⟩
          · rcases List.mem_cons.mp hq with e | hq
            · rw [e]
              dsimp only
              rw [hn]
              have := hcell.2.1
              omega
            · exact w1 q hq
          · rcases List.mem_cons.mp hq with e | hq
            · rw [e]
              dsimp only
              rw [ho]
              refine ⟨⟨ha, hρ⟩, ?_⟩
              unfold t_fv
              dsimp only
              rw [if_pos rfl, le_sE, hn]
            · exact w3 q hq
        · next hf =>
         split at e
         · next hz =>
          have hz2 : rs.2.2.1 = true → f < (h_k h (α o)).2 := fun z => by
            rcases hz with z2 | z2
            · rw [z2] at z
              cases z
            · exact Nat.lt_of_lt_of_le z2 hcell.2.1.1
          split at e
          · next p hp =>
            cases e
            have hv : p.1 ≤ (h_i h (α o) f).toInt ∧ (h_i h (α o) f).toInt ≤ p.2 := hcell.2.2.2 f _ hp hz2
            refine ⟨⟨s_up σ (a_nx S) (h_i h (α o) f).toInt, o_up α (a_nx S) 0, ?_⟩, rfl, rfl, rfl, rfl⟩
            obtain ⟨w1, w2, w3, w4, w5, w6, w7⟩ := f_SS (h_i h (α o) f).toInt 0 c2 hw
            have hn : s_up σ (a_nx S) (h_i h (α o) f).toInt (a_nx S) = (h_i h (α o) f).toInt := if_pos rfl
            have ho : o_up α (a_nx S) 0 o = α o := if_neg c3
            refine ⟨fun q hq => ?_, w2, fun q hq => ?_, w4, w5, w6, w7⟩
            · rcases List.mem_cons.mp hq with e | hq
              · rw [e]
                dsimp only
                rw [hn]
                exact hv
              · exact w1 q hq
            · rcases List.mem_cons.mp hq with e | hq
              · rw [e]
                dsimp only
                rw [ho]
                refine ⟨⟨ha, hρ⟩, ?_⟩
                unfold t_fv
                dsimp only
                rw [if_neg hf, t_kxl c4, le_sE, hn]
              · exact w3 q hq
          · next q0 hp =>
            cases e
            have hv : t_rf ρ q0.1 q0.2 (h_r h (α o) f) := hcell.2.2.2 f _ hp hz2
            refine ⟨⟨s_up σ (a_nx S) 0, o_up α (a_nx S) (h_r h (α o) f), ?_⟩, rfl, rfl, rfl, rfl⟩
            obtain ⟨w1, w2, w3, w4, w5, w6, w7⟩ := f_SS 0 (h_r h (α o) f) c2 hw
            have hn : o_up α (a_nx S) (h_r h (α o) f) (a_nx S) = h_r h (α o) f := if_pos rfl
            have ho : o_up α (a_nx S) (h_r h (α o) f) o = α o := if_neg c3
            refine ⟨w1, w2, fun q hq => ?_, w4, w5, w6, w7⟩
            rcases List.mem_cons.mp hq with e | hq
            · rw [e]
              dsimp only
              rw [ho]
              refine ⟨⟨ha, hρ⟩, ?_⟩
              show h_r h (α o) (t_kx _ f) = o_up α (a_nx S) (h_r h (α o) f) (a_nx S) ∧ t_rf ρ q0.1 q0.2 (o_up α (a_nx S) (h_r h (α o) f) (a_nx S))
              rw [hn, t_kxl c4]
              exact ⟨rfl, hv⟩
            · exact w3 q hq
          · cases e
         · cases e
      · cases e
    · cases e
end
-- all that a callee wants to know, read in; its symbols' words
def r_al (sp : List RS) (m0 : Nat) : CA → AST → BS → Option (AST × BS)
  | [], S, b => some (S, b)
  | q :: r, S, b => if q.1.2.2 < 5000 then (match r_in sp S (b_ph b q.1.1) q.1.2.1 q.1.2.2 with
    | some S' => (match c_lk (a_ca S') (b_ph b q.1.1, q.1.2) with
      | some t' => r_al sp m0 r S' (b_bi m0 q.2 t' b)
      | none => none)
    | none => none) else (match u_ca (b_th (b_ky m0 S q.1 b)) (b_ph b) S q.1 with
      | some t' => r_al sp m0 r S (b_bi m0 q.2 t' (b_ky m0 S q.1 b))
      | none => none)
theorem r_alS {sp : List RS} {ρ : Nat → Nat} {K : List Int} {KA : List Nat} {lv : List (Nat × Value)} {st : List Value} {h : MH} (m0 : Nat) (ht : TH sp ρ h) : ∀ (ca : CA) (S : AST) (b : BS) (S' : AST) (b' : BS), (∃ σ α, TW ρ K KA S lv st h σ α) → r_al sp m0 ca S b = some (S', b') → (∃ σ' α', TW ρ K KA S' lv st h σ' α') ∧ a_st S' = a_st S ∧ a_lv S' = a_lv S ∧ a_kp S' = a_kp S ∧ a_ko S' = a_ko S
  | [], S, b, S', b', hw, e => by
    cases e
    exact ⟨hw, rfl, rfl, rfl, rfl⟩
  | q :: r, S, b, S', b', hw, e => by
    rw [r_al] at e
    split at e
    · split at e
      · next S1 h1 =>
        split at e
        · next t' ht' =>
          obtain ⟨σ, α, hw⟩ := hw
          obtain ⟨g0, g1, g2, g3, g4⟩ := r_inS ht hw h1
          obtain ⟨k0, k1, k2, k3, k4⟩ := r_alS m0 ht r S1 _ S' b' g0 e
          exact ⟨k0, k1.trans g1, k2.trans g2, k3.trans g3, k4.trans g4⟩
        · cases e
      · cases e
    · split at e
      · exact r_alS m0 ht r S _ S' b' hw e
      · cases e
