-- the same from any place of a method (the law, behind its two constructors)
def V_at (sp : List RS) (CC : Nat × (Nat × Nat)) (PT : Nat → (Nat → Nat) → MH → Prop) (j pc0 : Nat) (m : SM) : Prop := ∀ (ρ : Nat → Nat) (K : List Int) (KA : List Nat) (lv : List (Nat × Value)) (h : MH), CCok CC ρ → TS sp ρ K KA m.1.1 lv [] h → (∀ t ∈ m.1.2, PT t ρ h) → ∃ (n : Nat) (v : Option Value) (h' : MH) (ρ' : Nat → Nat), m_rn n j pc0 lv [] h = some (v, h') ∧ FQ ρ ρ' m.2.1 h h' ∧ ∃ P ∈ m.2.2, TS sp ρ' K KA P.1 [] v.toList h' ∧ ∀ t ∈ P.2, PT t ρ' h'
noncomputable def d_mtA (sp : List RS) (CC : Nat × (Nat × Nat)) (dep : Nat → List (Nat × Nat)) (gk : GK) (env : List (Nat × SM)) (alt : List (Nat × Nat)) (cuts : List CT) (B : Int) (fuel i pc0 : Nat) (m : SM) : Bool := d_run sp CC dep gk env alt m.2.1 cuts m.2.2 i fuel pc0 (w_kp m.1.1 (le_c B :: a_kp m.1.1)) m.1.2 && cuts.all (fun C => d_run sp CC dep gk env alt m.2.1 cuts m.2.2 i fuel C.1 (w_kp C.2.1 (C.2.2.2 :: a_kp C.2.1)) C.2.2.1)
section
variable {sp : List RS} {CC : Nat × (Nat × Nat)} {dep : Nat → List (Nat × Nat)} {gk : GK} {PT : Nat → (Nat → Nat) → MH → Prop} {env : List (Nat × SM)} {alt : List (Nat × Nat)} {cuts : List CT}
theorem d_mtAS {B : Int} {fuel i pc0 : Nat} {m : SM} (hPT : PTx sp dep PT) (henv : ENV sp CC PT env) (hgk : GKok sp CC PT i gk) (hlen : ∀ (R : Nat) (rs : RS), sp[R]? = some rs → rs.1.2.2 < 1000 ∨ ¬ (30 ≤ rs.1.1 ∧ rs.1.1 < 33)) (hcuts : cuts.all (fun C => (a_st C.2.1).isEmpty) = true) (e : d_mtA sp CC dep gk env alt cuts B fuel i pc0 m = true) : V_at sp CC PT i pc0 m := by
  have hc2 : ∀ C ∈ cuts, a_st C.2.1 = [] := fun C hC => List.isEmpty_iff.mp (List.all_eq_true.mp hcuts C hC)
  unfold d_mtA at e
  rw [Bool.and_eq_true] at e
  intro ρ K KA lv h hC hS hT
  have key : ∀ (n : Nat) (pc : Nat) (lv1 : List (Nat × Value)) (st1 : List Value) (h1 : MH) (ρ1 : Nat → Nat) (mv : Int), mv < n → CCok CC ρ1 → OUT sp PT m.2.1 cuts m.2.2 i K KA mv pc lv1 st1 h1 ρ1 → ∃ (v : Option Value) (h' : MH) (ρ' : Nat → Nat), Rq i pc lv1 st1 h1 (v, h') ∧ FQ ρ1 ρ' m.2.1 h1 h' ∧ ∃ P ∈ m.2.2, TS sp ρ' K KA P.1 [] v.toList h' ∧ ∀ t ∈ P.2, PT t ρ' h' := by
    intro n
    induction n with
    | zero =>
      intro pc lv1 st1 h1 ρ1 mv hmv hC1 ho
      rcases ho with ho | ⟨C, mC, lv2, h2, ρ2, g1, g2, g3, ⟨σ, α, g4, g5, g6⟩, g7⟩
      · exact ho
      · omega
    | succ n ih =>
      intro pc lv1 st1 h1 ρ1 mv hmv hC1 ho
      rcases ho with ho | ⟨C, mC, lv2, h2, ρ2, g1, g2, g3, ⟨σ, α, g4, g5, g6⟩, g7⟩
      · exact ho
      · have e1 := List.all_eq_true.mp e.2 C mC
        have ho2 := d_runS (K := K) (KA := KA) (mv := le_ev σ C.2.2.2) hPT henv hgk hlen hc2 fuel C.1 _ _ lv2 [] h2 ρ2 (hC1.x g2) ⟨g3, σ, α, w_kpS g4⟩ g7 e1
        obtain ⟨v, h3, ρ3, k1, k2, k3⟩ := ih C.1 lv2 [] h2 ρ2 (le_ev σ C.2.2.2) (by omega) (hC1.x g2) ho2
        exact ⟨v, h3, ρ3, g1 _ k1, g2.trans k2, k3⟩
  obtain ⟨ht, σ, α, hw⟩ := hS
  have ho := d_runS (K := K) (KA := KA) (mv := B) hPT henv hgk hlen hc2 fuel pc0 _ _ lv [] h ρ hC ⟨ht, σ, α, by
    have := w_kpS (e := le_c B) hw
    rw [le_cE] at this
    exact this⟩ hT e.1
  obtain ⟨v, h', ρ', ⟨n, k1⟩, k2, k3⟩ := key (B.toNat + 1) pc0 lv [] h ρ B (by omega) hC ho
  exact ⟨n, v, h', ρ', k1, k2, k3⟩
end
