-- THE SAME, SOME CUTS GONE ON FROM BY HAND
section
variable {sp : List RS} {CC : Nat × (Nat × Nat)} {dep : Nat → List (Nat × Nat)} {gk : GK} {PT : Nat → (Nat → Nat) → MH → Prop} {env : List (Nat × SM)} {alt : List (Nat × Nat)} {cuts : List CT}
-- a cut by hand: whoever goes on from every other cut, goes on from here
def d_hand (sp : List RS) (CC : Nat × (Nat × Nat)) (PT : Nat → (Nat → Nat) → MH → Prop) (i : Nat) (m : SM) (cuts : List CT) (C : CT) : Prop := ∀ (ρ : Nat → Nat) (K : List Int) (KA : List Nat) (lv : List (Nat × Value)) (h : MH) (σ : Nat → Int) (α : Nat → Nat) (Q : Option Value → MH → Prop), CCok CC ρ → TH sp ρ h → TW ρ K KA C.2.1 lv [] h σ α → (∀ t ∈ C.2.2.1, PT t ρ h) → (∀ C' ∈ cuts, ∀ (lv' : List (Nat × Value)) (h' : MH) (ρ' : Nat → Nat) (σ' : Nat → Int) (α' : Nat → Nat), FQ ρ ρ' m.2.1 h h' → TH sp ρ' h' → TW ρ' K KA C'.2.1 lv' [] h' σ' α' → 0 ≤ le_ev σ' C'.2.2.2 → le_ev σ' C'.2.2.2 < le_ev σ C.2.2.2 → (∀ t ∈ C'.2.2.1, PT t ρ' h') → HJ i C'.1 lv' [] h' Q) → HJ i C.1 lv [] h Q
theorem d_mtHS {B : Int} {fuel i pc0 : Nat} {m : SM} (hd : CT → Bool) (hPT : PTx sp dep PT) (henv : ENV sp CC PT env) (hgk : GKok sp CC PT i gk) (hlen : ∀ (R : Nat) (rs : RS), sp[R]? = some rs → rs.1.2.2 < 1000 ∨ ¬ (30 ≤ rs.1.1 ∧ rs.1.1 < 33)) (hcuts : cuts.all (fun C => (a_st C.2.1).isEmpty) = true) (e0 : d_run sp CC dep gk env alt m.2.1 cuts m.2.2 i fuel pc0 (w_kp m.1.1 (le_c B :: a_kp m.1.1)) m.1.2 = true) (e1 : cuts.all (fun C => hd C || d_run sp CC dep gk env alt m.2.1 cuts m.2.2 i fuel C.1 (w_kp C.2.1 (C.2.2.2 :: a_kp C.2.1)) C.2.2.1) = true) (hh : ∀ C ∈ cuts, hd C = true → d_hand sp CC PT i m cuts C) : V_at sp CC PT i pc0 m := by
  have hc2 : ∀ C ∈ cuts, a_st C.2.1 = [] := fun C hC => List.isEmpty_iff.mp (List.all_eq_true.mp hcuts C hC)
  intro ρ K KA lv h hC hS hT
  have key : ∀ (n : Nat) (pc : Nat) (lv1 : List (Nat × Value)) (st1 : List Value) (h1 : MH) (ρ1 : Nat → Nat) (mv : Int), mv < n → CCok CC ρ1 → OUT sp PT m.2.1 cuts m.2.2 i K KA mv pc lv1 st1 h1 ρ1 → ∃ (v : Option Value) (h' : MH) (ρ' : Nat → Nat), Rq i pc lv1 st1 h1 (v, h') ∧ FQ ρ1 ρ' m.2.1 h1 h' ∧ ∃ P ∈ m.2.2, TS sp ρ' K KA P.1 [] v.toList h' ∧ ∀ t ∈ P.2, PT t ρ' h' := by
    intro n
    induction n with
    | zero =>
      intro pc lv1 st1 h1 ρ1 mv hmv hC1 ho
      rcases ho with ho | ⟨C, mC, lv2, h2, ρ2, g1, g2, g3, ⟨σ, α, g4, g5, g6⟩, g7⟩
      · exact ho
      · omega
    | succ n ih =>
      intro pc lv1 st1 h1 ρ1 mv hmv hC1 ho
      rcases ho with ho | ⟨C, mC, lv2, h2, ρ2, g1, g2, g3, ⟨σ, α, g4, g5, g6⟩, g7⟩
      · exact ho
      · have e2 := List.all_eq_true.mp e1 C mC
        by_cases hb : hd C = true
        · obtain ⟨v, h3, k1, ρ3, k2, k3⟩ := hh C mC hb ρ2 K KA lv2 h2 σ α (fun v h3 => ∃ ρ3, FQ ρ2 ρ3 m.2.1 h2 h3 ∧ ∃ P ∈ m.2.2, TS sp ρ3 K KA P.1 [] v.toList h3 ∧ ∀ t ∈ P.2, PT t ρ3 h3) (hC1.x g2) g3 g4 g7 (fun C' mC' lv3 h3 ρ3 σ3 α3 f3 t3 w3 p3 q3 T3 => by
            obtain ⟨v, h4, ρ4, r1, r2, r3⟩ := ih C'.1 lv3 [] h3 ρ3 (le_ev σ C.2.2.2) (by omega) ((hC1.x g2).x f3) (Or.inr ⟨C', mC', lv3, h3, ρ3, fun r g => g, FQ.refl _ _ _, t3, ⟨σ3, α3, w3, p3, q3⟩, T3⟩)
            exact ⟨v, h4, r1, ρ4, f3.trans r2, r3⟩)
          exact ⟨v, h3, ρ3, g1 _ k1, g2.trans k2, k3⟩
        · rw [Bool.or_eq_true] at e2
          rcases e2 with e2 | e2
          · exact absurd e2 hb
          · have ho2 := d_runS (K := K) (KA := KA) (mv := le_ev σ C.2.2.2) hPT henv hgk hlen hc2 fuel C.1 _ _ lv2 [] h2 ρ2 (hC1.x g2) ⟨g3, σ, α, w_kpS g4⟩ g7 e2
            obtain ⟨v, h3, ρ3, k1, k2, k3⟩ := ih C.1 lv2 [] h2 ρ2 (le_ev σ C.2.2.2) (by omega) (hC1.x g2) ho2
            exact ⟨v, h3, ρ3, g1 _ k1, g2.trans k2, k3⟩
  obtain ⟨ht, σ, α, hw⟩ := hS
  have ho := d_runS (K := K) (KA := KA) (mv := B) hPT henv hgk hlen hc2 fuel pc0 _ _ lv [] h ρ hC ⟨ht, σ, α, by
    have := w_kpS (e := le_c B) hw
    rw [le_cE] at this
    exact this⟩ hT e0
  obtain ⟨v, h', ρ', ⟨n, k1⟩, k2, k3⟩ := key (B.toNat + 1) pc0 lv [] h ρ B (by omega) hC ho
  exact ⟨n, v, h', ρ', k1, k2, k3⟩
-- a summary, from any place: as a run by hand
theorem HJ.ofVa {i pc : Nat} {sm : SM} {K : List Int} {KA : List Nat} {ρ : Nat → Nat} {lv : List (Nat × Value)} {h : MH} {Q : Option Value → MH → Prop} (v : V_at sp CC PT i pc sm) (hC : CCok CC ρ) (hS : TS sp ρ K KA sm.1.1 lv [] h) (hT : ∀ t ∈ sm.1.2, PT t ρ h) (g : ∀ (x : Option Value) (h' : MH) (ρ' : Nat → Nat), FQ ρ ρ' sm.2.1 h h' → (∃ P ∈ sm.2.2, TS sp ρ' K KA P.1 [] x.toList h' ∧ ∀ t ∈ P.2, PT t ρ' h') → Q x h') : HJ i pc lv [] h Q := by
  obtain ⟨n, x, h', ρ', g1, g2, g3⟩ := v ρ K KA lv h hC hS hT
  exact ⟨x, h', ⟨n, g1⟩, g x h' ρ' g2 g3⟩
end
