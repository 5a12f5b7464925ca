-- an int into a field or a row
def c_out (R k : Nat) (ca : CA) : CA := ca.filter (fun q => !(q.1.2.1 == R && (q.1.2.2 == k || Nat.ble 5000 q.1.2.2)))
section
variable {sp : List RS} {ρ : Nat → Nat} {W : List (Nat × Nat)} {K : List Int} {KA : List Nat} {S : AST} {lv' : List (Nat × Value)} {st' : List Value} {h : MH} {pc : Nat} {st : List AT} {σ : Nat → Int} {α : Nat → Nat}
theorem s_siI (h : MH) (a k : Nat) (x : Int32) (b j : Nat) : h_i (h_si h a k x) b j = if b = a ∧ j = k then x else h_i h b j := by
  show m_u (h_i h) a (m_u (h_i h a) k x) b j = _
  by_cases e : b = a
  · rw [e, m_uE]
    by_cases e2 : j = k
    · rw [if_pos ⟨rfl, e2⟩, e2, m_uE]
    · rw [if_neg (fun z => e2 z.2), m_uN _ _ _ _ e2]
  · rw [m_uN _ _ _ _ e, if_neg (fun z => e z.1)]
theorem s_siT {a k R : Nat} {rs : RS} {x : Int32} {p : Int × Int} (ht : TH sp ρ h) (hR : R ≠ 0) (hsp : sp[R]? = some rs) (ha : ρ a = R) (hft : r_ft rs k = some (.inl p)) (h1 : p.1 ≤ x.toInt) (h2 : x.toInt ≤ p.2) : TH sp ρ (h_si h a k x) := by
  refine ⟨ht.1, fun b hb => ?_⟩
  obtain ⟨q1, rs2, q2, q3, q4, q5, q6⟩ := ht.2 b hb
  refine ⟨q1, rs2, q2, q3, q4, q5, fun j ft hj hjl => ?_⟩
  have q7 := q6 j ft hj hjl
  cases ft with
  | inl p2 =>
    show p2.1 ≤ (h_i (h_si h a k x) b j).toInt ∧ (h_i (h_si h a k x) b j).toInt ≤ p2.2
    rw [s_siI]
    by_cases e : b = a ∧ j = k
    · rw [if_pos e]
      rw [e.1, ha, hsp] at q2
      cases q2
      rw [e.2, hft] at hj
      cases hj
      exact ⟨h1, h2⟩
    · rw [if_neg e]
      exact q7
  | inr ft => cases ft with
    | inl u => trivial
    | inr q => exact q7
theorem s_siF {a k R : Nat} {x : Int32} (ha : ρ a = R) (hW : t_W W R k) : FR ρ W h (h_si h a k x) := by
  refine ⟨rfl, fun _ => rfl, fun b j hj => ⟨?_, rfl, rfl⟩⟩
  rw [s_siI]
  by_cases e : b = a ∧ j = k
  · rw [e.1, e.2, ha] at hj
    exact absurd hW hj
  · rw [if_neg e]
theorem s_siC {a k R : Nat} {x : Int32} {ca : CA} (hk : k ≠ 1000) (ha : ρ a = R) (hc : t_ca σ α ρ h ca) : t_ca σ α ρ (h_si h a k x) (c_out R k ca) := by
  intro q hq
  obtain ⟨m1, m2⟩ := List.mem_filter.mp hq
  obtain ⟨g1, g2⟩ := hc q m1
  refine ⟨g1, ?_⟩
  obtain ⟨⟨o, R2, k2⟩, t⟩ := q
  dsimp only at g1 g2 m2 ⊢
  have hne : ¬ (α o = a ∧ t_kx σ k2 = k) := fun e => by
    rw [e.1, ha] at g1
    rw [← g1.2] at m2
    by_cases h5 : k2 < 5000
    · rw [t_kxl h5] at e
      rw [e.2] at m2
      simp at m2
    · have : Nat.ble 5000 k2 = true := Nat.ble_eq_true_of_le (by omega)
      rw [this] at m2
      simp at m2
  cases t with
  | inl e =>
    show if k2 = 1000 then ((h_k h (α o)).2 : Int) = le_ev σ e else (h_i (h_si h a k x) (α o) (t_kx σ k2)).toInt = le_ev σ e
    rw [s_siI, if_neg hne]
    exact g2
  | inr t => cases t with
    | inl u => trivial
    | inr q => exact g2
end
