-- ONE IMAGE ALONE: the others out of the way, and back
def rs_r (ρ : Nat → Nat) (a : Nat) : Nat → Nat := fun c => if ρ c = 97 ∧ c ≠ a then 0 else if ρ c = 6 ∨ ρ c = 8 then 0 else ρ c
def rs_ft (t : FT) : Bool := match t with
  | .inr (.inr q) => !(Nat.beq q.1 6 || (Nat.beq q.1 8 || Nat.beq q.1 97))
  | _ => true
theorem rs_all : (List.range c_sp.length).all (fun R => (Nat.beq R 6 || Nat.beq R 8) || (match c_sp[R]? with
  | some rs => rs.2.2.2.all rs_ft
  | none => true)) = true := by decide +kernel
section
variable {ρ : Nat → Nat} {h h' : MH} {a : Nat} {W : List (Nat × Nat)}
theorem rs_le {c : Nat} (e : rs_r ρ a c ≠ 0) : rs_r ρ a c = ρ c ∧ ρ c ≠ 6 ∧ ρ c ≠ 8 := by
  unfold rs_r at e ⊢
  by_cases h1 : ρ c = 97 ∧ c ≠ a
  · rw [if_pos h1] at e
    exact absurd rfl e
  · rw [if_neg h1] at e ⊢
    by_cases h2 : ρ c = 6 ∨ ρ c = 8
    · rw [if_pos h2] at e
      exact absurd rfl e
    · rw [if_neg h2]
      exact ⟨rfl, fun z => h2 (Or.inl z), fun z => h2 (Or.inr z)⟩
theorem rs_o1 {c : Nat} (h1 : ρ c ≠ 97 ∨ c = a) (h2 : ρ c ≠ 6) (h3 : ρ c ≠ 8) : rs_r ρ a c = ρ c := by
  unfold rs_r
  rw [if_neg (fun z => h1.elim (fun q => q z.1) (fun q => z.2 q)), if_neg (fun z => z.elim h2 h3)]
theorem rs_TH (ht : TH c_sp ρ h) : TH c_sp (rs_r ρ a) h := by
  refine ⟨?_, fun c hc => ?_⟩
  · by_cases e : rs_r ρ a 0 = 0
    · exact e
    · rw [(rs_le e).1]
      exact ht.1
  · obtain ⟨e, n1, n2⟩ := rs_le hc
    rw [e]
    have hc0 : ρ c ≠ 0 := by rw [← e]; exact hc
    obtain ⟨l, rs, hs, t1, t2, t3, t4⟩ := ht.2 c hc0
    refine ⟨l, rs, hs, t1, t2, t3, fun k ft hk hl => ?_⟩
    have t := t4 k ft hk hl
    cases ft with
    | inl p => exact t
    | inr q => cases q with
      | inl u => trivial
      | inr q =>
        have hb := List.all_eq_true.mp rs_all (ρ c) (List.mem_range.mpr (List.getElem?_eq_some_iff.mp hs).1)
        rw [Bool.or_eq_true, hs] at hb
        have hf : rs_ft (.inr (.inr q)) = true := by
          rcases hb with hb | hb
          · rw [Bool.or_eq_true] at hb
            rcases hb with hb | hb
            · exact absurd (Nat.eq_of_beq_eq_true hb) n1
            · exact absurd (Nat.eq_of_beq_eq_true hb) n2
          · refine List.all_eq_true.mp hb _ ?_
            unfold r_ft at hk
            split at hk
            · exact List.mem_of_getElem? hk
            · exact List.mem_of_getElem? hk
        have hf : (!(Nat.beq q.1 6 || (Nat.beq q.1 8 || Nat.beq q.1 97))) = true := hf
        have g : ∀ R, q.1 = R → Nat.beq q.1 R = true := fun R e => by rw [e]; exact Nat.beq_refl R
        have m1 : q.1 ≠ 6 := fun z => by rw [g _ z] at hf; cases hf
        have m2 : q.1 ≠ 8 := fun z => by rw [g _ z, Bool.true_or, Bool.or_true] at hf; cases hf
        have m3 : q.1 ≠ 97 := fun z => by rw [g _ z, Bool.or_true, Bool.or_true] at hf; cases hf
        rcases (t : t_rf ρ q.1 q.2 (h_r h c k)) with f | ⟨f1, f2, f3⟩
        · exact Or.inl f
        · refine Or.inr ⟨f1, f2, ?_⟩
          rw [rs_o1 (Or.inl (by rw [f3]; exact m3)) (by rw [f3]; exact m1) (by rw [f3]; exact m2)]
          exact f3
theorem rs_CC (hC : CCok c_CC ρ) : CCok c_CC (rs_r ρ a) := by
  have g : ∀ {R c : Nat}, R ≠ 97 → R ≠ 6 → R ≠ 8 → t_rf ρ R true c → t_rf (rs_r ρ a) R true c := fun {R c} n1 n2 n3 q => by
    rcases q with q | ⟨q1, q2, q3⟩
    · exact absurd q.2 (by decide)
    · exact Or.inr ⟨q1, q2, by rw [rs_o1 (Or.inl (by rw [q3]; exact n1)) (by rw [q3]; exact n2) (by rw [q3]; exact n3)]; exact q3⟩
  exact ⟨g (by decide) (by decide) (by decide) hC.1, fun c h1 h2 => g (by decide) (by decide) (by decide) (hC.2.1 c h1 h2), g (by decide) (by decide) (by decide) hC.2.2⟩
-- and back
theorem rs_back (ht : TH c_sp ρ h) (h0 : W.all (fun q => !(Nat.beq q.1 0)) = true) (f : FS (rs_r ρ a) W h h') (t : TH c_sp (rs_r ρ a) h') : FS ρ W h h' ∧ TH c_sp ρ h' ∧ ∀ c, c < 16 + h_n h → rs_r ρ a c = 0 → ∀ k, h_i h' c k = h_i h c k ∧ h_l h' c k = h_l h c k ∧ h_r h' c k = h_r h c k := by
  have out : ∀ c, c < 16 + h_n h → rs_r ρ a c = 0 → ∀ k, h_i h' c k = h_i h c k ∧ h_l h' c k = h_l h c k ∧ h_r h' c k = h_r h c k := fun c hc e k => (f.2 c hc).2 k (by
    rw [e]
    intro z
    rcases z with z | z
    all_goals
      have z1 := List.all_eq_true.mp h0 _ z
      cases z1)
  refine ⟨⟨f.1, fun c hc => ⟨(f.2 c hc).1, fun k hk => ?_⟩⟩, ⟨ht.1, fun c hc => ?_⟩, out⟩
  · by_cases e : rs_r ρ a c = 0
    · exact out c hc e k
    · exact (f.2 c hc).2 k (by rw [(rs_le e).1]; exact hk)
  · have hn : h_n h' = h_n h := congrArg Prod.fst f.1
    by_cases e : rs_r ρ a c = 0
    · obtain ⟨l, rs, hs, t1, t2, t3, t4⟩ := ht.2 c hc
      refine ⟨by rw [hn]; exact l, rs, hs, by rw [(f.2 c l).1]; exact t1, by rw [(f.2 c l).1]; exact t2, t3, fun k ft hk hl => ?_⟩
      rw [(f.2 c l).1] at hl
      have q := t4 k ft hk hl
      have o := out c l e k
      cases ft with
      | inl p =>
        show p.1 ≤ (h_i h' c k).toInt ∧ (h_i h' c k).toInt ≤ p.2
        rw [o.1]
        exact q
      | inr y => cases y with
        | inl u => trivial
        | inr y =>
          show t_rf ρ y.1 y.2 (h_r h' c k)
          rw [o.2.2]
          exact q
    · obtain ⟨l, rs, hs, t1, t2, t3, t4⟩ := t.2 c e
      rw [(rs_le e).1] at hs
      refine ⟨l, rs, hs, t1, t2, t3, fun k ft hk hl => ?_⟩
      have q := t4 k ft hk hl
      cases ft with
      | inl p => exact q
      | inr y => cases y with
        | inl u => trivial
        | inr y =>
          rcases (q : t_rf (rs_r ρ a) y.1 y.2 (h_r h' c k)) with g | ⟨g1, g2, g3⟩
          · exact Or.inl g
          · have e9 : rs_r ρ a (h_r h' c k) ≠ 0 := by
              rw [g3]
              exact g2
            exact Or.inr ⟨g1, g2, (rs_le e9).1.symm.trans g3⟩
end
