-- putfield of an int, an int into a row
def t_inr (S : AST) (e : LE) (p : Int × Int) : Bool := le_ent (a_iv S) (a_cs S) (le_sub (le_c p.1) e) && le_ent (a_iv S) (a_cs S) (le_sub e (le_c p.2))
def t_Wb (W : List (Nat × Nat)) (R k : Nat) : Bool := W.any (fun q => q.1 == R && (q.2 == k || q.2 == 1001))
-- what is known of a region's elements, less what a store at j may change
def c_oE (R : Nat) (ca : CA) : CA := ca.filter (fun q => !(q.1.2.1 == R) || q.1.2.2 == 1000)
def c_oJ (S : AST) (R : Nat) (j : LE) (ca : CA) : CA := ca.filter (fun q => !(q.1.2.1 == R) || (q.1.2.2 == 1000 || (Nat.blt q.1.2.2 5000 && (le_ent (a_iv S) (a_cs S) (le_sub (le_c ((q.1.2.2 : Int) + 1)) j) || le_ent (a_iv S) (a_cs S) (le_sub (le_add j (le_c 1)) (le_c (q.1.2.2 : Int)))))))
def c_ip (S : AST) (o R : Nat) (j x : LE) : CA := if j.1 = [] ∧ j.2 < 1000 then ((o, (R, j.2.toNat)), .inl x) :: c_oJ S R j (a_ca S) else c_oJ S R j (a_ca S)
def j_iast (sp : List RS) (W : List (Nat × Nat)) (pc : Nat) (S : AST) : Option (List AO) := match a_st S with
  | .inl x :: .inl j :: .inr (.inr (o, (R, true))) :: r => if R = 0 then none else (match sp[R]? with
    | some rs => if rs.1.1 = 20 ∧ rs.2.1 = true ∧ rs.2.2.1 = true ∧ t_ix sp S o R j rs.1.2.1 = true ∧ W.contains (R, 1001) = true then (match r_ft rs 0 with
      | some (.inl p) => if t_inr S x p = true then some [(pc + 1, w_fs (w_ca S (c_ip S o R j x)) (a_lv S) r)] else none
      | _ => none) else none
    | none => none)
  | _ => none
section
variable {sp : List RS} {ρ : Nat → Nat} {W : List (Nat × Nat)} {K : List Int} {KA : List Nat} {S : AST} {lv' : List (Nat × Value)} {st' : List Value} {h : MH} {pc : Nat} {st : List AT} {σ : Nat → Int} {α : Nat → Nat}
theorem t_inrS {e : LE} {p : Int × Int} (hw : TW ρ K KA S lv' st' h σ α) (k : t_inr S e p = true) : p.1 ≤ le_ev σ e ∧ le_ev σ e ≤ p.2 := by
  unfold t_inr at k
  rw [Bool.and_eq_true] at k
  have h1 := le_entS hw.1 hw.2.1 k.1
  have h2 := le_entS hw.1 hw.2.1 k.2
  rw [le_subE, le_cE] at h1 h2
  omega
theorem s_siC2 {a k R : Nat} {x : Int32} {ca : CA} (hR : ρ a = R) (hc : t_ca σ α ρ h ca) (hn : ∀ q ∈ ca, q.1.2.1 = R → q.1.2.2 = 1000 ∨ t_kx σ q.1.2.2 ≠ k) : t_ca σ α ρ (h_si h a k x) ca := by
  intro q hq
  obtain ⟨g1, g2⟩ := hc q hq
  refine ⟨g1, ?_⟩
  have hn2 := hn q hq
  obtain ⟨⟨o, R2, k2⟩, t⟩ := q
  dsimp only at g1 g2 hn2 ⊢
  cases t with
  | inl e =>
    show if k2 = 1000 then ((h_k h (α o)).2 : Int) = le_ev σ e else (h_i (h_si h a k x) (α o) (t_kx σ k2)).toInt = le_ev σ e
    by_cases hk : k2 = 1000
    · rw [if_pos hk]
      have g3 : if k2 = 1000 then ((h_k h (α o)).2 : Int) = le_ev σ e else (h_i h (α o) (t_kx σ k2)).toInt = le_ev σ e := g2
      rw [if_pos hk] at g3
      exact g3
    · have hne : ¬ (α o = a ∧ t_kx σ k2 = k) := fun z => by
        rw [z.1, hR] at g1
        rcases hn2 g1.2.symm with z2 | z2
        · exact hk z2
        · exact z2 z.2
      rw [s_siI, if_neg hne]
      exact g2
  | inr t => cases t with
    | inl u => trivial
    | inr q => exact g2
theorem t_caF {p : ((Nat × (Nat × Nat)) × AT) → Bool} {ca : CA} (hc : t_ca σ α ρ h ca) : t_ca σ α ρ h (ca.filter p) := fun q hq => hc q (List.mem_filter.mp hq).1
theorem s_siE {a k R : Nat} {x : Int32} {ca : CA} (hR : ρ a = R) (hc : t_ca σ α ρ h ca) : t_ca σ α ρ (h_si h a k x) (c_oE R ca) := s_siC2 hR (t_caF hc) (fun q hq e => by
  obtain ⟨-, m⟩ := List.mem_filter.mp hq
  rw [e] at m
  simp at m
  exact Or.inl m)
theorem s_siP {o R : Nat} {j e : LE} {x' j' : Int32} (hw : TW ρ K KA S lv' st' h σ α) (ha : α o ≠ 0) (hR : ρ (α o) = R) (hj : j'.toInt = le_ev σ j) (hx : x'.toInt = le_ev σ e) (h0 : 0 ≤ j'.toInt) : t_ca σ α ρ (h_si h (α o) j'.toNatClampNeg x') (c_ip S o R j e) := by
  have ej : j'.toNatClampNeg = j'.toInt.toNat := rfl
  have key : t_ca σ α ρ (h_si h (α o) j'.toNatClampNeg x') (c_oJ S R j (a_ca S)) := s_siC2 hR (t_caF hw.2.2.1) (fun q hq eR => by
    obtain ⟨-, m⟩ := List.mem_filter.mp hq
    rw [eR, beq_self_eq_true, Bool.not_true, Bool.false_or, Bool.or_eq_true, Bool.and_eq_true, Bool.or_eq_true] at m
    rcases m with m | ⟨m5, m | m⟩
    · exact Or.inl (beq_iff_eq.mp m)
    · have := le_entS hw.1 hw.2.1 m
      rw [le_subE, le_cE] at this
      exact Or.inr (by rw [ej, t_kxl (Nat.le_of_ble_eq_true m5)]; omega)
    · have := le_entS hw.1 hw.2.1 m
      rw [le_subE, le_addE, le_cE, le_cE] at this
      exact Or.inr (by rw [ej, t_kxl (Nat.le_of_ble_eq_true m5)]; omega))
  unfold c_ip
  split
  · next hc =>
    intro q hq
    rcases List.mem_cons.mp hq with e9 | hq
    · rw [e9]
      refine ⟨⟨ha, hR⟩, ?_⟩
      have e2 : j.2.toNat = j'.toNatClampNeg := by
        rw [ej, hj, le_const hc.1]
      show if j.2.toNat = 1000 then _ else (h_i (h_si h (α o) j'.toNatClampNeg x') (α o) (t_kx σ j.2.toNat)).toInt = le_ev σ e
      rw [if_neg (by omega), t_kxl (by omega), s_siI, if_pos ⟨rfl, e2⟩]
      exact hx
    · exact key q hq
  · exact key
theorem q_iast (ht : TH sp ρ h) (hw : TW ρ K KA S lv' st' h σ α) : T_P sp ρ W K KA (j_iast sp W pc S) h (e_iast pc lv' st' h) := by
  have hs := hw.2.2.2.2.2.2
  unfold j_iast
  split
  · next x j o R r hst =>
    rw [hst] at hs
    obtain ⟨v, q, rfl, ⟨x', rfl, hx⟩, hq1⟩ := t_sc hs
    obtain ⟨v, q, rfl, ⟨j', rfl, hj⟩, hq2⟩ := t_sc hq1
    obtain ⟨v, q, rfl, ⟨rfl, hrf⟩, hq⟩ := t_sc hq2
    obtain ⟨ha0, haR⟩ := t_nn hrf
    dsimp only at ha0 haR
    split
    · exact q_no
    · next hR =>
      split
      · next rs hsp =>
        have hcell := t_spec ht hR hsp haR
        split
        · next hk =>
          obtain ⟨k1, k2, k3, k4, k5⟩ := hk
          unfold e_iast
          dsimp only
          have hin := t_ixS (n := 0) hw hj hcell.2.1.1 k4
          rw [if_pos (show 16 ≤ α o ∧ (h_k h (α o)).1 = 20 ∧ m_in j' (h_k h (α o)).2 = true from ⟨hcell.2.2.1 k2, by rw [hcell.1]; exact k1, hin⟩)]
          split
          · next p hp =>
            split
            · next hr =>
              obtain ⟨r1, r2⟩ := t_inrS hw hr
              have e0 : r_ft rs j'.toNatClampNeg = some (.inl p) := by
                unfold r_ft at hp ⊢
                rw [k3] at hp ⊢
                exact hp
              have ht2 := s_siT (x := x') ht hR hsp haR e0 (by omega) (by omega)
              intro L e9
              cases (Option.some.inj e9)
              have h0 : 0 ≤ j'.toInt := by
                unfold m_in at hin
                rw [Bool.and_eq_true] at hin
                have h8 := of_decide_eq_true hin.1
                rw [Int32.lt_iff_toInt_lt] at h8
                have : (0 : Int32).toInt = 0 := by decide
                omega
              have hp9 := s_siP hw ha0 haR hj hx h0
              obtain ⟨w1, w2, w3, w4, w5, w6, w7⟩ := hw
              exact ⟨_, lv', q, _, rfl, s_siF haR (Or.inr (List.contains_iff_mem.mp k5)), _, List.mem_singleton.mpr rfl, ht2, σ, α, w1, w2, hp9, w4, w5, w6, hq⟩
            · exact q_no
          · exact q_no
        · exact q_no
      · exact q_no
  · exact q_no
end
