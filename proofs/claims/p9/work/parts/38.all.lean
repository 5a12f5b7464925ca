-- the lesser and the greater of two; every plain step in one
-- the lesser or the greater of two: two ways
def j_mm (mn : Bool) (i pc : Nat) (S : AST) : Option (List AO) := match a_st S with
  | .inl y :: .inl x :: r => if 1 ≤ m_fr i ∧ (r.map a_cat).sum + 13 ≤ m_lo i then some (((t_cnd .le x y (w_fs S (a_lv S) r)).map (fun S1 => (pc + 3, w_fs S1 (a_lv S1) (.inl (if mn then x else y) :: r)))).toList ++ ((t_cnd .le y x (w_fs S (a_lv S) r)).map (fun S1 => (pc + 3, w_fs S1 (a_lv S1) (.inl (if mn then y else x) :: r)))).toList) else none
  | _ => none
def j_ml (i pc : Nat) (S : AST) : Option (List AO) := match a_st S with
  | .inr (.inl _) :: .inr (.inl _) :: r => if 1 ≤ m_fr i ∧ (r.map a_cat).sum + 15 ≤ m_lo i then t_pl (pc + 3) S r else none
  | _ => none
def j_nat (sp : List RS) (W : List (Nat × Nat)) (kd i idx pc : Nat) (S : AST) : Option (List AO) := match m_ml i idx with
  | some (nest, j) => if j = 900 then none else if j = 901 then (if kd = 0 then j_cp sp W i pc S else none) else if j = m_jmin ∨ j = m_jmax then (if kd = 0 ∧ nest = 0 then j_mm (j == m_jmin) i pc S else none) else if j = m_jminl ∨ j = m_jmaxl then (if kd = 0 ∧ nest = 0 then j_ml i pc S else none) else none
  | none => none
def j_inl (sp : List RS) (nul non : Int) (S : AST) : Option (List AO) := match a_st S with
  | .inr (.inr (o, (R, nn))) :: r => t_nul sp nul non S o R nn r
  | _ => none
def d_shr : LE → LE → Int × Int := fun _ y => if y.1 = [] ∧ 16 ≤ y.2 ∧ y.2 ≤ 31 then (0, 65535) else (-2147483648, 2147483647)
section
variable {sp : List RS} {ρ : Nat → Nat} {W : List (Nat × Nat)} {K : List Int} {KA : List Nat} {S : AST} {lv' : List (Nat × Value)} {st' : List Value} {h : MH} {pc : Nat} {st : List AT} {σ : Nat → Int} {α : Nat → Nat}
theorem q_mm {mn : Bool} (i : Nat) {R' : Option MA} (hR : ∀ x0 y0 q0, st' = .int y0 :: .int x0 :: q0 → 1 ≤ m_fr i → m_cat q0 + 13 ≤ m_lo i → R' = m_go (pc + 3) lv' (.int (if mn = true then (if y0 < x0 then y0 else x0) else (if x0 < y0 then y0 else x0)) :: q0) h) (ht : TH sp ρ h) (hw : TW ρ K KA S lv' st' h σ α) : T_P sp ρ W K KA (j_mm mn i pc S) h R' := by
  have hs := hw.2.2.2.2.2.2
  unfold j_mm
  split
  · next y x r hst =>
    rw [hst] at hs
    obtain ⟨v, q, rfl, ⟨y', rfl, hy⟩, hq1⟩ := t_sc hs
    obtain ⟨v, q2, rfl, ⟨x', rfl, hx⟩, hq⟩ := t_sc hq1
    split
    · next hc =>
      rw [hR x' y' q2 rfl hc.1 (by rw [t_ct hq]; exact hc.2)]
      have hw2 := q_fs (st := r) (st' := q2) hw hw.2.2.2.2.2.1 hq
      intro L e
      cases (Option.some.inj e)
      by_cases hxy : x' ≤ y'
      · have h1 : (if mn = true then (if y' < x' then y' else x') else (if x' < y' then y' else x')) = (if mn = true then x' else y') := by
          have h2 := Int32.le_iff_toInt_le.mp hxy
          cases mn with
          | true =>
            rw [if_pos rfl, if_pos rfl, if_neg (fun z => by have := Int32.lt_iff_toInt_lt.mp z; omega)]
          | false =>
            have hf : ¬ (false = true) := by decide
            rw [if_neg hf, if_neg hf]
            by_cases h3 : x' < y'
            · rw [if_pos h3]
            · rw [if_neg h3]
              exact Int32.toInt_inj.mp (by rw [Int32.lt_iff_toInt_lt] at h3; omega)
        rw [h1]
        obtain ⟨S', e1, w1⟩ := r_cnd (c := .le) hx hy hw2 (decide_eq_true hxy)
        refine ⟨_, lv', _, h, rfl, FR.refl _ _ _, _, List.mem_append_left _ (by rw [e1]; exact List.mem_singleton.mpr rfl), ht, σ, α, ?_⟩
        refine q_fs w1 w1.2.2.2.2.2.1 ⟨?_, hq⟩
        cases mn with
        | true => exact ⟨x', rfl, hx⟩
        | false => exact ⟨y', rfl, hy⟩
      · have hyx : y' < x' := by
          rw [Int32.le_iff_toInt_le] at hxy
          exact Int32.lt_iff_toInt_lt.mpr (by omega)
        have h2 := Int32.lt_iff_toInt_lt.mp hyx
        have h1 : (if mn = true then (if y' < x' then y' else x') else (if x' < y' then y' else x')) = (if mn = true then y' else x') := by
          cases mn with
          | true => rw [if_pos rfl, if_pos rfl, if_pos hyx]
          | false =>
            have hf : ¬ (false = true) := by decide
            have h3 : ¬ x' < y' := fun z => by have := Int32.lt_iff_toInt_lt.mp z; omega
            rw [if_neg hf, if_neg hf, if_neg h3]
        rw [h1]
        obtain ⟨S', e1, w1⟩ := r_cnd (c := .le) hy hx hw2 (decide_eq_true (Int32.le_iff_toInt_le.mpr (by omega)))
        refine ⟨_, lv', _, h, rfl, FR.refl _ _ _, _, List.mem_append_right _ (by rw [e1]; exact List.mem_singleton.mpr rfl), ht, σ, α, ?_⟩
        refine q_fs w1 w1.2.2.2.2.2.1 ⟨?_, hq⟩
        cases mn with
        | true => exact ⟨y', rfl, hy⟩
        | false => exact ⟨x', rfl, hx⟩
    · exact q_no
  · exact q_no
theorem q_ml (i : Nat) {R' : Option MA} (hR : ∀ x0 y0 q0, st' = .long y0 :: .long x0 :: q0 → 1 ≤ m_fr i → m_cat q0 + 15 ≤ m_lo i → ∃ z, R' = m_go (pc + 3) lv' (.long z :: q0) h) (ht : TH sp ρ h) (hw : TW ρ K KA S lv' st' h σ α) : T_P sp ρ W K KA (j_ml i pc S) h R' := by
  have hs := hw.2.2.2.2.2.2
  unfold j_ml
  split
  · next u1 u2 r hst =>
    rw [hst] at hs
    obtain ⟨v, q, rfl, ⟨y', rfl⟩, hq1⟩ := t_sc hs
    obtain ⟨v, q2, rfl, ⟨x', rfl⟩, hq⟩ := t_sc hq1
    split
    · next hc =>
      obtain ⟨z, hz⟩ := hR x' y' q2 rfl hc.1 (by rw [t_ct hq]; exact hc.2)
      rw [hz]
      exact q_pl ht hw hq
    · exact q_no
  · exact q_no
theorem q_nat (kd i idx : Nat) (ht : TH sp ρ h) (hw : TW ρ K KA S lv' st' h σ α) : T_P sp ρ W K KA (j_nat sp W kd i idx pc S) h (e_call kd i idx pc lv' st' h) := by
  unfold j_nat e_call
  generalize m_ml i idx = o
  match o with
  | none => exact q_no
  | some (nest, j) =>
    dsimp only
    by_cases c0 : j = 900
    · rw [if_pos c0]
      exact q_no
    rw [if_neg c0, if_neg c0]
    by_cases c1 : j = 901
    · rw [if_pos c1, if_pos c1]
      by_cases c2 : kd = 0
      · rw [if_pos c2, if_pos c2]
        exact q_cp i ht hw
      · rw [if_neg c2]
        exact q_no
    rw [if_neg c1, if_neg c1]
    by_cases c3 : j = m_jmin ∨ j = m_jmax
    · rw [if_pos c3, if_pos c3]
      by_cases c2 : kd = 0 ∧ nest = 0
      · rw [if_pos c2]
        refine q_mm i (fun x0 y0 q0 e e1 e2 => ?_) ht hw
        rw [e]
        dsimp only
        rw [if_pos ⟨c2.1, c2.2, e1, e2⟩]
        by_cases c4 : j = m_jmin
        · have hb : (j == m_jmin) = true := by rw [c4]; exact beq_self_eq_true _
          rw [if_pos c4, if_pos hb]
        · have hb : ¬ (j == m_jmin) = true := fun z => c4 (beq_iff_eq.mp z)
          rw [if_neg c4, if_neg hb]
      · rw [if_neg c2]
        exact q_no
    rw [if_neg c3, if_neg c3]
    by_cases c5 : j = m_jminl ∨ j = m_jmaxl
    · rw [if_pos c5, if_pos c5]
      by_cases c2 : kd = 0 ∧ nest = 0
      · rw [if_pos c2]
        refine q_ml i (fun x0 y0 q0 e e1 e2 => ?_) ht hw
        rw [e]
        dsimp only
        rw [if_pos ⟨c2.1, c2.2, e1, e2⟩]
        exact ⟨_, rfl⟩
      · rw [if_neg c2]
        exact q_no
    rw [if_neg c5]
    exact q_no
theorem d_shrS (x y : LE) (x' y' : Int32) (_ : x'.toInt = le_ev σ x) (hy : y'.toInt = le_ev σ y) : (d_shr x y).1 ≤ ((x'.toUInt32 >>> (y'.toUInt32 &&& Int32.toUInt32 31)).toInt32).toInt ∧ ((x'.toUInt32 >>> (y'.toUInt32 &&& Int32.toUInt32 31)).toInt32).toInt ≤ (d_shr x y).2 := by
  unfold d_shr
  split
  · next hc =>
    have e := le_const (σ := σ) hc.1
    have e3 : y' = Int32.ofInt y.2 := by rw [← e, ← hy, Int32.ofInt_toInt]
    obtain ⟨n, hn, hn1, hn2⟩ : ∃ n : Nat, y.2 = (n : Int) ∧ 16 ≤ n ∧ n ≤ 31 := ⟨y.2.toNat, by omega, by omega, by omega⟩
    rw [e3, hn]
    have hx := (x'.toUInt32).toNat_lt
    have key : ∀ n : Nat, n < 32 → ((Int32.ofInt (n : Int)).toUInt32 &&& Int32.toUInt32 31).toNat % 32 = n := by decide
    have hk := key n (by omega)
    generalize ((Int32.ofInt (n : Int)).toUInt32 &&& Int32.toUInt32 31) = w at hk
    have h1 : (x'.toUInt32 >>> w).toNat = x'.toUInt32.toNat >>> n := by
      rw [UInt32.toNat_shiftRight, hk]
    have h2 : x'.toUInt32.toNat >>> n ≤ 65535 := by
      rw [Nat.shiftRight_eq_div_pow]
      have h3 : 2 ^ 16 ≤ 2 ^ n := Nat.pow_le_pow_right (by decide) hn1
      have h4 : x'.toUInt32.toNat / 2 ^ n ≤ x'.toUInt32.toNat / 2 ^ 16 := Nat.div_le_div_left h3 (by decide)
      have h5 : x'.toUInt32.toNat / 2 ^ 16 ≤ 65535 := by omega
      omega
    have h6 : ((x'.toUInt32 >>> w).toInt32).toInt = ((x'.toUInt32 >>> w).toNat : Int) := by
      have h7 : ((x'.toUInt32 >>> w).toInt32).toBitVec = (x'.toUInt32 >>> w).toBitVec := rfl
      show ((x'.toUInt32 >>> w).toInt32).toBitVec.toInt = _
      rw [h7, BitVec.toInt_eq_toNat_of_lt (by show 2 * (x'.toUInt32 >>> w).toNat < 2 ^ 32; omega)]
      rfl
    rw [h6, h1]
    dsimp only
    omega
  · exact g_iT _
end
