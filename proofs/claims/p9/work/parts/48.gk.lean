-- GHOSTS AND KEEPERS, by hand
section
variable {ρ : Nat → Nat} {σ : Nat → Int} {α : Nat → Nat} {h : MH}
theorem fv_i {a k n : Nat} (hk : k < 1000) (f : t_fv σ α ρ h a k (.inl (le_s n))) : (h_i h a k).toInt = σ n := by
  unfold t_fv at f
  dsimp only at f
  rw [if_neg (by omega), t_kxl (by omega), le_sE] at f
  exact f
theorem fv_l {a n : Nat} (f : t_fv σ α ρ h a 1000 (.inl (le_s n))) : ((h_k h a).2 : Int) = σ n := by
  unfold t_fv at f
  dsimp only at f
  rw [if_pos rfl, le_sE] at f
  exact f
theorem fv_r {a k o : Nat} {q : Nat × Bool} (hk : k < 1000) (f : t_fv σ α ρ h a k (.inr (.inr (o, q)))) : h_r h a k = α o := by
  have := f.1
  rw [t_kxl (by omega)] at this
  exact this
end
theorem gv_nd {R : Nat} {ρ : Nat → Nat} {h : MH} {σ : Nat → Int} {α : Nat → Nat} (hR : R = 39 ∨ R = 48) (hk : t_nd ρ h) (w3 : t_ca σ α ρ h [((0, (R, 5)), .inl (le_s 1)), ((0, (R, 0)), .inr (.inr (2, (40, true)))), ((2, (40, 1000)), .inl (le_s 3)), ((0, (R, 1)), .inr (.inr (4, (41, true)))), ((4, (41, 1000)), .inl (le_s 5))]) : 7 * σ 1 - σ 3 ≤ 0 ∧ σ 1 - σ 5 ≤ 0 := by
  obtain ⟨⟨-, r0⟩, f1⟩ := w3 _ (List.mem_of_getElem? (i := 0) rfl)
  obtain ⟨-, f2⟩ := w3 _ (List.mem_of_getElem? (i := 1) rfl)
  obtain ⟨-, f3⟩ := w3 _ (List.mem_of_getElem? (i := 2) rfl)
  obtain ⟨-, f4⟩ := w3 _ (List.mem_of_getElem? (i := 3) rfl)
  obtain ⟨-, f5⟩ := w3 _ (List.mem_of_getElem? (i := 4) rfl)
  dsimp only at f1 f2 f3 f4 f5
  have g1 := fv_i (by decide) f1
  have g2 := fv_r (by decide) f2
  have g3 := fv_l f3
  have g4 := fv_r (by decide) f4
  have g5 := fv_l f5
  dsimp only at r0
  have k := hk (α 0) (by rw [r0]; exact hR)
  rw [g2, g4, g1] at k
  omega
theorem c_gv_ND_NODES : G_ok c_sp c_CC c_PT c_g_ND_NODES := by
  intro ρ K KA lv h hC hS hT
  obtain ⟨ht, σ, α, w1, w2, w3, w4, w5, w6, w7⟩ := hS
  obtain ⟨k1, k2⟩ := gv_nd (Or.inl rfl) (hT 1 (List.mem_singleton.mpr rfl)) w3
  refine ⟨_, List.mem_singleton.mpr rfl, ⟨ht, σ, α, ?_, ?_, ?_, w4, w5, ?_, trivial⟩, ?_⟩
  · intro q hq
    cases hq
  · intro q hq
    rcases List.mem_cons.mp hq with e | hq
    · rw [e]
      show 7 * σ 1 + (-1 * σ 3 + 0) + 0 ≤ 0
      omega
    · rcases List.mem_cons.mp hq with e | hq
      · rw [e]
        show 1 * σ 1 + (-1 * σ 5 + 0) + 0 ≤ 0
        omega
      · cases hq
  · intro q hq
    cases hq
  · intro q hq
    cases hq
  · intro t m
    cases m
theorem c_gv_ND_NODESA : G_ok c_sp c_CC c_PT c_g_ND_NODESA := by
  intro ρ K KA lv h hC hS hT
  obtain ⟨ht, σ, α, w1, w2, w3, w4, w5, w6, w7⟩ := hS
  obtain ⟨k1, k2⟩ := gv_nd (Or.inr rfl) (hT 1 (List.mem_singleton.mpr rfl)) w3
  refine ⟨_, List.mem_singleton.mpr rfl, ⟨ht, σ, α, ?_, ?_, ?_, w4, w5, ?_, trivial⟩, ?_⟩
  · intro q hq
    cases hq
  · intro q hq
    rcases List.mem_cons.mp hq with e | hq
    · rw [e]
      show 7 * σ 1 + (-1 * σ 3 + 0) + 0 ≤ 0
      omega
    · rcases List.mem_cons.mp hq with e | hq
      · rw [e]
        show 1 * σ 1 + (-1 * σ 5 + 0) + 0 ≤ 0
        omega
      · cases hq
  · intro q hq
    cases hq
  · intro q hq
    cases hq
  · intro t m
    cases m
theorem c_kv_ND_NODESA_46_13 : K_ok c_sp c_CC c_PT 46 13 c_k_ND_NODESA := by
  intro ρ K KA lv st h pc' lv' st' h' hC hS hT e
  obtain ⟨ht, σ, α, w1, w2, w3, w4, w5, w6, w7⟩ := hS
  obtain ⟨v1, q1, rfl, ⟨x, rfl, hx⟩, s1⟩ := t_sc w7
  obtain ⟨v2, q2, rfl, ⟨rfl, hr⟩, s2⟩ := t_sc s1
  obtain ⟨-, f4⟩ := w3 _ (List.mem_of_getElem? (i := 0) rfl)
  obtain ⟨-, f5⟩ := w3 _ (List.mem_of_getElem? (i := 1) rfl)
  dsimp only at f4 f5
  have g4 := fv_r (by decide) f4
  have g5 := fv_l f5
  have hc := w2 _ (List.mem_singleton.mpr rfl)
  rw [m_stx (rfl : m_at 46 13 = some (.putfield 32, 3)) (Or.inl rfl)] at e
  have e : e_put 46 32 13 lv (.int x :: .ref (α 0) :: q2) h = some (.inl (pc', lv', st', h')) := e
  unfold e_put at e
  rw [show m_fl 46 32 = some (0, 2, 5) from rfl] at e
  dsimp only at e
  split at e
  · cases e
    intro t mt
    rw [List.mem_singleton.mp mt]
    intro a ha
    have k := hT 1 (List.mem_singleton.mpr rfl) a ha
    refine ⟨k.1, ?_⟩
    show (h_i (h_si h (α 0) 5 x) a 5).toInt ≤ ((h_k h (h_r h a 1)).2 : Int)
    rw [s_siI]
    by_cases ea : a = α 0
    · rw [if_pos ⟨ea, rfl⟩, hx, ea, g4, g5]
      show 1 * σ 3 + 0 + 0 ≤ σ 2
      have hc : -1 * σ 2 + (1 * σ 3 + 0) + 0 ≤ 0 := hc
      omega
    · rw [if_neg (fun z => ea z.1)]
      exact k.2
  · cases e
-- places by words
theorem fv_s {ρ : Nat → Nat} {σ : Nat → Int} {α : Nat → Nat} {h : MH} {a : Nat} (n : Nat) {v : Nat} (f : t_fv σ α ρ h a (5000 + n) (.inl (le_s v))) : (h_i h a (σ n).toNat).toInt = σ v := by
  unfold t_fv t_kx at f
  dsimp only at f
  rw [if_neg (by omega), if_neg (by omega), Nat.add_sub_cancel_left, le_sE] at f
  exact f
theorem ks_ia {i pc : Nat} {lv : List (Nat × Value)} {q : List Value} {x j : Int32} {o : Nat} {h : MH} {pc' : Nat} {lv' : List (Nat × Value)} {st' : List Value} {h' : MH} (a : m_at i pc = some (.iastore, 1)) (e : m_st i pc lv (.int x :: .int j :: .ref o :: q) h = some (.inl (pc', lv', st', h'))) : h' = h_si h o j.toInt.toNat x ∧ 0 ≤ j.toInt ∧ j.toInt < ((h_k h o).2 : Int) := by
  rw [m_stx a (Or.inl rfl)] at e
  have e : e_iast pc lv (.int x :: .int j :: .ref o :: q) h = some (.inl (pc', lv', st', h')) := e
  unfold e_iast at e
  dsimp only at e
  split at e
  · next hc =>
    cases e
    have h9 := hc.2.2
    have h8 := m_inL h9
    unfold m_in at h9
    rw [Bool.and_eq_true] at h9
    have h7 := of_decide_eq_true h9.1
    rw [Int32.lt_iff_toInt_lt] at h7
    have h6 : (0 : Int32).toInt = 0 := by decide
    have h5 : j.toNatClampNeg = j.toInt.toNat := rfl
    exact ⟨rfl, by omega, by omega⟩
  · cases e
theorem c_gv_RW : G_ok c_sp c_CC c_PT c_g_RW := by
  intro ρ K KA lv h hC hS hT
  obtain ⟨ht, σ, α, w1, w2, w3, w4, w5, w6, w7⟩ := hS
  obtain ⟨⟨-, r0⟩, f1⟩ := w3 _ (List.mem_of_getElem? (i := 0) rfl)
  obtain ⟨-, f2⟩ := w3 _ (List.mem_of_getElem? (i := 1) rfl)
  dsimp only at f1 f2 r0
  have g1 := fv_r (by decide) f1
  have g2 := fv_s 3 f2
  have i1 := w1 _ (List.mem_of_getElem? (i := 0) rfl)
  have c1 : -161 * σ 1 + (1 * σ 3 + 0) + 0 ≤ 0 := w2 _ (List.mem_of_getElem? (i := 0) rfl)
  have c2 : 161 * σ 1 + (-1 * σ 3 + 0) + 0 ≤ 0 := w2 _ (List.mem_of_getElem? (i := 1) rfl)
  dsimp only at i1
  have k := (hT 7 (List.mem_singleton.mpr rfl)).2 (α 0) r0 (σ 1).toNat (by omega)
  unfold v_rw at k
  rw [g1, show 161 * (σ 1).toNat = (σ 3).toNat by omega, g2] at k
  refine ⟨_, List.mem_singleton.mpr rfl, ⟨ht, σ, α, ?_, ?_, ?_, w4, w5, ?_, trivial⟩, ?_⟩
  · intro q hq
    cases hq
  · intro q hq
    rcases List.mem_cons.mp hq with e | hq
    · rw [e]
      show -1 * σ 4 + 0 + 0 ≤ 0
      omega
    · rcases List.mem_cons.mp hq with e | hq
      · rw [e]
        show 1 * σ 4 + 0 + -40 ≤ 0
        omega
      · cases hq
  · intro q hq
    cases hq
  · intro q hq
    cases hq
  · intro t m
    cases m
theorem c_gv_TOLD0 : G_ok c_sp c_CC c_PT c_g_TOLD0 := by
  intro ρ K KA lv h hC hS hT
  obtain ⟨ht, σ, α, w1, w2, w3, w4, w5, w6, w7⟩ := hS
  obtain ⟨-, f2⟩ := w3 _ (List.mem_of_getElem? (i := 1) rfl)
  obtain ⟨-, f3⟩ := w3 _ (List.mem_of_getElem? (i := 2) rfl)
  dsimp only at f2 f3
  have g2 := fv_i (by decide) f2
  have g3 := fv_s 1 f3
  have i1 := w1 _ (List.mem_of_getElem? (i := 0) rfl)
  dsimp only at i1
  by_cases h0 : σ 1 = 0
  · rw [h0] at g3
    have g3 : (h_i h (α 2) 0).toInt = σ 4 := g3
    rw [g2] at g3
    refine ⟨_, List.mem_of_getElem? (i := 0) rfl, ⟨ht, σ, α, ?_, ?_, ?_, w4, w5, ?_, trivial⟩, ?_⟩
    · intro q hq
      cases hq
    · intro q hq
      rcases List.mem_cons.mp hq with e | hq
      · rw [e]
        show 1 * σ 1 + 0 + 0 ≤ 0
        omega
      · rcases List.mem_cons.mp hq with e | hq
        · rw [e]
          show -1 * σ 3 + (1 * σ 4 + 0) + 0 ≤ 0
          omega
        · rcases List.mem_cons.mp hq with e | hq
          · rw [e]
            show 1 * σ 3 + (-1 * σ 4 + 0) + 0 ≤ 0
            omega
          · cases hq
    · intro q hq
      cases hq
    · intro q hq
      cases hq
    · intro t m
      cases m
  · refine ⟨_, List.mem_of_getElem? (i := 1) rfl, ⟨ht, σ, α, ?_, ?_, ?_, w4, w5, ?_, trivial⟩, ?_⟩
    · intro q hq
      cases hq
    · intro q hq
      rcases List.mem_cons.mp hq with e | hq
      · rw [e]
        show -1 * σ 1 + 0 + 1 ≤ 0
        omega
      · cases hq
    · intro q hq
      cases hq
    · intro q hq
      cases hq
    · intro t m
      cases m
theorem gv_p0 {ρ : Nat → Nat} {σ : Nat → Int} {α : Nat → Nat} {h : MH} (x : Int) (i1 : 0 ≤ σ 1 ∧ σ 1 ≤ 40) (g2 : (h_i h (α 2) (σ 1).toNat).toInt = σ 3) (hx : (h_i h (α 2) 0).toInt = -1) : σ 3 = -1 ∨ 1 ≤ σ 1 := by
  by_cases h0 : σ 1 = 0
  · rw [h0] at g2
    have g2 : (h_i h (α 2) 0).toInt = σ 3 := g2
    omega
  · omega
theorem c_gv_P0a : G_ok c_sp c_CC c_PT c_g_P0a := by
  intro ρ K KA lv h hC hS hT
  obtain ⟨ht, σ, α, w1, w2, w3, w4, w5, w6, w7⟩ := hS
  obtain ⟨⟨-, r0⟩, f1⟩ := w3 _ (List.mem_of_getElem? (i := 0) rfl)
  obtain ⟨-, f2⟩ := w3 _ (List.mem_of_getElem? (i := 1) rfl)
  dsimp only at f1 f2 r0
  have g1 := fv_r (by decide) f1
  have g2 := fv_s 1 f2
  have i1 := w1 _ (List.mem_of_getElem? (i := 0) rfl)
  dsimp only at i1
  have k := ((hT 8 (List.mem_singleton.mpr rfl)).2 (α 0) r0).1
  unfold v_pa at k
  rw [g1] at k
  rcases gv_p0 (ρ := ρ) 0 i1 g2 k with h0 | h0
  · refine ⟨_, List.mem_of_getElem? (i := 0) rfl, ⟨ht, σ, α, ?_, ?_, ?_, w4, w5, ?_, trivial⟩, ?_⟩
    · intro q hq
      cases hq
    · intro q hq
      rcases List.mem_cons.mp hq with e | hq
      · rw [e]
        show 1 * σ 3 + 0 + 1 ≤ 0
        omega
      · cases hq
    · intro q hq
      cases hq
    · intro q hq
      cases hq
    · intro t m
      cases m
  · refine ⟨_, List.mem_of_getElem? (i := 1) rfl, ⟨ht, σ, α, ?_, ?_, ?_, w4, w5, ?_, trivial⟩, ?_⟩
    · intro q hq
      cases hq
    · intro q hq
      rcases List.mem_cons.mp hq with e | hq
      · rw [e]
        show -1 * σ 1 + 0 + 1 ≤ 0
        omega
      · cases hq
    · intro q hq
      cases hq
    · intro q hq
      cases hq
    · intro t m
      cases m
theorem c_gv_P0b : G_ok c_sp c_CC c_PT c_g_P0b := by
  intro ρ K KA lv h hC hS hT
  obtain ⟨ht, σ, α, w1, w2, w3, w4, w5, w6, w7⟩ := hS
  obtain ⟨⟨-, r0⟩, f1⟩ := w3 _ (List.mem_of_getElem? (i := 0) rfl)
  obtain ⟨-, f2⟩ := w3 _ (List.mem_of_getElem? (i := 1) rfl)
  dsimp only at f1 f2 r0
  have g1 := fv_r (by decide) f1
  have g2 := fv_s 1 f2
  have i1 := w1 _ (List.mem_of_getElem? (i := 0) rfl)
  dsimp only at i1
  have k := ((hT 8 (List.mem_singleton.mpr rfl)).2 (α 0) r0).2
  unfold v_pb at k
  rw [g1] at k
  rcases gv_p0 (ρ := ρ) 0 i1 g2 k with h0 | h0
  · refine ⟨_, List.mem_of_getElem? (i := 0) rfl, ⟨ht, σ, α, ?_, ?_, ?_, w4, w5, ?_, trivial⟩, ?_⟩
    · intro q hq
      cases hq
    · intro q hq
      rcases List.mem_cons.mp hq with e | hq
      · rw [e]
        show 1 * σ 3 + 0 + 1 ≤ 0
        omega
      · cases hq
    · intro q hq
      cases hq
    · intro q hq
      cases hq
    · intro t m
      cases m
  · refine ⟨_, List.mem_of_getElem? (i := 1) rfl, ⟨ht, σ, α, ?_, ?_, ?_, w4, w5, ?_, trivial⟩, ?_⟩
    · intro q hq
      cases hq
    · intro q hq
      rcases List.mem_cons.mp hq with e | hq
      · rw [e]
        show -1 * σ 1 + 0 + 1 ≤ 0
        omega
      · cases hq
    · intro q hq
      cases hq
    · intro q hq
      cases hq
    · intro t m
      cases m
theorem c_kv_RWt_187_151 : K_ok c_sp c_CC c_PT 187 151 c_k_RWt := by
  intro ρ K KA lv st h pc' lv' st' h' hC hS hT e
  obtain ⟨ht, σ, α, w1, w2, w3, w4, w5, w6, w7⟩ := hS
  obtain ⟨v1, q1, rfl, ⟨x, rfl, hx⟩, s1⟩ := t_sc w7
  obtain ⟨v2, q2, rfl, ⟨j, rfl, hj⟩, s2⟩ := t_sc s1
  obtain ⟨v3, q3, rfl, ⟨rfl, hr⟩, s3⟩ := t_sc s2
  have hx : x.toInt = 1 * σ 4 + 0 + 0 := hx
  have hj : j.toInt = 161 * σ 1 + (1 * σ 2 + 0) + 0 := hj
  have i1 := w1 _ (List.mem_of_getElem? (i := 0) rfl)
  have i2 := w1 _ (List.mem_of_getElem? (i := 1) rfl)
  dsimp only at i1 i2
  have c1 : -4294967296 * σ 2 + (1 * σ 4 + 0) + -40 ≤ 0 := w2 _ (List.mem_of_getElem? (i := 0) rfl)
  have c2 : -4294967296 * σ 2 + (-1 * σ 4 + 0) + 0 ≤ 0 := w2 _ (List.mem_of_getElem? (i := 1) rfl)
  obtain ⟨e1, j0, j1⟩ := ks_ia (rfl : m_at 187 151 = some (.iastore, 1)) e
  intro t mt
  rw [List.mem_singleton.mp mt]
  refine ⟨(hT 7 (List.mem_singleton.mpr rfl)).1, fun m hm q hq => ?_⟩
  have k := (hT 7 (List.mem_singleton.mpr rfl)).2 m hm q hq
  subst e1
  show 0 ≤ (h_i (h_si h (α 3) j.toInt.toNat x) (h_r h m 6) (161 * q)).toInt ∧ (h_i (h_si h (α 3) j.toInt.toNat x) (h_r h m 6) (161 * q)).toInt ≤ 40
  rw [s_siI]
  split
  · next hc =>
    have : σ 2 = 0 := by omega
    rw [hx]
    omega
  · exact k
theorem c_kv_RWc_290_24 : K_ok c_sp c_CC c_PT 290 24 c_k_RWc := by
  intro ρ K KA lv st h pc' lv' st' h' hC hS hT e
  obtain ⟨ht, σ, α, w1, w2, w3, w4, w5, w6, w7⟩ := hS
  obtain ⟨v1, q1, rfl, ⟨x, rfl, hx⟩, s1⟩ := t_sc w7
  obtain ⟨v2, q2, rfl, ⟨j, rfl, hj⟩, s2⟩ := t_sc s1
  obtain ⟨v3, q3, rfl, ⟨rfl, hr⟩, s3⟩ := t_sc s2
  obtain ⟨-, f1⟩ := w3 _ (List.mem_of_getElem? (i := 0) rfl)
  dsimp only at f1
  have g1 := fv_s 4 f1
  have hx : x.toInt = 1 * σ 5 + 0 + 0 := hx
  have hj : j.toInt = 644 * σ 2 + (1 * σ 3 + 0) + 0 := hj
  have i1 := w1 _ (List.mem_of_getElem? (i := 0) rfl)
  have i2 := w1 _ (List.mem_of_getElem? (i := 1) rfl)
  have i3 := w1 _ (List.mem_of_getElem? (i := 2) rfl)
  dsimp only at i1 i2 i3
  have c1 : -644 * σ 1 + (-1 * σ 3 + (1 * σ 4 + 0)) + 0 ≤ 0 := w2 _ (List.mem_of_getElem? (i := 0) rfl)
  have c2 : 644 * σ 1 + (1 * σ 3 + (-1 * σ 4 + 0)) + 0 ≤ 0 := w2 _ (List.mem_of_getElem? (i := 1) rfl)
  obtain ⟨e1, j0, j1⟩ := ks_ia (rfl : m_at 290 24 = some (.iastore, 1)) e
  intro t mt
  rw [List.mem_singleton.mp mt]
  refine ⟨(hT 7 (List.mem_singleton.mpr rfl)).1, fun m hm q hq => ?_⟩
  have k9 := (hT 7 (List.mem_singleton.mpr rfl)).2 m hm
  have k := k9 q hq
  subst e1
  show 0 ≤ (h_i (h_si h (α 0) j.toInt.toNat x) (h_r h m 6) (161 * q)).toInt ∧ (h_i (h_si h (α 0) j.toInt.toNat x) (h_r h m 6) (161 * q)).toInt ≤ 40
  rw [s_siI]
  split
  · next hc =>
    obtain ⟨hc1, hc2⟩ := hc
    have k2 := k9 (σ 4 / 161).toNat (by omega)
    unfold v_rw at k2
    rw [hc1, show 161 * (σ 4 / 161).toNat = (σ 4).toNat by omega, g1] at k2
    rw [hx]
    omega
  · exact k
theorem c_kv_HSro_208_24 : K_ok c_sp c_CC c_PT 208 24 c_k_HSro := by
  intro ρ K KA lv st h pc' lv' st' h' hC hS hT e
  obtain ⟨ht, σ, α, w1, w2, w3, w4, w5, w6, w7⟩ := hS
  obtain ⟨v1, q1, rfl, ⟨x, rfl, hx⟩, s1⟩ := t_sc w7
  obtain ⟨v2, q2, rfl, ⟨j, rfl, hj⟩, s2⟩ := t_sc s1
  obtain ⟨v3, q3, rfl, ⟨rfl, hr⟩, s3⟩ := t_sc s2
  obtain ⟨⟨-, r0⟩, f1⟩ := w3 _ (List.mem_of_getElem? (i := 0) rfl)
  obtain ⟨-, f2⟩ := w3 _ (List.mem_of_getElem? (i := 1) rfl)
  obtain ⟨-, f3⟩ := w3 _ (List.mem_of_getElem? (i := 2) rfl)
  obtain ⟨-, f4⟩ := w3 _ (List.mem_of_getElem? (i := 3) rfl)
  dsimp only at f1 f2 f3 f4 r0
  have g1 := fv_r (by decide) f1
  have g2 := fv_r (by decide) f2
  have g3 := fv_i (by decide) f3
  have g4 := fv_s 6 f4
  have hx : x.toInt = 1 * σ 7 + 0 + 0 := hx
  have hj : j.toInt = 1 * σ 2 + 0 + 0 := hj
  have i1 := w1 _ (List.mem_of_getElem? (i := 0) rfl)
  have i2 := w1 _ (List.mem_of_getElem? (i := 1) rfl)
  dsimp only at i1 i2
  have c1 : -6 * σ 1 + (-1 * σ 2 + (1 * σ 6 + 0)) + 0 ≤ 0 := w2 _ (List.mem_of_getElem? (i := 0) rfl)
  have c2 : 6 * σ 1 + (1 * σ 2 + (-1 * σ 6 + 0)) + 0 ≤ 0 := w2 _ (List.mem_of_getElem? (i := 1) rfl)
  have c3 : 1 * σ 1 + (-1 * σ 5 + 0) + 1 ≤ 0 := w2 _ (List.mem_of_getElem? (i := 2) rfl)
  obtain ⟨e1, j0, j1⟩ := ks_ia (rfl : m_at 208 24 = some (.iastore, 1)) e
  intro t mt
  rw [List.mem_singleton.mp mt]
  refine ⟨(hT 4 (List.mem_of_getElem? (i := 0) rfl)).1, fun m hm r hr6 => ?_⟩
  have k := (hT 4 (List.mem_of_getElem? (i := 0) rfl)).2 m hm r hr6
  have k6 := (hT 6 (List.mem_of_getElem? (i := 1) rfl)).2 m hm (σ 1).toNat (σ 2).toNat
  have em := (hT 4 (List.mem_of_getElem? (i := 0) rfl)).1 m (α 0) hm r0
  subst e1
  have d0 : α 3 ≠ h_r h m 22 := fun z => by
    have p1 := (th_rf ht (R := 49) (by decide) rfl hm (k := 22) rfl (fun z => by cases z)).2
    have p2 := (th_rf ht (R := 49) (by decide) rfl r0 (k := 24) rfl (fun z => by cases z)).2
    rw [g1, z, p1] at p2
    cases p2
  have erk : v_rk (h_si h (α 3) j.toInt.toNat x) m = v_rk h m := funext (fun v => by
    show (h_i (h_si h (α 3) j.toInt.toNat x) (h_r h m 22) v).toInt = _
    rw [s_siI, if_neg (fun z => d0 z.1.symm)]
    rfl)
  have en : v_n (h_si h (α 3) j.toInt.toNat x) m = v_n h m := by
    show (h_i (h_si h (α 3) j.toInt.toNat x) m 17).toInt = _
    rw [s_siI, if_neg (fun z => by
      have p2 := (th_rf ht (R := 49) (by decide) rfl r0 (k := 24) rfl (fun z => by cases z)).2
      rw [g1, ← z.1, hm] at p2
      cases p2)]
    rfl
  rw [erk, en]
  show p_rt (v_n h m) (v_rk h m) (h_i (h_si h (α 3) j.toInt.toNat x) (h_r h m 24) r).toInt r
  rw [s_siI]
  split
  · next hc =>
    have k7 := k6 (by unfold v_vs; rw [em, g3]; omega) (by omega)
    unfold v_ro at k7
    rw [em, g2, show 6 * (σ 1).toNat + (σ 2).toNat = (σ 6).toNat by omega, g4] at k7
    rw [em, show r = (σ 2).toNat by omega, show x.toInt = σ 7 by omega]
    exact k7
  · exact k
