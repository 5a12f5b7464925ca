-- SUMMARIES AS CONTRACTS IN WHOLE NUMBERS: printed by wip/ck/con.py
theorem con_s {np : Nat} {σ σ' : Nat → Int} (e : (k_pins np).map (le_ev σ') = (k_pins np).map (le_ev σ)) (n : Nat) (hn : n < np) : σ' n = σ n := by
  have := List.map_inj_left.mp (show (List.range np).map (fun k => le_ev σ' (le_s k)) = (List.range np).map (fun k => le_ev σ (le_s k)) by
    unfold k_pins at e
    rw [List.map_map, List.map_map] at e
    exact e) n (List.mem_range.mpr hn)
  rw [le_sE, le_sE] at this
  exact this
theorem con_a {np : Nat} {α α' : Nat → Nat} (e : (List.range np).map α' = (List.range np).map α) (n : Nat) (hn : n < np) : α' n = α n := List.map_inj_left.mp e n (List.mem_range.mpr hn)
theorem th_na {ρ : Nat → Nat} {h : MH} {y R : Nat} (ht : TH c_sp ρ h) (e : ρ y = R) (hR : R ≠ 0) : y ≠ 0 := fun z => by
  rw [z, ht.1] at e
  exact hR e.symm
theorem c_k7 {ρ : Nat → Nat} {h : MH} {lv : List (Nat × Value)} {Q : Option Value → MH → Prop} {o0 : Nat} {x1 : Int32} {x2 : Int32} {x3 : Int32} {x4 : Int32} {x5 : Int32} (hC : CCok c_CC ρ) (ht : TH c_sp ρ h) (l0 : m_lk lv 0 = some (.ref o0)) (l1 : m_lk lv 1 = some (.int x1)) (l2 : m_lk lv 2 = some (.int x2)) (l3 : m_lk lv 3 = some (.int x3)) (l4 : m_lk lv 4 = some (.int x4)) (l5 : m_lk lv 5 = some (.int x5)) (r0 : ρ (o0) = 6) (r6 : ρ (h_r h (o0) 0) = 7) (b7 : 0 ≤ (h_i h (h_r h (o0) 0) 2).toInt ∧ (h_i h (h_r h (o0) 0) 2).toInt ≤ 600) (t1 : c_PT 1 ρ h) (t2 : c_PT 2 ρ h) (g0 : ∀ (ρ' : Nat → Nat) (h' : MH) (x : Int32), FQ ρ ρ' c_m7.2.1 h h' → TH c_sp ρ' h' → x.toInt = (-1) → (-1) * (h_i h (h_r h (o0) 0) 2).toInt + 581 ≤ 0 → (h_i h' (h_r h (o0) 0) 2).toInt = (h_i h (h_r h (o0) 0) 2).toInt → c_PT 1 ρ' h' → c_PT 2 ρ' h' → Q (some (.int x)) h') (g1 : ∀ (ρ' : Nat → Nat) (h' : MH) (x : Int32), FQ ρ ρ' c_m7.2.1 h h' → TH c_sp ρ' h' → x.toInt = (h_i h (h_r h (o0) 0) 2).toInt + 20 → (h_i h (h_r h (o0) 0) 2).toInt + (-580) ≤ 0 → (h_i h' (h_r h (o0) 0) 2).toInt = (h_i h (h_r h (o0) 0) 2).toInt + 20 → c_PT 1 ρ' h' → c_PT 2 ρ' h' → Q (some (.int x)) h') : HJ 7 0 lv [] h Q := by
  obtain ⟨σ, hσ⟩ : ∃ σ : Nat → Int, σ = fun k => if k = 1 then x1.toInt else if k = 2 then x2.toInt else if k = 3 then x3.toInt else if k = 4 then x4.toInt else if k = 5 then x5.toInt else if k = 7 then (h_i h (h_r h (o0) 0) 2).toInt else 0 := ⟨_, rfl⟩
  obtain ⟨α, hα⟩ : ∃ α : Nat → Nat, α = fun k => if k = 0 then o0 else if k = 6 then h_r h (o0) 0 else 0 := ⟨_, rfl⟩
  have s1 : σ 1 = x1.toInt := by rw [hσ]; rfl
  have s2 : σ 2 = x2.toInt := by rw [hσ]; rfl
  have s3 : σ 3 = x3.toInt := by rw [hσ]; rfl
  have s4 : σ 4 = x4.toInt := by rw [hσ]; rfl
  have s5 : σ 5 = x5.toInt := by rw [hσ]; rfl
  have s7 : σ 7 = (h_i h (h_r h (o0) 0) 2).toInt := by rw [hσ]; rfl
  have a0 : α 0 = o0 := by rw [hα]; rfl
  have a6 : α 6 = h_r h (o0) 0 := by rw [hα]; rfl
  clear hσ hα
  refine HJ.ofV (K := (k_pins 8).map (le_ev σ)) (KA := (List.range 8).map α) c_v7 hC ⟨ht, σ, α, fun q hq => ?_, fun q hq => ?_, fun q hq => ?_, rfl, rfl, fun q hq => ?_, trivial⟩ (fun t mt => ?_) (fun v h' ρ' f hP => ?_)
  · have hq : q ∈ ([(1, ((-2147483648), 2147483647)), (2, ((-2147483648), 2147483647)), (3, ((-2147483648), 2147483647)), (4, ((-2147483648), 2147483647)), (5, ((-2147483648), 2147483647)), (7, (0, 600))] : List (Nat × (Int × Int))) := hq
    rcases List.mem_cons.mp hq with e | hq
    · rw [e]
      show (-2147483648) ≤ σ 1 ∧ σ 1 ≤ 2147483647
      rw [s1]
      exact g_iT _
    · have hq := hq
      rcases List.mem_cons.mp hq with e | hq
      · rw [e]
        show (-2147483648) ≤ σ 2 ∧ σ 2 ≤ 2147483647
        rw [s2]
        exact g_iT _
      · have hq := hq
        rcases List.mem_cons.mp hq with e | hq
        · rw [e]
          show (-2147483648) ≤ σ 3 ∧ σ 3 ≤ 2147483647
          rw [s3]
          exact g_iT _
        · have hq := hq
          rcases List.mem_cons.mp hq with e | hq
          · rw [e]
            show (-2147483648) ≤ σ 4 ∧ σ 4 ≤ 2147483647
            rw [s4]
            exact g_iT _
          · have hq := hq
            rcases List.mem_cons.mp hq with e | hq
            · rw [e]
              show (-2147483648) ≤ σ 5 ∧ σ 5 ≤ 2147483647
              rw [s5]
              exact g_iT _
            · have hq := hq
              rw [List.mem_singleton.mp hq]
              show 0 ≤ σ 7 ∧ σ 7 ≤ 600
              rw [s7]
              exact b7
  · cases hq
  · have hq : q ∈ ([((0, (6, 0)), .inr (.inr (6, (7, true)))), ((6, (7, 2)), .inl ([(7, 1)], 0))] : List ((Nat × (Nat × Nat)) × AT)) := hq
    rcases List.mem_cons.mp hq with e | hq
    · rw [e]
      show (α 0 ≠ 0 ∧ ρ (α 0) = 6) ∧ t_fv σ α ρ h (α 0) 0 (.inr (.inr (6, (7, true))))
      rw [a0]
      refine ⟨⟨th_na ht r0 (by decide), r0⟩, ?_⟩
      show h_r h (o0) 0 = α 6 ∧ t_rf ρ 7 true (α 6)
      rw [a6]
      exact ⟨rfl, Or.inr ⟨th_na ht r6 (by decide), by decide, r6⟩⟩
    · have hq := hq
      rw [List.mem_singleton.mp hq]
      show (α 6 ≠ 0 ∧ ρ (α 6) = 7) ∧ t_fv σ α ρ h (α 6) 2 (.inl ([(7, 1)], 0))
      rw [a6]
      refine ⟨⟨th_na ht r6 (by decide), r6⟩, ?_⟩
      show (h_i h (h_r h (o0) 0) 2).toInt = (1 * σ 7 + 0) + 0
      omega
  · have hq : q ∈ ([(0, .inr (.inr (0, (6, true)))), (1, .inl ([(1, 1)], 0)), (2, .inl ([(2, 1)], 0)), (3, .inl ([(3, 1)], 0)), (4, .inl ([(4, 1)], 0)), (5, .inl ([(5, 1)], 0))] : List (Nat × AT)) := hq
    rcases List.mem_cons.mp hq with e | hq
    · rw [e]
      refine ⟨.ref (α 0), by rw [a0]; exact l0, rfl, ?_⟩
      show t_rf ρ 6 true (α 0)
      rw [a0]
      exact Or.inr ⟨th_na ht r0 (by decide), by decide, r0⟩
    · have hq := hq
      rcases List.mem_cons.mp hq with e | hq
      · rw [e]
        refine ⟨.int x1, l1, x1, rfl, ?_⟩
        show x1.toInt = (1 * σ 1 + 0) + 0
        omega
      · have hq := hq
        rcases List.mem_cons.mp hq with e | hq
        · rw [e]
          refine ⟨.int x2, l2, x2, rfl, ?_⟩
          show x2.toInt = (1 * σ 2 + 0) + 0
          omega
        · have hq := hq
          rcases List.mem_cons.mp hq with e | hq
          · rw [e]
            refine ⟨.int x3, l3, x3, rfl, ?_⟩
            show x3.toInt = (1 * σ 3 + 0) + 0
            omega
          · have hq := hq
            rcases List.mem_cons.mp hq with e | hq
            · rw [e]
              refine ⟨.int x4, l4, x4, rfl, ?_⟩
              show x4.toInt = (1 * σ 4 + 0) + 0
              omega
            · have hq := hq
              rw [List.mem_singleton.mp hq]
              refine ⟨.int x5, l5, x5, rfl, ?_⟩
              show x5.toInt = (1 * σ 5 + 0) + 0
              omega
  · have mt : t ∈ ([1, 2] : List Nat) := mt
    simp only [List.mem_cons, List.not_mem_nil, or_false] at mt
    rcases mt with rfl | rfl
    · exact t1
    · exact t2
  · obtain ⟨P, mP, tP, kP⟩ := hP
    have mP : P = ((([], [([(7, (-1))], 581)]), ([((6, (7, 2)), .inl ([(7, 1)], 0))], ((k_pins 8, List.range 8), (8, ([], [.inl ([], (-1))]))))), [1, 2]) ∨ P = ((([], [([(7, 1)], (-580))]), ([((6, (7, 2)), .inl ([(7, 1)], 20))], ((k_pins 8, List.range 8), (8, ([], [.inl ([(7, 1)], 20)]))))), [1, 2]) := by
      have mP : P ∈ ([((([], [([(7, (-1))], 581)]), ([((6, (7, 2)), .inl ([(7, 1)], 0))], ((k_pins 8, List.range 8), (8, ([], [.inl ([], (-1))]))))), [1, 2]), ((([], [([(7, 1)], (-580))]), ([((6, (7, 2)), .inl ([(7, 1)], 20))], ((k_pins 8, List.range 8), (8, ([], [.inl ([(7, 1)], 20)]))))), [1, 2])] : List (AST × List Nat)) := mP
      simpa only [List.mem_cons, List.not_mem_nil, or_false] using mP
    rcases mP with rfl | rfl
    · have tP := tP
      obtain ⟨t', σ', α', u1, u2, u3, u4, u5, -, u7⟩ := tP
      have s'1 : σ' 1 = x1.toInt := (con_s u4 1 (by decide)).trans s1
      have s'2 : σ' 2 = x2.toInt := (con_s u4 2 (by decide)).trans s2
      have s'3 : σ' 3 = x3.toInt := (con_s u4 3 (by decide)).trans s3
      have s'4 : σ' 4 = x4.toInt := (con_s u4 4 (by decide)).trans s4
      have s'5 : σ' 5 = x5.toInt := (con_s u4 5 (by decide)).trans s5
      have s'7 : σ' 7 = (h_i h (h_r h (o0) 0) 2).toInt := (con_s u4 7 (by decide)).trans s7
      have a'0 : α' 0 = o0 := (con_a u5 0 (by decide)).trans a0
      have a'6 : α' 6 = h_r h (o0) 0 := (con_a u5 6 (by decide)).trans a6
      cases v with
      | none => exact u7.elim
      | some v =>
        obtain ⟨⟨x, e1, e2⟩, -⟩ := u7
        subst e1
        have e2 : x.toInt = 0 + (-1) := e2
        have w0 : ((-1) * σ' 7 + 0) + 581 ≤ 0 := u2 _ (List.mem_of_getElem? (i := 0) rfl)
        have v0 : (h_i h' (α' 6) 2).toInt = (1 * σ' 7 + 0) + 0 := (u3 _ (List.mem_of_getElem? (i := 0) rfl)).2
        rw [a'6] at v0
        exact g0 ρ' h' x f t' (by omega) (by omega) (by omega) (kP 1 (by decide)) (kP 2 (by decide))
    · have tP := tP
      obtain ⟨t', σ', α', u1, u2, u3, u4, u5, -, u7⟩ := tP
      have s'1 : σ' 1 = x1.toInt := (con_s u4 1 (by decide)).trans s1
      have s'2 : σ' 2 = x2.toInt := (con_s u4 2 (by decide)).trans s2
      have s'3 : σ' 3 = x3.toInt := (con_s u4 3 (by decide)).trans s3
      have s'4 : σ' 4 = x4.toInt := (con_s u4 4 (by decide)).trans s4
      have s'5 : σ' 5 = x5.toInt := (con_s u4 5 (by decide)).trans s5
      have s'7 : σ' 7 = (h_i h (h_r h (o0) 0) 2).toInt := (con_s u4 7 (by decide)).trans s7
      have a'0 : α' 0 = o0 := (con_a u5 0 (by decide)).trans a0
      have a'6 : α' 6 = h_r h (o0) 0 := (con_a u5 6 (by decide)).trans a6
      cases v with
      | none => exact u7.elim
      | some v =>
        obtain ⟨⟨x, e1, e2⟩, -⟩ := u7
        subst e1
        have e2 : x.toInt = (1 * σ' 7 + 0) + 20 := e2
        have w0 : (1 * σ' 7 + 0) + (-580) ≤ 0 := u2 _ (List.mem_of_getElem? (i := 0) rfl)
        have v0 : (h_i h' (α' 6) 2).toInt = (1 * σ' 7 + 0) + 20 := (u3 _ (List.mem_of_getElem? (i := 0) rfl)).2
        rw [a'6] at v0
        exact g1 ρ' h' x f t' (by omega) (by omega) (by omega) (kP 1 (by decide)) (kP 2 (by decide))
theorem c_k9 {ρ : Nat → Nat} {h : MH} {lv : List (Nat × Value)} {Q : Option Value → MH → Prop} {o0 : Nat} {x1 : Int32} (hC : CCok c_CC ρ) (ht : TH c_sp ρ h) (l0 : m_lk lv 0 = some (.ref o0)) (l1 : m_lk lv 1 = some (.int x1)) (r0 : ρ (o0) = 6) (r2 : ρ (h_r h (o0) 0) = 7) (b3 : 0 ≤ (h_i h (h_r h (o0) 0) 2).toInt ∧ (h_i h (h_r h (o0) 0) 2).toInt ≤ 600) (t1 : c_PT 1 ρ h) (t2 : c_PT 2 ρ h) (g0 : ∀ (ρ' : Nat → Nat) (h' : MH) (x : Int32), FQ ρ ρ' c_m9.2.1 h h' → TH c_sp ρ' h' → x.toInt = (-1) → x1.toInt + 1 ≤ 0 → (h_i h' (h_r h (o0) 0) 2).toInt = (h_i h (h_r h (o0) 0) 2).toInt → c_PT 1 ρ' h' → c_PT 2 ρ' h' → Q (some (.int x)) h') (g1 : ∀ (ρ' : Nat → Nat) (h' : MH) (x : Int32), FQ ρ ρ' c_m9.2.1 h h' → TH c_sp ρ' h' → x.toInt = (-1) → (-1) * x1.toInt + (h_i h (h_r h (o0) 0) 2).toInt + 1 ≤ 0 → (h_i h' (h_r h (o0) 0) 2).toInt = (h_i h (h_r h (o0) 0) 2).toInt → c_PT 1 ρ' h' → c_PT 2 ρ' h' → Q (some (.int x)) h') (g2 : ∀ (ρ' : Nat → Nat) (h' : MH) (x : Int32), FQ ρ ρ' c_m9.2.1 h h' → TH c_sp ρ' h' → x.toInt = x1.toInt → (-1) * x1.toInt ≤ 0 → x1.toInt + (-1) * (h_i h (h_r h (o0) 0) 2).toInt ≤ 0 → (h_i h' (h_r h (o0) 0) 2).toInt = x1.toInt → c_PT 1 ρ' h' → c_PT 2 ρ' h' → Q (some (.int x)) h') : HJ 9 0 lv [] h Q := by
  obtain ⟨σ, hσ⟩ : ∃ σ : Nat → Int, σ = fun k => if k = 1 then x1.toInt else if k = 3 then (h_i h (h_r h (o0) 0) 2).toInt else 0 := ⟨_, rfl⟩
  obtain ⟨α, hα⟩ : ∃ α : Nat → Nat, α = fun k => if k = 0 then o0 else if k = 2 then h_r h (o0) 0 else 0 := ⟨_, rfl⟩
  have s1 : σ 1 = x1.toInt := by rw [hσ]; rfl
  have s3 : σ 3 = (h_i h (h_r h (o0) 0) 2).toInt := by rw [hσ]; rfl
  have a0 : α 0 = o0 := by rw [hα]; rfl
  have a2 : α 2 = h_r h (o0) 0 := by rw [hα]; rfl
  clear hσ hα
  refine HJ.ofV (K := (k_pins 4).map (le_ev σ)) (KA := (List.range 4).map α) c_v9 hC ⟨ht, σ, α, fun q hq => ?_, fun q hq => ?_, fun q hq => ?_, rfl, rfl, fun q hq => ?_, trivial⟩ (fun t mt => ?_) (fun v h' ρ' f hP => ?_)
  · have hq : q ∈ ([(1, ((-2147483648), 2147483647)), (3, (0, 600))] : List (Nat × (Int × Int))) := hq
    rcases List.mem_cons.mp hq with e | hq
    · rw [e]
      show (-2147483648) ≤ σ 1 ∧ σ 1 ≤ 2147483647
      rw [s1]
      exact g_iT _
    · have hq := hq
      rw [List.mem_singleton.mp hq]
      show 0 ≤ σ 3 ∧ σ 3 ≤ 600
      rw [s3]
      exact b3
  · cases hq
  · have hq : q ∈ ([((0, (6, 0)), .inr (.inr (2, (7, true)))), ((2, (7, 2)), .inl ([(3, 1)], 0))] : List ((Nat × (Nat × Nat)) × AT)) := hq
    rcases List.mem_cons.mp hq with e | hq
    · rw [e]
      show (α 0 ≠ 0 ∧ ρ (α 0) = 6) ∧ t_fv σ α ρ h (α 0) 0 (.inr (.inr (2, (7, true))))
      rw [a0]
      refine ⟨⟨th_na ht r0 (by decide), r0⟩, ?_⟩
      show h_r h (o0) 0 = α 2 ∧ t_rf ρ 7 true (α 2)
      rw [a2]
      exact ⟨rfl, Or.inr ⟨th_na ht r2 (by decide), by decide, r2⟩⟩
    · have hq := hq
      rw [List.mem_singleton.mp hq]
      show (α 2 ≠ 0 ∧ ρ (α 2) = 7) ∧ t_fv σ α ρ h (α 2) 2 (.inl ([(3, 1)], 0))
      rw [a2]
      refine ⟨⟨th_na ht r2 (by decide), r2⟩, ?_⟩
      show (h_i h (h_r h (o0) 0) 2).toInt = (1 * σ 3 + 0) + 0
      omega
  · have hq : q ∈ ([(0, .inr (.inr (0, (6, true)))), (1, .inl ([(1, 1)], 0))] : List (Nat × AT)) := hq
    rcases List.mem_cons.mp hq with e | hq
    · rw [e]
      refine ⟨.ref (α 0), by rw [a0]; exact l0, rfl, ?_⟩
      show t_rf ρ 6 true (α 0)
      rw [a0]
      exact Or.inr ⟨th_na ht r0 (by decide), by decide, r0⟩
    · have hq := hq
      rw [List.mem_singleton.mp hq]
      refine ⟨.int x1, l1, x1, rfl, ?_⟩
      show x1.toInt = (1 * σ 1 + 0) + 0
      omega
  · have mt : t ∈ ([1, 2] : List Nat) := mt
    simp only [List.mem_cons, List.not_mem_nil, or_false] at mt
    rcases mt with rfl | rfl
    · exact t1
    · exact t2
  · obtain ⟨P, mP, tP, kP⟩ := hP
    have mP : P = ((([], [([(1, 1)], 1)]), ([((2, (7, 2)), .inl ([(3, 1)], 0))], ((k_pins 4, List.range 4), (4, ([], [.inl ([], (-1))]))))), [1, 2]) ∨ P = ((([], [([(1, (-1)), (3, 1)], 1)]), ([((2, (7, 2)), .inl ([(3, 1)], 0))], ((k_pins 4, List.range 4), (4, ([], [.inl ([], (-1))]))))), [1, 2]) ∨ P = ((([], [([(1, (-1))], 0), ([(1, 1), (3, (-1))], 0)]), ([((2, (7, 2)), .inl ([(1, 1)], 0))], ((k_pins 4, List.range 4), (4, ([], [.inl ([(1, 1)], 0)]))))), [1, 2]) := by
      have mP : P ∈ ([((([], [([(1, 1)], 1)]), ([((2, (7, 2)), .inl ([(3, 1)], 0))], ((k_pins 4, List.range 4), (4, ([], [.inl ([], (-1))]))))), [1, 2]), ((([], [([(1, (-1)), (3, 1)], 1)]), ([((2, (7, 2)), .inl ([(3, 1)], 0))], ((k_pins 4, List.range 4), (4, ([], [.inl ([], (-1))]))))), [1, 2]), ((([], [([(1, (-1))], 0), ([(1, 1), (3, (-1))], 0)]), ([((2, (7, 2)), .inl ([(1, 1)], 0))], ((k_pins 4, List.range 4), (4, ([], [.inl ([(1, 1)], 0)]))))), [1, 2])] : List (AST × List Nat)) := mP
      simpa only [List.mem_cons, List.not_mem_nil, or_false] using mP
    rcases mP with rfl | rfl | rfl
    · have tP := tP
      obtain ⟨t', σ', α', u1, u2, u3, u4, u5, -, u7⟩ := tP
      have s'1 : σ' 1 = x1.toInt := (con_s u4 1 (by decide)).trans s1
      have s'3 : σ' 3 = (h_i h (h_r h (o0) 0) 2).toInt := (con_s u4 3 (by decide)).trans s3
      have a'0 : α' 0 = o0 := (con_a u5 0 (by decide)).trans a0
      have a'2 : α' 2 = h_r h (o0) 0 := (con_a u5 2 (by decide)).trans a2
      cases v with
      | none => exact u7.elim
      | some v =>
        obtain ⟨⟨x, e1, e2⟩, -⟩ := u7
        subst e1
        have e2 : x.toInt = 0 + (-1) := e2
        have w0 : (1 * σ' 1 + 0) + 1 ≤ 0 := u2 _ (List.mem_of_getElem? (i := 0) rfl)
        have v0 : (h_i h' (α' 2) 2).toInt = (1 * σ' 3 + 0) + 0 := (u3 _ (List.mem_of_getElem? (i := 0) rfl)).2
        rw [a'2] at v0
        exact g0 ρ' h' x f t' (by omega) (by omega) (by omega) (kP 1 (by decide)) (kP 2 (by decide))
    · have tP := tP
      obtain ⟨t', σ', α', u1, u2, u3, u4, u5, -, u7⟩ := tP
      have s'1 : σ' 1 = x1.toInt := (con_s u4 1 (by decide)).trans s1
      have s'3 : σ' 3 = (h_i h (h_r h (o0) 0) 2).toInt := (con_s u4 3 (by decide)).trans s3
      have a'0 : α' 0 = o0 := (con_a u5 0 (by decide)).trans a0
      have a'2 : α' 2 = h_r h (o0) 0 := (con_a u5 2 (by decide)).trans a2
      cases v with
      | none => exact u7.elim
      | some v =>
        obtain ⟨⟨x, e1, e2⟩, -⟩ := u7
        subst e1
        have e2 : x.toInt = 0 + (-1) := e2
        have w0 : ((-1) * σ' 1 + (1 * σ' 3 + 0)) + 1 ≤ 0 := u2 _ (List.mem_of_getElem? (i := 0) rfl)
        have v0 : (h_i h' (α' 2) 2).toInt = (1 * σ' 3 + 0) + 0 := (u3 _ (List.mem_of_getElem? (i := 0) rfl)).2
        rw [a'2] at v0
        exact g1 ρ' h' x f t' (by omega) (by omega) (by omega) (kP 1 (by decide)) (kP 2 (by decide))
    · have tP := tP
      obtain ⟨t', σ', α', u1, u2, u3, u4, u5, -, u7⟩ := tP
      have s'1 : σ' 1 = x1.toInt := (con_s u4 1 (by decide)).trans s1
      have s'3 : σ' 3 = (h_i h (h_r h (o0) 0) 2).toInt := (con_s u4 3 (by decide)).trans s3
      have a'0 : α' 0 = o0 := (con_a u5 0 (by decide)).trans a0
      have a'2 : α' 2 = h_r h (o0) 0 := (con_a u5 2 (by decide)).trans a2
      cases v with
      | none => exact u7.elim
      | some v =>
        obtain ⟨⟨x, e1, e2⟩, -⟩ := u7
        subst e1
        have e2 : x.toInt = (1 * σ' 1 + 0) + 0 := e2
        have w0 : ((-1) * σ' 1 + 0) + 0 ≤ 0 := u2 _ (List.mem_of_getElem? (i := 0) rfl)
        have w1 : (1 * σ' 1 + ((-1) * σ' 3 + 0)) + 0 ≤ 0 := u2 _ (List.mem_of_getElem? (i := 1) rfl)
        have v0 : (h_i h' (α' 2) 2).toInt = (1 * σ' 1 + 0) + 0 := (u3 _ (List.mem_of_getElem? (i := 0) rfl)).2
        rw [a'2] at v0
        exact g2 ρ' h' x f t' (by omega) (by omega) (by omega) (by omega) (kP 1 (by decide)) (kP 2 (by decide))
theorem c_k10 {ρ : Nat → Nat} {h : MH} {lv : List (Nat × Value)} {Q : Option Value → MH → Prop} {o0 : Nat} {x1 : Int32} (hC : CCok c_CC ρ) (ht : TH c_sp ρ h) (l0 : m_lk lv 0 = some (.ref o0)) (l1 : m_lk lv 1 = some (.int x1)) (r0 : ρ (o0) = 6) (r2 : ρ (h_r h (o0) 0) = 7) (t1 : c_PT 1 ρ h) (t2 : c_PT 2 ρ h) (g0 : ∀ (ρ' : Nat → Nat) (h' : MH) (y3 : Int) (x : Int32), FQ ρ ρ' c_m10.2.1 h h' → TH c_sp ρ' h' → x.toInt = y3 → (-2147483648) ≤ y3 ∧ y3 ≤ 2147483647 → (h_i h' (h_r h (o0) 0) 2).toInt = 0 → c_PT 1 ρ' h' → c_PT 2 ρ' h' → Q (some (.int x)) h') : HJ 10 0 lv [] h Q := by
  obtain ⟨σ, hσ⟩ : ∃ σ : Nat → Int, σ = fun k => if k = 1 then x1.toInt else 0 := ⟨_, rfl⟩
  obtain ⟨α, hα⟩ : ∃ α : Nat → Nat, α = fun k => if k = 0 then o0 else if k = 2 then h_r h (o0) 0 else 0 := ⟨_, rfl⟩
  have s1 : σ 1 = x1.toInt := by rw [hσ]; rfl
  have a0 : α 0 = o0 := by rw [hα]; rfl
  have a2 : α 2 = h_r h (o0) 0 := by rw [hα]; rfl
  clear hσ hα
  refine HJ.ofV (K := (k_pins 3).map (le_ev σ)) (KA := (List.range 3).map α) c_v10 hC ⟨ht, σ, α, fun q hq => ?_, fun q hq => ?_, fun q hq => ?_, rfl, rfl, fun q hq => ?_, trivial⟩ (fun t mt => ?_) (fun v h' ρ' f hP => ?_)
  · have hq : q ∈ ([(1, ((-2147483648), 2147483647))] : List (Nat × (Int × Int))) := hq
    rw [List.mem_singleton.mp hq]
    show (-2147483648) ≤ σ 1 ∧ σ 1 ≤ 2147483647
    rw [s1]
    exact g_iT _
  · cases hq
  · have hq : q ∈ ([((0, (6, 0)), .inr (.inr (2, (7, true))))] : List ((Nat × (Nat × Nat)) × AT)) := hq
    rw [List.mem_singleton.mp hq]
    show (α 0 ≠ 0 ∧ ρ (α 0) = 6) ∧ t_fv σ α ρ h (α 0) 0 (.inr (.inr (2, (7, true))))
    rw [a0]
    refine ⟨⟨th_na ht r0 (by decide), r0⟩, ?_⟩
    show h_r h (o0) 0 = α 2 ∧ t_rf ρ 7 true (α 2)
    rw [a2]
    exact ⟨rfl, Or.inr ⟨th_na ht r2 (by decide), by decide, r2⟩⟩
  · have hq : q ∈ ([(0, .inr (.inr (0, (6, true)))), (1, .inl ([(1, 1)], 0))] : List (Nat × AT)) := hq
    rcases List.mem_cons.mp hq with e | hq
    · rw [e]
      refine ⟨.ref (α 0), by rw [a0]; exact l0, rfl, ?_⟩
      show t_rf ρ 6 true (α 0)
      rw [a0]
      exact Or.inr ⟨th_na ht r0 (by decide), by decide, r0⟩
    · have hq := hq
      rw [List.mem_singleton.mp hq]
      refine ⟨.int x1, l1, x1, rfl, ?_⟩
      show x1.toInt = (1 * σ 1 + 0) + 0
      omega
  · have mt : t ∈ ([1, 2] : List Nat) := mt
    simp only [List.mem_cons, List.not_mem_nil, or_false] at mt
    rcases mt with rfl | rfl
    · exact t1
    · exact t2
  · obtain ⟨P, mP, tP, kP⟩ := hP
    have mP : P = ((([(3, ((-2147483648), 2147483647))], []), ([((2, (7, 2)), .inl ([], 0))], ((k_pins 3, List.range 3), (4, ([], [.inl ([(3, 1)], 0)]))))), [1, 2]) := by
      have mP : P ∈ ([((([(3, ((-2147483648), 2147483647))], []), ([((2, (7, 2)), .inl ([], 0))], ((k_pins 3, List.range 3), (4, ([], [.inl ([(3, 1)], 0)]))))), [1, 2])] : List (AST × List Nat)) := mP
      exact List.mem_singleton.mp mP
    subst mP
    obtain ⟨t', σ', α', u1, u2, u3, u4, u5, -, u7⟩ := tP
    have s'1 : σ' 1 = x1.toInt := (con_s u4 1 (by decide)).trans s1
    have a'0 : α' 0 = o0 := (con_a u5 0 (by decide)).trans a0
    have a'2 : α' 2 = h_r h (o0) 0 := (con_a u5 2 (by decide)).trans a2
    cases v with
    | none => exact u7.elim
    | some v =>
      obtain ⟨⟨x, e1, e2⟩, -⟩ := u7
      subst e1
      have e2 : x.toInt = (1 * σ' 3 + 0) + 0 := e2
      have v0 : (h_i h' (α' 2) 2).toInt = 0 + 0 := (u3 _ (List.mem_of_getElem? (i := 0) rfl)).2
      rw [a'2] at v0
      exact g0 ρ' h' (σ' 3) x f t' (by omega) (u1 _ (List.mem_of_getElem? (i := 0) rfl)) (by omega) (kP 1 (by decide)) (kP 2 (by decide))
theorem c_k183 {ρ : Nat → Nat} {h : MH} {lv : List (Nat × Value)} {Q : Option Value → MH → Prop} {o0 : Nat} {x1 : Int32} {x2 : Int32} {x3 : Int32} {x4 : Int32} {x5 : Int32} (hC : CCok c_CC ρ) (ht : TH c_sp ρ h) (l0 : m_lk lv 0 = some (.ref o0)) (l1 : m_lk lv 1 = some (.int x1)) (l2 : m_lk lv 2 = some (.int x2)) (l3 : m_lk lv 3 = some (.int x3)) (l4 : m_lk lv 4 = some (.int x4)) (l5 : m_lk lv 5 = some (.int x5)) (r0 : ρ (o0) = 49) (r6 : ρ (h_r h (o0) 2) = 51) (b7 : 0 ≤ (h_i h (h_r h (o0) 2) 0).toInt ∧ (h_i h (h_r h (o0) 2) 0).toInt ≤ 600) (b8 : 0 ≤ (h_i h (h_r h (o0) 2) 1).toInt ∧ (h_i h (h_r h (o0) 2) 1).toInt ≤ 600) (b9 : 0 ≤ (h_i h (h_r h (o0) 2) 2).toInt ∧ (h_i h (h_r h (o0) 2) 2).toInt ≤ 600) (b10 : 0 ≤ (h_i h (h_r h (o0) 2) 3).toInt ∧ (h_i h (h_r h (o0) 2) 3).toInt ≤ 600) (t7 : c_PT 7 ρ h) (g0 : ∀ (ρ' : Nat → Nat) (h' : MH) (x : Int32), FQ ρ ρ' c_m183.2.1 h h' → TH c_sp ρ' h' → x.toInt = (-1) → (-1) * (h_i h (h_r h (o0) 2) 0).toInt + 581 ≤ 0 → (h_i h' (h_r h (o0) 2) 0).toInt = (h_i h (h_r h (o0) 2) 0).toInt → (h_i h' (h_r h (o0) 2) 1).toInt = (h_i h (h_r h (o0) 2) 1).toInt → (h_i h' (h_r h (o0) 2) 2).toInt = (h_i h (h_r h (o0) 2) 2).toInt → (h_i h' (h_r h (o0) 2) 3).toInt = (h_i h (h_r h (o0) 2) 3).toInt → Q (some (.int x)) h') (g1 : ∀ (ρ' : Nat → Nat) (h' : MH) (x : Int32), FQ ρ ρ' c_m183.2.1 h h' → TH c_sp ρ' h' → x.toInt = (h_i h (h_r h (o0) 2) 0).toInt + 20 → (h_i h (h_r h (o0) 2) 0).toInt + (-580) ≤ 0 → (h_i h' (h_r h (o0) 2) 0).toInt = (h_i h (h_r h (o0) 2) 0).toInt + 20 → (h_i h' (h_r h (o0) 2) 1).toInt = (h_i h (h_r h (o0) 2) 1).toInt → (h_i h' (h_r h (o0) 2) 2).toInt = (h_i h (h_r h (o0) 2) 2).toInt → (h_i h' (h_r h (o0) 2) 3).toInt = (h_i h (h_r h (o0) 2) 3).toInt → Q (some (.int x)) h') : HJ 183 0 lv [] h Q := by
  obtain ⟨σ, hσ⟩ : ∃ σ : Nat → Int, σ = fun k => if k = 1 then x1.toInt else if k = 2 then x2.toInt else if k = 3 then x3.toInt else if k = 4 then x4.toInt else if k = 5 then x5.toInt else if k = 7 then (h_i h (h_r h (o0) 2) 0).toInt else if k = 8 then (h_i h (h_r h (o0) 2) 1).toInt else if k = 9 then (h_i h (h_r h (o0) 2) 2).toInt else if k = 10 then (h_i h (h_r h (o0) 2) 3).toInt else 0 := ⟨_, rfl⟩
  obtain ⟨α, hα⟩ : ∃ α : Nat → Nat, α = fun k => if k = 0 then o0 else if k = 6 then h_r h (o0) 2 else 0 := ⟨_, rfl⟩
  have s1 : σ 1 = x1.toInt := by rw [hσ]; rfl
  have s2 : σ 2 = x2.toInt := by rw [hσ]; rfl
  have s3 : σ 3 = x3.toInt := by rw [hσ]; rfl
  have s4 : σ 4 = x4.toInt := by rw [hσ]; rfl
  have s5 : σ 5 = x5.toInt := by rw [hσ]; rfl
  have s7 : σ 7 = (h_i h (h_r h (o0) 2) 0).toInt := by rw [hσ]; rfl
  have s8 : σ 8 = (h_i h (h_r h (o0) 2) 1).toInt := by rw [hσ]; rfl
  have s9 : σ 9 = (h_i h (h_r h (o0) 2) 2).toInt := by rw [hσ]; rfl
  have s10 : σ 10 = (h_i h (h_r h (o0) 2) 3).toInt := by rw [hσ]; rfl
  have a0 : α 0 = o0 := by rw [hα]; rfl
  have a6 : α 6 = h_r h (o0) 2 := by rw [hα]; rfl
  clear hσ hα
  refine HJ.ofV (K := (k_pins 11).map (le_ev σ)) (KA := (List.range 11).map α) c_v183 hC ⟨ht, σ, α, fun q hq => ?_, fun q hq => ?_, fun q hq => ?_, rfl, rfl, fun q hq => ?_, trivial⟩ (fun t mt => ?_) (fun v h' ρ' f hP => ?_)
  · have hq : q ∈ ([(1, ((-2147483648), 2147483647)), (2, ((-2147483648), 2147483647)), (3, ((-2147483648), 2147483647)), (4, ((-2147483648), 2147483647)), (5, ((-2147483648), 2147483647)), (7, (0, 600)), (8, (0, 600)), (9, (0, 600)), (10, (0, 600))] : List (Nat × (Int × Int))) := hq
    rcases List.mem_cons.mp hq with e | hq
    · rw [e]
      show (-2147483648) ≤ σ 1 ∧ σ 1 ≤ 2147483647
      rw [s1]
      exact g_iT _
    · have hq := hq
      rcases List.mem_cons.mp hq with e | hq
      · rw [e]
        show (-2147483648) ≤ σ 2 ∧ σ 2 ≤ 2147483647
        rw [s2]
        exact g_iT _
      · have hq := hq
        rcases List.mem_cons.mp hq with e | hq
        · rw [e]
          show (-2147483648) ≤ σ 3 ∧ σ 3 ≤ 2147483647
          rw [s3]
          exact g_iT _
        · have hq := hq
          rcases List.mem_cons.mp hq with e | hq
          · rw [e]
            show (-2147483648) ≤ σ 4 ∧ σ 4 ≤ 2147483647
            rw [s4]
            exact g_iT _
          · have hq := hq
            rcases List.mem_cons.mp hq with e | hq
            · rw [e]
              show (-2147483648) ≤ σ 5 ∧ σ 5 ≤ 2147483647
              rw [s5]
              exact g_iT _
            · have hq := hq
              rcases List.mem_cons.mp hq with e | hq
              · rw [e]
                show 0 ≤ σ 7 ∧ σ 7 ≤ 600
                rw [s7]
                exact b7
              · have hq := hq
                rcases List.mem_cons.mp hq with e | hq
                · rw [e]
                  show 0 ≤ σ 8 ∧ σ 8 ≤ 600
                  rw [s8]
                  exact b8
                · have hq := hq
                  rcases List.mem_cons.mp hq with e | hq
                  · rw [e]
                    show 0 ≤ σ 9 ∧ σ 9 ≤ 600
                    rw [s9]
                    exact b9
                  · have hq := hq
                    rw [List.mem_singleton.mp hq]
                    show 0 ≤ σ 10 ∧ σ 10 ≤ 600
                    rw [s10]
                    exact b10
  · cases hq
  · have hq : q ∈ ([((0, (49, 2)), .inr (.inr (6, (51, true)))), ((6, (51, 0)), .inl ([(7, 1)], 0)), ((6, (51, 1)), .inl ([(8, 1)], 0)), ((6, (51, 2)), .inl ([(9, 1)], 0)), ((6, (51, 3)), .inl ([(10, 1)], 0))] : List ((Nat × (Nat × Nat)) × AT)) := hq
    rcases List.mem_cons.mp hq with e | hq
    · rw [e]
      show (α 0 ≠ 0 ∧ ρ (α 0) = 49) ∧ t_fv σ α ρ h (α 0) 2 (.inr (.inr (6, (51, true))))
      rw [a0]
      refine ⟨⟨th_na ht r0 (by decide), r0⟩, ?_⟩
      show h_r h (o0) 2 = α 6 ∧ t_rf ρ 51 true (α 6)
      rw [a6]
      exact ⟨rfl, Or.inr ⟨th_na ht r6 (by decide), by decide, r6⟩⟩
    · have hq := hq
      rcases List.mem_cons.mp hq with e | hq
      · rw [e]
        show (α 6 ≠ 0 ∧ ρ (α 6) = 51) ∧ t_fv σ α ρ h (α 6) 0 (.inl ([(7, 1)], 0))
        rw [a6]
        refine ⟨⟨th_na ht r6 (by decide), r6⟩, ?_⟩
        show (h_i h (h_r h (o0) 2) 0).toInt = (1 * σ 7 + 0) + 0
        omega
      · have hq := hq
        rcases List.mem_cons.mp hq with e | hq
        · rw [e]
          show (α 6 ≠ 0 ∧ ρ (α 6) = 51) ∧ t_fv σ α ρ h (α 6) 1 (.inl ([(8, 1)], 0))
          rw [a6]
          refine ⟨⟨th_na ht r6 (by decide), r6⟩, ?_⟩
          show (h_i h (h_r h (o0) 2) 1).toInt = (1 * σ 8 + 0) + 0
          omega
        · have hq := hq
          rcases List.mem_cons.mp hq with e | hq
          · rw [e]
            show (α 6 ≠ 0 ∧ ρ (α 6) = 51) ∧ t_fv σ α ρ h (α 6) 2 (.inl ([(9, 1)], 0))
            rw [a6]
            refine ⟨⟨th_na ht r6 (by decide), r6⟩, ?_⟩
            show (h_i h (h_r h (o0) 2) 2).toInt = (1 * σ 9 + 0) + 0
            omega
          · have hq := hq
            rw [List.mem_singleton.mp hq]
            show (α 6 ≠ 0 ∧ ρ (α 6) = 51) ∧ t_fv σ α ρ h (α 6) 3 (.inl ([(10, 1)], 0))
            rw [a6]
            refine ⟨⟨th_na ht r6 (by decide), r6⟩, ?_⟩
            show (h_i h (h_r h (o0) 2) 3).toInt = (1 * σ 10 + 0) + 0
            omega
  · have hq : q ∈ ([(0, .inr (.inr (0, (49, true)))), (1, .inl ([(1, 1)], 0)), (2, .inl ([(2, 1)], 0)), (3, .inl ([(3, 1)], 0)), (4, .inl ([(4, 1)], 0)), (5, .inl ([(5, 1)], 0))] : List (Nat × AT)) := hq
    rcases List.mem_cons.mp hq with e | hq
    · rw [e]
      refine ⟨.ref (α 0), by rw [a0]; exact l0, rfl, ?_⟩
      show t_rf ρ 49 true (α 0)
      rw [a0]
      exact Or.inr ⟨th_na ht r0 (by decide), by decide, r0⟩
    · have hq := hq
      rcases List.mem_cons.mp hq with e | hq
      · rw [e]
        refine ⟨.int x1, l1, x1, rfl, ?_⟩
        show x1.toInt = (1 * σ 1 + 0) + 0
        omega
      · have hq := hq
        rcases List.mem_cons.mp hq with e | hq
        · rw [e]
          refine ⟨.int x2, l2, x2, rfl, ?_⟩
          show x2.toInt = (1 * σ 2 + 0) + 0
          omega
        · have hq := hq
          rcases List.mem_cons.mp hq with e | hq
          · rw [e]
            refine ⟨.int x3, l3, x3, rfl, ?_⟩
            show x3.toInt = (1 * σ 3 + 0) + 0
            omega
          · have hq := hq
            rcases List.mem_cons.mp hq with e | hq
            · rw [e]
              refine ⟨.int x4, l4, x4, rfl, ?_⟩
              show x4.toInt = (1 * σ 4 + 0) + 0
              omega
            · have hq := hq
              rw [List.mem_singleton.mp hq]
              refine ⟨.int x5, l5, x5, rfl, ?_⟩
              show x5.toInt = (1 * σ 5 + 0) + 0
              omega
  · have mt : t ∈ ([7] : List Nat) := mt
    simp only [List.mem_cons, List.not_mem_nil, or_false] at mt
    rcases mt with rfl
    · exact t7
  · obtain ⟨P, mP, tP, kP⟩ := hP
    have mP : P = ((([], [([(7, (-1))], 581)]), ([((6, (51, 0)), .inl ([(7, 1)], 0)), ((6, (51, 1)), .inl ([(8, 1)], 0)), ((6, (51, 2)), .inl ([(9, 1)], 0)), ((6, (51, 3)), .inl ([(10, 1)], 0))], ((k_pins 11, List.range 11), (11, ([], [.inl ([], (-1))]))))), []) ∨ P = ((([], [([(7, 1)], (-580))]), ([((6, (51, 0)), .inl ([(7, 1)], 20)), ((6, (51, 1)), .inl ([(8, 1)], 0)), ((6, (51, 2)), .inl ([(9, 1)], 0)), ((6, (51, 3)), .inl ([(10, 1)], 0))], ((k_pins 11, List.range 11), (11, ([], [.inl ([(7, 1)], 20)]))))), []) := by
      have mP : P ∈ ([((([], [([(7, (-1))], 581)]), ([((6, (51, 0)), .inl ([(7, 1)], 0)), ((6, (51, 1)), .inl ([(8, 1)], 0)), ((6, (51, 2)), .inl ([(9, 1)], 0)), ((6, (51, 3)), .inl ([(10, 1)], 0))], ((k_pins 11, List.range 11), (11, ([], [.inl ([], (-1))]))))), []), ((([], [([(7, 1)], (-580))]), ([((6, (51, 0)), .inl ([(7, 1)], 20)), ((6, (51, 1)), .inl ([(8, 1)], 0)), ((6, (51, 2)), .inl ([(9, 1)], 0)), ((6, (51, 3)), .inl ([(10, 1)], 0))], ((k_pins 11, List.range 11), (11, ([], [.inl ([(7, 1)], 20)]))))), [])] : List (AST × List Nat)) := mP
      simpa only [List.mem_cons, List.not_mem_nil, or_false] using mP
    rcases mP with rfl | rfl
    · have tP := tP
      obtain ⟨t', σ', α', u1, u2, u3, u4, u5, -, u7⟩ := tP
      have s'1 : σ' 1 = x1.toInt := (con_s u4 1 (by decide)).trans s1
      have s'2 : σ' 2 = x2.toInt := (con_s u4 2 (by decide)).trans s2
      have s'3 : σ' 3 = x3.toInt := (con_s u4 3 (by decide)).trans s3
      have s'4 : σ' 4 = x4.toInt := (con_s u4 4 (by decide)).trans s4
      have s'5 : σ' 5 = x5.toInt := (con_s u4 5 (by decide)).trans s5
      have s'7 : σ' 7 = (h_i h (h_r h (o0) 2) 0).toInt := (con_s u4 7 (by decide)).trans s7
      have s'8 : σ' 8 = (h_i h (h_r h (o0) 2) 1).toInt := (con_s u4 8 (by decide)).trans s8
      have s'9 : σ' 9 = (h_i h (h_r h (o0) 2) 2).toInt := (con_s u4 9 (by decide)).trans s9
      have s'10 : σ' 10 = (h_i h (h_r h (o0) 2) 3).toInt := (con_s u4 10 (by decide)).trans s10
      have a'0 : α' 0 = o0 := (con_a u5 0 (by decide)).trans a0
      have a'6 : α' 6 = h_r h (o0) 2 := (con_a u5 6 (by decide)).trans a6
      cases v with
      | none => exact u7.elim
      | some v =>
        obtain ⟨⟨x, e1, e2⟩, -⟩ := u7
        subst e1
        have e2 : x.toInt = 0 + (-1) := e2
        have w0 : ((-1) * σ' 7 + 0) + 581 ≤ 0 := u2 _ (List.mem_of_getElem? (i := 0) rfl)
        have v0 : (h_i h' (α' 6) 0).toInt = (1 * σ' 7 + 0) + 0 := (u3 _ (List.mem_of_getElem? (i := 0) rfl)).2
        rw [a'6] at v0
        have v1 : (h_i h' (α' 6) 1).toInt = (1 * σ' 8 + 0) + 0 := (u3 _ (List.mem_of_getElem? (i := 1) rfl)).2
        rw [a'6] at v1
        have v2 : (h_i h' (α' 6) 2).toInt = (1 * σ' 9 + 0) + 0 := (u3 _ (List.mem_of_getElem? (i := 2) rfl)).2
        rw [a'6] at v2
        have v3 : (h_i h' (α' 6) 3).toInt = (1 * σ' 10 + 0) + 0 := (u3 _ (List.mem_of_getElem? (i := 3) rfl)).2
        rw [a'6] at v3
        exact g0 ρ' h' x f t' (by omega) (by omega) (by omega) (by omega) (by omega) (by omega)
    · have tP := tP
      obtain ⟨t', σ', α', u1, u2, u3, u4, u5, -, u7⟩ := tP
      have s'1 : σ' 1 = x1.toInt := (con_s u4 1 (by decide)).trans s1
      have s'2 : σ' 2 = x2.toInt := (con_s u4 2 (by decide)).trans s2
      have s'3 : σ' 3 = x3.toInt := (con_s u4 3 (by decide)).trans s3
      have s'4 : σ' 4 = x4.toInt := (con_s u4 4 (by decide)).trans s4
      have s'5 : σ' 5 = x5.toInt := (con_s u4 5 (by decide)).trans s5
      have s'7 : σ' 7 = (h_i h (h_r h (o0) 2) 0).toInt := (con_s u4 7 (by decide)).trans s7
      have s'8 : σ' 8 = (h_i h (h_r h (o0) 2) 1).toInt := (con_s u4 8 (by decide)).trans s8
      have s'9 : σ' 9 = (h_i h (h_r h (o0) 2) 2).toInt := (con_s u4 9 (by decide)).trans s9
      have s'10 : σ' 10 = (h_i h (h_r h (o0) 2) 3).toInt := (con_s u4 10 (by decide)).trans s10
      have a'0 : α' 0 = o0 := (con_a u5 0 (by decide)).trans a0
      have a'6 : α' 6 = h_r h (o0) 2 := (con_a u5 6 (by decide)).trans a6
      cases v with
      | none => exact u7.elim
      | some v =>
        obtain ⟨⟨x, e1, e2⟩, -⟩ := u7
        subst e1
        have e2 : x.toInt = (1 * σ' 7 + 0) + 20 := e2
        have w0 : (1 * σ' 7 + 0) + (-580) ≤ 0 := u2 _ (List.mem_of_getElem? (i := 0) rfl)
        have v0 : (h_i h' (α' 6) 0).toInt = (1 * σ' 7 + 0) + 20 := (u3 _ (List.mem_of_getElem? (i := 0) rfl)).2
        rw [a'6] at v0
        have v1 : (h_i h' (α' 6) 1).toInt = (1 * σ' 8 + 0) + 0 := (u3 _ (List.mem_of_getElem? (i := 1) rfl)).2
        rw [a'6] at v1
        have v2 : (h_i h' (α' 6) 2).toInt = (1 * σ' 9 + 0) + 0 := (u3 _ (List.mem_of_getElem? (i := 2) rfl)).2
        rw [a'6] at v2
        have v3 : (h_i h' (α' 6) 3).toInt = (1 * σ' 10 + 0) + 0 := (u3 _ (List.mem_of_getElem? (i := 3) rfl)).2
        rw [a'6] at v3
        exact g1 ρ' h' x f t' (by omega) (by omega) (by omega) (by omega) (by omega) (by omega)
theorem c_k185 {ρ : Nat → Nat} {h : MH} {lv : List (Nat × Value)} {Q : Option Value → MH → Prop} {o0 : Nat} {x1 : Int32} (hC : CCok c_CC ρ) (ht : TH c_sp ρ h) (l0 : m_lk lv 0 = some (.ref o0)) (l1 : m_lk lv 1 = some (.int x1)) (r0 : ρ (o0) = 49) (r2 : ρ (h_r h (o0) 2) = 51) (b3 : 0 ≤ (h_i h (h_r h (o0) 2) 0).toInt ∧ (h_i h (h_r h (o0) 2) 0).toInt ≤ 600) (b4 : 0 ≤ (h_i h (h_r h (o0) 2) 1).toInt ∧ (h_i h (h_r h (o0) 2) 1).toInt ≤ 600) (b5 : 0 ≤ (h_i h (h_r h (o0) 2) 2).toInt ∧ (h_i h (h_r h (o0) 2) 2).toInt ≤ 600) (b6 : 0 ≤ (h_i h (h_r h (o0) 2) 3).toInt ∧ (h_i h (h_r h (o0) 2) 3).toInt ≤ 600) (t7 : c_PT 7 ρ h) (g0 : ∀ (ρ' : Nat → Nat) (h' : MH) (x : Int32), FQ ρ ρ' c_m185.2.1 h h' → TH c_sp ρ' h' → x.toInt = (-1) → x1.toInt + 1 ≤ 0 → (h_i h' (h_r h (o0) 2) 0).toInt = (h_i h (h_r h (o0) 2) 0).toInt → (h_i h' (h_r h (o0) 2) 1).toInt = (h_i h (h_r h (o0) 2) 1).toInt → (h_i h' (h_r h (o0) 2) 2).toInt = (h_i h (h_r h (o0) 2) 2).toInt → (h_i h' (h_r h (o0) 2) 3).toInt = (h_i h (h_r h (o0) 2) 3).toInt → Q (some (.int x)) h') (g1 : ∀ (ρ' : Nat → Nat) (h' : MH) (x : Int32), FQ ρ ρ' c_m185.2.1 h h' → TH c_sp ρ' h' → x.toInt = (-1) → (-1) * x1.toInt + (h_i h (h_r h (o0) 2) 0).toInt + 1 ≤ 0 → (h_i h' (h_r h (o0) 2) 0).toInt = (h_i h (h_r h (o0) 2) 0).toInt → (h_i h' (h_r h (o0) 2) 1).toInt = (h_i h (h_r h (o0) 2) 1).toInt → (h_i h' (h_r h (o0) 2) 2).toInt = (h_i h (h_r h (o0) 2) 2).toInt → (h_i h' (h_r h (o0) 2) 3).toInt = (h_i h (h_r h (o0) 2) 3).toInt → Q (some (.int x)) h') (g2 : ∀ (ρ' : Nat → Nat) (h' : MH) (x : Int32), FQ ρ ρ' c_m185.2.1 h h' → TH c_sp ρ' h' → x.toInt = x1.toInt → (-1) * x1.toInt ≤ 0 → x1.toInt + (-1) * (h_i h (h_r h (o0) 2) 0).toInt ≤ 0 → (h_i h' (h_r h (o0) 2) 0).toInt = x1.toInt → (h_i h' (h_r h (o0) 2) 1).toInt = (h_i h (h_r h (o0) 2) 1).toInt → (h_i h' (h_r h (o0) 2) 2).toInt = (h_i h (h_r h (o0) 2) 2).toInt → (h_i h' (h_r h (o0) 2) 3).toInt = (h_i h (h_r h (o0) 2) 3).toInt → Q (some (.int x)) h') : HJ 185 0 lv [] h Q := by
  obtain ⟨σ, hσ⟩ : ∃ σ : Nat → Int, σ = fun k => if k = 1 then x1.toInt else if k = 3 then (h_i h (h_r h (o0) 2) 0).toInt else if k = 4 then (h_i h (h_r h (o0) 2) 1).toInt else if k = 5 then (h_i h (h_r h (o0) 2) 2).toInt else if k = 6 then (h_i h (h_r h (o0) 2) 3).toInt else 0 := ⟨_, rfl⟩
  obtain ⟨α, hα⟩ : ∃ α : Nat → Nat, α = fun k => if k = 0 then o0 else if k = 2 then h_r h (o0) 2 else 0 := ⟨_, rfl⟩
  have s1 : σ 1 = x1.toInt := by rw [hσ]; rfl
  have s3 : σ 3 = (h_i h (h_r h (o0) 2) 0).toInt := by rw [hσ]; rfl
  have s4 : σ 4 = (h_i h (h_r h (o0) 2) 1).toInt := by rw [hσ]; rfl
  have s5 : σ 5 = (h_i h (h_r h (o0) 2) 2).toInt := by rw [hσ]; rfl
  have s6 : σ 6 = (h_i h (h_r h (o0) 2) 3).toInt := by rw [hσ]; rfl
  have a0 : α 0 = o0 := by rw [hα]; rfl
  have a2 : α 2 = h_r h (o0) 2 := by rw [hα]; rfl
  clear hσ hα
  refine HJ.ofV (K := (k_pins 7).map (le_ev σ)) (KA := (List.range 7).map α) c_v185 hC ⟨ht, σ, α, fun q hq => ?_, fun q hq => ?_, fun q hq => ?_, rfl, rfl, fun q hq => ?_, trivial⟩ (fun t mt => ?_) (fun v h' ρ' f hP => ?_)
  · have hq : q ∈ ([(1, ((-2147483648), 2147483647)), (3, (0, 600)), (4, (0, 600)), (5, (0, 600)), (6, (0, 600))] : List (Nat × (Int × Int))) := hq
    rcases List.mem_cons.mp hq with e | hq
    · rw [e]
      show (-2147483648) ≤ σ 1 ∧ σ 1 ≤ 2147483647
      rw [s1]
      exact g_iT _
    · have hq := hq
      rcases List.mem_cons.mp hq with e | hq
      · rw [e]
        show 0 ≤ σ 3 ∧ σ 3 ≤ 600
        rw [s3]
        exact b3
      · have hq := hq
        rcases List.mem_cons.mp hq with e | hq
        · rw [e]
          show 0 ≤ σ 4 ∧ σ 4 ≤ 600
          rw [s4]
          exact b4
        · have hq := hq
          rcases List.mem_cons.mp hq with e | hq
          · rw [e]
            show 0 ≤ σ 5 ∧ σ 5 ≤ 600
            rw [s5]
            exact b5
          · have hq := hq
            rw [List.mem_singleton.mp hq]
            show 0 ≤ σ 6 ∧ σ 6 ≤ 600
            rw [s6]
            exact b6
  · cases hq
  · have hq : q ∈ ([((0, (49, 2)), .inr (.inr (2, (51, true)))), ((2, (51, 0)), .inl ([(3, 1)], 0)), ((2, (51, 1)), .inl ([(4, 1)], 0)), ((2, (51, 2)), .inl ([(5, 1)], 0)), ((2, (51, 3)), .inl ([(6, 1)], 0))] : List ((Nat × (Nat × Nat)) × AT)) := hq
    rcases List.mem_cons.mp hq with e | hq
    · rw [e]
      show (α 0 ≠ 0 ∧ ρ (α 0) = 49) ∧ t_fv σ α ρ h (α 0) 2 (.inr (.inr (2, (51, true))))
      rw [a0]
      refine ⟨⟨th_na ht r0 (by decide), r0⟩, ?_⟩
      show h_r h (o0) 2 = α 2 ∧ t_rf ρ 51 true (α 2)
      rw [a2]
      exact ⟨rfl, Or.inr ⟨th_na ht r2 (by decide), by decide, r2⟩⟩
    · have hq := hq
      rcases List.mem_cons.mp hq with e | hq
      · rw [e]
        show (α 2 ≠ 0 ∧ ρ (α 2) = 51) ∧ t_fv σ α ρ h (α 2) 0 (.inl ([(3, 1)], 0))
        rw [a2]
        refine ⟨⟨th_na ht r2 (by decide), r2⟩, ?_⟩
        show (h_i h (h_r h (o0) 2) 0).toInt = (1 * σ 3 + 0) + 0
        omega
      · have hq := hq
        rcases List.mem_cons.mp hq with e | hq
        · rw [e]
          show (α 2 ≠ 0 ∧ ρ (α 2) = 51) ∧ t_fv σ α ρ h (α 2) 1 (.inl ([(4, 1)], 0))
          rw [a2]
          refine ⟨⟨th_na ht r2 (by decide), r2⟩, ?_⟩
          show (h_i h (h_r h (o0) 2) 1).toInt = (1 * σ 4 + 0) + 0
          omega
        · have hq := hq
          rcases List.mem_cons.mp hq with e | hq
          · rw [e]
            show (α 2 ≠ 0 ∧ ρ (α 2) = 51) ∧ t_fv σ α ρ h (α 2) 2 (.inl ([(5, 1)], 0))
            rw [a2]
            refine ⟨⟨th_na ht r2 (by decide), r2⟩, ?_⟩
            show (h_i h (h_r h (o0) 2) 2).toInt = (1 * σ 5 + 0) + 0
            omega
          · have hq := hq
            rw [List.mem_singleton.mp hq]
            show (α 2 ≠ 0 ∧ ρ (α 2) = 51) ∧ t_fv σ α ρ h (α 2) 3 (.inl ([(6, 1)], 0))
            rw [a2]
            refine ⟨⟨th_na ht r2 (by decide), r2⟩, ?_⟩
            show (h_i h (h_r h (o0) 2) 3).toInt = (1 * σ 6 + 0) + 0
            omega
  · have hq : q ∈ ([(0, .inr (.inr (0, (49, true)))), (1, .inl ([(1, 1)], 0))] : List (Nat × AT)) := hq
    rcases List.mem_cons.mp hq with e | hq
    · rw [e]
      refine ⟨.ref (α 0), by rw [a0]; exact l0, rfl, ?_⟩
      show t_rf ρ 49 true (α 0)
      rw [a0]
      exact Or.inr ⟨th_na ht r0 (by decide), by decide, r0⟩
    · have hq := hq
      rw [List.mem_singleton.mp hq]
      refine ⟨.int x1, l1, x1, rfl, ?_⟩
      show x1.toInt = (1 * σ 1 + 0) + 0
      omega
  · have mt : t ∈ ([7] : List Nat) := mt
    simp only [List.mem_cons, List.not_mem_nil, or_false] at mt
    rcases mt with rfl
    · exact t7
  · obtain ⟨P, mP, tP, kP⟩ := hP
    have mP : P = ((([], [([(1, 1)], 1)]), ([((2, (51, 0)), .inl ([(3, 1)], 0)), ((2, (51, 1)), .inl ([(4, 1)], 0)), ((2, (51, 2)), .inl ([(5, 1)], 0)), ((2, (51, 3)), .inl ([(6, 1)], 0))], ((k_pins 7, List.range 7), (7, ([], [.inl ([], (-1))]))))), []) ∨ P = ((([], [([(1, (-1)), (3, 1)], 1)]), ([((2, (51, 0)), .inl ([(3, 1)], 0)), ((2, (51, 1)), .inl ([(4, 1)], 0)), ((2, (51, 2)), .inl ([(5, 1)], 0)), ((2, (51, 3)), .inl ([(6, 1)], 0))], ((k_pins 7, List.range 7), (7, ([], [.inl ([], (-1))]))))), []) ∨ P = ((([], [([(1, (-1))], 0), ([(1, 1), (3, (-1))], 0)]), ([((2, (51, 0)), .inl ([(1, 1)], 0)), ((2, (51, 1)), .inl ([(4, 1)], 0)), ((2, (51, 2)), .inl ([(5, 1)], 0)), ((2, (51, 3)), .inl ([(6, 1)], 0))], ((k_pins 7, List.range 7), (7, ([], [.inl ([(1, 1)], 0)]))))), []) := by
      have mP : P ∈ ([((([], [([(1, 1)], 1)]), ([((2, (51, 0)), .inl ([(3, 1)], 0)), ((2, (51, 1)), .inl ([(4, 1)], 0)), ((2, (51, 2)), .inl ([(5, 1)], 0)), ((2, (51, 3)), .inl ([(6, 1)], 0))], ((k_pins 7, List.range 7), (7, ([], [.inl ([], (-1))]))))), []), ((([], [([(1, (-1)), (3, 1)], 1)]), ([((2, (51, 0)), .inl ([(3, 1)], 0)), ((2, (51, 1)), .inl ([(4, 1)], 0)), ((2, (51, 2)), .inl ([(5, 1)], 0)), ((2, (51, 3)), .inl ([(6, 1)], 0))], ((k_pins 7, List.range 7), (7, ([], [.inl ([], (-1))]))))), []), ((([], [([(1, (-1))], 0), ([(1, 1), (3, (-1))], 0)]), ([((2, (51, 0)), .inl ([(1, 1)], 0)), ((2, (51, 1)), .inl ([(4, 1)], 0)), ((2, (51, 2)), .inl ([(5, 1)], 0)), ((2, (51, 3)), .inl ([(6, 1)], 0))], ((k_pins 7, List.range 7), (7, ([], [.inl ([(1, 1)], 0)]))))), [])] : List (AST × List Nat)) := mP
      simpa only [List.mem_cons, List.not_mem_nil, or_false] using mP
    rcases mP with rfl | rfl | rfl
    · have tP := tP
      obtain ⟨t', σ', α', u1, u2, u3, u4, u5, -, u7⟩ := tP
      have s'1 : σ' 1 = x1.toInt := (con_s u4 1 (by decide)).trans s1
      have s'3 : σ' 3 = (h_i h (h_r h (o0) 2) 0).toInt := (con_s u4 3 (by decide)).trans s3
      have s'4 : σ' 4 = (h_i h (h_r h (o0) 2) 1).toInt := (con_s u4 4 (by decide)).trans s4
      have s'5 : σ' 5 = (h_i h (h_r h (o0) 2) 2).toInt := (con_s u4 5 (by decide)).trans s5
      have s'6 : σ' 6 = (h_i h (h_r h (o0) 2) 3).toInt := (con_s u4 6 (by decide)).trans s6
      have a'0 : α' 0 = o0 := (con_a u5 0 (by decide)).trans a0
      have a'2 : α' 2 = h_r h (o0) 2 := (con_a u5 2 (by decide)).trans a2
      cases v with
      | none => exact u7.elim
      | some v =>
        obtain ⟨⟨x, e1, e2⟩, -⟩ := u7
        subst e1
        have e2 : x.toInt = 0 + (-1) := e2
        have w0 : (1 * σ' 1 + 0) + 1 ≤ 0 := u2 _ (List.mem_of_getElem? (i := 0) rfl)
        have v0 : (h_i h' (α' 2) 0).toInt = (1 * σ' 3 + 0) + 0 := (u3 _ (List.mem_of_getElem? (i := 0) rfl)).2
        rw [a'2] at v0
        have v1 : (h_i h' (α' 2) 1).toInt = (1 * σ' 4 + 0) + 0 := (u3 _ (List.mem_of_getElem? (i := 1) rfl)).2
        rw [a'2] at v1
        have v2 : (h_i h' (α' 2) 2).toInt = (1 * σ' 5 + 0) + 0 := (u3 _ (List.mem_of_getElem? (i := 2) rfl)).2
        rw [a'2] at v2
        have v3 : (h_i h' (α' 2) 3).toInt = (1 * σ' 6 + 0) + 0 := (u3 _ (List.mem_of_getElem? (i := 3) rfl)).2
        rw [a'2] at v3
        exact g0 ρ' h' x f t' (by omega) (by omega) (by omega) (by omega) (by omega) (by omega)
    · have tP := tP
      obtain ⟨t', σ', α', u1, u2, u3, u4, u5, -, u7⟩ := tP
      have s'1 : σ' 1 = x1.toInt := (con_s u4 1 (by decide)).trans s1
      have s'3 : σ' 3 = (h_i h (h_r h (o0) 2) 0).toInt := (con_s u4 3 (by decide)).trans s3
      have s'4 : σ' 4 = (h_i h (h_r h (o0) 2) 1).toInt := (con_s u4 4 (by decide)).trans s4
      have s'5 : σ' 5 = (h_i h (h_r h (o0) 2) 2).toInt := (con_s u4 5 (by decide)).trans s5
      have s'6 : σ' 6 = (h_i h (h_r h (o0) 2) 3).toInt := (con_s u4 6 (by decide)).trans s6
      have a'0 : α' 0 = o0 := (con_a u5 0 (by decide)).trans a0
      have a'2 : α' 2 = h_r h (o0) 2 := (con_a u5 2 (by decide)).trans a2
      cases v with
      | none => exact u7.elim
      | some v =>
        obtain ⟨⟨x, e1, e2⟩, -⟩ := u7
        subst e1
        have e2 : x.toInt = 0 + (-1) := e2
        have w0 : ((-1) * σ' 1 + (1 * σ' 3 + 0)) + 1 ≤ 0 := u2 _ (List.mem_of_getElem? (i := 0) rfl)
        have v0 : (h_i h' (α' 2) 0).toInt = (1 * σ' 3 + 0) + 0 := (u3 _ (List.mem_of_getElem? (i := 0) rfl)).2
        rw [a'2] at v0
        have v1 : (h_i h' (α' 2) 1).toInt = (1 * σ' 4 + 0) + 0 := (u3 _ (List.mem_of_getElem? (i := 1) rfl)).2
        rw [a'2] at v1
        have v2 : (h_i h' (α' 2) 2).toInt = (1 * σ' 5 + 0) + 0 := (u3 _ (List.mem_of_getElem? (i := 2) rfl)).2
        rw [a'2] at v2
        have v3 : (h_i h' (α' 2) 3).toInt = (1 * σ' 6 + 0) + 0 := (u3 _ (List.mem_of_getElem? (i := 3) rfl)).2
        rw [a'2] at v3
        exact g1 ρ' h' x f t' (by omega) (by omega) (by omega) (by omega) (by omega) (by omega)
    · have tP := tP
      obtain ⟨t', σ', α', u1, u2, u3, u4, u5, -, u7⟩ := tP
      have s'1 : σ' 1 = x1.toInt := (con_s u4 1 (by decide)).trans s1
      have s'3 : σ' 3 = (h_i h (h_r h (o0) 2) 0).toInt := (con_s u4 3 (by decide)).trans s3
      have s'4 : σ' 4 = (h_i h (h_r h (o0) 2) 1).toInt := (con_s u4 4 (by decide)).trans s4
      have s'5 : σ' 5 = (h_i h (h_r h (o0) 2) 2).toInt := (con_s u4 5 (by decide)).trans s5
      have s'6 : σ' 6 = (h_i h (h_r h (o0) 2) 3).toInt := (con_s u4 6 (by decide)).trans s6
      have a'0 : α' 0 = o0 := (con_a u5 0 (by decide)).trans a0
      have a'2 : α' 2 = h_r h (o0) 2 := (con_a u5 2 (by decide)).trans a2
      cases v with
      | none => exact u7.elim
      | some v =>
        obtain ⟨⟨x, e1, e2⟩, -⟩ := u7
        subst e1
        have e2 : x.toInt = (1 * σ' 1 + 0) + 0 := e2
        have w0 : ((-1) * σ' 1 + 0) + 0 ≤ 0 := u2 _ (List.mem_of_getElem? (i := 0) rfl)
        have w1 : (1 * σ' 1 + ((-1) * σ' 3 + 0)) + 0 ≤ 0 := u2 _ (List.mem_of_getElem? (i := 1) rfl)
        have v0 : (h_i h' (α' 2) 0).toInt = (1 * σ' 1 + 0) + 0 := (u3 _ (List.mem_of_getElem? (i := 0) rfl)).2
        rw [a'2] at v0
        have v1 : (h_i h' (α' 2) 1).toInt = (1 * σ' 4 + 0) + 0 := (u3 _ (List.mem_of_getElem? (i := 1) rfl)).2
        rw [a'2] at v1
        have v2 : (h_i h' (α' 2) 2).toInt = (1 * σ' 5 + 0) + 0 := (u3 _ (List.mem_of_getElem? (i := 2) rfl)).2
        rw [a'2] at v2
        have v3 : (h_i h' (α' 2) 3).toInt = (1 * σ' 6 + 0) + 0 := (u3 _ (List.mem_of_getElem? (i := 3) rfl)).2
        rw [a'2] at v3
        exact g2 ρ' h' x f t' (by omega) (by omega) (by omega) (by omega) (by omega) (by omega) (by omega)
theorem c_k187 {ρ : Nat → Nat} {h : MH} {lv : List (Nat × Value)} {Q : Option Value → MH → Prop} {o0 : Nat} {x1 : Int32} (hC : CCok c_CC ρ) (ht : TH c_sp ρ h) (l0 : m_lk lv 0 = some (.ref o0)) (l1 : m_lk lv 1 = some (.int x1)) (r0 : ρ (o0) = 49) (r2 : ρ (h_r h (o0) 5) = 54) (r3 : ρ (h_r h (o0) 2) = 51) (r4 : ρ (h_r h (o0) 16) = 56) (b5 : 0 ≤ (h_i h (h_r h (o0) 2) 1).toInt ∧ (h_i h (h_r h (o0) 2) 1).toInt ≤ 600) (b6 : 0 ≤ (h_i h (h_r h (o0) 2) 2).toInt ∧ (h_i h (h_r h (o0) 2) 2).toInt ≤ 600) (b7 : 0 ≤ (h_i h (h_r h (o0) 2) 3).toInt ∧ (h_i h (h_r h (o0) 2) 3).toInt ≤ 600) (t7 : c_PT 7 ρ h) (g0 : ∀ (ρ' : Nat → Nat) (h' : MH) (y8 : Int) (x : Int32), FQ ρ ρ' c_m187.2.1 h h' → TH c_sp ρ' h' → x.toInt = y8 → (-2147483648) ≤ y8 ∧ y8 ≤ 2147483647 → (h_i h' (h_r h (o0) 2) 0).toInt = 0 → (h_i h' (h_r h (o0) 2) 1).toInt = (h_i h (h_r h (o0) 2) 1).toInt → (h_i h' (h_r h (o0) 2) 2).toInt = (h_i h (h_r h (o0) 2) 2).toInt → (h_i h' (h_r h (o0) 2) 3).toInt = (h_i h (h_r h (o0) 2) 3).toInt → c_PT 7 ρ' h' → Q (some (.int x)) h') : HJ 187 0 lv [] h Q := by
  obtain ⟨σ, hσ⟩ : ∃ σ : Nat → Int, σ = fun k => if k = 1 then x1.toInt else if k = 5 then (h_i h (h_r h (o0) 2) 1).toInt else if k = 6 then (h_i h (h_r h (o0) 2) 2).toInt else if k = 7 then (h_i h (h_r h (o0) 2) 3).toInt else 0 := ⟨_, rfl⟩
  obtain ⟨α, hα⟩ : ∃ α : Nat → Nat, α = fun k => if k = 0 then o0 else if k = 2 then h_r h (o0) 5 else if k = 3 then h_r h (o0) 2 else if k = 4 then h_r h (o0) 16 else 0 := ⟨_, rfl⟩
  have s1 : σ 1 = x1.toInt := by rw [hσ]; rfl
  have s5 : σ 5 = (h_i h (h_r h (o0) 2) 1).toInt := by rw [hσ]; rfl
  have s6 : σ 6 = (h_i h (h_r h (o0) 2) 2).toInt := by rw [hσ]; rfl
  have s7 : σ 7 = (h_i h (h_r h (o0) 2) 3).toInt := by rw [hσ]; rfl
  have a0 : α 0 = o0 := by rw [hα]; rfl
  have a2 : α 2 = h_r h (o0) 5 := by rw [hα]; rfl
  have a3 : α 3 = h_r h (o0) 2 := by rw [hα]; rfl
  have a4 : α 4 = h_r h (o0) 16 := by rw [hα]; rfl
  clear hσ hα
  refine HJ.ofV (K := (k_pins 8).map (le_ev σ)) (KA := (List.range 8).map α) c_v187 hC ⟨ht, σ, α, fun q hq => ?_, fun q hq => ?_, fun q hq => ?_, rfl, rfl, fun q hq => ?_, trivial⟩ (fun t mt => ?_) (fun v h' ρ' f hP => ?_)
  · have hq : q ∈ ([(1, ((-2147483648), 2147483647)), (5, (0, 600)), (6, (0, 600)), (7, (0, 600))] : List (Nat × (Int × Int))) := hq
    rcases List.mem_cons.mp hq with e | hq
    · rw [e]
      show (-2147483648) ≤ σ 1 ∧ σ 1 ≤ 2147483647
      rw [s1]
      exact g_iT _
    · have hq := hq
      rcases List.mem_cons.mp hq with e | hq
      · rw [e]
        show 0 ≤ σ 5 ∧ σ 5 ≤ 600
        rw [s5]
        exact b5
      · have hq := hq
        rcases List.mem_cons.mp hq with e | hq
        · rw [e]
          show 0 ≤ σ 6 ∧ σ 6 ≤ 600
          rw [s6]
          exact b6
        · have hq := hq
          rw [List.mem_singleton.mp hq]
          show 0 ≤ σ 7 ∧ σ 7 ≤ 600
          rw [s7]
          exact b7
  · cases hq
  · have hq : q ∈ ([((0, (49, 5)), .inr (.inr (2, (54, true)))), ((0, (49, 2)), .inr (.inr (3, (51, true)))), ((0, (49, 16)), .inr (.inr (4, (56, true)))), ((3, (51, 1)), .inl ([(5, 1)], 0)), ((3, (51, 2)), .inl ([(6, 1)], 0)), ((3, (51, 3)), .inl ([(7, 1)], 0))] : List ((Nat × (Nat × Nat)) × AT)) := hq
    rcases List.mem_cons.mp hq with e | hq
    · rw [e]
      show (α 0 ≠ 0 ∧ ρ (α 0) = 49) ∧ t_fv σ α ρ h (α 0) 5 (.inr (.inr (2, (54, true))))
      rw [a0]
      refine ⟨⟨th_na ht r0 (by decide), r0⟩, ?_⟩
      show h_r h (o0) 5 = α 2 ∧ t_rf ρ 54 true (α 2)
      rw [a2]
      exact ⟨rfl, Or.inr ⟨th_na ht r2 (by decide), by decide, r2⟩⟩
    · have hq := hq
      rcases List.mem_cons.mp hq with e | hq
      · rw [e]
        show (α 0 ≠ 0 ∧ ρ (α 0) = 49) ∧ t_fv σ α ρ h (α 0) 2 (.inr (.inr (3, (51, true))))
        rw [a0]
        refine ⟨⟨th_na ht r0 (by decide), r0⟩, ?_⟩
        show h_r h (o0) 2 = α 3 ∧ t_rf ρ 51 true (α 3)
        rw [a3]
        exact ⟨rfl, Or.inr ⟨th_na ht r3 (by decide), by decide, r3⟩⟩
      · have hq := hq
        rcases List.mem_cons.mp hq with e | hq
        · rw [e]
          show (α 0 ≠ 0 ∧ ρ (α 0) = 49) ∧ t_fv σ α ρ h (α 0) 16 (.inr (.inr (4, (56, true))))
          rw [a0]
          refine ⟨⟨th_na ht r0 (by decide), r0⟩, ?_⟩
          show h_r h (o0) 16 = α 4 ∧ t_rf ρ 56 true (α 4)
          rw [a4]
          exact ⟨rfl, Or.inr ⟨th_na ht r4 (by decide), by decide, r4⟩⟩
        · have hq := hq
          rcases List.mem_cons.mp hq with e | hq
          · rw [e]
            show (α 3 ≠ 0 ∧ ρ (α 3) = 51) ∧ t_fv σ α ρ h (α 3) 1 (.inl ([(5, 1)], 0))
            rw [a3]
            refine ⟨⟨th_na ht r3 (by decide), r3⟩, ?_⟩
            show (h_i h (h_r h (o0) 2) 1).toInt = (1 * σ 5 + 0) + 0
            omega
          · have hq := hq
            rcases List.mem_cons.mp hq with e | hq
            · rw [e]
              show (α 3 ≠ 0 ∧ ρ (α 3) = 51) ∧ t_fv σ α ρ h (α 3) 2 (.inl ([(6, 1)], 0))
              rw [a3]
              refine ⟨⟨th_na ht r3 (by decide), r3⟩, ?_⟩
              show (h_i h (h_r h (o0) 2) 2).toInt = (1 * σ 6 + 0) + 0
              omega
            · have hq := hq
              rw [List.mem_singleton.mp hq]
              show (α 3 ≠ 0 ∧ ρ (α 3) = 51) ∧ t_fv σ α ρ h (α 3) 3 (.inl ([(7, 1)], 0))
              rw [a3]
              refine ⟨⟨th_na ht r3 (by decide), r3⟩, ?_⟩
              show (h_i h (h_r h (o0) 2) 3).toInt = (1 * σ 7 + 0) + 0
              omega
  · have hq : q ∈ ([(0, .inr (.inr (0, (49, true)))), (1, .inl ([(1, 1)], 0))] : List (Nat × AT)) := hq
    rcases List.mem_cons.mp hq with e | hq
    · rw [e]
      refine ⟨.ref (α 0), by rw [a0]; exact l0, rfl, ?_⟩
      show t_rf ρ 49 true (α 0)
      rw [a0]
      exact Or.inr ⟨th_na ht r0 (by decide), by decide, r0⟩
    · have hq := hq
      rw [List.mem_singleton.mp hq]
      refine ⟨.int x1, l1, x1, rfl, ?_⟩
      show x1.toInt = (1 * σ 1 + 0) + 0
      omega
  · have mt : t ∈ ([7] : List Nat) := mt
    simp only [List.mem_cons, List.not_mem_nil, or_false] at mt
    rcases mt with rfl
    · exact t7
  · obtain ⟨P, mP, tP, kP⟩ := hP
    have mP : P = ((([(8, ((-2147483648), 2147483647))], []), ([((3, (51, 0)), .inl ([], 0)), ((3, (51, 1)), .inl ([(5, 1)], 0)), ((3, (51, 2)), .inl ([(6, 1)], 0)), ((3, (51, 3)), .inl ([(7, 1)], 0))], ((k_pins 8, List.range 8), (9, ([], [.inl ([(8, 1)], 0)]))))), [7]) := by
      have mP : P ∈ ([((([(8, ((-2147483648), 2147483647))], []), ([((3, (51, 0)), .inl ([], 0)), ((3, (51, 1)), .inl ([(5, 1)], 0)), ((3, (51, 2)), .inl ([(6, 1)], 0)), ((3, (51, 3)), .inl ([(7, 1)], 0))], ((k_pins 8, List.range 8), (9, ([], [.inl ([(8, 1)], 0)]))))), [7])] : List (AST × List Nat)) := mP
      exact List.mem_singleton.mp mP
    subst mP
    obtain ⟨t', σ', α', u1, u2, u3, u4, u5, -, u7⟩ := tP
    have s'1 : σ' 1 = x1.toInt := (con_s u4 1 (by decide)).trans s1
    have s'5 : σ' 5 = (h_i h (h_r h (o0) 2) 1).toInt := (con_s u4 5 (by decide)).trans s5
    have s'6 : σ' 6 = (h_i h (h_r h (o0) 2) 2).toInt := (con_s u4 6 (by decide)).trans s6
    have s'7 : σ' 7 = (h_i h (h_r h (o0) 2) 3).toInt := (con_s u4 7 (by decide)).trans s7
    have a'0 : α' 0 = o0 := (con_a u5 0 (by decide)).trans a0
    have a'2 : α' 2 = h_r h (o0) 5 := (con_a u5 2 (by decide)).trans a2
    have a'3 : α' 3 = h_r h (o0) 2 := (con_a u5 3 (by decide)).trans a3
    have a'4 : α' 4 = h_r h (o0) 16 := (con_a u5 4 (by decide)).trans a4
    cases v with
    | none => exact u7.elim
    | some v =>
      obtain ⟨⟨x, e1, e2⟩, -⟩ := u7
      subst e1
      have e2 : x.toInt = (1 * σ' 8 + 0) + 0 := e2
      have v0 : (h_i h' (α' 3) 0).toInt = 0 + 0 := (u3 _ (List.mem_of_getElem? (i := 0) rfl)).2
      rw [a'3] at v0
      have v1 : (h_i h' (α' 3) 1).toInt = (1 * σ' 5 + 0) + 0 := (u3 _ (List.mem_of_getElem? (i := 1) rfl)).2
      rw [a'3] at v1
      have v2 : (h_i h' (α' 3) 2).toInt = (1 * σ' 6 + 0) + 0 := (u3 _ (List.mem_of_getElem? (i := 2) rfl)).2
      rw [a'3] at v2
      have v3 : (h_i h' (α' 3) 3).toInt = (1 * σ' 7 + 0) + 0 := (u3 _ (List.mem_of_getElem? (i := 3) rfl)).2
      rw [a'3] at v3
      exact g0 ρ' h' (σ' 8) x f t' (by omega) (u1 _ (List.mem_of_getElem? (i := 0) rfl)) (by omega) (by omega) (by omega) (by omega) (kP 7 (by decide))
theorem c_k95 {ρ : Nat → Nat} {h : MH} {lv : List (Nat × Value)} {Q : Option Value → MH → Prop} {o0 : Nat} {o1 : Nat} (hC : CCok c_CC ρ) (ht : TH c_sp ρ h) (l0 : m_lk lv 0 = some (.ref o0)) (l1 : m_lk lv 1 = some (.ref o1)) (r0 : ρ (o0) = 7) (r1 : ρ (o1) = 97) (b2 : 0 ≤ (h_i h (o1) 2).toInt ∧ (h_i h (o1) 2).toInt ≤ 600) (g0 : ∀ (ρ' : Nat → Nat) (h' : MH), FQ ρ ρ' c_m95.2.1 h h' → TH c_sp ρ' h' → (h_i h' (o0) 2).toInt = (h_i h (o1) 2).toInt → (h_i h' (o1) 2).toInt = (h_i h (o1) 2).toInt → Q none h') : HJ 95 0 lv [] h Q := by
  obtain ⟨σ, hσ⟩ : ∃ σ : Nat → Int, σ = fun k => if k = 2 then (h_i h (o1) 2).toInt else 0 := ⟨_, rfl⟩
  obtain ⟨α, hα⟩ : ∃ α : Nat → Nat, α = fun k => if k = 0 then o0 else if k = 1 then o1 else 0 := ⟨_, rfl⟩
  have s2 : σ 2 = (h_i h (o1) 2).toInt := by rw [hσ]; rfl
  have a0 : α 0 = o0 := by rw [hα]; rfl
  have a1 : α 1 = o1 := by rw [hα]; rfl
  clear hσ hα
  refine HJ.ofV (K := (k_pins 3).map (le_ev σ)) (KA := (List.range 3).map α) c_v95 hC ⟨ht, σ, α, fun q hq => ?_, fun q hq => ?_, fun q hq => ?_, rfl, rfl, fun q hq => ?_, trivial⟩ (fun t mt => ?_) (fun v h' ρ' f hP => ?_)
  · have hq : q ∈ ([(2, (0, 600))] : List (Nat × (Int × Int))) := hq
    rw [List.mem_singleton.mp hq]
    show 0 ≤ σ 2 ∧ σ 2 ≤ 600
    rw [s2]
    exact b2
  · cases hq
  · have hq : q ∈ ([((1, (97, 2)), .inl ([(2, 1)], 0))] : List ((Nat × (Nat × Nat)) × AT)) := hq
    rw [List.mem_singleton.mp hq]
    show (α 1 ≠ 0 ∧ ρ (α 1) = 97) ∧ t_fv σ α ρ h (α 1) 2 (.inl ([(2, 1)], 0))
    rw [a1]
    refine ⟨⟨th_na ht r1 (by decide), r1⟩, ?_⟩
    show (h_i h (o1) 2).toInt = (1 * σ 2 + 0) + 0
    omega
  · have hq : q ∈ ([(0, .inr (.inr (0, (7, true)))), (1, .inr (.inr (1, (97, true))))] : List (Nat × AT)) := hq
    rcases List.mem_cons.mp hq with e | hq
    · rw [e]
      refine ⟨.ref (α 0), by rw [a0]; exact l0, rfl, ?_⟩
      show t_rf ρ 7 true (α 0)
      rw [a0]
      exact Or.inr ⟨th_na ht r0 (by decide), by decide, r0⟩
    · have hq := hq
      rw [List.mem_singleton.mp hq]
      refine ⟨.ref (α 1), by rw [a1]; exact l1, rfl, ?_⟩
      show t_rf ρ 97 true (α 1)
      rw [a1]
      exact Or.inr ⟨th_na ht r1 (by decide), by decide, r1⟩
  · cases mt
  · obtain ⟨P, mP, tP, kP⟩ := hP
    have mP : P = ((([], []), ([((0, (7, 2)), .inl ([(2, 1)], 0)), ((1, (97, 2)), .inl ([(2, 1)], 0))], ((k_pins 3, List.range 3), (3, ([], []))))), []) := by
      have mP : P ∈ ([((([], []), ([((0, (7, 2)), .inl ([(2, 1)], 0)), ((1, (97, 2)), .inl ([(2, 1)], 0))], ((k_pins 3, List.range 3), (3, ([], []))))), [])] : List (AST × List Nat)) := mP
      exact List.mem_singleton.mp mP
    subst mP
    obtain ⟨t', σ', α', u1, u2, u3, u4, u5, -, u7⟩ := tP
    have s'2 : σ' 2 = (h_i h (o1) 2).toInt := (con_s u4 2 (by decide)).trans s2
    have a'0 : α' 0 = o0 := (con_a u5 0 (by decide)).trans a0
    have a'1 : α' 1 = o1 := (con_a u5 1 (by decide)).trans a1
    cases v with
    | some v => exact u7.elim
    | none =>
      have v0 : (h_i h' (α' 0) 2).toInt = (1 * σ' 2 + 0) + 0 := (u3 _ (List.mem_of_getElem? (i := 0) rfl)).2
      rw [a'0] at v0
      have v1 : (h_i h' (α' 1) 2).toInt = (1 * σ' 2 + 0) + 0 := (u3 _ (List.mem_of_getElem? (i := 1) rfl)).2
      rw [a'1] at v1
      exact g0 ρ' h'  f t' (by omega) (by omega)
theorem c_k1095 {ρ : Nat → Nat} {h : MH} {lv : List (Nat × Value)} {Q : Option Value → MH → Prop} {o0 : Nat} {o1 : Nat} (hC : CCok c_CC ρ) (ht : TH c_sp ρ h) (l0 : m_lk lv 0 = some (.ref o0)) (l1 : m_lk lv 1 = some (.ref o1)) (r0 : ρ (o0) = 97) (r1 : ρ (o1) = 7) (b2 : 0 ≤ (h_i h (o1) 2).toInt ∧ (h_i h (o1) 2).toInt ≤ 600) (g0 : ∀ (ρ' : Nat → Nat) (h' : MH), FQ ρ ρ' c_m1095.2.1 h h' → TH c_sp ρ' h' → (h_i h' (o0) 2).toInt = (h_i h (o1) 2).toInt → (h_i h' (o1) 2).toInt = (h_i h (o1) 2).toInt → Q none h') : HJ 95 0 lv [] h Q := by
  obtain ⟨σ, hσ⟩ : ∃ σ : Nat → Int, σ = fun k => if k = 2 then (h_i h (o1) 2).toInt else 0 := ⟨_, rfl⟩
  obtain ⟨α, hα⟩ : ∃ α : Nat → Nat, α = fun k => if k = 0 then o0 else if k = 1 then o1 else 0 := ⟨_, rfl⟩
  have s2 : σ 2 = (h_i h (o1) 2).toInt := by rw [hσ]; rfl
  have a0 : α 0 = o0 := by rw [hα]; rfl
  have a1 : α 1 = o1 := by rw [hα]; rfl
  clear hσ hα
  refine HJ.ofV (K := (k_pins 3).map (le_ev σ)) (KA := (List.range 3).map α) c_v1095 hC ⟨ht, σ, α, fun q hq => ?_, fun q hq => ?_, fun q hq => ?_, rfl, rfl, fun q hq => ?_, trivial⟩ (fun t mt => ?_) (fun v h' ρ' f hP => ?_)
  · have hq : q ∈ ([(2, (0, 600))] : List (Nat × (Int × Int))) := hq
    rw [List.mem_singleton.mp hq]
    show 0 ≤ σ 2 ∧ σ 2 ≤ 600
    rw [s2]
    exact b2
  · cases hq
  · have hq : q ∈ ([((1, (7, 2)), .inl ([(2, 1)], 0))] : List ((Nat × (Nat × Nat)) × AT)) := hq
    rw [List.mem_singleton.mp hq]
    show (α 1 ≠ 0 ∧ ρ (α 1) = 7) ∧ t_fv σ α ρ h (α 1) 2 (.inl ([(2, 1)], 0))
    rw [a1]
    refine ⟨⟨th_na ht r1 (by decide), r1⟩, ?_⟩
    show (h_i h (o1) 2).toInt = (1 * σ 2 + 0) + 0
    omega
  · have hq : q ∈ ([(0, .inr (.inr (0, (97, true)))), (1, .inr (.inr (1, (7, true))))] : List (Nat × AT)) := hq
    rcases List.mem_cons.mp hq with e | hq
    · rw [e]
      refine ⟨.ref (α 0), by rw [a0]; exact l0, rfl, ?_⟩
      show t_rf ρ 97 true (α 0)
      rw [a0]
      exact Or.inr ⟨th_na ht r0 (by decide), by decide, r0⟩
    · have hq := hq
      rw [List.mem_singleton.mp hq]
      refine ⟨.ref (α 1), by rw [a1]; exact l1, rfl, ?_⟩
      show t_rf ρ 7 true (α 1)
      rw [a1]
      exact Or.inr ⟨th_na ht r1 (by decide), by decide, r1⟩
  · cases mt
  · obtain ⟨P, mP, tP, kP⟩ := hP
    have mP : P = ((([], []), ([((0, (97, 2)), .inl ([(2, 1)], 0)), ((1, (7, 2)), .inl ([(2, 1)], 0))], ((k_pins 3, List.range 3), (3, ([], []))))), []) := by
      have mP : P ∈ ([((([], []), ([((0, (97, 2)), .inl ([(2, 1)], 0)), ((1, (7, 2)), .inl ([(2, 1)], 0))], ((k_pins 3, List.range 3), (3, ([], []))))), [])] : List (AST × List Nat)) := mP
      exact List.mem_singleton.mp mP
    subst mP
    obtain ⟨t', σ', α', u1, u2, u3, u4, u5, -, u7⟩ := tP
    have s'2 : σ' 2 = (h_i h (o1) 2).toInt := (con_s u4 2 (by decide)).trans s2
    have a'0 : α' 0 = o0 := (con_a u5 0 (by decide)).trans a0
    have a'1 : α' 1 = o1 := (con_a u5 1 (by decide)).trans a1
    cases v with
    | some v => exact u7.elim
    | none =>
      have v0 : (h_i h' (α' 0) 2).toInt = (1 * σ' 2 + 0) + 0 := (u3 _ (List.mem_of_getElem? (i := 0) rfl)).2
      rw [a'0] at v0
      have v1 : (h_i h' (α' 1) 2).toInt = (1 * σ' 2 + 0) + 0 := (u3 _ (List.mem_of_getElem? (i := 1) rfl)).2
      rw [a'1] at v1
      exact g0 ρ' h'  f t' (by omega) (by omega)
