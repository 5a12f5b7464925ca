section
-- SUMMARIES AS CONTRACTS IN WHOLE NUMBERS: printed by wip/ck/con.py
theorem con_s {np : Nat} {σ σ' : Nat → Int} (e : (k_pins np).map (le_ev σ') = (k_pins np).map (le_ev σ)) (n : Nat) (hn : n < np) : σ' n = σ n := by
  have := List.map_inj_left.mp (show (List.range np).map (fun k => le_ev σ' (le_s k)) = (List.range np).map (fun k => le_ev σ (le_s k)) by
    unfold k_pins at e
    rw [List.map_map, List.map_map] at e
    exact e) n (List.mem_range.mpr hn)
  rw [le_sE, le_sE] at this
  exact this
theorem con_a {np : Nat} {α α' : Nat → Nat} (e : (List.range np).map α' = (List.range np).map α) (n : Nat) (hn : n < np) : α' n = α n := List.map_inj_left.mp e n (List.mem_range.mpr hn)
theorem th_na {ρ : Nat → Nat} {h : MH} {y R : Nat} (ht : TH c_sp ρ h) (e : ρ y = R) (hR : R ≠ 0) : y ≠ 0 := fun z => by
  rw [z, ht.1] at e
  exact hR e.symm
theorem c_k40 {ρ : Nat → Nat} {h : MH} {lv : List (Nat × Value)} {Q : Option Value → MH → Prop} {o0 : Nat} {o1 : Nat} (hC : CCok c_CC ρ) (ht : TH c_sp ρ h) (l0 : m_lk lv 0 = some (.ref o0)) (l1 : m_lk lv 1 = some (.ref o1)) (r0 : ρ (o0) = 12) (r1 : ρ (o1) = 103) (g0 : ∀ (ρ' : Nat → Nat) (h' : MH), FQ ρ ρ' c_m40.2.1 h h' → TH c_sp ρ' h' → Q none h') : HJ 40 0 lv [] h Q := by
  obtain ⟨σ, hσ⟩ : ∃ σ : Nat → Int, σ = fun k => 0 := ⟨_, rfl⟩
  obtain ⟨α, hα⟩ : ∃ α : Nat → Nat, α = fun k => if k = 0 then o0 else if k = 1 then o1 else 0 := ⟨_, rfl⟩
  have a0 : α 0 = o0 := by rw [hα]; rfl
  have a1 : α 1 = o1 := by rw [hα]; rfl
  clear hσ hα
  refine HJ.ofV (K := (k_pins 2).map (le_ev σ)) (KA := (List.range 2).map α) c_v40 hC ⟨ht, σ, α, fun q hq => ?_, fun q hq => ?_, fun q hq => ?_, rfl, rfl, fun q hq => ?_, trivial⟩ (fun t mt => ?_) (fun v h' ρ' f hP => ?_)
  · cases hq
  · cases hq
  · cases hq
  · have hq : q ∈ ([(0, .inr (.inr (0, (12, true)))), (1, .inr (.inr (1, (103, true))))] : List (Nat × AT)) := hq
    rcases List.mem_cons.mp hq with e | hq
    · rw [e]
      refine ⟨.ref (α 0), by rw [a0]; exact l0, rfl, ?_⟩
      show t_rf ρ 12 true (α 0)
      rw [a0]
      exact Or.inr ⟨th_na ht r0 (by decide), by decide, r0⟩
    · have hq := hq
      rw [List.mem_singleton.mp hq]
      refine ⟨.ref (α 1), by rw [a1]; exact l1, rfl, ?_⟩
      show t_rf ρ 103 true (α 1)
      rw [a1]
      exact Or.inr ⟨th_na ht r1 (by decide), by decide, r1⟩
  · cases mt
  · obtain ⟨P, mP, tP, kP⟩ := hP
    have mP : P = ((([], []), ([], ((k_pins 2, List.range 2), (2, ([], []))))), []) := by
      have mP : P ∈ ([((([], []), ([], ((k_pins 2, List.range 2), (2, ([], []))))), [])] : List (AST × List Nat)) := mP
      exact List.mem_singleton.mp mP
    subst mP
    obtain ⟨t', σ', α', u1, u2, u3, u4, u5, -, u7⟩ := tP
    have a'0 : α' 0 = o0 := (con_a u5 0 (by decide)).trans a0
    have a'1 : α' 1 = o1 := (con_a u5 1 (by decide)).trans a1
    cases v with
    | some v => exact u7.elim
    | none =>
      exact g0 ρ' h'  f t'
theorem c_k41 {ρ : Nat → Nat} {h : MH} {lv : List (Nat × Value)} {Q : Option Value → MH → Prop} {o0 : Nat} {x1 : Int32} (hC : CCok c_CC ρ) (ht : TH c_sp ρ h) (l0 : m_lk lv 0 = some (.ref o0)) (l1 : m_lk lv 1 = some (.int x1)) (r0 : ρ (o0) = 6) (b1 : 0 ≤ x1.toInt ∧ x1.toInt ≤ 3) (t1 : c_PT 1 ρ h) (t2 : c_PT 2 ρ h) (g0 : ∀ (ρ' : Nat → Nat) (h' : MH) (p2 : Nat), FQ ρ ρ' c_m41.2.1 h h' → TH c_sp ρ' h' → t_rf ρ' 29 true p2 → c_PT 1 ρ' h' → c_PT 2 ρ' h' → Q (some (.ref p2)) h') : HJ 41 0 lv [] h Q := by
  obtain ⟨σ, hσ⟩ : ∃ σ : Nat → Int, σ = fun k => if k = 1 then x1.toInt else 0 := ⟨_, rfl⟩
  obtain ⟨α, hα⟩ : ∃ α : Nat → Nat, α = fun k => if k = 0 then o0 else 0 := ⟨_, rfl⟩
  have s1 : σ 1 = x1.toInt := by rw [hσ]; rfl
  have a0 : α 0 = o0 := by rw [hα]; rfl
  clear hσ hα
  refine HJ.ofV (K := (k_pins 2).map (le_ev σ)) (KA := (List.range 2).map α) c_v41 hC ⟨ht, σ, α, fun q hq => ?_, fun q hq => ?_, fun q hq => ?_, rfl, rfl, fun q hq => ?_, trivial⟩ (fun t mt => ?_) (fun v h' ρ' f hP => ?_)
  · have hq : q ∈ ([(1, (0, 3))] : List (Nat × (Int × Int))) := hq
    rw [List.mem_singleton.mp hq]
    show 0 ≤ σ 1 ∧ σ 1 ≤ 3
    rw [s1]
    exact b1
  · cases hq
  · cases hq
  · have hq : q ∈ ([(0, .inr (.inr (0, (6, true)))), (1, .inl ([(1, 1)], 0))] : List (Nat × AT)) := hq
    rcases List.mem_cons.mp hq with e | hq
    · rw [e]
      refine ⟨.ref (α 0), by rw [a0]; exact l0, rfl, ?_⟩
      show t_rf ρ 6 true (α 0)
      rw [a0]
      exact Or.inr ⟨th_na ht r0 (by decide), by decide, r0⟩
    · have hq := hq
      rw [List.mem_singleton.mp hq]
      refine ⟨.int x1, l1, x1, rfl, ?_⟩
      show x1.toInt = (1 * σ 1 + 0) + 0
      omega
  · have mt : t ∈ ([1, 2] : List Nat) := mt
    simp only [List.mem_cons, List.not_mem_nil, or_false] at mt
    rcases mt with rfl | rfl
    · exact t1
    · exact t2
  · obtain ⟨P, mP, tP, kP⟩ := hP
    have mP : P = ((([], []), ([], ((k_pins 2, List.range 2), (3, ([], [.inr (.inr (2, (29, true)))]))))), [1, 2]) := by
      have mP : P ∈ ([((([], []), ([], ((k_pins 2, List.range 2), (3, ([], [.inr (.inr (2, (29, true)))]))))), [1, 2])] : List (AST × List Nat)) := mP
      exact List.mem_singleton.mp mP
    subst mP
    obtain ⟨t', σ', α', u1, u2, u3, u4, u5, -, u7⟩ := tP
    have s'1 : σ' 1 = x1.toInt := (con_s u4 1 (by decide)).trans s1
    have a'0 : α' 0 = o0 := (con_a u5 0 (by decide)).trans a0
    cases v with
    | none => exact u7.elim
    | some v =>
      obtain ⟨⟨e1, e2⟩, -⟩ := u7
      have e1 : v = .ref (α' 2) := e1
      subst e1
      exact g0 ρ' h' (α' 2) f t' e2 (kP 1 (by decide)) (kP 2 (by decide))
theorem c_k3045 {ρ : Nat → Nat} {h : MH} {lv : List (Nat × Value)} {Q : Option Value → MH → Prop} {o0 : Nat} {o1 : Nat} (hC : CCok c_CC ρ) (ht : TH c_sp ρ h) (l0 : m_lk lv 0 = some (.ref o0)) (l1 : m_lk lv 1 = some (.ref o1)) (r0 : ρ (o0) = 29) (r1 : ρ (o1) = 103) (t1 : c_PT 1 ρ h) (t2 : c_PT 2 ρ h) (g0 : ∀ (ρ' : Nat → Nat) (h' : MH), FQ ρ ρ' c_m3045.2.1 h h' → TH c_sp ρ' h' → c_PT 1 ρ' h' → c_PT 2 ρ' h' → Q none h') : HJ 45 0 lv [] h Q := by
  obtain ⟨σ, hσ⟩ : ∃ σ : Nat → Int, σ = fun k => 0 := ⟨_, rfl⟩
  obtain ⟨α, hα⟩ : ∃ α : Nat → Nat, α = fun k => if k = 0 then o0 else if k = 1 then o1 else 0 := ⟨_, rfl⟩
  have a0 : α 0 = o0 := by rw [hα]; rfl
  have a1 : α 1 = o1 := by rw [hα]; rfl
  clear hσ hα
  refine HJ.ofV (K := (k_pins 2).map (le_ev σ)) (KA := (List.range 2).map α) c_v3045 hC ⟨ht, σ, α, fun q hq => ?_, fun q hq => ?_, fun q hq => ?_, rfl, rfl, fun q hq => ?_, trivial⟩ (fun t mt => ?_) (fun v h' ρ' f hP => ?_)
  · cases hq
  · cases hq
  · cases hq
  · have hq : q ∈ ([(0, .inr (.inr (0, (29, true)))), (1, .inr (.inr (1, (103, true))))] : List (Nat × AT)) := hq
    rcases List.mem_cons.mp hq with e | hq
    · rw [e]
      refine ⟨.ref (α 0), by rw [a0]; exact l0, rfl, ?_⟩
      show t_rf ρ 29 true (α 0)
      rw [a0]
      exact Or.inr ⟨th_na ht r0 (by decide), by decide, r0⟩
    · have hq := hq
      rw [List.mem_singleton.mp hq]
      refine ⟨.ref (α 1), by rw [a1]; exact l1, rfl, ?_⟩
      show t_rf ρ 103 true (α 1)
      rw [a1]
      exact Or.inr ⟨th_na ht r1 (by decide), by decide, r1⟩
  · have mt : t ∈ ([1, 2] : List Nat) := mt
    simp only [List.mem_cons, List.not_mem_nil, or_false] at mt
    rcases mt with rfl | rfl
    · exact t1
    · exact t2
  · obtain ⟨P, mP, tP, kP⟩ := hP
    have mP : P = ((([], []), ([], ((k_pins 2, List.range 2), (2, ([], []))))), [1, 2]) := by
      have mP : P ∈ ([((([], []), ([], ((k_pins 2, List.range 2), (2, ([], []))))), [1, 2])] : List (AST × List Nat)) := mP
      exact List.mem_singleton.mp mP
    subst mP
    obtain ⟨t', σ', α', u1, u2, u3, u4, u5, -, u7⟩ := tP
    have a'0 : α' 0 = o0 := (con_a u5 0 (by decide)).trans a0
    have a'1 : α' 1 = o1 := (con_a u5 1 (by decide)).trans a1
    cases v with
    | some v => exact u7.elim
    | none =>
      exact g0 ρ' h'  f t' (kP 1 (by decide)) (kP 2 (by decide))
theorem c_k45 {ρ : Nat → Nat} {h : MH} {lv : List (Nat × Value)} {Q : Option Value → MH → Prop} {o0 : Nat} {o1 : Nat} (hC : CCok c_CC ρ) (ht : TH c_sp ρ h) (l0 : m_lk lv 0 = some (.ref o0)) (l1 : m_lk lv 1 = some (.ref o1)) (r0 : ρ (o0) = 29) (r1 : ρ (o1) = 12) (t1 : c_PT 1 ρ h) (t2 : c_PT 2 ρ h) (g0 : ∀ (ρ' : Nat → Nat) (h' : MH), FQ ρ ρ' c_m45.2.1 h h' → TH c_sp ρ' h' → c_PT 1 ρ' h' → c_PT 2 ρ' h' → Q none h') : HJ 45 0 lv [] h Q := by
  obtain ⟨σ, hσ⟩ : ∃ σ : Nat → Int, σ = fun k => 0 := ⟨_, rfl⟩
  obtain ⟨α, hα⟩ : ∃ α : Nat → Nat, α = fun k => if k = 0 then o0 else if k = 1 then o1 else 0 := ⟨_, rfl⟩
  have a0 : α 0 = o0 := by rw [hα]; rfl
  have a1 : α 1 = o1 := by rw [hα]; rfl
  clear hσ hα
  refine HJ.ofV (K := (k_pins 2).map (le_ev σ)) (KA := (List.range 2).map α) c_v45 hC ⟨ht, σ, α, fun q hq => ?_, fun q hq => ?_, fun q hq => ?_, rfl, rfl, fun q hq => ?_, trivial⟩ (fun t mt => ?_) (fun v h' ρ' f hP => ?_)
  · cases hq
  · cases hq
  · cases hq
  · have hq : q ∈ ([(0, .inr (.inr (0, (29, true)))), (1, .inr (.inr (1, (12, true))))] : List (Nat × AT)) := hq
    rcases List.mem_cons.mp hq with e | hq
    · rw [e]
      refine ⟨.ref (α 0), by rw [a0]; exact l0, rfl, ?_⟩
      show t_rf ρ 29 true (α 0)
      rw [a0]
      exact Or.inr ⟨th_na ht r0 (by decide), by decide, r0⟩
    · have hq := hq
      rw [List.mem_singleton.mp hq]
      refine ⟨.ref (α 1), by rw [a1]; exact l1, rfl, ?_⟩
      show t_rf ρ 12 true (α 1)
      rw [a1]
      exact Or.inr ⟨th_na ht r1 (by decide), by decide, r1⟩
  · have mt : t ∈ ([1, 2] : List Nat) := mt
    simp only [List.mem_cons, List.not_mem_nil, or_false] at mt
    rcases mt with rfl | rfl
    · exact t1
    · exact t2
  · obtain ⟨P, mP, tP, kP⟩ := hP
    have mP : P = ((([], []), ([], ((k_pins 2, List.range 2), (2, ([], []))))), [1, 2]) := by
      have mP : P ∈ ([((([], []), ([], ((k_pins 2, List.range 2), (2, ([], []))))), [1, 2])] : List (AST × List Nat)) := mP
      exact List.mem_singleton.mp mP
    subst mP
    obtain ⟨t', σ', α', u1, u2, u3, u4, u5, -, u7⟩ := tP
    have a'0 : α' 0 = o0 := (con_a u5 0 (by decide)).trans a0
    have a'1 : α' 1 = o1 := (con_a u5 1 (by decide)).trans a1
    cases v with
    | some v => exact u7.elim
    | none =>
      exact g0 ρ' h'  f t' (kP 1 (by decide)) (kP 2 (by decide))
theorem c_k95 {ρ : Nat → Nat} {h : MH} {lv : List (Nat × Value)} {Q : Option Value → MH → Prop} {o0 : Nat} {o1 : Nat} (hC : CCok c_CC ρ) (ht : TH c_sp ρ h) (l0 : m_lk lv 0 = some (.ref o0)) (l1 : m_lk lv 1 = some (.ref o1)) (r0 : ρ (o0) = 7) (r1 : ρ (o1) = 97) (b2 : 0 ≤ (h_i h (o1) 2).toInt ∧ (h_i h (o1) 2).toInt ≤ 600) (g0 : ∀ (ρ' : Nat → Nat) (h' : MH), FQ ρ ρ' c_m95.2.1 h h' → TH c_sp ρ' h' → (h_i h' (o0) 2).toInt = (h_i h (o1) 2).toInt → (h_i h' (o1) 2).toInt = (h_i h (o1) 2).toInt → Q none h') : HJ 95 0 lv [] h Q := by
  obtain ⟨σ, hσ⟩ : ∃ σ : Nat → Int, σ = fun k => if k = 2 then (h_i h (o1) 2).toInt else 0 := ⟨_, rfl⟩
  obtain ⟨α, hα⟩ : ∃ α : Nat → Nat, α = fun k => if k = 0 then o0 else if k = 1 then o1 else 0 := ⟨_, rfl⟩
  have s2 : σ 2 = (h_i h (o1) 2).toInt := by rw [hσ]; rfl
  have a0 : α 0 = o0 := by rw [hα]; rfl
  have a1 : α 1 = o1 := by rw [hα]; rfl
  clear hσ hα
  refine HJ.ofV (K := (k_pins 3).map (le_ev σ)) (KA := (List.range 3).map α) c_v95 hC ⟨ht, σ, α, fun q hq => ?_, fun q hq => ?_, fun q hq => ?_, rfl, rfl, fun q hq => ?_, trivial⟩ (fun t mt => ?_) (fun v h' ρ' f hP => ?_)
  · have hq : q ∈ ([(2, (0, 600))] : List (Nat × (Int × Int))) := hq
    rw [List.mem_singleton.mp hq]
    show 0 ≤ σ 2 ∧ σ 2 ≤ 600
    rw [s2]
    exact b2
  · cases hq
  · have hq : q ∈ ([((1, (97, 2)), .inl ([(2, 1)], 0))] : List ((Nat × (Nat × Nat)) × AT)) := hq
    rw [List.mem_singleton.mp hq]
    show (α 1 ≠ 0 ∧ ρ (α 1) = 97) ∧ t_fv σ α ρ h (α 1) 2 (.inl ([(2, 1)], 0))
    rw [a1]
    refine ⟨⟨th_na ht r1 (by decide), r1⟩, ?_⟩
    show (h_i h (o1) 2).toInt = (1 * σ 2 + 0) + 0
    omega
  · have hq : q ∈ ([(0, .inr (.inr (0, (7, true)))), (1, .inr (.inr (1, (97, true))))] : List (Nat × AT)) := hq
    rcases List.mem_cons.mp hq with e | hq
    · rw [e]
      refine ⟨.ref (α 0), by rw [a0]; exact l0, rfl, ?_⟩
      show t_rf ρ 7 true (α 0)
      rw [a0]
      exact Or.inr ⟨th_na ht r0 (by decide), by decide, r0⟩
    · have hq := hq
      rw [List.mem_singleton.mp hq]
      refine ⟨.ref (α 1), by rw [a1]; exact l1, rfl, ?_⟩
      show t_rf ρ 97 true (α 1)
      rw [a1]
      exact Or.inr ⟨th_na ht r1 (by decide), by decide, r1⟩
  · cases mt
  · obtain ⟨P, mP, tP, kP⟩ := hP
    have mP : P = ((([], []), ([((0, (7, 2)), .inl ([(2, 1)], 0)), ((1, (97, 2)), .inl ([(2, 1)], 0))], ((k_pins 3, List.range 3), (3, ([], []))))), []) := by
      have mP : P ∈ ([((([], []), ([((0, (7, 2)), .inl ([(2, 1)], 0)), ((1, (97, 2)), .inl ([(2, 1)], 0))], ((k_pins 3, List.range 3), (3, ([], []))))), [])] : List (AST × List Nat)) := mP
      exact List.mem_singleton.mp mP
    subst mP
    obtain ⟨t', σ', α', u1, u2, u3, u4, u5, -, u7⟩ := tP
    have s'2 : σ' 2 = (h_i h (o1) 2).toInt := (con_s u4 2 (by decide)).trans s2
    have a'0 : α' 0 = o0 := (con_a u5 0 (by decide)).trans a0
    have a'1 : α' 1 = o1 := (con_a u5 1 (by decide)).trans a1
    cases v with
    | some v => exact u7.elim
    | none =>
      have v0 : (h_i h' (α' 0) 2).toInt = (1 * σ' 2 + 0) + 0 := (u3 _ (List.mem_of_getElem? (i := 0) rfl)).2
      rw [a'0] at v0
      have v1 : (h_i h' (α' 1) 2).toInt = (1 * σ' 2 + 0) + 0 := (u3 _ (List.mem_of_getElem? (i := 1) rfl)).2
      rw [a'1] at v1
      exact g0 ρ' h'  f t' (by omega) (by omega)
theorem c_k1095 {ρ : Nat → Nat} {h : MH} {lv : List (Nat × Value)} {Q : Option Value → MH → Prop} {o0 : Nat} {o1 : Nat} (hC : CCok c_CC ρ) (ht : TH c_sp ρ h) (l0 : m_lk lv 0 = some (.ref o0)) (l1 : m_lk lv 1 = some (.ref o1)) (r0 : ρ (o0) = 97) (r1 : ρ (o1) = 7) (b2 : 0 ≤ (h_i h (o1) 2).toInt ∧ (h_i h (o1) 2).toInt ≤ 600) (g0 : ∀ (ρ' : Nat → Nat) (h' : MH), FQ ρ ρ' c_m1095.2.1 h h' → TH c_sp ρ' h' → (h_i h' (o0) 2).toInt = (h_i h (o1) 2).toInt → (h_i h' (o1) 2).toInt = (h_i h (o1) 2).toInt → Q none h') : HJ 95 0 lv [] h Q := by
  obtain ⟨σ, hσ⟩ : ∃ σ : Nat → Int, σ = fun k => if k = 2 then (h_i h (o1) 2).toInt else 0 := ⟨_, rfl⟩
  obtain ⟨α, hα⟩ : ∃ α : Nat → Nat, α = fun k => if k = 0 then o0 else if k = 1 then o1 else 0 := ⟨_, rfl⟩
  have s2 : σ 2 = (h_i h (o1) 2).toInt := by rw [hσ]; rfl
  have a0 : α 0 = o0 := by rw [hα]; rfl
  have a1 : α 1 = o1 := by rw [hα]; rfl
  clear hσ hα
  refine HJ.ofV (K := (k_pins 3).map (le_ev σ)) (KA := (List.range 3).map α) c_v1095 hC ⟨ht, σ, α, fun q hq => ?_, fun q hq => ?_, fun q hq => ?_, rfl, rfl, fun q hq => ?_, trivial⟩ (fun t mt => ?_) (fun v h' ρ' f hP => ?_)
  · have hq : q ∈ ([(2, (0, 600))] : List (Nat × (Int × Int))) := hq
    rw [List.mem_singleton.mp hq]
    show 0 ≤ σ 2 ∧ σ 2 ≤ 600
    rw [s2]
    exact b2
  · cases hq
  · have hq : q ∈ ([((1, (7, 2)), .inl ([(2, 1)], 0))] : List ((Nat × (Nat × Nat)) × AT)) := hq
    rw [List.mem_singleton.mp hq]
    show (α 1 ≠ 0 ∧ ρ (α 1) = 7) ∧ t_fv σ α ρ h (α 1) 2 (.inl ([(2, 1)], 0))
    rw [a1]
    refine ⟨⟨th_na ht r1 (by decide), r1⟩, ?_⟩
    show (h_i h (o1) 2).toInt = (1 * σ 2 + 0) + 0
    omega
  · have hq : q ∈ ([(0, .inr (.inr (0, (97, true)))), (1, .inr (.inr (1, (7, true))))] : List (Nat × AT)) := hq
    rcases List.mem_cons.mp hq with e | hq
    · rw [e]
      refine ⟨.ref (α 0), by rw [a0]; exact l0, rfl, ?_⟩
      show t_rf ρ 97 true (α 0)
      rw [a0]
      exact Or.inr ⟨th_na ht r0 (by decide), by decide, r0⟩
    · have hq := hq
      rw [List.mem_singleton.mp hq]
      refine ⟨.ref (α 1), by rw [a1]; exact l1, rfl, ?_⟩
      show t_rf ρ 7 true (α 1)
      rw [a1]
      exact Or.inr ⟨th_na ht r1 (by decide), by decide, r1⟩
  · cases mt
  · obtain ⟨P, mP, tP, kP⟩ := hP
    have mP : P = ((([], []), ([((0, (97, 2)), .inl ([(2, 1)], 0)), ((1, (7, 2)), .inl ([(2, 1)], 0))], ((k_pins 3, List.range 3), (3, ([], []))))), []) := by
      have mP : P ∈ ([((([], []), ([((0, (97, 2)), .inl ([(2, 1)], 0)), ((1, (7, 2)), .inl ([(2, 1)], 0))], ((k_pins 3, List.range 3), (3, ([], []))))), [])] : List (AST × List Nat)) := mP
      exact List.mem_singleton.mp mP
    subst mP
    obtain ⟨t', σ', α', u1, u2, u3, u4, u5, -, u7⟩ := tP
    have s'2 : σ' 2 = (h_i h (o1) 2).toInt := (con_s u4 2 (by decide)).trans s2
    have a'0 : α' 0 = o0 := (con_a u5 0 (by decide)).trans a0
    have a'1 : α' 1 = o1 := (con_a u5 1 (by decide)).trans a1
    cases v with
    | some v => exact u7.elim
    | none =>
      have v0 : (h_i h' (α' 0) 2).toInt = (1 * σ' 2 + 0) + 0 := (u3 _ (List.mem_of_getElem? (i := 0) rfl)).2
      rw [a'0] at v0
      have v1 : (h_i h' (α' 1) 2).toInt = (1 * σ' 2 + 0) + 0 := (u3 _ (List.mem_of_getElem? (i := 1) rfl)).2
      rw [a'1] at v1
      exact g0 ρ' h'  f t' (by omega) (by omega)
theorem c_k168 {ρ : Nat → Nat} {h : MH} {lv : List (Nat × Value)} {Q : Option Value → MH → Prop} {o0 : Nat} {x1 : Int32} {x2 : Int32} {x3 : Int32} {x4 : Int32} {x5 : Int32} {x6 : Int32} (hC : CCok c_CC ρ) (ht : TH c_sp ρ h) (l0 : m_lk lv 0 = some (.ref o0)) (l1 : m_lk lv 1 = some (.int x1)) (l2 : m_lk lv 2 = some (.int x2)) (l3 : m_lk lv 3 = some (.int x3)) (l4 : m_lk lv 4 = some (.int x4)) (l5 : m_lk lv 5 = some (.int x5)) (l6 : m_lk lv 6 = some (.int x6)) (r0 : ρ (o0) = 6) (b6 : 0 ≤ x6.toInt ∧ x6.toInt ≤ 1) (t1 : c_PT 1 ρ h) (t2 : c_PT 2 ρ h) (g0 : ∀ (ρ' : Nat → Nat) (h' : MH) (y7 : Int) (x : Int32), FQ ρ ρ' c_m168.2.1 h h' → TH c_sp ρ' h' → x.toInt = y7 → (-2147483648) ≤ y7 ∧ y7 ≤ 2147483647 → c_PT 1 ρ' h' → c_PT 2 ρ' h' → Q (some (.int x)) h') : HJ 168 0 lv [] h Q := by
  obtain ⟨σ, hσ⟩ : ∃ σ : Nat → Int, σ = fun k => if k = 1 then x1.toInt else if k = 2 then x2.toInt else if k = 3 then x3.toInt else if k = 4 then x4.toInt else if k = 5 then x5.toInt else if k = 6 then x6.toInt else 0 := ⟨_, rfl⟩
  obtain ⟨α, hα⟩ : ∃ α : Nat → Nat, α = fun k => if k = 0 then o0 else 0 := ⟨_, rfl⟩
  have s1 : σ 1 = x1.toInt := by rw [hσ]; rfl
  have s2 : σ 2 = x2.toInt := by rw [hσ]; rfl
  have s3 : σ 3 = x3.toInt := by rw [hσ]; rfl
  have s4 : σ 4 = x4.toInt := by rw [hσ]; rfl
  have s5 : σ 5 = x5.toInt := by rw [hσ]; rfl
  have s6 : σ 6 = x6.toInt := by rw [hσ]; rfl
  have a0 : α 0 = o0 := by rw [hα]; rfl
  clear hσ hα
  refine HJ.ofV (K := (k_pins 7).map (le_ev σ)) (KA := (List.range 7).map α) c_v168 hC ⟨ht, σ, α, fun q hq => ?_, fun q hq => ?_, fun q hq => ?_, rfl, rfl, fun q hq => ?_, trivial⟩ (fun t mt => ?_) (fun v h' ρ' f hP => ?_)
  · have hq : q ∈ ([(1, ((-2147483648), 2147483647)), (2, ((-2147483648), 2147483647)), (3, ((-2147483648), 2147483647)), (4, ((-2147483648), 2147483647)), (5, ((-2147483648), 2147483647)), (6, (0, 1))] : List (Nat × (Int × Int))) := hq
    rcases List.mem_cons.mp hq with e | hq
    · rw [e]
      show (-2147483648) ≤ σ 1 ∧ σ 1 ≤ 2147483647
      rw [s1]
      exact g_iT _
    · have hq := hq
      rcases List.mem_cons.mp hq with e | hq
      · rw [e]
        show (-2147483648) ≤ σ 2 ∧ σ 2 ≤ 2147483647
        rw [s2]
        exact g_iT _
      · have hq := hq
        rcases List.mem_cons.mp hq with e | hq
        · rw [e]
          show (-2147483648) ≤ σ 3 ∧ σ 3 ≤ 2147483647
          rw [s3]
          exact g_iT _
        · have hq := hq
          rcases List.mem_cons.mp hq with e | hq
          · rw [e]
            show (-2147483648) ≤ σ 4 ∧ σ 4 ≤ 2147483647
            rw [s4]
            exact g_iT _
          · have hq := hq
            rcases List.mem_cons.mp hq with e | hq
            · rw [e]
              show (-2147483648) ≤ σ 5 ∧ σ 5 ≤ 2147483647
              rw [s5]
              exact g_iT _
            · have hq := hq
              rw [List.mem_singleton.mp hq]
              show 0 ≤ σ 6 ∧ σ 6 ≤ 1
              rw [s6]
              exact b6
  · cases hq
  · cases hq
  · have hq : q ∈ ([(0, .inr (.inr (0, (6, true)))), (1, .inl ([(1, 1)], 0)), (2, .inl ([(2, 1)], 0)), (3, .inl ([(3, 1)], 0)), (4, .inl ([(4, 1)], 0)), (5, .inl ([(5, 1)], 0)), (6, .inl ([(6, 1)], 0))] : List (Nat × AT)) := hq
    rcases List.mem_cons.mp hq with e | hq
    · rw [e]
      refine ⟨.ref (α 0), by rw [a0]; exact l0, rfl, ?_⟩
      show t_rf ρ 6 true (α 0)
      rw [a0]
      exact Or.inr ⟨th_na ht r0 (by decide), by decide, r0⟩
    · have hq := hq
      rcases List.mem_cons.mp hq with e | hq
      · rw [e]
        refine ⟨.int x1, l1, x1, rfl, ?_⟩
        show x1.toInt = (1 * σ 1 + 0) + 0
        omega
      · have hq := hq
        rcases List.mem_cons.mp hq with e | hq
        · rw [e]
          refine ⟨.int x2, l2, x2, rfl, ?_⟩
          show x2.toInt = (1 * σ 2 + 0) + 0
          omega
        · have hq := hq
          rcases List.mem_cons.mp hq with e | hq
          · rw [e]
            refine ⟨.int x3, l3, x3, rfl, ?_⟩
            show x3.toInt = (1 * σ 3 + 0) + 0
            omega
          · have hq := hq
            rcases List.mem_cons.mp hq with e | hq
            · rw [e]
              refine ⟨.int x4, l4, x4, rfl, ?_⟩
              show x4.toInt = (1 * σ 4 + 0) + 0
              omega
            · have hq := hq
              rcases List.mem_cons.mp hq with e | hq
              · rw [e]
                refine ⟨.int x5, l5, x5, rfl, ?_⟩
                show x5.toInt = (1 * σ 5 + 0) + 0
                omega
              · have hq := hq
                rw [List.mem_singleton.mp hq]
                refine ⟨.int x6, l6, x6, rfl, ?_⟩
                show x6.toInt = (1 * σ 6 + 0) + 0
                omega
  · have mt : t ∈ ([1, 2] : List Nat) := mt
    simp only [List.mem_cons, List.not_mem_nil, or_false] at mt
    rcases mt with rfl | rfl
    · exact t1
    · exact t2
  · obtain ⟨P, mP, tP, kP⟩ := hP
    have mP : P = ((([(7, ((-2147483648), 2147483647))], []), ([], ((k_pins 7, List.range 7), (8, ([], [.inl ([(7, 1)], 0)]))))), [1, 2]) := by
      have mP : P ∈ ([((([(7, ((-2147483648), 2147483647))], []), ([], ((k_pins 7, List.range 7), (8, ([], [.inl ([(7, 1)], 0)]))))), [1, 2])] : List (AST × List Nat)) := mP
      exact List.mem_singleton.mp mP
    subst mP
    obtain ⟨t', σ', α', u1, u2, u3, u4, u5, -, u7⟩ := tP
    have s'1 : σ' 1 = x1.toInt := (con_s u4 1 (by decide)).trans s1
    have s'2 : σ' 2 = x2.toInt := (con_s u4 2 (by decide)).trans s2
    have s'3 : σ' 3 = x3.toInt := (con_s u4 3 (by decide)).trans s3
    have s'4 : σ' 4 = x4.toInt := (con_s u4 4 (by decide)).trans s4
    have s'5 : σ' 5 = x5.toInt := (con_s u4 5 (by decide)).trans s5
    have s'6 : σ' 6 = x6.toInt := (con_s u4 6 (by decide)).trans s6
    have a'0 : α' 0 = o0 := (con_a u5 0 (by decide)).trans a0
    cases v with
    | none => exact u7.elim
    | some v =>
      obtain ⟨⟨x, e1, e2⟩, -⟩ := u7
      subst e1
      have e2 : x.toInt = (1 * σ' 7 + 0) + 0 := e2
      exact g0 ρ' h' (σ' 7) x f t' (by omega) (u1 _ (List.mem_of_getElem? (i := 0) rfl)) (kP 1 (by decide)) (kP 2 (by decide))
theorem c_k170 {ρ : Nat → Nat} {h : MH} {lv : List (Nat × Value)} {Q : Option Value → MH → Prop} {o0 : Nat} {x1 : Int32} {x2 : Int64} {x4 : Int32} (hC : CCok c_CC ρ) (ht : TH c_sp ρ h) (l0 : m_lk lv 0 = some (.ref o0)) (l1 : m_lk lv 1 = some (.int x1)) (l2 : m_lk lv 2 = some (.long x2)) (l4 : m_lk lv 4 = some (.int x4)) (r0 : ρ (o0) = 6) (t1 : c_PT 1 ρ h) (t2 : c_PT 2 ρ h) (g0 : ∀ (ρ' : Nat → Nat) (h' : MH) (y3 : Int) (x : Int32), FQ ρ ρ' c_m170.2.1 h h' → TH c_sp ρ' h' → x.toInt = y3 → (-2147483648) ≤ y3 ∧ y3 ≤ 2147483647 → c_PT 1 ρ' h' → c_PT 2 ρ' h' → Q (some (.int x)) h') : HJ 170 0 lv [] h Q := by
  obtain ⟨σ, hσ⟩ : ∃ σ : Nat → Int, σ = fun k => if k = 1 then x1.toInt else if k = 2 then x4.toInt else 0 := ⟨_, rfl⟩
  obtain ⟨α, hα⟩ : ∃ α : Nat → Nat, α = fun k => if k = 0 then o0 else 0 := ⟨_, rfl⟩
  have s1 : σ 1 = x1.toInt := by rw [hσ]; rfl
  have s2 : σ 2 = x4.toInt := by rw [hσ]; rfl
  have a0 : α 0 = o0 := by rw [hα]; rfl
  clear hσ hα
  refine HJ.ofV (K := (k_pins 3).map (le_ev σ)) (KA := (List.range 3).map α) c_v170 hC ⟨ht, σ, α, fun q hq => ?_, fun q hq => ?_, fun q hq => ?_, rfl, rfl, fun q hq => ?_, trivial⟩ (fun t mt => ?_) (fun v h' ρ' f hP => ?_)
  · have hq : q ∈ ([(1, ((-2147483648), 2147483647)), (2, ((-2147483648), 2147483647))] : List (Nat × (Int × Int))) := hq
    rcases List.mem_cons.mp hq with e | hq
    · rw [e]
      show (-2147483648) ≤ σ 1 ∧ σ 1 ≤ 2147483647
      rw [s1]
      exact g_iT _
    · have hq := hq
      rw [List.mem_singleton.mp hq]
      show (-2147483648) ≤ σ 2 ∧ σ 2 ≤ 2147483647
      rw [s2]
      exact g_iT _
  · cases hq
  · cases hq
  · have hq : q ∈ ([(0, .inr (.inr (0, (6, true)))), (1, .inl ([(1, 1)], 0)), (2, .inr (.inl ())), (4, .inl ([(2, 1)], 0))] : List (Nat × AT)) := hq
    rcases List.mem_cons.mp hq with e | hq
    · rw [e]
      refine ⟨.ref (α 0), by rw [a0]; exact l0, rfl, ?_⟩
      show t_rf ρ 6 true (α 0)
      rw [a0]
      exact Or.inr ⟨th_na ht r0 (by decide), by decide, r0⟩
    · have hq := hq
      rcases List.mem_cons.mp hq with e | hq
      · rw [e]
        refine ⟨.int x1, l1, x1, rfl, ?_⟩
        show x1.toInt = (1 * σ 1 + 0) + 0
        omega
      · have hq := hq
        rcases List.mem_cons.mp hq with e | hq
        · rw [e]
          exact ⟨.long x2, l2, x2, rfl⟩
        · have hq := hq
          rw [List.mem_singleton.mp hq]
          refine ⟨.int x4, l4, x4, rfl, ?_⟩
          show x4.toInt = (1 * σ 2 + 0) + 0
          omega
  · have mt : t ∈ ([1, 2] : List Nat) := mt
    simp only [List.mem_cons, List.not_mem_nil, or_false] at mt
    rcases mt with rfl | rfl
    · exact t1
    · exact t2
  · obtain ⟨P, mP, tP, kP⟩ := hP
    have mP : P = ((([(3, ((-2147483648), 2147483647))], []), ([], ((k_pins 3, List.range 3), (4, ([], [.inl ([(3, 1)], 0)]))))), [1, 2]) := by
      have mP : P ∈ ([((([(3, ((-2147483648), 2147483647))], []), ([], ((k_pins 3, List.range 3), (4, ([], [.inl ([(3, 1)], 0)]))))), [1, 2])] : List (AST × List Nat)) := mP
      exact List.mem_singleton.mp mP
    subst mP
    obtain ⟨t', σ', α', u1, u2, u3, u4, u5, -, u7⟩ := tP
    have s'1 : σ' 1 = x1.toInt := (con_s u4 1 (by decide)).trans s1
    have s'2 : σ' 2 = x4.toInt := (con_s u4 2 (by decide)).trans s2
    have a'0 : α' 0 = o0 := (con_a u5 0 (by decide)).trans a0
    cases v with
    | none => exact u7.elim
    | some v =>
      obtain ⟨⟨x, e1, e2⟩, -⟩ := u7
      subst e1
      have e2 : x.toInt = (1 * σ' 3 + 0) + 0 := e2
      exact g0 ρ' h' (σ' 3) x f t' (by omega) (u1 _ (List.mem_of_getElem? (i := 0) rfl)) (kP 1 (by decide)) (kP 2 (by decide))
theorem c_k178 {ρ : Nat → Nat} {h : MH} {lv : List (Nat × Value)} {Q : Option Value → MH → Prop} {o0 : Nat} {x1 : Int32} {x2 : Int32} {x3 : Int32} {x4 : Int32} {x5 : Int32} (hC : CCok c_CC ρ) (ht : TH c_sp ρ h) (l0 : m_lk lv 0 = some (.ref o0)) (l1 : m_lk lv 1 = some (.int x1)) (l2 : m_lk lv 2 = some (.int x2)) (l3 : m_lk lv 3 = some (.int x3)) (l4 : m_lk lv 4 = some (.int x4)) (l5 : m_lk lv 5 = some (.int x5)) (r0 : ρ (o0) = 6) (t1 : c_PT 1 ρ h) (t2 : c_PT 2 ρ h) (g0 : ∀ (ρ' : Nat → Nat) (h' : MH) (y6 : Int) (x : Int32), FQ ρ ρ' c_m178.2.1 h h' → TH c_sp ρ' h' → x.toInt = y6 → (-2147483648) ≤ y6 ∧ y6 ≤ 2147483647 → c_PT 1 ρ' h' → c_PT 2 ρ' h' → Q (some (.int x)) h') : HJ 178 0 lv [] h Q := by
  obtain ⟨σ, hσ⟩ : ∃ σ : Nat → Int, σ = fun k => if k = 1 then x1.toInt else if k = 2 then x2.toInt else if k = 3 then x3.toInt else if k = 4 then x4.toInt else if k = 5 then x5.toInt else 0 := ⟨_, rfl⟩
  obtain ⟨α, hα⟩ : ∃ α : Nat → Nat, α = fun k => if k = 0 then o0 else 0 := ⟨_, rfl⟩
  have s1 : σ 1 = x1.toInt := by rw [hσ]; rfl
  have s2 : σ 2 = x2.toInt := by rw [hσ]; rfl
  have s3 : σ 3 = x3.toInt := by rw [hσ]; rfl
  have s4 : σ 4 = x4.toInt := by rw [hσ]; rfl
  have s5 : σ 5 = x5.toInt := by rw [hσ]; rfl
  have a0 : α 0 = o0 := by rw [hα]; rfl
  clear hσ hα
  refine HJ.ofV (K := (k_pins 6).map (le_ev σ)) (KA := (List.range 6).map α) c_v178 hC ⟨ht, σ, α, fun q hq => ?_, fun q hq => ?_, fun q hq => ?_, rfl, rfl, fun q hq => ?_, trivial⟩ (fun t mt => ?_) (fun v h' ρ' f hP => ?_)
  · have hq : q ∈ ([(1, ((-2147483648), 2147483647)), (2, ((-2147483648), 2147483647)), (3, ((-2147483648), 2147483647)), (4, ((-2147483648), 2147483647)), (5, ((-2147483648), 2147483647))] : List (Nat × (Int × Int))) := hq
    rcases List.mem_cons.mp hq with e | hq
    · rw [e]
      show (-2147483648) ≤ σ 1 ∧ σ 1 ≤ 2147483647
      rw [s1]
      exact g_iT _
    · have hq := hq
      rcases List.mem_cons.mp hq with e | hq
      · rw [e]
        show (-2147483648) ≤ σ 2 ∧ σ 2 ≤ 2147483647
        rw [s2]
        exact g_iT _
      · have hq := hq
        rcases List.mem_cons.mp hq with e | hq
        · rw [e]
          show (-2147483648) ≤ σ 3 ∧ σ 3 ≤ 2147483647
          rw [s3]
          exact g_iT _
        · have hq := hq
          rcases List.mem_cons.mp hq with e | hq
          · rw [e]
            show (-2147483648) ≤ σ 4 ∧ σ 4 ≤ 2147483647
            rw [s4]
            exact g_iT _
          · have hq := hq
            rw [List.mem_singleton.mp hq]
            show (-2147483648) ≤ σ 5 ∧ σ 5 ≤ 2147483647
            rw [s5]
            exact g_iT _
  · cases hq
  · cases hq
  · have hq : q ∈ ([(0, .inr (.inr (0, (6, true)))), (1, .inl ([(1, 1)], 0)), (2, .inl ([(2, 1)], 0)), (3, .inl ([(3, 1)], 0)), (4, .inl ([(4, 1)], 0)), (5, .inl ([(5, 1)], 0))] : List (Nat × AT)) := hq
    rcases List.mem_cons.mp hq with e | hq
    · rw [e]
      refine ⟨.ref (α 0), by rw [a0]; exact l0, rfl, ?_⟩
      show t_rf ρ 6 true (α 0)
      rw [a0]
      exact Or.inr ⟨th_na ht r0 (by decide), by decide, r0⟩
    · have hq := hq
      rcases List.mem_cons.mp hq with e | hq
      · rw [e]
        refine ⟨.int x1, l1, x1, rfl, ?_⟩
        show x1.toInt = (1 * σ 1 + 0) + 0
        omega
      · have hq := hq
        rcases List.mem_cons.mp hq with e | hq
        · rw [e]
          refine ⟨.int x2, l2, x2, rfl, ?_⟩
          show x2.toInt = (1 * σ 2 + 0) + 0
          omega
        · have hq := hq
          rcases List.mem_cons.mp hq with e | hq
          · rw [e]
            refine ⟨.int x3, l3, x3, rfl, ?_⟩
            show x3.toInt = (1 * σ 3 + 0) + 0
            omega
          · have hq := hq
            rcases List.mem_cons.mp hq with e | hq
            · rw [e]
              refine ⟨.int x4, l4, x4, rfl, ?_⟩
              show x4.toInt = (1 * σ 4 + 0) + 0
              omega
            · have hq := hq
              rw [List.mem_singleton.mp hq]
              refine ⟨.int x5, l5, x5, rfl, ?_⟩
              show x5.toInt = (1 * σ 5 + 0) + 0
              omega
  · have mt : t ∈ ([1, 2] : List Nat) := mt
    simp only [List.mem_cons, List.not_mem_nil, or_false] at mt
    rcases mt with rfl | rfl
    · exact t1
    · exact t2
  · obtain ⟨P, mP, tP, kP⟩ := hP
    have mP : P = ((([(6, ((-2147483648), 2147483647))], []), ([], ((k_pins 6, List.range 6), (7, ([], [.inl ([(6, 1)], 0)]))))), [1, 2]) := by
      have mP : P ∈ ([((([(6, ((-2147483648), 2147483647))], []), ([], ((k_pins 6, List.range 6), (7, ([], [.inl ([(6, 1)], 0)]))))), [1, 2])] : List (AST × List Nat)) := mP
      exact List.mem_singleton.mp mP
    subst mP
    obtain ⟨t', σ', α', u1, u2, u3, u4, u5, -, u7⟩ := tP
    have s'1 : σ' 1 = x1.toInt := (con_s u4 1 (by decide)).trans s1
    have s'2 : σ' 2 = x2.toInt := (con_s u4 2 (by decide)).trans s2
    have s'3 : σ' 3 = x3.toInt := (con_s u4 3 (by decide)).trans s3
    have s'4 : σ' 4 = x4.toInt := (con_s u4 4 (by decide)).trans s4
    have s'5 : σ' 5 = x5.toInt := (con_s u4 5 (by decide)).trans s5
    have a'0 : α' 0 = o0 := (con_a u5 0 (by decide)).trans a0
    cases v with
    | none => exact u7.elim
    | some v =>
      obtain ⟨⟨x, e1, e2⟩, -⟩ := u7
      subst e1
      have e2 : x.toInt = (1 * σ' 6 + 0) + 0 := e2
      exact g0 ρ' h' (σ' 6) x f t' (by omega) (u1 _ (List.mem_of_getElem? (i := 0) rfl)) (kP 1 (by decide)) (kP 2 (by decide))
theorem c_k264 {ρ : Nat → Nat} {h : MH} {lv : List (Nat × Value)} {Q : Option Value → MH → Prop} {o0 : Nat} {x1 : Int32} {x2 : Int32} {x3 : Int32} {x4 : Int32} {x5 : Int32} {x6 : Int32} (hC : CCok c_CC ρ) (ht : TH c_sp ρ h) (l0 : m_lk lv 0 = some (.ref o0)) (l1 : m_lk lv 1 = some (.int x1)) (l2 : m_lk lv 2 = some (.int x2)) (l3 : m_lk lv 3 = some (.int x3)) (l4 : m_lk lv 4 = some (.int x4)) (l5 : m_lk lv 5 = some (.int x5)) (l6 : m_lk lv 6 = some (.int x6)) (r0 : ρ (o0) = 49) (b6 : 0 ≤ x6.toInt ∧ x6.toInt ≤ 1) (t7 : c_PT 7 ρ h) (g0 : ∀ (ρ' : Nat → Nat) (h' : MH) (y7 : Int) (x : Int32), FQ ρ ρ' c_m264.2.1 h h' → TH c_sp ρ' h' → x.toInt = y7 → (-2147483648) ≤ y7 ∧ y7 ≤ 2147483647 → c_PT 7 ρ' h' → Q (some (.int x)) h') : HJ 264 0 lv [] h Q := by
  obtain ⟨σ, hσ⟩ : ∃ σ : Nat → Int, σ = fun k => if k = 1 then x1.toInt else if k = 2 then x2.toInt else if k = 3 then x3.toInt else if k = 4 then x4.toInt else if k = 5 then x5.toInt else if k = 6 then x6.toInt else 0 := ⟨_, rfl⟩
  obtain ⟨α, hα⟩ : ∃ α : Nat → Nat, α = fun k => if k = 0 then o0 else 0 := ⟨_, rfl⟩
  have s1 : σ 1 = x1.toInt := by rw [hσ]; rfl
  have s2 : σ 2 = x2.toInt := by rw [hσ]; rfl
  have s3 : σ 3 = x3.toInt := by rw [hσ]; rfl
  have s4 : σ 4 = x4.toInt := by rw [hσ]; rfl
  have s5 : σ 5 = x5.toInt := by rw [hσ]; rfl
  have s6 : σ 6 = x6.toInt := by rw [hσ]; rfl
  have a0 : α 0 = o0 := by rw [hα]; rfl
  clear hσ hα
  refine HJ.ofV (K := (k_pins 7).map (le_ev σ)) (KA := (List.range 7).map α) c_v264 hC ⟨ht, σ, α, fun q hq => ?_, fun q hq => ?_, fun q hq => ?_, rfl, rfl, fun q hq => ?_, trivial⟩ (fun t mt => ?_) (fun v h' ρ' f hP => ?_)
  · have hq : q ∈ ([(1, ((-2147483648), 2147483647)), (2, ((-2147483648), 2147483647)), (3, ((-2147483648), 2147483647)), (4, ((-2147483648), 2147483647)), (5, ((-2147483648), 2147483647)), (6, (0, 1))] : List (Nat × (Int × Int))) := hq
    rcases List.mem_cons.mp hq with e | hq
    · rw [e]
      show (-2147483648) ≤ σ 1 ∧ σ 1 ≤ 2147483647
      rw [s1]
      exact g_iT _
    · have hq := hq
      rcases List.mem_cons.mp hq with e | hq
      · rw [e]
        show (-2147483648) ≤ σ 2 ∧ σ 2 ≤ 2147483647
        rw [s2]
        exact g_iT _
      · have hq := hq
        rcases List.mem_cons.mp hq with e | hq
        · rw [e]
          show (-2147483648) ≤ σ 3 ∧ σ 3 ≤ 2147483647
          rw [s3]
          exact g_iT _
        · have hq := hq
          rcases List.mem_cons.mp hq with e | hq
          · rw [e]
            show (-2147483648) ≤ σ 4 ∧ σ 4 ≤ 2147483647
            rw [s4]
            exact g_iT _
          · have hq := hq
            rcases List.mem_cons.mp hq with e | hq
            · rw [e]
              show (-2147483648) ≤ σ 5 ∧ σ 5 ≤ 2147483647
              rw [s5]
              exact g_iT _
            · have hq := hq
              rw [List.mem_singleton.mp hq]
              show 0 ≤ σ 6 ∧ σ 6 ≤ 1
              rw [s6]
              exact b6
  · cases hq
  · cases hq
  · have hq : q ∈ ([(0, .inr (.inr (0, (49, true)))), (1, .inl ([(1, 1)], 0)), (2, .inl ([(2, 1)], 0)), (3, .inl ([(3, 1)], 0)), (4, .inl ([(4, 1)], 0)), (5, .inl ([(5, 1)], 0)), (6, .inl ([(6, 1)], 0))] : List (Nat × AT)) := hq
    rcases List.mem_cons.mp hq with e | hq
    · rw [e]
      refine ⟨.ref (α 0), by rw [a0]; exact l0, rfl, ?_⟩
      show t_rf ρ 49 true (α 0)
      rw [a0]
      exact Or.inr ⟨th_na ht r0 (by decide), by decide, r0⟩
    · have hq := hq
      rcases List.mem_cons.mp hq with e | hq
      · rw [e]
        refine ⟨.int x1, l1, x1, rfl, ?_⟩
        show x1.toInt = (1 * σ 1 + 0) + 0
        omega
      · have hq := hq
        rcases List.mem_cons.mp hq with e | hq
        · rw [e]
          refine ⟨.int x2, l2, x2, rfl, ?_⟩
          show x2.toInt = (1 * σ 2 + 0) + 0
          omega
        · have hq := hq
          rcases List.mem_cons.mp hq with e | hq
          · rw [e]
            refine ⟨.int x3, l3, x3, rfl, ?_⟩
            show x3.toInt = (1 * σ 3 + 0) + 0
            omega
          · have hq := hq
            rcases List.mem_cons.mp hq with e | hq
            · rw [e]
              refine ⟨.int x4, l4, x4, rfl, ?_⟩
              show x4.toInt = (1 * σ 4 + 0) + 0
              omega
            · have hq := hq
              rcases List.mem_cons.mp hq with e | hq
              · rw [e]
                refine ⟨.int x5, l5, x5, rfl, ?_⟩
                show x5.toInt = (1 * σ 5 + 0) + 0
                omega
              · have hq := hq
                rw [List.mem_singleton.mp hq]
                refine ⟨.int x6, l6, x6, rfl, ?_⟩
                show x6.toInt = (1 * σ 6 + 0) + 0
                omega
  · have mt : t ∈ ([7] : List Nat) := mt
    simp only [List.mem_cons, List.not_mem_nil, or_false] at mt
    rcases mt with rfl
    · exact t7
  · obtain ⟨P, mP, tP, kP⟩ := hP
    have mP : P = ((([(7, ((-2147483648), 2147483647))], []), ([], ((k_pins 7, List.range 7), (8, ([], [.inl ([(7, 1)], 0)]))))), [7]) := by
      have mP : P ∈ ([((([(7, ((-2147483648), 2147483647))], []), ([], ((k_pins 7, List.range 7), (8, ([], [.inl ([(7, 1)], 0)]))))), [7])] : List (AST × List Nat)) := mP
      exact List.mem_singleton.mp mP
    subst mP
    obtain ⟨t', σ', α', u1, u2, u3, u4, u5, -, u7⟩ := tP
    have s'1 : σ' 1 = x1.toInt := (con_s u4 1 (by decide)).trans s1
    have s'2 : σ' 2 = x2.toInt := (con_s u4 2 (by decide)).trans s2
    have s'3 : σ' 3 = x3.toInt := (con_s u4 3 (by decide)).trans s3
    have s'4 : σ' 4 = x4.toInt := (con_s u4 4 (by decide)).trans s4
    have s'5 : σ' 5 = x5.toInt := (con_s u4 5 (by decide)).trans s5
    have s'6 : σ' 6 = x6.toInt := (con_s u4 6 (by decide)).trans s6
    have a'0 : α' 0 = o0 := (con_a u5 0 (by decide)).trans a0
    cases v with
    | none => exact u7.elim
    | some v =>
      obtain ⟨⟨x, e1, e2⟩, -⟩ := u7
      subst e1
      have e2 : x.toInt = (1 * σ' 7 + 0) + 0 := e2
      exact g0 ρ' h' (σ' 7) x f t' (by omega) (u1 _ (List.mem_of_getElem? (i := 0) rfl)) (kP 7 (by decide))
theorem c_k265 {ρ : Nat → Nat} {h : MH} {lv : List (Nat × Value)} {Q : Option Value → MH → Prop} {o0 : Nat} {x1 : Int32} {x2 : Int64} {x4 : Int32} (hC : CCok c_CC ρ) (ht : TH c_sp ρ h) (l0 : m_lk lv 0 = some (.ref o0)) (l1 : m_lk lv 1 = some (.int x1)) (l2 : m_lk lv 2 = some (.long x2)) (l4 : m_lk lv 4 = some (.int x4)) (r0 : ρ (o0) = 49) (t7 : c_PT 7 ρ h) (g0 : ∀ (ρ' : Nat → Nat) (h' : MH) (y3 : Int) (x : Int32), FQ ρ ρ' c_m265.2.1 h h' → TH c_sp ρ' h' → x.toInt = y3 → (-2147483648) ≤ y3 ∧ y3 ≤ 2147483647 → c_PT 7 ρ' h' → Q (some (.int x)) h') : HJ 265 0 lv [] h Q := by
  obtain ⟨σ, hσ⟩ : ∃ σ : Nat → Int, σ = fun k => if k = 1 then x1.toInt else if k = 2 then x4.toInt else 0 := ⟨_, rfl⟩
  obtain ⟨α, hα⟩ : ∃ α : Nat → Nat, α = fun k => if k = 0 then o0 else 0 := ⟨_, rfl⟩
  have s1 : σ 1 = x1.toInt := by rw [hσ]; rfl
  have s2 : σ 2 = x4.toInt := by rw [hσ]; rfl
  have a0 : α 0 = o0 := by rw [hα]; rfl
  clear hσ hα
  refine HJ.ofV (K := (k_pins 3).map (le_ev σ)) (KA := (List.range 3).map α) c_v265 hC ⟨ht, σ, α, fun q hq => ?_, fun q hq => ?_, fun q hq => ?_, rfl, rfl, fun q hq => ?_, trivial⟩ (fun t mt => ?_) (fun v h' ρ' f hP => ?_)
  · have hq : q ∈ ([(1, ((-2147483648), 2147483647)), (2, ((-2147483648), 2147483647))] : List (Nat × (Int × Int))) := hq
    rcases List.mem_cons.mp hq with e | hq
    · rw [e]
      show (-2147483648) ≤ σ 1 ∧ σ 1 ≤ 2147483647
      rw [s1]
      exact g_iT _
    · have hq := hq
      rw [List.mem_singleton.mp hq]
      show (-2147483648) ≤ σ 2 ∧ σ 2 ≤ 2147483647
      rw [s2]
      exact g_iT _
  · cases hq
  · cases hq
  · have hq : q ∈ ([(0, .inr (.inr (0, (49, true)))), (1, .inl ([(1, 1)], 0)), (2, .inr (.inl ())), (4, .inl ([(2, 1)], 0))] : List (Nat × AT)) := hq
    rcases List.mem_cons.mp hq with e | hq
    · rw [e]
      refine ⟨.ref (α 0), by rw [a0]; exact l0, rfl, ?_⟩
      show t_rf ρ 49 true (α 0)
      rw [a0]
      exact Or.inr ⟨th_na ht r0 (by decide), by decide, r0⟩
    · have hq := hq
      rcases List.mem_cons.mp hq with e | hq
      · rw [e]
        refine ⟨.int x1, l1, x1, rfl, ?_⟩
        show x1.toInt = (1 * σ 1 + 0) + 0
        omega
      · have hq := hq
        rcases List.mem_cons.mp hq with e | hq
        · rw [e]
          exact ⟨.long x2, l2, x2, rfl⟩
        · have hq := hq
          rw [List.mem_singleton.mp hq]
          refine ⟨.int x4, l4, x4, rfl, ?_⟩
          show x4.toInt = (1 * σ 2 + 0) + 0
          omega
  · have mt : t ∈ ([7] : List Nat) := mt
    simp only [List.mem_cons, List.not_mem_nil, or_false] at mt
    rcases mt with rfl
    · exact t7
  · obtain ⟨P, mP, tP, kP⟩ := hP
    have mP : P = ((([(3, ((-2147483648), 2147483647))], []), ([], ((k_pins 3, List.range 3), (4, ([], [.inl ([(3, 1)], 0)]))))), [7]) := by
      have mP : P ∈ ([((([(3, ((-2147483648), 2147483647))], []), ([], ((k_pins 3, List.range 3), (4, ([], [.inl ([(3, 1)], 0)]))))), [7])] : List (AST × List Nat)) := mP
      exact List.mem_singleton.mp mP
    subst mP
    obtain ⟨t', σ', α', u1, u2, u3, u4, u5, -, u7⟩ := tP
    have s'1 : σ' 1 = x1.toInt := (con_s u4 1 (by decide)).trans s1
    have s'2 : σ' 2 = x4.toInt := (con_s u4 2 (by decide)).trans s2
    have a'0 : α' 0 = o0 := (con_a u5 0 (by decide)).trans a0
    cases v with
    | none => exact u7.elim
    | some v =>
      obtain ⟨⟨x, e1, e2⟩, -⟩ := u7
      subst e1
      have e2 : x.toInt = (1 * σ' 3 + 0) + 0 := e2
      exact g0 ρ' h' (σ' 3) x f t' (by omega) (u1 _ (List.mem_of_getElem? (i := 0) rfl)) (kP 7 (by decide))
theorem c_k275 {ρ : Nat → Nat} {h : MH} {lv : List (Nat × Value)} {Q : Option Value → MH → Prop} {o0 : Nat} {x1 : Int32} {x2 : Int32} {x3 : Int32} {x4 : Int32} {x5 : Int32} (hC : CCok c_CC ρ) (ht : TH c_sp ρ h) (l0 : m_lk lv 0 = some (.ref o0)) (l1 : m_lk lv 1 = some (.int x1)) (l2 : m_lk lv 2 = some (.int x2)) (l3 : m_lk lv 3 = some (.int x3)) (l4 : m_lk lv 4 = some (.int x4)) (l5 : m_lk lv 5 = some (.int x5)) (r0 : ρ (o0) = 49) (t7 : c_PT 7 ρ h) (g0 : ∀ (ρ' : Nat → Nat) (h' : MH) (y6 : Int) (x : Int32), FQ ρ ρ' c_m275.2.1 h h' → TH c_sp ρ' h' → x.toInt = y6 → (-2147483648) ≤ y6 ∧ y6 ≤ 2147483647 → c_PT 7 ρ' h' → Q (some (.int x)) h') : HJ 275 0 lv [] h Q := by
  obtain ⟨σ, hσ⟩ : ∃ σ : Nat → Int, σ = fun k => if k = 1 then x1.toInt else if k = 2 then x2.toInt else if k = 3 then x3.toInt else if k = 4 then x4.toInt else if k = 5 then x5.toInt else 0 := ⟨_, rfl⟩
  obtain ⟨α, hα⟩ : ∃ α : Nat → Nat, α = fun k => if k = 0 then o0 else 0 := ⟨_, rfl⟩
  have s1 : σ 1 = x1.toInt := by rw [hσ]; rfl
  have s2 : σ 2 = x2.toInt := by rw [hσ]; rfl
  have s3 : σ 3 = x3.toInt := by rw [hσ]; rfl
  have s4 : σ 4 = x4.toInt := by rw [hσ]; rfl
  have s5 : σ 5 = x5.toInt := by rw [hσ]; rfl
  have a0 : α 0 = o0 := by rw [hα]; rfl
  clear hσ hα
  refine HJ.ofV (K := (k_pins 6).map (le_ev σ)) (KA := (List.range 6).map α) c_v275 hC ⟨ht, σ, α, fun q hq => ?_, fun q hq => ?_, fun q hq => ?_, rfl, rfl, fun q hq => ?_, trivial⟩ (fun t mt => ?_) (fun v h' ρ' f hP => ?_)
  · have hq : q ∈ ([(1, ((-2147483648), 2147483647)), (2, ((-2147483648), 2147483647)), (3, ((-2147483648), 2147483647)), (4, ((-2147483648), 2147483647)), (5, ((-2147483648), 2147483647))] : List (Nat × (Int × Int))) := hq
    rcases List.mem_cons.mp hq with e | hq
    · rw [e]
      show (-2147483648) ≤ σ 1 ∧ σ 1 ≤ 2147483647
      rw [s1]
      exact g_iT _
    · have hq := hq
      rcases List.mem_cons.mp hq with e | hq
      · rw [e]
        show (-2147483648) ≤ σ 2 ∧ σ 2 ≤ 2147483647
        rw [s2]
        exact g_iT _
      · have hq := hq
        rcases List.mem_cons.mp hq with e | hq
        · rw [e]
          show (-2147483648) ≤ σ 3 ∧ σ 3 ≤ 2147483647
          rw [s3]
          exact g_iT _
        · have hq := hq
          rcases List.mem_cons.mp hq with e | hq
          · rw [e]
            show (-2147483648) ≤ σ 4 ∧ σ 4 ≤ 2147483647
            rw [s4]
            exact g_iT _
          · have hq := hq
            rw [List.mem_singleton.mp hq]
            show (-2147483648) ≤ σ 5 ∧ σ 5 ≤ 2147483647
            rw [s5]
            exact g_iT _
  · cases hq
  · cases hq
  · have hq : q ∈ ([(0, .inr (.inr (0, (49, true)))), (1, .inl ([(1, 1)], 0)), (2, .inl ([(2, 1)], 0)), (3, .inl ([(3, 1)], 0)), (4, .inl ([(4, 1)], 0)), (5, .inl ([(5, 1)], 0))] : List (Nat × AT)) := hq
    rcases List.mem_cons.mp hq with e | hq
    · rw [e]
      refine ⟨.ref (α 0), by rw [a0]; exact l0, rfl, ?_⟩
      show t_rf ρ 49 true (α 0)
      rw [a0]
      exact Or.inr ⟨th_na ht r0 (by decide), by decide, r0⟩
    · have hq := hq
      rcases List.mem_cons.mp hq with e | hq
      · rw [e]
        refine ⟨.int x1, l1, x1, rfl, ?_⟩
        show x1.toInt = (1 * σ 1 + 0) + 0
        omega
      · have hq := hq
        rcases List.mem_cons.mp hq with e | hq
        · rw [e]
          refine ⟨.int x2, l2, x2, rfl, ?_⟩
          show x2.toInt = (1 * σ 2 + 0) + 0
          omega
        · have hq := hq
          rcases List.mem_cons.mp hq with e | hq
          · rw [e]
            refine ⟨.int x3, l3, x3, rfl, ?_⟩
            show x3.toInt = (1 * σ 3 + 0) + 0
            omega
          · have hq := hq
            rcases List.mem_cons.mp hq with e | hq
            · rw [e]
              refine ⟨.int x4, l4, x4, rfl, ?_⟩
              show x4.toInt = (1 * σ 4 + 0) + 0
              omega
            · have hq := hq
              rw [List.mem_singleton.mp hq]
              refine ⟨.int x5, l5, x5, rfl, ?_⟩
              show x5.toInt = (1 * σ 5 + 0) + 0
              omega
  · have mt : t ∈ ([7] : List Nat) := mt
    simp only [List.mem_cons, List.not_mem_nil, or_false] at mt
    rcases mt with rfl
    · exact t7
  · obtain ⟨P, mP, tP, kP⟩ := hP
    have mP : P = ((([(6, ((-2147483648), 2147483647))], []), ([], ((k_pins 6, List.range 6), (7, ([], [.inl ([(6, 1)], 0)]))))), [7]) := by
      have mP : P ∈ ([((([(6, ((-2147483648), 2147483647))], []), ([], ((k_pins 6, List.range 6), (7, ([], [.inl ([(6, 1)], 0)]))))), [7])] : List (AST × List Nat)) := mP
      exact List.mem_singleton.mp mP
    subst mP
    obtain ⟨t', σ', α', u1, u2, u3, u4, u5, -, u7⟩ := tP
    have s'1 : σ' 1 = x1.toInt := (con_s u4 1 (by decide)).trans s1
    have s'2 : σ' 2 = x2.toInt := (con_s u4 2 (by decide)).trans s2
    have s'3 : σ' 3 = x3.toInt := (con_s u4 3 (by decide)).trans s3
    have s'4 : σ' 4 = x4.toInt := (con_s u4 4 (by decide)).trans s4
    have s'5 : σ' 5 = x5.toInt := (con_s u4 5 (by decide)).trans s5
    have a'0 : α' 0 = o0 := (con_a u5 0 (by decide)).trans a0
    cases v with
    | none => exact u7.elim
    | some v =>
      obtain ⟨⟨x, e1, e2⟩, -⟩ := u7
      subst e1
      have e2 : x.toInt = (1 * σ' 6 + 0) + 0 := e2
      exact g0 ρ' h' (σ' 6) x f t' (by omega) (u1 _ (List.mem_of_getElem? (i := 0) rfl)) (kP 7 (by decide))
theorem c_k74 {ρ : Nat → Nat} {h : MH} {lv : List (Nat × Value)} {Q : Option Value → MH → Prop} {o0 : Nat} {o1 : Nat} {o2 : Nat} (hC : CCok c_CC ρ) (ht : TH c_sp ρ h) (l0 : m_lk lv 0 = some (.ref o0)) (l1 : m_lk lv 1 = some (.ref o1)) (l2 : m_lk lv 2 = some (.ref o2)) (r0 : ρ (o0) = 16) (r1 : ρ (o1) = 39) (r2 : ρ (o2) = 35) (t1 : c_PT 1 ρ h) (g0 : ∀ (ρ' : Nat → Nat) (h' : MH), FQ ρ ρ' c_m74.2.1 h h' → TH c_sp ρ' h' → c_PT 1 ρ' h' → Q none h') : HJ 74 0 lv [] h Q := by
  obtain ⟨σ, hσ⟩ : ∃ σ : Nat → Int, σ = fun k => 0 := ⟨_, rfl⟩
  obtain ⟨α, hα⟩ : ∃ α : Nat → Nat, α = fun k => if k = 0 then o0 else if k = 1 then o1 else if k = 2 then o2 else 0 := ⟨_, rfl⟩
  have a0 : α 0 = o0 := by rw [hα]; rfl
  have a1 : α 1 = o1 := by rw [hα]; rfl
  have a2 : α 2 = o2 := by rw [hα]; rfl
  clear hσ hα
  refine HJ.ofV (K := (k_pins 3).map (le_ev σ)) (KA := (List.range 3).map α) c_v74 hC ⟨ht, σ, α, fun q hq => ?_, fun q hq => ?_, fun q hq => ?_, rfl, rfl, fun q hq => ?_, trivial⟩ (fun t mt => ?_) (fun v h' ρ' f hP => ?_)
  · cases hq
  · cases hq
  · cases hq
  · have hq : q ∈ ([(0, .inr (.inr (0, (16, true)))), (1, .inr (.inr (1, (39, true)))), (2, .inr (.inr (2, (35, true))))] : List (Nat × AT)) := hq
    rcases List.mem_cons.mp hq with e | hq
    · rw [e]
      refine ⟨.ref (α 0), by rw [a0]; exact l0, rfl, ?_⟩
      show t_rf ρ 16 true (α 0)
      rw [a0]
      exact Or.inr ⟨th_na ht r0 (by decide), by decide, r0⟩
    · have hq := hq
      rcases List.mem_cons.mp hq with e | hq
      · rw [e]
        refine ⟨.ref (α 1), by rw [a1]; exact l1, rfl, ?_⟩
        show t_rf ρ 39 true (α 1)
        rw [a1]
        exact Or.inr ⟨th_na ht r1 (by decide), by decide, r1⟩
      · have hq := hq
        rw [List.mem_singleton.mp hq]
        refine ⟨.ref (α 2), by rw [a2]; exact l2, rfl, ?_⟩
        show t_rf ρ 35 true (α 2)
        rw [a2]
        exact Or.inr ⟨th_na ht r2 (by decide), by decide, r2⟩
  · have mt : t ∈ ([1] : List Nat) := mt
    simp only [List.mem_cons, List.not_mem_nil, or_false] at mt
    rcases mt with rfl
    · exact t1
  · obtain ⟨P, mP, tP, kP⟩ := hP
    have mP : P = ((([], []), ([], ((k_pins 3, List.range 3), (3, ([], []))))), [1]) := by
      have mP : P ∈ ([((([], []), ([], ((k_pins 3, List.range 3), (3, ([], []))))), [1])] : List (AST × List Nat)) := mP
      exact List.mem_singleton.mp mP
    subst mP
    obtain ⟨t', σ', α', u1, u2, u3, u4, u5, -, u7⟩ := tP
    have a'0 : α' 0 = o0 := (con_a u5 0 (by decide)).trans a0
    have a'1 : α' 1 = o1 := (con_a u5 1 (by decide)).trans a1
    have a'2 : α' 2 = o2 := (con_a u5 2 (by decide)).trans a2
    cases v with
    | some v => exact u7.elim
    | none =>
      exact g0 ρ' h'  f t' (kP 1 (by decide))
theorem c_k103 {ρ : Nat → Nat} {h : MH} {lv : List (Nat × Value)} {Q : Option Value → MH → Prop} {o0 : Nat} (hC : CCok c_CC ρ) (ht : TH c_sp ρ h) (l0 : m_lk lv 0 = some (.ref o0)) (r0 : ρ (o0) = 16) (g0 : ∀ (ρ' : Nat → Nat) (h' : MH), FQ ρ ρ' c_m103.2.1 h h' → TH c_sp ρ' h' → Q none h') : HJ 103 0 lv [] h Q := by
  obtain ⟨σ, hσ⟩ : ∃ σ : Nat → Int, σ = fun k => 0 := ⟨_, rfl⟩
  obtain ⟨α, hα⟩ : ∃ α : Nat → Nat, α = fun k => if k = 0 then o0 else 0 := ⟨_, rfl⟩
  have a0 : α 0 = o0 := by rw [hα]; rfl
  clear hσ hα
  refine HJ.ofV (K := (k_pins 1).map (le_ev σ)) (KA := (List.range 1).map α) c_v103 hC ⟨ht, σ, α, fun q hq => ?_, fun q hq => ?_, fun q hq => ?_, rfl, rfl, fun q hq => ?_, trivial⟩ (fun t mt => ?_) (fun v h' ρ' f hP => ?_)
  · cases hq
  · cases hq
  · cases hq
  · have hq : q ∈ ([(0, .inr (.inr (0, (16, true))))] : List (Nat × AT)) := hq
    rw [List.mem_singleton.mp hq]
    refine ⟨.ref (α 0), by rw [a0]; exact l0, rfl, ?_⟩
    show t_rf ρ 16 true (α 0)
    rw [a0]
    exact Or.inr ⟨th_na ht r0 (by decide), by decide, r0⟩
  · cases mt
  · obtain ⟨P, mP, tP, kP⟩ := hP
    have mP : P = ((([], []), ([], ((k_pins 1, List.range 1), (1, ([], []))))), []) := by
      have mP : P ∈ ([((([], []), ([], ((k_pins 1, List.range 1), (1, ([], []))))), [])] : List (AST × List Nat)) := mP
      exact List.mem_singleton.mp mP
    subst mP
    obtain ⟨t', σ', α', u1, u2, u3, u4, u5, -, u7⟩ := tP
    have a'0 : α' 0 = o0 := (con_a u5 0 (by decide)).trans a0
    cases v with
    | some v => exact u7.elim
    | none =>
      exact g0 ρ' h'  f t'
theorem c_k162 {ρ : Nat → Nat} {h : MH} {lv : List (Nat × Value)} {Q : Option Value → MH → Prop} {o0 : Nat} {x1 : Int32} {x2 : Int64} {x4 : Int32} (hC : CCok c_CC ρ) (ht : TH c_sp ρ h) (l0 : m_lk lv 0 = some (.ref o0)) (l1 : m_lk lv 1 = some (.int x1)) (l2 : m_lk lv 2 = some (.long x2)) (l4 : m_lk lv 4 = some (.int x4)) (r0 : ρ (o0) = 6) (t1 : c_PT 1 ρ h) (t2 : c_PT 2 ρ h) (g0 : ∀ (ρ' : Nat → Nat) (h' : MH) (x : Int64), FQ ρ ρ' c_m162.2.1 h h' → TH c_sp ρ' h' → c_PT 1 ρ' h' → c_PT 2 ρ' h' → Q (some (.long x)) h') : HJ 162 0 lv [] h Q := by
  obtain ⟨σ, hσ⟩ : ∃ σ : Nat → Int, σ = fun k => if k = 1 then x1.toInt else if k = 2 then x4.toInt else 0 := ⟨_, rfl⟩
  obtain ⟨α, hα⟩ : ∃ α : Nat → Nat, α = fun k => if k = 0 then o0 else 0 := ⟨_, rfl⟩
  have s1 : σ 1 = x1.toInt := by rw [hσ]; rfl
  have s2 : σ 2 = x4.toInt := by rw [hσ]; rfl
  have a0 : α 0 = o0 := by rw [hα]; rfl
  clear hσ hα
  refine HJ.ofV (K := (k_pins 3).map (le_ev σ)) (KA := (List.range 3).map α) c_v162 hC ⟨ht, σ, α, fun q hq => ?_, fun q hq => ?_, fun q hq => ?_, rfl, rfl, fun q hq => ?_, trivial⟩ (fun t mt => ?_) (fun v h' ρ' f hP => ?_)
  · have hq : q ∈ ([(1, ((-2147483648), 2147483647)), (2, ((-2147483648), 2147483647))] : List (Nat × (Int × Int))) := hq
    rcases List.mem_cons.mp hq with e | hq
    · rw [e]
      show (-2147483648) ≤ σ 1 ∧ σ 1 ≤ 2147483647
      rw [s1]
      exact g_iT _
    · have hq := hq
      rw [List.mem_singleton.mp hq]
      show (-2147483648) ≤ σ 2 ∧ σ 2 ≤ 2147483647
      rw [s2]
      exact g_iT _
  · cases hq
  · cases hq
  · have hq : q ∈ ([(0, .inr (.inr (0, (6, true)))), (1, .inl ([(1, 1)], 0)), (2, .inr (.inl ())), (4, .inl ([(2, 1)], 0))] : List (Nat × AT)) := hq
    rcases List.mem_cons.mp hq with e | hq
    · rw [e]
      refine ⟨.ref (α 0), by rw [a0]; exact l0, rfl, ?_⟩
      show t_rf ρ 6 true (α 0)
      rw [a0]
      exact Or.inr ⟨th_na ht r0 (by decide), by decide, r0⟩
    · have hq := hq
      rcases List.mem_cons.mp hq with e | hq
      · rw [e]
        refine ⟨.int x1, l1, x1, rfl, ?_⟩
        show x1.toInt = (1 * σ 1 + 0) + 0
        omega
      · have hq := hq
        rcases List.mem_cons.mp hq with e | hq
        · rw [e]
          exact ⟨.long x2, l2, x2, rfl⟩
        · have hq := hq
          rw [List.mem_singleton.mp hq]
          refine ⟨.int x4, l4, x4, rfl, ?_⟩
          show x4.toInt = (1 * σ 2 + 0) + 0
          omega
  · have mt : t ∈ ([1, 2] : List Nat) := mt
    simp only [List.mem_cons, List.not_mem_nil, or_false] at mt
    rcases mt with rfl | rfl
    · exact t1
    · exact t2
  · obtain ⟨P, mP, tP, kP⟩ := hP
    have mP : P = ((([], []), ([], ((k_pins 3, List.range 3), (3, ([], [.inr (.inl ())]))))), [1, 2]) := by
      have mP : P ∈ ([((([], []), ([], ((k_pins 3, List.range 3), (3, ([], [.inr (.inl ())]))))), [1, 2])] : List (AST × List Nat)) := mP
      exact List.mem_singleton.mp mP
    subst mP
    obtain ⟨t', σ', α', u1, u2, u3, u4, u5, -, u7⟩ := tP
    have s'1 : σ' 1 = x1.toInt := (con_s u4 1 (by decide)).trans s1
    have s'2 : σ' 2 = x4.toInt := (con_s u4 2 (by decide)).trans s2
    have a'0 : α' 0 = o0 := (con_a u5 0 (by decide)).trans a0
    cases v with
    | none => exact u7.elim
    | some v =>
      obtain ⟨⟨x, e1⟩, -⟩ := u7
      subst e1
      exact g0 ρ' h' x f t' (kP 1 (by decide)) (kP 2 (by decide))
end
section
-- A PAST FOR A ROW, AND ITS RUN: summaries and what is told, in one
theorem c_pf {ρ : Nat → Nat} {h : MH} {Q : Option Value → MH → Prop} {x1 : Int32} {k : Nat} (hC : CCok c_CC ρ) (ht : TH c_sp ρ h) (h16 : ρ 16 = 6) (n1 : c_PT 1 ρ h) (n2 : c_PT 2 ρ h) (pl : pl_t h) (b0 : 0 ≤ x1.toInt) (b3 : x1.toInt ≤ 3) (ek : x1.toInt.toNat = k) (g : ∀ (ρ' : Nat → Nat) (h' : MH) (p : Nat), FQ ρ ρ' c_m41.2.1 h h' → TH c_sp ρ' h' → c_PT 1 ρ' h' → c_PT 2 ρ' h' → ρ' p = 29 → (p ≠ 0 ∧ r_sl h' k = p) → pl_t h' → (∀ j, j ≠ k → r_sl h' j = r_sl h j) → (∀ s, s < 4 → sk h h' s) → Q (some (.ref p)) h') : HJ 41 0 (lv_args 0 [.ref 16, .int x1]) [] h Q := by
  subst ek
  refine HJ.both (r_pastFor ht h16 b0 b3 (Q := fun v h' => ∃ p, v = some (.ref p) ∧ pf_E h x1.toInt.toNat p h') (fun h' p E => ⟨p, rfl, E⟩)) (c_k41 (Q := fun v h' => ∃ ρ' p, v = some (.ref p) ∧ FQ ρ ρ' c_m41.2.1 h h' ∧ TH c_sp ρ' h' ∧ t_rf ρ' 29 true p ∧ c_PT 1 ρ' h' ∧ c_PT 2 ρ' h') hC ht rfl rfl h16 ⟨b0, b3⟩ n1 n2 (fun ρ' h' p f t r m1 m2 => ⟨ρ', p, rfl, f, t, r, m1, m2⟩)) (fun v h' ⟨p, ev, E⟩ ⟨ρ', p2, e2, f, t, r, m1, m2⟩ => ?_)
  subst ev
  cases e2
  obtain ⟨P1, P2, P3, P4⟩ := pf_pl ht h16 (by omega) pl E
  exact g ρ' h' p f t m1 m2 (t_nn r).2 P1 P2 P3 P4
theorem c_ruN {ρ : Nat → Nat} {h : MH} {Q : Option Value → MH → Prop} {p k c : Nat} (hC : CCok c_CC ρ) (ht : TH c_sp ρ h) (h16 : ρ 16 = 6) (n1 : c_PT 1 ρ h) (n2 : c_PT 2 ρ h) (pl : pl_t h) (hk : k < 4) (ep : p ≠ 0 ∧ r_sl h k = p) (hc : ρ c = 12) (av : av_c h c) (g : ∀ (ρ' : Nat → Nat) (h' : MH), FQ ρ ρ' c_m45.2.1 h h' → TH c_sp ρ' h' → c_PT 1 ρ' h' → c_PT 2 ρ' h' → pl_t h' → (∀ j, r_sl h' j = r_sl h j) → (∀ s, s < 4 → s ≠ k → sk h h' s) → bk_0 h' p (ac_Y h c) → Q none h') : HJ 45 0 (lv_args 0 [.ref p, .ref c]) [] h Q := by
  obtain ⟨p0, ep⟩ := ep
  subst ep
  have hp := sl_ob ht h16 hk p0
  obtain ⟨ao, q0, q40⟩ := ac_okTN ht hp hc
  have n40 : ac_N h c ≤ 40 := by
    unfold ac_N
    omega
  refine HJ.both (k_runAll (pa_okT ht n1 hp (pl k hk p0).1) ao (ac_ofT q0) n40 (fun q hq => av q (by unfold ac_N at hq; omega)) (Q := fun v h' => v = none ∧ (pk_of h' (r_sl h k) (ac_Y h c) ∧ hd_0 h' (r_sl h k) (ac_Y h c)) ∧ FW (h_r h (r_sl h k) 0) (run_Y h (r_sl h k)) h h') (fun h' _ _ _ _ pk F hd => ⟨rfl, ⟨pk, hd⟩, F⟩)) (c_k45 (Q := fun v h' => ∃ ρ', FQ ρ ρ' c_m45.2.1 h h' ∧ TH c_sp ρ' h' ∧ c_PT 1 ρ' h' ∧ c_PT 2 ρ' h') hC ht rfl rfl hp hc n1 n2 (fun ρ' h' f t m1 m2 => ⟨ρ', f, t, m1, m2⟩)) (fun v h' ⟨ev, pk, F⟩ ⟨ρ', f, t, m1, m2⟩ => ?_)
  subst ev
  obtain ⟨P1, P2, P3⟩ := run_pl ht h16 pl hk p0 (F.mono (fun a z => Or.inl z))
  exact g ρ' h' f t m1 m2 P1 P2 (fun s hs hn s0 => ⟨P2 s, P3 s hs hn s0⟩) (bk_pk pk.1 pk.2)
theorem c_ruT {ρ : Nat → Nat} {h : MH} {Q : Option Value → MH → Prop} {p k c : Nat} (hC : CCok c_CC ρ) (ht : TH c_sp ρ h) (h16 : ρ 16 = 6) (n1 : c_PT 1 ρ h) (n2 : c_PT 2 ρ h) (pl : pl_t h) (hk : k < 4) (ep : p ≠ 0 ∧ r_sl h k = p) (hc : ρ c = 103) (av : av_c h c) (g : ∀ (ρ' : Nat → Nat) (h' : MH), FQ ρ ρ' c_m3045.2.1 h h' → TH c_sp ρ' h' → c_PT 1 ρ' h' → c_PT 2 ρ' h' → pl_t h' → (∀ j, r_sl h' j = r_sl h j) → (∀ s, s < 4 → s ≠ k → sk h h' s) → bk_0 h' p (ac_Y h c) → Q none h') : HJ 45 0 (lv_args 0 [.ref p, .ref c]) [] h Q := by
  obtain ⟨p0, ep⟩ := ep
  subst ep
  have hp := sl_ob ht h16 hk p0
  obtain ⟨ao, q0, q40⟩ := ac_okTT ht hp hc
  have n40 : ac_N h c ≤ 40 := by
    unfold ac_N
    omega
  refine HJ.both (k_runAll (pa_okT ht n1 hp (pl k hk p0).1) ao (ac_ofT q0) n40 (fun q hq => av q (by unfold ac_N at hq; omega)) (Q := fun v h' => v = none ∧ (pk_of h' (r_sl h k) (ac_Y h c) ∧ hd_0 h' (r_sl h k) (ac_Y h c)) ∧ FW (h_r h (r_sl h k) 0) (run_Y h (r_sl h k)) h h') (fun h' _ _ _ _ pk F hd => ⟨rfl, ⟨pk, hd⟩, F⟩)) (c_k3045 (Q := fun v h' => ∃ ρ', FQ ρ ρ' c_m3045.2.1 h h' ∧ TH c_sp ρ' h' ∧ c_PT 1 ρ' h' ∧ c_PT 2 ρ' h') hC ht rfl rfl hp hc n1 n2 (fun ρ' h' f t m1 m2 => ⟨ρ', f, t, m1, m2⟩)) (fun v h' ⟨ev, pk, F⟩ ⟨ρ', f, t, m1, m2⟩ => ?_)
  subst ev
  obtain ⟨P1, P2, P3⟩ := run_pl ht h16 pl hk p0 (F.mono (fun a z => Or.inl z))
  exact g ρ' h' f t m1 m2 P1 P2 (fun s hs hn s0 => ⟨P2 s, P3 s hs hn s0⟩) (bk_pk pk.1 pk.2)
end
section
-- THE CLASS'S TEXTS, told by what they leave
section
variable {lv : List (Nat × Value)} {Q : Option Value → MH → Prop} {W : List (Nat × Nat)} {ρ : Nat → Nat} {m : Nat} {A : Nat → Nat} {h0 h : MH} {F : Nat → Int} {V : Nat → Nat → Int} {G : Nat → Nat → Int64}
theorem s_ir0 {r : Int} (M : MX 7 W ρ m A h0 h F V G) (e0 : m_lk lv 0 = some (.ref 16)) {lx1 : Int32} (e1 : m_lk lv 1 = some (.int lx1)) (lq1 : lx1.toInt = r) (h16 : ρ 16 = 6) (hP0 : h_r h0 16 0 = m) (hn0 : d_no [(6, 0)] W = true)
    (g0 : ∀ x1 : Int32, x1.toInt = 0 → r < 0 → Q (some (.int x1)) h)
    (g1 : ∀ x3 : Int32, x3.toInt = 0 → r ≥ 0 → 0 ≤ F 5 → F 5 ≤ 4 → r ≥ F 5 → Q (some (.int x3)) h)
    (g2 : ∀ x5 : Int32, x5.toInt = 0 → r ≥ 0 → 0 ≤ F 5 → F 5 ≤ 4 → r < F 5 → r ≥ 4 → Q (some (.int x5)) h)
    (g3 : ∀ x6 : Int32, x6.toInt = 1 → r ≥ 0 → 0 ≤ F 5 → F 5 ≤ 4 → r < F 5 → r < 4 → Q (some (.int x6)) h)
    : HJ 11 0 lv [] h Q := by
  refine hI_il (k := 1) rfl e1 rfl ?_ -- 0
  refine hM_zlt (off := 23) (t := 24) rfl lq1 (by decide) rfl (fun c1 => ?_) (fun c1 => ?_) -- 1
  · refine hM_ic (n := 0) rfl (by decide) rfl (fun x1 q1 => ?_) -- 24
    refine hM_rb rfl rfl q1 (by omega) (by omega) ?_ -- 25
    exact g0 x1 q1 c1
  · refine hI_il (k := 1) rfl e1 rfl ?_ -- 4
    refine hI_al (k := 0) rfl e0 rfl ?_ -- 5
    refine hM_gP (k := 0) M h16 hP0 hn0 (by decide) rfl rfl rfl rfl ?_ -- 6
    refine hM_gi M (by decide) rfl rfl rfl (k := 5) (c := 6) (lo := 0) (hi := 4) rfl rfl rfl rfl rfl (fun x2 q2 a2 b2 => ?_) -- 9
    refine hM_cge (off := 12) (t := 24) rfl lq1 q2 (by decide) rfl (fun c12 => ?_) (fun c12 => ?_) -- 12
    · refine hM_ic (n := 0) rfl (by decide) rfl (fun x3 q3 => ?_) -- 24
      refine hM_rb rfl rfl q3 (by omega) (by omega) ?_ -- 25
      exact g1 x3 q3 c1 a2 b2 c12
    · refine hI_il (k := 1) rfl e1 rfl ?_ -- 15
      refine hM_ic (n := 4) rfl (by decide) rfl (fun x4 q4 => ?_) -- 16
      refine hM_cge (off := 7) (t := 24) rfl lq1 q4 (by decide) rfl (fun c17 => ?_) (fun c17 => ?_) -- 17
      · refine hM_ic (n := 0) rfl (by decide) rfl (fun x5 q5 => ?_) -- 24
        refine hM_rb rfl rfl q5 (by omega) (by omega) ?_ -- 25
        exact g2 x5 q5 c1 a2 b2 c12 c17
      · refine hM_ic (n := 1) rfl (by decide) rfl (fun x6 q6 => ?_) -- 20
        refine hI_go (pc' := 25) (off := 4) rfl (by decide) ?_ -- 21
        refine hM_rb rfl rfl q6 (by omega) (by omega) ?_ -- 25
        exact g3 x6 q6 c1 a2 b2 c12 c17
theorem s_tx0 {a : Int} (M : MX 7 W ρ m A h0 h F V G) (e0 : m_lk lv 0 = some (.ref 16)) {lx1 : Int32} (e1 : m_lk lv 1 = some (.int lx1)) (lq1 : lx1.toInt = a) {rd : Nat} (hr_rd : ρ rd = 11) {ac : Nat} (hr_ac : ρ ac = 103) (h16 : ρ 16 = 6) (hP0 : h_r h0 16 0 = m) (hn0 : d_no [(6, 0)] W = true)(hw : d_sub [(7, 2), (7, 3), (7, 4)] W = true)
    (g0 : ∀ x1 : Int32, x1.toInt = F 2 → ∀ h4 : MH, ∀ F4 : Nat → Int, F4 = m_u F 2 (0) → ∀ h6 : MH, ∀ F6 : Nat → Int, F6 = m_u F4 3 (0) → ∀ h8 : MH, ∀ F8 : Nat → Int, F8 = m_u F6 4 ((-1)) → ∀ lv10 : List (Nat × Value), MX 7 W ρ m A h0 h8 F8 V G → m_lk lv10 0 = some (.ref 16) → m_lk lv10 1 = some (.int lx1) → m_lk lv10 2 = some (.int x1) → m_lk lv10 3 = some (.int lx1) → 0 ≤ F 2 → F 2 ≤ 600 → a ≠ (-1) → HJ 11 0 (lv_args 0 [.ref 16, .int lx1]) [] h8 (fun v h' => HJ 10 78 lv10 (v.toList ++ []) h' Q))
    (g1 : ∀ h4 : MH, ∀ F4 : Nat → Int, F4 = m_u F 2 (0) → ∀ h6 : MH, ∀ F6 : Nat → Int, F6 = m_u F4 3 (0) → ∀ h8 : MH, ∀ F8 : Nat → Int, F8 = m_u F6 4 ((-1)) → ∀ x19 : Int32, x19.toInt = (-2) → ∀ lv18 : List (Nat × Value), MX 7 W ρ m A h0 h8 F8 V G → 0 ≤ F 2 → F 2 ≤ 600 → a = (-1) → 0 ≤ F 5 → F 5 ≤ 4 → F 5 ≥ 4 → Q (some (.int x19)) h8)
    (g2 : ∀ h4 : MH, ∀ F4 : Nat → Int, F4 = m_u F 2 (0) → ∀ h6 : MH, ∀ F6 : Nat → Int, F6 = m_u F4 3 (0) → ∀ h8 : MH, ∀ F8 : Nat → Int, F8 = m_u F6 4 ((-1)) → ∀ x22 : Int32, x22.toInt = (-2) → ∀ lv21 : List (Nat × Value), MX 7 W ρ m A h0 h8 F8 V G → 0 ≤ F 2 → F 2 ≤ 600 → a = (-1) → 0 ≤ F 5 → F 5 ≤ 4 → F 5 < 4 → F 5 < 0 → Q (some (.int x22)) h8)
    (g3 : ∀ x1 : Int32, x1.toInt = F 2 → ∀ h4 : MH, ∀ F4 : Nat → Int, F4 = m_u F 2 (0) → ∀ h6 : MH, ∀ F6 : Nat → Int, F6 = m_u F4 3 (0) → ∀ h8 : MH, ∀ F8 : Nat → Int, F8 = m_u F6 4 ((-1)) → ∀ x12 : Int32, x12.toInt = F 5 → ∀ lv21 : List (Nat × Value), MX 7 W ρ m A h0 h8 F8 V G → m_lk lv21 0 = some (.ref 16) → m_lk lv21 1 = some (.int lx1) → m_lk lv21 2 = some (.int x1) → m_lk lv21 3 = some (.int x12) → 0 ≤ F 2 → F 2 ≤ 600 → a = (-1) → 0 ≤ F 5 → F 5 ≤ 4 → F 5 < 4 → F 5 ≥ 0 → HJ 10 97 lv21 [] h8 Q)
    : HJ 10 0 lv [] h Q := by
  refine hI_al (k := 0) rfl e0 rfl ?_ -- 0
  refine hM_gP (k := 0) M h16 hP0 hn0 (by decide) rfl rfl rfl rfl ?_ -- 1
  refine hM_gi M (by decide) rfl rfl rfl (k := 2) (c := 6) (lo := 0) (hi := 600) rfl rfl rfl rfl rfl (fun x1 q1 a1 b1 => ?_) -- 4
  refine hM_si (k := 2) rfl (by decide +kernel) rfl (fun lv2 e2_2 u2 => ?_) -- 7
  have e2_0 := u2 0 _ (by decide) (Or.inl rfl) e0
  have e2_1 := u2 1 _ (by decide) (Or.inl rfl) e1
  refine hI_al (k := 0) rfl e2_0 rfl ?_ -- 8
  refine hM_gP (k := 0) M h16 hP0 hn0 (by decide) rfl rfl rfl rfl ?_ -- 9
  refine hM_ic (n := 0) rfl (by decide) rfl (fun x3 q3 => ?_) -- 12
  refine hM_pi M (by decide) ok_7 rfl rfl (k := 2) (c := 6) (lo := 0) (hi := 600) rfl rfl ⟨by decide, by decide +kernel, rfl⟩ rfl (d_subm hw (by decide +kernel)) q3 (by omega) (by omega) rfl (fun h4 F4 f4 M4 => ?_) -- 13
  refine hI_al (k := 0) rfl e2_0 rfl ?_ -- 16
  refine hM_gP (k := 0) M4 h16 hP0 hn0 (by decide) rfl rfl rfl rfl ?_ -- 17
  refine hM_ic (n := 0) rfl (by decide) rfl (fun x5 q5 => ?_) -- 20
  refine hM_pi M4 (by decide) ok_7 rfl rfl (k := 3) (c := 6) (lo := (-2147483648)) (hi := 2147483647) rfl rfl ⟨by decide, by decide +kernel, rfl⟩ rfl (d_subm hw (by decide +kernel)) q5 (by omega) (by omega) rfl (fun h6 F6 f6 M6 => ?_) -- 21
  refine hI_al (k := 0) rfl e2_0 rfl ?_ -- 24
  refine hM_gP (k := 0) M6 h16 hP0 hn0 (by decide) rfl rfl rfl rfl ?_ -- 25
  refine hM_ic (n := (-1)) rfl (by decide) rfl (fun x7 q7 => ?_) -- 28
  refine hM_pi M6 (by decide) ok_7 rfl rfl (k := 4) (c := 6) (lo := (-2147483648)) (hi := 2147483647) rfl rfl ⟨by decide, by decide +kernel, rfl⟩ rfl (d_subm hw (by decide +kernel)) q7 (by omega) (by omega) rfl (fun h8 F8 f8 M8 => ?_) -- 29
  refine hI_il (k := 1) rfl e2_1 rfl ?_ -- 32
  refine hM_ic (n := (-1)) rfl (by decide) rfl (fun x9 q9 => ?_) -- 33
  refine hM_cne (off := 13) (t := 47) rfl lq1 q9 (by decide) rfl (fun c34 => ?_) (fun c34 => ?_) -- 34
  · refine hI_il (k := 1) rfl e2_1 rfl ?_ -- 47
    refine hM_si (k := 3) rfl (by decide +kernel) rfl (fun lv10 e10_3 u10 => ?_) -- 48
    have e10_0 := u10 0 _ (by decide) (Or.inl rfl) e2_0
    have e10_1 := u10 1 _ (by decide) (Or.inl rfl) e2_1
    have e10_2 := u10 2 _ (by decide) (Or.inl rfl) e2_2
    refine hI_il (k := 1) rfl e10_1 rfl ?_ -- 49
    refine hM_ic (n := (-1)) rfl (by decide) rfl (fun x11 q11 => ?_) -- 50
    refine hM_cne (off := 22) (t := 73) rfl lq1 q11 (by decide) rfl (fun c51 => ?_) (fun c51 => ?_) -- 51
    · refine hI_al (k := 0) rfl e10_0 rfl ?_ -- 73
      refine hI_il (k := 1) rfl e10_1 rfl ?_ -- 74
      refine hM_iv (MX.start (W := W) M8.1.1 h16) (by decide) rfl rfl (by decide) (as := [.int lx1]) (r := []) rfl rfl (by decide +kernel) rfl (by decide +kernel) rfl rfl rfl rfl rfl ?_ -- 75
      exact g0 x1 q1 h4 F4 f4 h6 F6 f6 h8 F8 f8 lv10 M8 e10_0 e10_1 e10_2 e10_3 a1 b1 c34
    · exfalso; omega
  · refine hI_al (k := 0) rfl e2_0 rfl ?_ -- 37
    refine hM_gP (k := 0) M8 h16 hP0 hn0 (by decide) rfl rfl rfl rfl ?_ -- 38
    refine hM_gi M8 (by decide) rfl rfl rfl (k := 5) (c := 6) (lo := 0) (hi := 4) rfl rfl rfl rfl rfl (fun x12 q12 a12 b12 => ?_) -- 41
    have q12 : x12.toInt = F 5 := by rw [q12, f8, f6, f4]; rfl
    have a12 := a12
    rw [f8, f6, f4] at a12 b12
    change 0 ≤ F 5 at a12
    change F 5 ≤ 4 at b12 -- 41
    refine hI_go (pc' := 48) (off := 4) rfl (by decide) ?_ -- 44
    refine hM_si (k := 3) rfl (by decide +kernel) rfl (fun lv13 e13_3 u13 => ?_) -- 48
    have e13_0 := u13 0 _ (by decide) (Or.inl rfl) e2_0
    have e13_1 := u13 1 _ (by decide) (Or.inl rfl) e2_1
    have e13_2 := u13 2 _ (by decide) (Or.inl rfl) e2_2
    refine hI_il (k := 1) rfl e13_1 rfl ?_ -- 49
    refine hM_ic (n := (-1)) rfl (by decide) rfl (fun x14 q14 => ?_) -- 50
    refine hM_cne (off := 22) (t := 73) rfl lq1 q14 (by decide) rfl (fun c51 => ?_) (fun c51 => ?_) -- 51
    · exfalso; omega
    · refine hI_al (k := 0) rfl e13_0 rfl ?_ -- 54
      refine hM_gP (k := 0) M8 h16 hP0 hn0 (by decide) rfl rfl rfl rfl ?_ -- 55
      refine hM_gi M8 (by decide) rfl rfl rfl (k := 5) (c := 6) (lo := 0) (hi := 4) rfl rfl rfl rfl rfl (fun x15 q15 a15 b15 => ?_) -- 58
      have q15 : x15.toInt = F 5 := by rw [q15, f8, f6, f4]; rfl
      have a15 := a15
      rw [f8, f6, f4] at a15 b15
      change 0 ≤ F 5 at a15
      change F 5 ≤ 4 at b15 -- 58
      refine hM_ic (n := 4) rfl (by decide) rfl (fun x16 q16 => ?_) -- 61
      refine hM_cge (off := 7) (t := 69) rfl q15 q16 (by decide) rfl (fun c62 => ?_) (fun c62 => ?_) -- 62
      · refine hM_ic (n := 0) rfl (by decide) rfl (fun x17 q17 => ?_) -- 69
        refine hI_go (pc' := 78) (off := 8) rfl (by decide) ?_ -- 70
        refine hM_si2 (k := 4) rfl (by decide +kernel) rfl (fun lv18 e18_4 u18 => ?_) -- 78
        have e18_0 := u18 0 _ (by decide) (Or.inl rfl) e13_0
        have e18_1 := u18 1 _ (by decide) (Or.inl rfl) e13_1
        have e18_2 := u18 2 _ (by decide) (Or.inl rfl) e13_2
        have e18_3 := u18 3 _ (by decide) (Or.inl rfl) e13_3
        refine hI_il2 (k := 4) rfl e18_4 rfl ?_ -- 80
        refine hM_zeq (off := 12) (t := 94) rfl q17 (by decide) rfl (fun c82 => ?_) (fun c82 => ?_) -- 82
        · refine hM_bp (n := (-2)) rfl (by decide) rfl (fun x19 q19 => ?_) -- 94
          refine hI_ri rfl rfl ?_ -- 96
          exact g1 h4 F4 f4 h6 F6 f6 h8 F8 f8 x19 q19 lv18 M8 a1 b1 c34 a12 b12 c62
        · exfalso; omega
      · refine hM_ic (n := 1) rfl (by decide) rfl (fun x20 q20 => ?_) -- 65
        refine hI_go (pc' := 78) (off := 12) rfl (by decide) ?_ -- 66
        refine hM_si2 (k := 4) rfl (by decide +kernel) rfl (fun lv21 e21_4 u21 => ?_) -- 78
        have e21_0 := u21 0 _ (by decide) (Or.inl rfl) e13_0
        have e21_1 := u21 1 _ (by decide) (Or.inl rfl) e13_1
        have e21_2 := u21 2 _ (by decide) (Or.inl rfl) e13_2
        have e21_3 := u21 3 _ (by decide) (Or.inl rfl) e13_3
        refine hI_il2 (k := 4) rfl e21_4 rfl ?_ -- 80
        refine hM_zeq (off := 12) (t := 94) rfl q20 (by decide) rfl (fun c82 => ?_) (fun c82 => ?_) -- 82
        · exfalso; omega
        · refine hI_il (k := 3) rfl e21_3 rfl ?_ -- 85
          refine hM_zlt (off := 8) (t := 94) rfl q12 (by decide) rfl (fun c86 => ?_) (fun c86 => ?_) -- 86
          · refine hM_bp (n := (-2)) rfl (by decide) rfl (fun x22 q22 => ?_) -- 94
            refine hI_ri rfl rfl ?_ -- 96
            exact g2 h4 F4 f4 h6 F6 f6 h8 F8 f8 x22 q22 lv21 M8 a1 b1 c34 a12 b12 c62 c86
          · refine hI_il (k := 3) rfl e21_3 rfl ?_ -- 89
            refine hM_ic (n := 4) rfl (by decide) rfl (fun x23 q23 => ?_) -- 90
            refine hM_clt (off := 6) (t := 97) rfl q12 q23 (by decide) rfl (fun c91 => ?_) (fun c91 => ?_) -- 91
            · exact g3 x1 q1 h4 F4 f4 h6 F6 f6 h8 F8 f8 x12 q12 lv21 M8 e21_0 e21_1 e21_2 e21_3 a1 b1 c34 a12 b12 c62 c86
            · exfalso; omega
theorem s_tx78 {a n r z : Int} (M : MX 7 W ρ m A h0 h F V G) (e0 : m_lk lv 0 = some (.ref 16)) {lx1 : Int32} (e1 : m_lk lv 1 = some (.int lx1)) (lq1 : lx1.toInt = a) {lx2 : Int32} (e2 : m_lk lv 2 = some (.int lx2)) (lq2 : lx2.toInt = n) {lx3 : Int32} (e3 : m_lk lv 3 = some (.int lx3)) (lq3 : lx3.toInt = r) {sx0 : Int32} (sq0 : sx0.toInt = z) {rd : Nat} (hr_rd : ρ rd = 11) {ac : Nat} (hr_ac : ρ ac = 103) (h16 : ρ 16 = 6)
    (g0 : ∀ x2 : Int32, x2.toInt = (-2) → ∀ lv1 : List (Nat × Value), z = 0 → Q (some (.int x2)) h)
    (g1 : ∀ x3 : Int32, x3.toInt = (-2) → ∀ lv1 : List (Nat × Value), z ≠ 0 → r < 0 → Q (some (.int x3)) h)
    (g2 : ∀ lv1 : List (Nat × Value), m_lk lv1 0 = some (.ref 16) → m_lk lv1 2 = some (.int lx2) → m_lk lv1 3 = some (.int lx3) → z ≠ 0 → r ≥ 0 → r < 4 → HJ 10 97 lv1 [] h Q)
    (g3 : ∀ x5 : Int32, x5.toInt = (-2) → ∀ lv1 : List (Nat × Value), z ≠ 0 → r ≥ 0 → r ≥ 4 → Q (some (.int x5)) h)
    : HJ 10 78 lv [.int sx0] h Q := by
  refine hM_si2 (k := 4) rfl (by decide +kernel) rfl (fun lv1 e1_4 u1 => ?_) -- 78
  have e1_0 := u1 0 _ (by decide) (Or.inl rfl) e0
  have e1_1 := u1 1 _ (by decide) (Or.inl rfl) e1
  have e1_2 := u1 2 _ (by decide) (Or.inl rfl) e2
  have e1_3 := u1 3 _ (by decide) (Or.inl rfl) e3
  refine hI_il2 (k := 4) rfl e1_4 rfl ?_ -- 80
  refine hM_zeq (off := 12) (t := 94) rfl sq0 (by decide) rfl (fun c82 => ?_) (fun c82 => ?_) -- 82
  · refine hM_bp (n := (-2)) rfl (by decide) rfl (fun x2 q2 => ?_) -- 94
    refine hI_ri rfl rfl ?_ -- 96
    exact g0 x2 q2 lv1 c82
  · refine hI_il (k := 3) rfl e1_3 rfl ?_ -- 85
    refine hM_zlt (off := 8) (t := 94) rfl lq3 (by decide) rfl (fun c86 => ?_) (fun c86 => ?_) -- 86
    · refine hM_bp (n := (-2)) rfl (by decide) rfl (fun x3 q3 => ?_) -- 94
      refine hI_ri rfl rfl ?_ -- 96
      exact g1 x3 q3 lv1 c82 c86
    · refine hI_il (k := 3) rfl e1_3 rfl ?_ -- 89
      refine hM_ic (n := 4) rfl (by decide) rfl (fun x4 q4 => ?_) -- 90
      refine hM_clt (off := 6) (t := 97) rfl lq3 q4 (by decide) rfl (fun c91 => ?_) (fun c91 => ?_) -- 91
      · exact g2 lv1 e1_0 e1_2 e1_3 c82 c86 c91
      · refine hM_bp (n := (-2)) rfl (by decide) rfl (fun x5 q5 => ?_) -- 94
        refine hI_ri rfl rfl ?_ -- 96
        exact g3 x5 q5 lv1 c82 c86 c91
theorem s_tx97 {n r : Int} (M : MX 7 W ρ m A h0 h F V G) (e0 : m_lk lv 0 = some (.ref 16)) {lx2 : Int32} (e2 : m_lk lv 2 = some (.int lx2)) (lq2 : lx2.toInt = n) {lx3 : Int32} (e3 : m_lk lv 3 = some (.int lx3)) (lq3 : lx3.toInt = r) {rd : Nat} (hr_rd : ρ rd = 11) {ac : Nat} (hr_ac : ρ ac = 103) (h16 : ρ 16 = 6) (hP0 : h_r h0 16 0 = m) (hn0 : d_no [(6, 0)] W = true) (hP3 : h_r h0 16 3 = rd) (hn3 : d_no [(6, 3)] W = true) (hP4 : h_r h0 16 4 = ac) (hn4 : d_no [(6, 4)] W = true)
    (g0 : HJ 12 0 (lv_args 0 [.ref rd, .ref (A 0), .int lx2, .ref ac]) [] h (fun v h' => HJ 10 116 lv (v.toList ++ []) h' Q))
    : HJ 10 97 lv [] h Q := by
  refine hI_al (k := 0) rfl e0 rfl ?_ -- 97
  refine hM_gP (k := 3) M h16 hP3 hn3 (by decide) rfl rfl rfl rfl ?_ -- 98
  refine hI_al (k := 0) rfl e0 rfl ?_ -- 101
  refine hM_gP (k := 0) M h16 hP0 hn0 (by decide) rfl rfl rfl rfl ?_ -- 102
  refine hM_ga M (by decide) rfl rfl (k := 0) (c := 6) rfl rfl rfl (by decide +kernel) rfl ?_ -- 105
  refine hI_il (k := 2) rfl e2 rfl ?_ -- 108
  refine hI_al (k := 0) rfl e0 rfl ?_ -- 109
  refine hM_gP (k := 4) M h16 hP4 hn4 (by decide) rfl rfl rfl rfl ?_ -- 110
  refine hM_iv (MX.start (W := W) M.1.1 hr_rd) (by decide) rfl rfl (by decide) (as := [.ref (A 0), .int lx2, .ref ac]) (r := []) rfl rfl (by decide +kernel) rfl (by decide +kernel) rfl rfl rfl rfl rfl ?_ -- 113
  exact g0 
theorem s_tx116 {r : Int} (M : MX 7 W ρ m A h0 h F V G) (e0 : m_lk lv 0 = some (.ref 16)) {lx3 : Int32} (e3 : m_lk lv 3 = some (.int lx3)) (lq3 : lx3.toInt = r) {rd : Nat} (hr_rd : ρ rd = 11) {ac : Nat} (hr_ac : ρ ac = 103) (h16 : ρ 16 = 6) (hP0 : h_r h0 16 0 = m) (hn0 : d_no [(6, 0)] W = true) (hP3 : h_r h0 16 3 = rd) (hn3 : d_no [(6, 3)] W = true)(hw : d_sub [(7, 3)] W = true)
    (g0 : ∀ h2 : MH, ∀ F2 : Nat → Int, F2 = m_u F 3 ((h_i h rd 7).toInt) → MX 7 W ρ m A h0 h2 F2 V G → HJ 10 130 lv [] h2 Q)
    : HJ 10 116 lv [] h Q := by
  refine hI_al (k := 0) rfl e0 rfl ?_ -- 116
  refine hM_gP (k := 0) M h16 hP0 hn0 (by decide) rfl rfl rfl rfl ?_ -- 117
  refine hI_al (k := 0) rfl e0 rfl ?_ -- 120
  refine hM_gP (k := 3) M h16 hP3 hn3 (by decide) rfl rfl rfl rfl ?_ -- 121
  refine hM_go (k := 7) (c := 4) M.1.1 hr_rd (by decide) rfl rfl rfl rfl rfl rfl (fun x1 q1 => ?_) -- 124
  have gb1 : -2147483648 ≤ (h_i h rd 7).toInt ∧ (h_i h rd 7).toInt ≤ 2147483647 := g_iT _
  refine hM_pi M (by decide) ok_7 rfl rfl (k := 3) (c := 6) (lo := (-2147483648)) (hi := 2147483647) rfl rfl ⟨by decide, by decide +kernel, rfl⟩ rfl (d_subm hw (by decide +kernel)) q1 (by omega) (by omega) rfl (fun h2 F2 f2 M2 => ?_) -- 127
  exact g0 h2 F2 f2 M2
theorem s_tx130 {r : Int} (M : MX 7 W ρ m A h0 h F V G) (e0 : m_lk lv 0 = some (.ref 16)) {lx3 : Int32} (e3 : m_lk lv 3 = some (.int lx3)) (lq3 : lx3.toInt = r) {rd : Nat} (hr_rd : ρ rd = 11) {ac : Nat} (hr_ac : ρ ac = 103) (h16 : ρ 16 = 6) (hP0 : h_r h0 16 0 = m) (hn0 : d_no [(6, 0)] W = true) (hP3 : h_r h0 16 3 = rd) (hn3 : d_no [(6, 3)] W = true)(hw : d_sub [(7, 4)] W = true)
    (g0 : ∀ h2 : MH, ∀ F2 : Nat → Int, F2 = m_u F 4 ((h_i h rd 8).toInt) → MX 7 W ρ m A h0 h2 F2 V G → (-2147483648) ≤ F 3 → F 3 ≤ 2147483647 → F 3 = 0 → HJ 10 156 lv [] h2 Q)
    (g1 : ∀ h2 : MH, ∀ F2 : Nat → Int, F2 = m_u F 4 ((h_i h rd 8).toInt) → ∀ x4 : Int32, x4.toInt = (-1) → MX 7 W ρ m A h0 h2 F2 V G → (-2147483648) ≤ F 3 → F 3 ≤ 2147483647 → F 3 ≠ 0 → Q (some (.int x4)) h2)
    : HJ 10 130 lv [] h Q := by
  refine hI_al (k := 0) rfl e0 rfl ?_ -- 130
  refine hM_gP (k := 0) M h16 hP0 hn0 (by decide) rfl rfl rfl rfl ?_ -- 131
  refine hI_al (k := 0) rfl e0 rfl ?_ -- 134
  refine hM_gP (k := 3) M h16 hP3 hn3 (by decide) rfl rfl rfl rfl ?_ -- 135
  refine hM_go (k := 8) (c := 4) M.1.1 hr_rd (by decide) rfl rfl rfl rfl rfl rfl (fun x1 q1 => ?_) -- 138
  have gb1 : -2147483648 ≤ (h_i h rd 8).toInt ∧ (h_i h rd 8).toInt ≤ 2147483647 := g_iT _
  refine hM_pi M (by decide) ok_7 rfl rfl (k := 4) (c := 6) (lo := (-2147483648)) (hi := 2147483647) rfl rfl ⟨by decide, by decide +kernel, rfl⟩ rfl (d_subm hw (by decide +kernel)) q1 (by omega) (by omega) rfl (fun h2 F2 f2 M2 => ?_) -- 141
  refine hI_al (k := 0) rfl e0 rfl ?_ -- 144
  refine hM_gP (k := 0) M2 h16 hP0 hn0 (by decide) rfl rfl rfl rfl ?_ -- 145
  refine hM_gi M2 (by decide) rfl rfl rfl (k := 3) (c := 6) (lo := (-2147483648)) (hi := 2147483647) rfl rfl rfl rfl rfl (fun x3 q3 a3 b3 => ?_) -- 148
  have q3 : x3.toInt = F 3 := by rw [q3, f2]; rfl
  have a3 := a3
  rw [f2] at a3 b3
  change (-2147483648) ≤ F 3 at a3
  change F 3 ≤ 2147483647 at b3 -- 148
  refine hM_zeq (off := 5) (t := 156) rfl q3 (by decide) rfl (fun c151 => ?_) (fun c151 => ?_) -- 151
  · exact g0 h2 F2 f2 M2 a3 b3 c151
  · refine hM_ic (n := (-1)) rfl (by decide) rfl (fun x4 q4 => ?_) -- 154
    refine hI_ri rfl rfl ?_ -- 155
    exact g1 h2 F2 f2 x4 q4 M2 a3 b3 c151
theorem s_tx184 {r : Int} (M : MX 7 W ρ m A h0 h F V G) (e0 : m_lk lv 0 = some (.ref 16)) {lx3 : Int32} (e3 : m_lk lv 3 = some (.int lx3)) (lq3 : lx3.toInt = r) {rd : Nat} (hr_rd : ρ rd = 11) {ac : Nat} (hr_ac : ρ ac = 103) (r3 : F 5 = r → r ≤ 3)(h16 : ρ 16 = 6) (hP0 : h_r h0 16 0 = m) (hn0 : d_no [(6, 0)] W = true)(hw : d_sub [(7, 5)] W = true)
    (g0 : 0 ≤ F 5 → F 5 ≤ 4 → r ≠ F 5 → Q (some (.int lx3)) h)
    (g1 : ∀ h5 : MH, ∀ F5 : Nat → Int, F5 = m_u F 5 ((F 5) + 1) → MX 7 W ρ m A h0 h5 F5 V G → 0 ≤ F 5 → F 5 ≤ 4 → r = F 5 → Q (some (.int lx3)) h5)
    : HJ 10 184 lv [] h Q := by
  refine hI_il (k := 3) rfl e3 rfl ?_ -- 184
  refine hI_al (k := 0) rfl e0 rfl ?_ -- 185
  refine hM_gP (k := 0) M h16 hP0 hn0 (by decide) rfl rfl rfl rfl ?_ -- 186
  refine hM_gi M (by decide) rfl rfl rfl (k := 5) (c := 6) (lo := 0) (hi := 4) rfl rfl rfl rfl rfl (fun x1 q1 a1 b1 => ?_) -- 189
  refine hM_cne (off := 16) (t := 208) rfl lq3 q1 (by decide) rfl (fun c192 => ?_) (fun c192 => ?_) -- 192
  · refine hI_il (k := 3) rfl e3 rfl ?_ -- 208
    refine hI_ri rfl rfl ?_ -- 209
    exact g0 a1 b1 c192
  · refine hI_al (k := 0) rfl e0 rfl ?_ -- 195
    refine hM_gP (k := 0) M h16 hP0 hn0 (by decide) rfl rfl rfl rfl ?_ -- 196
    refine hI_dup rfl rfl rfl ?_ -- 199
    refine hM_gi M (by decide) rfl rfl rfl (k := 5) (c := 6) (lo := 0) (hi := 4) rfl rfl rfl rfl rfl (fun x2 q2 a2 b2 => ?_) -- 200
    refine hM_ic (n := 1) rfl (by decide) rfl (fun x3 q3 => ?_) -- 203
    refine hM_add rfl q2 q3 (by omega) (by omega) rfl (fun x4 q4 => ?_) -- 204
    refine hM_pi M (by decide) ok_7 rfl rfl (k := 5) (c := 6) (lo := 0) (hi := 4) rfl rfl ⟨by decide, by decide +kernel, rfl⟩ rfl (d_subm hw (by decide +kernel)) q4 (by omega) (by omega) rfl (fun h5 F5 f5 M5 => ?_) -- 205
    refine hI_il (k := 3) rfl e3 rfl ?_ -- 208
    refine hI_ri rfl rfl ?_ -- 209
    exact g1 h5 F5 f5 M5 a1 b1 c192
theorem c_isr11 {r : Int} {xr : Int32} (M : MX 7 W ρ m A h0 h F V G) (h16 : ρ 16 = 6) (hP0 : h_r h0 16 0 = m) (hn0 : d_no [(6, 0)] W = true) (qr : xr.toInt = r) (g : ∀ z : Int32, (z.toInt = 1 ∧ 0 ≤ r ∧ r < F 5) ∨ (z.toInt = 0 ∧ (r < 0 ∨ F 5 ≤ r)) → Q (some (.int z)) h) : HJ 11 0 (lv_args 0 [.ref 16, .int xr]) [] h Q :=
  s_ir0 M rfl rfl qr h16 hP0 hn0 (fun x1 q1 c1 => g x1 (Or.inr ⟨q1, Or.inl c1⟩)) (fun x3 q3 _ _ _ c => g x3 (Or.inr ⟨q3, Or.inr c⟩)) (fun x5 _ _ _ b2 c12 c17 => absurd c17 (by omega)) (fun x6 q6 c1 _ _ c12 _ => g x6 (Or.inl ⟨q6, by omega, c12⟩))
end
def tx_can (rows a : Int) : Prop := (a = -1 ∧ rows ≤ 3) ∨ (a ≠ -1 ∧ 0 ≤ a ∧ a < rows)
def tx_not (rows a : Int) : Prop := (a = -1 ∧ rows = 4) ∨ (a ≠ -1 ∧ (a < 0 ∨ rows ≤ a))
def tx_acs (h h' : MH) (N : Nat) (P : Nat → Prop) : Prop := ∀ r, r < 4 → P r → q_ac h' N r = q_ac h N r ∧ ac_same h h' (q_ac h N r)
def tx_post (h : MH) (N : Nat) (Z : RLS) (a x : Int) (h' : MH) : Prop := (h_r h' 16 0 = N ∧ q_fd h' N 2 = 0) ∧
  ((x = -2 ∧ tx_not (q_fd h N 5) a ∧ q_fd h' N 3 = 0 ∧ q_fd h' N 4 = -1 ∧ q_fd h' N 5 = q_fd h N 5 ∧ tx_acs h h' N (fun _ => True)) ∨
   (tx_can (q_fd h N 5) a ∧ ((x = -1 ∧ ls_f Z ≠ 0 ∧ q_fd h' N 3 = ls_f Z ∧ q_fd h' N 4 = ls_l Z ∧ q_fd h' N 5 = q_fd h N 5 ∧ tx_acs h h' N (fun _ => True)) ∨
     (ls_f Z = 0 ∧ ∃ k : Nat, x = (k : Int) ∧ (k : Int) = (if a = -1 then q_fd h N 5 else a) ∧ k ≤ 3 ∧ q_fd h' N 3 = 0 ∧ q_fd h' N 4 = -1 ∧ q_fd h' N 5 = (if a = -1 then q_fd h N 5 + 1 else q_fd h N 5) ∧ ar_q h' (q_ac h' N k) Z ∧ tx_acs h h' N (fun r => r ≠ k)))))
def tx_bk (h : MH) (N : Nat) (x : Int) (h' : MH) : Prop := pl_t h' ∧ ∀ s : Nat, s < 4 → (x ≠ (s : Int) → sk h h' s) ∧ (x = (s : Int) → r_sl h' s ≠ 0 ∧ bk_0 h' (r_sl h' s) (ac_Y h' (q_ac h' N s)))
def w_tx4 : List (Nat × Nat) := [(7, 2), (7, 3), (7, 4), (7, 5)] ++ w_rdx
def w_tx : List (Nat × Nat) := w_tx4 ++ (c_m40.2.1 ++ (c_m41.2.1 ++ c_m3045.2.1))
theorem tx_sub4 : d_sub w_tx4 w_tx = true := by decide +kernel
set_option maxHeartbeats 1000000 in
theorem c_ctext {ρ : Nat → Nat} {h : MH} {Q : Option Value → MH → Prop} {xa : Int32} {a : Int} (hC : CCok c_CC ρ) (ht : TH c_sp ρ h) (h16 : ρ 16 = 6) (n1 : c_PT 1 ρ h) (n2 : c_PT 2 ρ h) (n13 : c_PT 13 ρ h) (n14 : c_PT 14 ρ h) (pl : pl_t h) (qa : xa.toInt = a)
    (g : ∀ (ρ' : Nat → Nat) (h' : MH) (x : Int32), FQ ρ ρ' w_tx h h' → TH c_sp ρ' h' → c_PT 1 ρ' h' → c_PT 2 ρ' h' → tx_post h (h_r h 16 0) (rd_tx (q_tp h (h_r h 16 0)) (q_fd h (h_r h 16 0) 2).toNat) a x.toInt h' → tx_bk h (h_r h 16 0) x.toInt h' → Q (some (.int x)) h') : HJ 10 0 (lv_args 0 [.ref 16, .int xa]) [] h Q := by
  have fN := nw_ob ht h16
  obtain ⟨oT, oR, oA⟩ := td_obN ht fN
  have fR : ρ (h_r h 16 3) = 11 := (th_rf ht (R := 6) (by decide) rfl h16 (k := 3) rfl (fun z => by cases z)).2
  have fA : ρ (h_r h 16 4) = 103 := (th_rf ht (R := 6) (by decide) rfl h16 (k := 4) rfl (fun z => by cases z)).2
  have k16 : (h_k h 16).1 = 9 := (t_spec ht (by decide) (rfl : c_sp[6]? = some _) h16).1
  have l16 := (ht.2 16 (by rw [h16]; decide)).1
  obtain ⟨r50, r54, r20, r26⟩ := td_r4N ht fN
  have M : MX 7 w_tx4 ρ (h_r h 16 0) (h_r h (h_r h 16 0)) h h (q_fd h (h_r h 16 0)) (fun K j => (h_i h (h_r h (h_r h 16 0) K) j).toInt) (fun K j => h_l h (h_r h (h_r h 16 0) K) j) := MX.start ht fN
  have hT : q_tp h (h_r h 16 0) = fun j => (h_i h (h_r h (h_r h 16 0) 0) j).toInt := rfl
  have ow := n13.2.1
  generalize hN : h_r h 16 0 = N at *
  generalize hrd : h_r h 16 3 = rd at *
  generalize hac : h_r h 16 4 = ac at *
  generalize (fun K j => (h_i h (h_r h N K) j).toInt) = V at M
  generalize (fun K j => h_l h (h_r h N K) j) = G at M
  have hn0 : d_no [(6, 0)] w_tx4 = true := by decide +kernel
  have hn3 : d_no [(6, 3)] w_tx4 = true := by decide +kernel
  have hn4 : d_no [(6, 4)] w_tx4 = true := by decide +kernel
  obtain ⟨Z, hZ⟩ : ∃ Z, Z = rd_tx (q_tp h N) (q_fd h N 2).toNat := ⟨_, rfl⟩
  have ok := ls_okT (T := q_tp h N) (n := (q_fd h N 2).toNat)
  rw [← hZ] at g ok
  -- rows of acts are as they were, ahead of the copy
  have acs : ∀ {h' : MH} {F' : Nat → Int}, MX 7 w_tx4 ρ N (h_r h N) h h' F' V G → (∀ r, r < 4 → q_ac h' N r = q_ac h N r ∧ ac_same h h' (q_ac h N r)) ∧ h_r h' 16 0 = N := fun {h' F'} M' => by
    have f := M'.1.2.2.fq
    have rf := td_rfN ht f (by decide +kernel) fN
    exact ⟨fun r hr => ⟨(rf.2 r hr).1, ac_frN ht f (by decide +kernel) (oA r hr).1⟩, by rw [M'.gP h16 (by decide) hn0]; exact hN⟩
  have keep : ∀ {h' : MH} {F' : Nat → Int}, MX 7 w_tx4 ρ N (h_r h N) h h' F' V G → FQ ρ ρ w_tx h h' ∧ c_PT 1 ρ h' ∧ c_PT 2 ρ h' ∧ pl_t h' ∧ ∀ s, s < 4 → sk h h' s := fun {h' F'} M' => by
    have f := M'.1.2.2.fq
    have sf := sk_fr ht f (by decide +kernel) h16
    exact ⟨f.mono tx_sub4, c_PTx 1 _ _ _ h h' ht f (by decide +kernel) n1, c_PTx 2 _ _ _ h h' ht f (by decide +kernel) n2, sf.1 pl, sf.2.2⟩
  have none_ : ∀ {h' : MH} {F' : Nat → Int} (x : Int32), MX 7 w_tx4 ρ N (h_r h N) h h' F' V G → x.toInt = -2 → tx_not (q_fd h N 5) a → F' 2 = 0 → F' 3 = 0 → F' 4 = -1 → F' 5 = q_fd h N 5 → Q (some (.int x)) h' := fun {h' F'} x M' qx no e2 e3 e4 e5 => by
    obtain ⟨k1, k2⟩ := acs M'
    obtain ⟨k3, k4, k5, k6, k7⟩ := keep M'
    exact g ρ h' x k3 M'.1.1 k4 k5 ⟨⟨k2, (M'.2.1 2).trans e2⟩, Or.inl ⟨qx, no, (M'.2.1 3).trans e3, (M'.2.1 4).trans e4, (M'.2.1 5).trans e5, fun r hr _ => k1 r hr⟩⟩ ⟨k6, fun s hs => ⟨fun _ => k7 s hs, fun z => absurd z (by omega)⟩⟩
  -- the reading
  have go : ∀ {h8 : MH} {F8 : Nat → Int} (lv : List (Nat × Value)) (x1 xr : Int32) (r : Nat), MX 7 w_tx4 ρ N (h_r h N) h h8 F8 V G → F8 2 = 0 → F8 3 = 0 → F8 4 = -1 → F8 5 = q_fd h N 5 → x1.toInt = q_fd h N 2 → xr.toInt = (r : Int) → r ≤ 3 → tx_can (q_fd h N 5) a → (r : Int) = (if a = -1 then q_fd h N 5 else a) → m_lk lv 0 = some (.ref 16) → m_lk lv 2 = some (.int x1) → m_lk lv 3 = some (.int xr) → HJ 10 97 lv [] h8 Q := fun {h8 F8} lv x1 xr r M8 e2 e3 e4 e5 q1 qr r3 can er i0 i2 i3 => by
    have sb8 : t_sb ρ h8 := c_PTx 14 _ _ _ h h8 ht M8.1.2.2.fq (by decide +kernel) n14
    refine s_tx97 M8 i0 i2 rfl i3 qr fR fA h16 hN hn0 hrd hn3 hac hn4 (c_read (n := (q_fd h N 2).toNat) M8.1.1 sb8 fR oT fA (by omega) (by omega) (q_tp h N) ?_ (fun h9 f9 t9 r7 r8 aq => ?_))
    · rw [hT]
      funext j
      have y := (M8.2.2 0 (by decide +kernel)).2 j
      have y0 := (M.2.2 0 (by decide +kernel)).2 j
      rw [y.1, ← y0.1]
    rw [← hZ] at r7 r8 aq
    have M9 := M8.stay (by decide) t9 f9 (by decide +kernel) (by decide +kernel)
    show HJ 10 116 lv [] h9 Q
    refine s_tx116 (MX.again M9 [(7, 3)]) i0 i3 qr fR fA h16 ?_ (by decide +kernel) ?_ (by decide +kernel) (by decide +kernel) (fun h2 F2 f2 M2 => ?_)
    · rw [M9.gP h16 (by decide) hn0]
      exact hN
    · rw [M9.gP h16 (by decide) hn3]
      exact hrd
    have rd2 : h_i h2 rd 8 = h_i h9 rd 8 := ((M2.1.2.2.2 rd (M9.1.1.2 rd (by rw [fR]; decide)).1).2 8 (by rw [fR]; exact t_Wn9 (by decide +kernel) 8)).1
    have a2 : ac_same h9 h2 ac := ac_frT M9.1.1 M2.1.2.2.fq (by decide +kernel) fA
    have M2 := M9.re M2 (by decide +kernel)
    refine s_tx130 (MX.again M2 [(7, 4)]) i0 i3 qr fR fA h16 ?_ (by decide +kernel) ?_ (by decide +kernel) (by decide +kernel) (fun h4 F4 f4 M4 _ _ c => ?_) (fun h4 F4 f4 x4 q4 M4 _ _ c => ?_)
    · rw [M2.gP h16 (by decide) hn0]
      exact hN
    · rw [M2.gP h16 (by decide) hn3]
      exact hrd
    · -- a row
      have a4 : ac_same h2 h4 ac := ac_frT M2.1.1 M4.1.2.2.fq (by decide +kernel) fA
      have M4 := M2.re M4 (by decide +kernel)
      rw [f2, m_uE, r7] at c
      have aq4 : ar_q h4 ac Z := ar_same (ac_sameT a2 a4) (aq c)
      have g40 := (ok.1 c).2
      have d2 : F4 2 = 0 := by rw [f4, m_uN _ _ _ _ (by decide), f2, m_uN _ _ _ _ (by decide)]; exact e2
      have d3 : F4 3 = 0 := by rw [f4, m_uN _ _ _ _ (by decide), f2, m_uE, r7]; exact c
      have d4 : F4 4 = -1 := by rw [f4, m_uE, rd2, r8]; exact (ok.1 c).1
      have d5 : F4 5 = q_fd h N 5 := by rw [f4, m_uN _ _ _ _ (by decide), f2, m_uN _ _ _ _ (by decide)]; exact e5
      obtain ⟨k1, k2⟩ := acs M4
      obtain ⟨k3, k4, k5, k6, k7⟩ := keep M4
      have t4 := M4.1.1
      have r4 : r < 4 := by omega
      obtain ⟨p1, p2⟩ := k1 r r4
      have kk : ∀ x, x < 16 + h_n h → h_k h4 x = h_k h x := fun x hx => (M4.1.2.2.2 x hx).1
      have eR1 : h_r h4 N 1 = h_r h N 1 := (fq_f M4.1.2.2.fq (D := [(7, 1)]) (by decide +kernel) (List.mem_singleton.mpr rfl) (by decide) fN (ht.2 N (by rw [fN]; decide)).1).2
      have kN : (h_k h4 N).1 = 7 := (t_spec t4 (by decide) (rfl : c_sp[7]? = some _) fN).1
      have kR := t_spec t4 (by decide) (rfl : c_sp[10]? = some _) (show ρ (h_r h4 N 1) = 10 by rw [eR1]; exact oR)
      have kR1 : (h_k h4 (h_r h4 N 1)).1 = 32 := kR.1
      have kR2 : 4 ≤ (h_k h4 (h_r h4 N 1)).2 := kR.2.1.1
      have k164 : (h_k h4 16).1 = 9 := by rw [kk 16 l16]; exact k16
      have e164 : h_r h4 16 4 = ac := by rw [M4.gP h16 (by decide) hn4]; exact hac
      refine hI_al (k := 0) rfl i0 rfl ?_
      refine hI_gr rfl rfl rfl k164 rfl ?_
      rw [k2]
      refine hI_gr (c := 6) (k := 1) rfl rfl rfl kN rfl ?_
      refine hI_il (k := 3) rfl i3 rfl ?_
      refine hI_aa rfl (by rw [kR1]; decide) (by omega) (by omega) rfl ?_
      rw [show xr.toInt.toNat = r by omega]
      show HJ 10 165 lv [.ref (q_ac h4 N r)] h4 Q
      rw [p1]
      refine hI_al (k := 0) rfl i0 rfl ?_
      refine hI_gr rfl rfl rfl k164 rfl ?_
      rw [e164]
      have oc := (oA r r4).1
      have kc := ak_N t4 oc
      have kd := ak_T t4 fA
      have c16 : 16 ≤ q_ac h N r := (t_spec ht (by decide) (rfl : c_sp[12]? = some _) oc).2.2.1 rfl
      refine HJ.call (j := 40) (as := [.ref (q_ac h N r), .ref ac]) (rr := []) (pc' := 172) (m_cA rfl rfl (by decide +kernel) rfl rfl rfl ⟨by decide +kernel, by decide +kernel, by decide +kernel⟩ c16 kc.1) (by show 2 ≤ m_lc 40; decide +kernel) ?_
      refine HJ.both (r_copyActs kc kd (Q := fun v h5 => v = none ∧ cp_acts h4 (q_ac h N r) ac h5) (fun h5 p => ⟨rfl, p⟩)) (c_k40 (Q := fun v h5 => ∃ ρ5, FQ ρ ρ5 c_m40.2.1 h4 h5 ∧ TH c_sp ρ5 h5) (hC.x k3) t4 rfl rfl oc fA (fun ρ5 h5 f t => ⟨ρ5, f, t⟩)) (fun v h5 ⟨ev, p5⟩ ⟨ρ5, f5, t5⟩ => ?_)
      subst ev
      obtain ⟨er5, fs5⟩ := FS.ofFQ (by decide +kernel) f5
      subst er5
      show HJ 10 172 lv [] h5 Q
      have aq5 : ar_q h5 (q_ac h N r) Z := ar_cp kc g40 p5 aq4
      have m1 : c_PT 1 ρ5 h5 := c_PTx 1 _ _ _ h4 h5 t4 f5 (by decide +kernel) k4
      have m2 : c_PT 2 ρ5 h5 := c_PTx 2 _ _ _ h4 h5 t4 f5 (by decide +kernel) k5
      have sf5 := sk_fr t4 f5 (by decide +kernel) h16
      have pl5 := sf5.1 k6
      have M5 := M4.w (W2 := w_tx4 ++ c_m40.2.1) (by decide +kernel)
      have M5 := M5.stay (by decide) t5 fs5 (by decide +kernel) (by decide +kernel)
      have rf5 := td_rfN t4 f5 (by decide +kernel) fN
      have q5 : ∀ s, s < 4 → q_ac h5 N s = q_ac h N s := fun s hs => (rf5.2 s hs).1.trans (k1 s hs).1
      have o5 : ∀ s, s < 4 → s ≠ r → ac_same h h5 (q_ac h N s) := fun s hs hne => by
        obtain ⟨z1, z2⟩ := k1 s hs
        obtain ⟨y1, y2, y3⟩ := ow s r hs r4 (Or.inr hne)
        refine ac_sameT z2 (ac_cpO kc (ak_N t4 (oA s hs).1) y1 ?_ ?_ p5)
        · rw [z2.2.1.1, p2.2.1.1]
          exact y2
        · rw [z2.2.1.2, p2.2.1.2]
          exact y3
      have hn05 : h_r h5 16 0 = N := by rw [M5.gP h16 (by decide) (by decide +kernel)]; exact hN
      have hn45 : h_r h5 16 4 = ac := by rw [M5.gP h16 (by decide) (by decide +kernel)]; exact hac
      refine hI_al (k := 0) rfl i0 rfl ?_
      refine hI_il (k := 3) rfl i3 rfl ?_
      refine hM_iv (MX.start (W := []) t5 h16) (by decide) rfl rfl (by decide) (as := [.int xr]) (r := []) rfl rfl (by decide +kernel) rfl (by decide +kernel) rfl rfl rfl rfl rfl ?_
      refine c_pf (k := r) ((hC.x k3).x f5) t5 h16 m1 m2 pl5 (by omega) (by omega) (by omega) (fun ρ6 h6 p f6 t6 m1 m2 tp p6 pl6 so6 sk6 => ?_)
      show HJ 10 177 lv [.ref p] h6 Q
      have h166 : ρ6 16 = 6 := (f6.2.1 16 (by rw [h16]; decide)).trans h16
      have k166 : (h_k h6 16).1 = 9 := (t_spec t6 (by decide) (rfl : c_sp[6]? = some _) h166).1
      have l165 := (t5.2 16 (by rw [h16]; decide)).1
      have fA6 : ρ6 ac = 103 := (f6.2.1 ac (by rw [fA]; decide)).trans fA
      have fN6 : ρ6 N = 7 := (f6.2.1 N (by rw [fN]; decide)).trans fN
      have e46 : h_r h6 16 4 = ac := by rw [(fq_f f6 (D := [(6, 4)]) (by decide +kernel) (List.mem_singleton.mpr rfl) (by decide) h16 l165).2]; exact hn45
      have e06 : h_r h6 16 0 = N := by rw [(fq_f f6 (D := [(6, 0)]) (by decide +kernel) (List.mem_singleton.mpr rfl) (by decide) h16 l165).2]; exact hn05
      refine hI_al (k := 0) rfl i0 rfl ?_
      refine hI_gr rfl rfl rfl k166 rfl ?_
      rw [e46]
      refine hM_iv (MX.start (W := []) t6 tp) (by decide) rfl rfl (by decide) (as := [.ref ac]) (r := []) rfl rfl (by decide +kernel) rfl (by decide +kernel) rfl rfl rfl rfl rfl ?_
      have a5 : ac_same h4 h5 ac := ac_frT t4 f5 (by decide +kernel) fA
      have a6 : ac_same h5 h6 ac := ac_frT t5 f6 (by decide +kernel) fA
      have aq6 : ar_q h6 ac Z := ar_same (ac_sameT a5 a6) aq4
      have Y6 := ar_Y aq6
      have av6 : av_c h6 ac := by
        have c' := c
        have a' := aq6
        rw [hZ] at c' a'
        exact av_ar c' a'
      refine c_ruT (k := r) (((hC.x k3).x f5).x f6) t6 h166 m1 m2 pl6 r4 p6 fA6 av6 (fun ρ7 h7 f7 t7 m1 m2 pl7 so7 sk7 bk7 => ?_)
      show HJ 10 184 lv [] h7 Q
      have l166 := (t6.2 16 (by rw [h166]; decide)).1
      have h167 : ρ7 16 = 6 := (f7.2.1 16 (by rw [h166]; decide)).trans h166
      have fN7 : ρ7 N = 7 := (f7.2.1 N (by rw [fN6]; decide)).trans fN6
      have fR7 : ρ7 rd = 11 := (f7.2.1 rd (by rw [(f6.2.1 rd (by rw [fR]; decide)).trans fR]; decide)).trans ((f6.2.1 rd (by rw [fR]; decide)).trans fR)
      have fA7 : ρ7 ac = 103 := (f7.2.1 ac (by rw [fA6]; decide)).trans fA6
      have e07 : h_r h7 16 0 = N := by rw [(fq_f f7 (D := [(6, 0)]) (by decide +kernel) (List.mem_singleton.mpr rfl) (by decide) h166 l166).2]; exact e06
      have s7 : td_same h5 h7 N := td_sameT (td_frN t5 f6 (by decide +kernel) fN) (td_frN t6 f7 (by decide +kernel) fN6)
      have M7 : MX 7 [(7, 5)] ρ7 N (h_r h7 N) h7 h7 (q_fd h7 N) (fun K j => (h_i h7 (h_r h7 N K) j).toInt) (fun K j => h_l h7 (h_r h7 N K) j) := MX.start t7 fN7
      have v7 : ∀ K, K < 6 → q_fd h7 N K = F4 K := fun K hK => (congrArg Int32.toInt (s7.1 K hK)).trans (M5.2.1 K)
      have q47 : FQ ρ5 ρ7 w_tx h h7 := k3.trans ((f5.mono (by decide +kernel)).trans ((f6.mono (by decide +kernel)).trans (f7.mono (by decide +kernel))))
      -- the end
      have fin : ∀ (h8 : MH) (F8 : Nat → Int), MX 7 [(7, 5)] ρ7 N (h_r h7 N) h7 h8 F8 (fun K j => (h_i h7 (h_r h7 N K) j).toInt) (fun K j => h_l h7 (h_r h7 N K) j) → (∀ K, K ≠ 5 → F8 K = q_fd h7 N K) → F8 5 = (if a = -1 then q_fd h N 5 + 1 else q_fd h N 5) → Q (some (.int xr)) h8 := fun h8 F8 M8 o8 e8 => by
        have f8 := M8.1.2.2.fq
        have sf8 := sk_fr t7 f8 (by decide +kernel) h167
        have rf8 := td_rfN t7 f8 (by decide +kernel) fN7
        have a8 : ∀ s, s < 4 → q_ac h8 N s = q_ac h N s ∧ ac_same h5 h8 (q_ac h N s) := fun s hs => by
          obtain ⟨z1, z2⟩ := s7.2.2.2 s hs
          rw [q5 s hs] at z1 z2
          have o7 : ρ7 (q_ac h N s) = 12 := by
            rw [← z1]
            exact ((td_obN t7 fN7).2.2 s hs).1
          exact ⟨(rf8.2 s hs).1.trans z1, ac_sameT z2 (ac_frN t7 f8 (by decide +kernel) o7)⟩
        refine g ρ7 h8 xr (q47.trans (f8.mono (by decide +kernel))) M8.1.1 (c_PTx 1 _ _ _ h7 h8 t7 f8 (by decide +kernel) m1) (c_PTx 2 _ _ _ h7 h8 t7 f8 (by decide +kernel) m2) ⟨⟨?_, ?_⟩, Or.inr ⟨can, Or.inr ⟨c, r, qr, er, r3, ?_, ?_, ?_, ?_, fun s hs hne => ⟨(a8 s hs).1, ac_sameT (o5 s hs hne) (a8 s hs).2⟩⟩⟩⟩ ⟨sf8.1 pl7, fun s hs => ⟨fun z => sk_T (k7 s hs) (sk_T (sf5.2.2 s hs) (sk_T (sk6 s hs) (sk_T (sk7 s hs (by omega)) (sf8.2.2 s hs)))), fun z => ?_⟩⟩
        · rw [M8.gP h167 (by decide) (by decide +kernel)]
          exact e07
        · exact (M8.2.1 2).trans ((o8 2 (by decide)).trans ((v7 2 (by decide)).trans d2))
        · exact (M8.2.1 3).trans ((o8 3 (by decide)).trans ((v7 3 (by decide)).trans d3))
        · exact (M8.2.1 4).trans ((o8 4 (by decide)).trans ((v7 4 (by decide)).trans d4))
        · exact (M8.2.1 5).trans e8
        · rw [(a8 r r4).1]
          exact ar_same (a8 r r4).2 aq5
        · have es : s = r := by omega
          have aq8 : ar_q h8 (q_ac h8 N r) Z := by
            rw [(a8 r r4).1]
            exact ar_same (a8 r r4).2 aq5
          obtain ⟨g1, g2⟩ := sf8.2.2 r r4 (by rw [so7, p6.2]; exact p6.1)
          rw [so7, p6.2] at g1 g2
          rw [es, g1, ar_Y aq8, ← Y6]
          exact ⟨p6.1, g2 _ bk7⟩
      have v75 : q_fd h7 N 5 = q_fd h N 5 := (v7 5 (by decide)).trans d5
      refine s_tx184 M7 i0 i3 qr fR7 fA7 (fun _ => by omega) h167 e07 (by decide +kernel) (by decide +kernel) (fun _ _ c9 => fin h7 _ M7 (fun _ _ => rfl) ?_) (fun h8 F8 f8 M8 _ _ c9 => fin h8 F8 M8 (fun K hK => by rw [f8, m_uN _ _ _ _ hK]) ?_)
      · rw [v75] at c9 ⊢
        rw [if_neg (fun z => c9 (by rw [er, if_pos z]))]
      · rw [v75] at c9
        have az : a = -1 := by
          by_cases z : a = -1
          · exact z
          · rw [if_neg z] at er
            rcases can with ⟨z2, -⟩ | ⟨-, -, z3⟩
            · exact z2
            · omega
        rw [f8, m_uE, v75, if_pos az]
    · -- a fault
      have M4 := M2.re M4 (by decide +kernel)
      rw [f2, m_uE, r7] at c
      obtain ⟨k1, k2⟩ := acs M4
      obtain ⟨k3, k4, k5, k6, k7⟩ := keep M4
      refine g ρ h4 x4 k3 M4.1.1 k4 k5 ⟨⟨k2, (M4.2.1 2).trans ?_⟩, Or.inr ⟨can, Or.inl ⟨q4, c, (M4.2.1 3).trans ?_, (M4.2.1 4).trans ?_, (M4.2.1 5).trans ?_, fun s hs _ => k1 s hs⟩⟩⟩ ⟨k6, fun s hs => ⟨fun _ => k7 s hs, fun z => absurd z (by omega)⟩⟩
      · rw [f4, m_uN _ _ _ _ (by decide), f2, m_uN _ _ _ _ (by decide)]
        exact e2
      · rw [f4, m_uN _ _ _ _ (by decide), f2, m_uE, r7]
      · rw [f4, m_uE, rd2, r8]
      · rw [f4, m_uN _ _ _ _ (by decide), f2, m_uN _ _ _ _ (by decide)]
        exact e5
  refine s_tx0 M rfl rfl qa fR fA h16 hN hn0 (by decide +kernel) (fun x1 q1 h4 F4 f4 h6 F6 f6 h8 F8 f8 lv10 M8 d0 d1 d2 d3 a1 b1 c34 => ?_) (fun h4 F4 f4 h6 F6 f6 h8 F8 f8 x19 q19 lv18 M8 a1 b1 c34 a12 b12 c62 => ?_) (fun h4 F4 f4 h6 F6 f6 h8 F8 f8 x22 q22 lv21 M8 a1 b1 c34 a12 b12 c62 c86 => ?_) (fun x1 q1 h4 F4 f4 h6 F6 f6 h8 F8 f8 x12 q12 lv21 M8 d0 d1 d2 d3 a1 b1 c34 a12 b12 c62 c86 => ?_)
  · have e2 : F8 2 = 0 := by rw [f8, m_uN _ _ _ _ (by decide), f6, m_uN _ _ _ _ (by decide), f4, m_uE]
    have e3 : F8 3 = 0 := by rw [f8, m_uN _ _ _ _ (by decide), f6, m_uE]
    have e4 : F8 4 = -1 := by rw [f8, m_uE]
    have e5 : F8 5 = q_fd h N 5 := by rw [f8, m_uN _ _ _ _ (by decide), f6, m_uN _ _ _ _ (by decide), f4, m_uN _ _ _ _ (by decide)]
    refine c_isr11 M8 h16 hN hn0 qa (fun z hz => s_tx78 (z := z.toInt) M8 d0 d1 qa d2 q1 d3 qa rfl fR fA h16 (fun x2 q2 _ c => ?_) (fun x3 q3 _ c c2 => ?_) (fun lv1 i0 i2 i3 c c2 c3 => ?_) (fun x5 q5 _ c _ c4 => ?_))
    · exact none_ x2 M8 q2 (Or.inr ⟨c34, by omega⟩) e2 e3 e4 e5
    · exact none_ x3 M8 q3 (Or.inr ⟨c34, Or.inl c2⟩) e2 e3 e4 e5
    · exact go lv1 x1 xa a.toNat M8 e2 e3 e4 e5 q1 (by omega) (by omega) (Or.inr ⟨c34, by omega, by omega⟩) (by rw [if_neg c34]; omega) i0 i2 i3
    · exact none_ x5 M8 q5 (Or.inr ⟨c34, Or.inr (by omega)⟩) e2 e3 e4 e5
  · exact none_ x19 M8 q19 (Or.inl ⟨c34, by omega⟩) (by rw [f8, m_uN _ _ _ _ (by decide), f6, m_uN _ _ _ _ (by decide), f4, m_uE]) (by rw [f8, m_uN _ _ _ _ (by decide), f6, m_uE]) (by rw [f8, m_uE]) (by rw [f8, m_uN _ _ _ _ (by decide), f6, m_uN _ _ _ _ (by decide), f4, m_uN _ _ _ _ (by decide)])
  · exact absurd c86 (by omega)
  · exact go lv21 x1 x12 (q_fd h N 5).toNat M8 (by rw [f8, m_uN _ _ _ _ (by decide), f6, m_uN _ _ _ _ (by decide), f4, m_uE]) (by rw [f8, m_uN _ _ _ _ (by decide), f6, m_uE]) (by rw [f8, m_uE]) (by rw [f8, m_uN _ _ _ _ (by decide), f6, m_uN _ _ _ _ (by decide), f4, m_uN _ _ _ _ (by decide)]) q1 (by omega) (by omega) (Or.inl ⟨c34, by omega⟩) (by rw [if_pos c34]; omega) d0 d2 d3
theorem tx_15 {ρ ρ2 : Nat → Nat} {h h2 : MH} {T : Nat → Int} {n : Nat} {a x : Int} (ht : TH c_sp ρ h) (n15 : c_PT 15 ρ h) (f : FQ ρ ρ2 w_tx h h2) (φ : tx_post h (h_r h 16 0) (rd_tx T n) a x h2) (β : tx_bk h (h_r h 16 0) x h2) : c_PT 15 ρ2 h2 := by
  obtain ⟨h16, k1, k2, k3, k4⟩ := n15
  obtain ⟨⟨N2, -⟩, φ⟩ := φ
  have fN := nw_ob ht h16
  have bd := td_bdN ht fN
  obtain ⟨r50, r54, -, -⟩ := td_r4N ht fN
  have same : ∀ s, q_ac h2 (h_r h 16 0) s = q_ac h (h_r h 16 0) s ∧ ac_same h h2 (q_ac h (h_r h 16 0) s) → ac_Y h2 (q_ac h2 (h_r h 16 0) s) = ac_Y h (q_ac h (h_r h 16 0) s) ∧ (av_c h (q_ac h (h_r h 16 0) s) → av_c h2 (q_ac h2 (h_r h 16 0) s)) := fun s z => by
    rw [z.1]
    have w : ac_sm h h2 (q_ac h (h_r h 16 0) s) := ⟨z.2.1, z.2.2.2⟩
    exact ⟨ac_smY w, ac_smV w⟩
  -- a row that was there
  have old : ∀ s : Nat, (s : Int) < q_fd h (h_r h 16 0) 5 → x ≠ (s : Int) → q_ac h2 (h_r h 16 0) s = q_ac h (h_r h 16 0) s ∧ ac_same h h2 (q_ac h (h_r h 16 0) s) → (r_sl h2 s ≠ 0 ∧ bk_0 h2 (r_sl h2 s) (ac_Y h2 (q_ac h2 (h_r h 16 0) s))) ∧ av_c h2 (q_ac h2 (h_r h 16 0) s) := fun s hs hx z => by
    obtain ⟨y1, y2⟩ := k2 s hs
    obtain ⟨z1, z2⟩ := (β.2 s (by omega)).1 hx y1
    obtain ⟨w1, w2⟩ := same s z
    refine ⟨?_, w2 (k3 s hs)⟩
    rw [z1, w1]
    exact ⟨y1, z2 _ y2⟩
  have all : ∀ s : Nat, (s : Int) < q_fd h2 (h_r h 16 0) 5 → (r_sl h2 s ≠ 0 ∧ bk_0 h2 (r_sl h2 s) (ac_Y h2 (q_ac h2 (h_r h 16 0) s))) ∧ av_c h2 (q_ac h2 (h_r h 16 0) s) := fun s hs => by
    rcases φ with ⟨a1, -, -, -, a5, a6⟩ | ⟨can, ⟨a1, -, -, -, a6, a7⟩ | ⟨z0, k, a1, a4, k3', -, -, c5, c6, c7⟩⟩
    · rw [a5] at hs
      exact old s hs (by omega) (a6 s (by omega) trivial)
    · rw [a6] at hs
      exact old s hs (by omega) (a7 s (by omega) trivial)
    · unfold tx_can at can
      by_cases e : s = k
      · subst e
        exact ⟨(β.2 s (by omega)).2 a1, av_ar z0 c6⟩
      · rw [c5] at hs
        by_cases ea : a = -1
        · rw [if_pos ea] at hs a4
          exact old s (by omega) (by omega) (c7 s (by omega) e)
        · rw [if_neg ea] at hs a4
          exact old s (by omega) (by omega) (c7 s (by omega) e)
  refine ⟨(f.2.1 16 (by rw [h16]; decide)).trans h16, β.1, fun s hs => ?_, fun s hs => ?_, fun k hk h0 => ?_⟩
  · rw [N2] at hs ⊢
    exact (all s hs).1
  · rw [N2] at hs ⊢
    exact (all s hs).2
  · have eI := im_eq ht f h16 (D := [(6, 1), (8, 1001), (8, 1002)]) (by decide +kernel) (by decide) (by decide) (by decide) k
    rw [eI] at h0 ⊢
    have oI := im_ob ht h16 k hk h0
    exact av_pc (pc_same (td_frI ht f (by decide +kernel) oI)) (td_bdI ht oI) (k4 k hk h0)
end
section
-- ONE IMAGE TAKEN: all that is told elsewhere stays
section
variable {ρ ρ2 : Nat → Nat} {h h' h2 : MH} {a b k : Nat}
theorem td_cells (r0 : ∀ i, h_r h2 b i = h_r h b i) (r1 : ∀ i, h_r h2 (h_r h b 1) i = h_r h (h_r h b 1) i) (rr : ∀ r, r < 4 → ∀ i, h_r h2 (q_ac h b r) i = h_r h (q_ac h b r) i) (c0 : ∀ i, h_i h2 b i = h_i h b i) (ct : ∀ i, h_i h2 (h_r h b 0) i = h_i h (h_r h b 0) i) (cc : ∀ r, r < 4 → ∀ i, h_i h2 (q_ac h b r) i = h_i h (q_ac h b r) i) (ck : ∀ r, r < 4 → ∀ i, h_i h2 (h_r h (q_ac h b r) 0) i = h_i h (h_r h (q_ac h b r) 0) i) (cn : ∀ r, r < 4 → ∀ i, h_i h2 (h_r h (q_ac h b r) 1) i = h_i h (h_r h (q_ac h b r) 1) i) : td_same h h2 b := by
  refine ⟨fun K _ => c0 K, r0 0, fun j => ?_, fun r hr => ?_⟩
  · unfold q_tp
    rw [r0, ct]
  · have er : q_ac h2 b r = q_ac h b r := by
      unfold q_ac
      rw [r0, r1]
    refine ⟨er, cc r hr 2, ⟨rr r hr 0, rr r hr 1⟩, fun i => ⟨?_, ?_⟩⟩
    · unfold q_kd
      rw [rr r hr 0, ck r hr]
    · unfold q_nm
      rw [rr r hr 1, cn r hr]
theorem td_rs (e : td_same h h2 b) : td_refs h h2 b := ⟨e.2.1, fun r hr => ⟨(e.2.2.2 r hr).1, (e.2.2.2 r hr).2.2.1.1, (e.2.2.2 r hr).2.2.1.2⟩⟩
theorem ow_refs (er : ∀ x i, h_r h2 x i = h_r h x i) (w : ow_ne h a b) : ow_ne h2 a b := fun r s hr hs hn => by
  have ea : ∀ x r, q_ac h2 x r = q_ac h x r := fun x r => by
    unfold q_ac
    rw [er, er]
  rw [ea, ea, er, er, er, er]
  exact w r s hr hs hn
-- places: of an image, all ahead of what is new, none of them the row of images
def td_in (h : MH) (b : Nat) (P : Nat → Prop) : Prop := P b ∧ P (h_r h b 0) ∧ P (h_r h b 1) ∧ ∀ r, r < 4 → P (q_ac h b r) ∧ P (h_r h (q_ac h b r) 0) ∧ P (h_r h (q_ac h b r) 1)
theorem td_inI (ht : TH c_sp ρ h) (ho : ρ b = 97) (h16 : ρ 16 = 6) : td_in h b (fun x => x < 16 + h_n h ∧ x ≠ r_I h) := by
  have fI : ρ (r_I h) = 8 := (th_rf ht (R := 6) (by decide) rfl h16 (k := 1) rfl (fun z => by cases z)).2
  obtain ⟨o0, o1, oo⟩ := td_obI ht ho
  have lt : ∀ {x R : Nat}, ρ x = R → R ≠ 0 → R ≠ 8 → x < 16 + h_n h ∧ x ≠ r_I h := fun {x R} e n1 n2 => ⟨(ht.2 x (by rw [e]; exact n1)).1, ne_r e fI n2⟩
  refine ⟨lt ho (by decide) (by decide), lt o0 (by decide) (by decide), lt o1 (by decide) (by decide), fun r hr => ?_⟩
  obtain ⟨x1, x2, x3⟩ := oo r hr
  exact ⟨lt x1 (by decide) (by decide), lt x2 (by decide) (by decide), lt x3 (by decide) (by decide)⟩
-- ahead of the copy
theorem img_same (ht : TH c_sp ρ h) (h16 : ρ 16 = 6) (I : im_b ρ ρ2 h h' k) (ho : ρ b = 97) : td_same h h' b := by
  obtain ⟨-, -, -, -, u6, -⟩ := I
  obtain ⟨⟨l0, m0⟩, ⟨l1, m1⟩, ⟨l2, m2⟩, ll⟩ := td_inI ht ho h16
  have cr : ∀ {x : Nat}, x < 16 + h_n h → x ≠ r_I h → ∀ i, h_r h' x i = h_r h x i := fun {x} hx hn i => ((u6 x hx).2 i).2.2 (fun z => hn z.1)
  have ci : ∀ {x : Nat}, x < 16 + h_n h → ∀ i, h_i h' x i = h_i h x i := fun {x} hx i => ((u6 x hx).2 i).1
  exact td_cells (cr l0 m0) (cr l2 m2) (fun r hr => cr (ll r hr).1.1 (ll r hr).1.2) (ci l0) (ci l1) (fun r hr => ci (ll r hr).1.1) (fun r hr => ci (ll r hr).2.1.1) (fun r hr => ci (ll r hr).2.2.1)
-- a place that the copy doesn't reach
def ct_no (h : MH) (a x : Nat) : Prop := x ≠ a ∧ x ≠ h_r h a 0 ∧ ∀ s, s < 4 → x ≠ q_ac h a s ∧ x ≠ h_r h (q_ac h a s) 0 ∧ x ≠ h_r h (q_ac h a s) 1
theorem ct_same {c : Nat} (J : ct_I h' a c 4 h2) (n0 : ct_no h' a b) (n1 : ct_no h' a (h_r h' b 0)) (nn : ∀ r, r < 4 → ct_no h' a (q_ac h' b r) ∧ ct_no h' a (h_r h' (q_ac h' b r) 0) ∧ ct_no h' a (h_r h' (q_ac h' b r) 1)) : td_same h' h2 b := by
  obtain ⟨⟨-, -, j3⟩, -, -, -, j7⟩ := J
  have er : ∀ x i, h_r h2 x i = h_r h' x i := fun x i => (j3 x i).2
  have ci : ∀ {x : Nat}, ct_no h' a x → ∀ i, h_i h2 x i = h_i h' x i := fun {x} n i => j7 x n.1 n.2.1 n.2.2 i
  exact td_cells (er _) (er _) (fun _ _ => er _) (ci n0) (ci n1) (fun r hr => ci (nn r hr).1) (fun r hr => ci (nn r hr).2.1) (fun r hr => ci (nn r hr).2.2)
theorem img_pc {c j : Nat} (ht : TH c_sp ρ h) (h16 : ρ 16 = 6) (ow : t_ow ρ h) (k3 : k < 3) (I : im_b ρ ρ2 h h' k) (J : ct_I h' (h_r h' (r_I h) k) c 4 h2) (hj : j < 3) (hjk : j ≠ k) (h0 : r_im h j ≠ 0) : td_same h h2 (r_im h j) := by
  have oj := im_ob ht h16 j hj h0
  have s1 := img_same ht h16 I oj
  have rf := td_rs s1
  obtain ⟨⟨l0, m0⟩, ⟨l1, m1⟩, ⟨l2, m2⟩, ll⟩ := td_inI ht oj h16
  refine td_sameT s1 ?_
  by_cases e : h_r h (r_I h) k = 0
  · have a1 := I.2.2.2.1 e
    obtain ⟨w1, w2, w3⟩ := I.2.2.2.2.2 e
    have far : ∀ {x : Nat}, x < 16 + h_n h → ct_no h' (h_r h' (r_I h) k) x := fun {x} hx => ⟨by omega, by omega, fun s hs => by
      obtain ⟨y1, y2, y3⟩ := w2 s hs
      omega⟩
    refine ct_same J (far l0) (far (by rw [rf.1]; exact l1)) (fun r hr => ?_)
    obtain ⟨z1, z2, z3⟩ := rf.2 r hr
    rw [z1, z2, z3]
    exact ⟨far (ll r hr).1.1, far (ll r hr).2.1.1, far (ll r hr).2.2.1⟩
  · obtain ⟨e1, e2⟩ := I.2.2.1 e
    subst e1
    have ok := im_ob ht h16 k k3 e
    obtain ⟨wn, wt⟩ := ow.2.2 j k hj k3 h0 e
    obtain ⟨wa, wt⟩ := wt hjk
    obtain ⟨p0, p1, pp⟩ := td_obI ht oj
    obtain ⟨q0, q1, qq⟩ := td_obI ht ok
    have hd : r_im h' j ≠ r_im h' k ∨ True := Or.inr trivial
    refine ct_same J ⟨wa, ne_r oj q0 (by decide), fun s hs => ?_⟩ ⟨ne_r p0 ok (by decide), wt, fun s hs => ?_⟩ (fun r hr => ⟨⟨ne_r (pp r hr).1 ok (by decide), ne_r (pp r hr).1 q0 (by decide), fun s hs => ?_⟩, ⟨ne_r (pp r hr).2.1 ok (by decide), ne_r (pp r hr).2.1 q0 (by decide), fun s hs => ?_⟩, ⟨ne_r (pp r hr).2.2 ok (by decide), ne_r (pp r hr).2.2 q0 (by decide), fun s hs => ?_⟩⟩)
    · exact ⟨ne_r oj (qq s hs).1 (by decide), ne_r oj (qq s hs).2.1 (by decide), ne_r oj (qq s hs).2.2 (by decide)⟩
    · exact ⟨ne_r p0 (qq s hs).1 (by decide), ne_r p0 (qq s hs).2.1 (by decide), ne_r p0 (qq s hs).2.2 (by decide)⟩
    · obtain ⟨y1, y2, y3⟩ := wn r s hr hs (Or.inl wa)
      exact ⟨y1, ne_r (pp r hr).1 (qq s hs).2.1 (by decide), ne_r (pp r hr).1 (qq s hs).2.2 (by decide)⟩
    · obtain ⟨y1, y2, y3⟩ := wn r s hr hs (Or.inl wa)
      exact ⟨ne_r (pp r hr).2.1 (qq s hs).1 (by decide), y2, ne_r (pp r hr).2.1 (qq s hs).2.2 (by decide)⟩
    · obtain ⟨y1, y2, y3⟩ := wn r s hr hs (Or.inl wa)
      exact ⟨ne_r (pp r hr).2.2 (qq s hs).1 (by decide), ne_r (pp r hr).2.2 (qq s hs).2.1 (by decide), y3⟩
-- rows of acts are apart, with the new image too
theorem img_ow {c : Nat} (ht : TH c_sp ρ h) (h16 : ρ 16 = 6) (ow : t_ow ρ h) (k3 : k < 3) (I : im_b ρ ρ2 h h' k) (J : ct_I h' (h_r h' (r_I h) k) c 4 h2) (eN : h_r h2 16 0 = h_r h 16 0) (h162 : ρ2 16 = 6) (own : r_im h2 k = h_r h' (r_I h) k) (oth : ∀ j, j ≠ k → r_im h2 j = r_im h j) : t_ow ρ2 h2 := by
  have fN := nw_ob ht h16
  have er : ∀ x i, h_r h2 x i = h_r h' x i := fun x i => (J.1.2.2 x i).2
  have l16 := (ht.2 16 (by rw [h16]; decide)).1
  have rN := td_rfN ht I.1.1 (by decide +kernel) fN
  refine ⟨h162, by rw [eN]; exact ow_refs er (ow_sameR rN rN ow.2.1), fun j l hj hl h0 h1 => ?_⟩
  by_cases e : h_r h (r_I h) k = 0
  · have a1 := I.2.2.2.1 e
    obtain ⟨w1, w2, w3⟩ := I.2.2.2.2.2 e
    -- an image that was there
    have old : ∀ j, j < 3 → j ≠ k → r_im h2 j ≠ 0 → r_im h2 j = r_im h j ∧ td_refs h h' (r_im h j) ∧ td_in h (r_im h j) (fun x => x < 16 + h_n h ∧ x ≠ r_I h) := fun j hj hjk h0 => by
      rw [oth j hjk] at h0
      have oj := im_ob ht h16 j hj h0
      exact ⟨oth j hjk, td_rs (img_same ht h16 I oj), td_inI ht oj h16⟩
    by_cases ej : j = k
    · subst ej
      by_cases el : l = j
      · subst el
        rw [own]
        exact ⟨ow_refs er w3, fun z => absurd rfl z⟩
      · obtain ⟨y1, y2, ⟨l0, -⟩, ⟨l1, -⟩, -, ll⟩ := old l hl el h1
        rw [own, y1]
        refine ⟨ow_refs er (fun r s hr hs _ => ?_), fun _ => ⟨by omega, ?_⟩⟩
        · obtain ⟨v1, v2, v3⟩ := w2 r hr
          obtain ⟨z1, z2, z3⟩ := y2.2 s hs
          obtain ⟨⟨g1, -⟩, ⟨g2, -⟩, ⟨g3, -⟩⟩ := ll s hs
          rw [z1, z2, z3]
          omega
        · rw [er, er, y2.1]
          omega
    · obtain ⟨x1, x2, ⟨l0, -⟩, ⟨l1, -⟩, -, ll⟩ := old j hj ej h0
      by_cases el : l = k
      · subst el
        rw [own, x1]
        refine ⟨ow_refs er (fun r s hr hs _ => ?_), fun _ => ⟨by omega, ?_⟩⟩
        · obtain ⟨v1, v2, v3⟩ := w2 s hs
          obtain ⟨z1, z2, z3⟩ := x2.2 r hr
          obtain ⟨⟨g1, -⟩, ⟨g2, -⟩, ⟨g3, -⟩⟩ := ll r hr
          rw [z1, z2, z3]
          omega
        · rw [er, er, x2.1]
          omega
      · obtain ⟨y1, y2, -⟩ := old l hl el h1
        rw [x1] at h0
        rw [y1] at h1
        rw [x1, y1]
        obtain ⟨v1, v2⟩ := ow.2.2 j l hj hl h0 h1
        exact ⟨ow_refs er (ow_sameR x2 y2 v1), fun z => ⟨(v2 z).1, by rw [er, er, x2.1, y2.1]; exact (v2 z).2⟩⟩
  · obtain ⟨e1, e2⟩ := I.2.2.1 e
    subst e1
    have ei : ∀ j, r_im h2 j = r_im h' j := fun j => by
      by_cases ej : j = k
      · rw [ej]
        exact own
      · exact oth j ej
    rw [ei] at h0 h1
    rw [ei, ei]
    obtain ⟨v1, v2⟩ := ow.2.2 j l hj hl h0 h1
    exact ⟨ow_refs er v1, fun z => ⟨(v2 z).1, by rw [er, er]; exact (v2 z).2⟩⟩
end
end
section
-- AN IMAGE LAID AGAIN: each row's past is the run of its acts
def w_ag8 : List (Nat × Nat) := c_m41.2.1 ++ c_m45.2.1
def w_ag7 : List (Nat × Nat) := c_m95.2.1 ++ w_ag8
theorem l_ag {ρ0 : Nat → Nat} {h0 : MH} {Q : Option Value → MH → Prop} (t0 : TH c_sp ρ0 h0) (h16 : ρ0 16 = 6) (av : av_t h0 (h_r h0 16 0)) (g : ∀ (ρ' : Nat → Nat) (h' : MH) (x : Int32), x.toInt = 1 → FQ ρ0 ρ' w_ag8 h0 h' → TH c_sp ρ' h' → c_PT 1 ρ' h' → c_PT 2 ρ' h' → pl_t h' → (∀ s : Nat, (s : Int) < q_fd h0 (h_r h0 16 0) 5 → r_sl h' s ≠ 0 ∧ bk_0 h' (r_sl h' s) (ac_Y h0 (q_ac h0 (h_r h0 16 0) s))) → Q (some (.int x)) h') : ∀ (d i : Nat) (ρ : Nat → Nat) (h : MH) (lv : List (Nat × Value)) (xi : Int32), i + d = 4 → xi.toInt = (i : Int) → m_lk lv 0 = some (.ref 16) → m_lk lv 2 = some (.int xi) → CCok c_CC ρ → FQ ρ0 ρ w_ag8 h0 h → TH c_sp ρ h → c_PT 1 ρ h → c_PT 2 ρ h → pl_t h → (∀ s : Nat, s < i → r_sl h s ≠ 0 ∧ bk_0 h (r_sl h s) (ac_Y h0 (q_ac h0 (h_r h0 16 0) s))) → HJ 96 35 lv [] h Q := by
  have fN0 := nw_ob t0 h16
  obtain ⟨-, r54, -, -⟩ := td_r4N t0 fN0
  generalize hN : h_r h0 16 0 = N at *
  have l160 := (t0.2 16 (by rw [h16]; decide)).1
  intro d
  induction d with
  | zero =>
    intro i ρ h lv xi hd qi e0 e2 hC f t m1 m2 pl bk
    have h16' : ρ 16 = 6 := (f.2.1 16 (by rw [h16]; decide)).trans h16
    have fN : ρ N = 7 := (f.2.1 N (by rw [fN0]; decide)).trans fN0
    have k16 : (h_k h 16).1 = 9 := (t_spec t (by decide) (rfl : c_sp[6]? = some _) h16').1
    have kN : (h_k h N).1 = 7 := (t_spec t (by decide) (rfl : c_sp[7]? = some _) fN).1
    have eN : h_r h 16 0 = N := ((fq_f f (D := [(6, 0)]) (by decide +kernel) (List.mem_singleton.mpr rfl) (by decide) h16 l160).2).trans hN
    have out : HJ 96 74 lv [] h Q := hM_ic (n := 1) rfl (by decide) rfl (fun x q => hM_rb rfl rfl q (by decide) (by decide) (g ρ h x q f t m1 m2 pl (fun s hs => bk s (by omega))))
    refine hI_il (k := 2) rfl e2 rfl ?_
    refine hI_al (k := 0) rfl e0 rfl ?_
    refine hI_gr rfl rfl rfl k16 rfl ?_
    rw [eN]
    refine hI_gi (c := 6) (k := 5) rfl rfl rfl kN rfl ?_
    refine hM_cge (off := 31) (t := 74) rfl qi (zy := q_fd h N 5) rfl (by decide) rfl (fun _ => out) (fun _ => ?_)
    refine hI_il (k := 2) rfl e2 rfl ?_
    refine hM_ic (n := 4) rfl (by decide) rfl (fun x4 q4 => ?_)
    exact hM_cge (off := 26) (t := 74) rfl qi q4 (by decide) rfl (fun _ => out) (fun c => absurd c (by omega))
  | succ d ih =>
    intro i ρ h lv xi hd qi e0 e2 hC f t m1 m2 pl bk
    have h16' : ρ 16 = 6 := (f.2.1 16 (by rw [h16]; decide)).trans h16
    have fN : ρ N = 7 := (f.2.1 N (by rw [fN0]; decide)).trans fN0
    have k16 : (h_k h 16).1 = 9 := (t_spec t (by decide) (rfl : c_sp[6]? = some _) h16').1
    have kN : (h_k h N).1 = 7 := (t_spec t (by decide) (rfl : c_sp[7]? = some _) fN).1
    have eN : h_r h 16 0 = N := ((fq_f f (D := [(6, 0)]) (by decide +kernel) (List.mem_singleton.mpr rfl) (by decide) h16 l160).2).trans hN
    have sN := td_frN t0 f (by decide +kernel) fN0
    have e5 : q_fd h N 5 = q_fd h0 N 5 := congrArg Int32.toInt (sN.1 5 (by decide))
    have out : q_fd h0 N 5 ≤ (i : Int) → HJ 96 74 lv [] h Q := fun c => hM_ic (n := 1) rfl (by decide) rfl (fun x q => hM_rb rfl rfl q (by decide) (by decide) (g ρ h x q f t m1 m2 pl (fun s hs => bk s (by omega))))
    refine hI_il (k := 2) rfl e2 rfl ?_
    refine hI_al (k := 0) rfl e0 rfl ?_
    refine hI_gr rfl rfl rfl k16 rfl ?_
    rw [eN]
    refine hI_gi (c := 6) (k := 5) rfl rfl rfl kN rfl ?_
    refine hM_cge (off := 31) (t := 74) rfl qi (zy := q_fd h N 5) rfl (by decide) rfl (fun c => out (by omega)) (fun c5 => ?_)
    refine hI_il (k := 2) rfl e2 rfl ?_
    refine hM_ic (n := 4) rfl (by decide) rfl (fun x4 q4 => ?_)
    refine hM_cge (off := 26) (t := 74) rfl qi q4 (by decide) rfl (fun c => absurd c (by omega)) (fun _ => ?_)
    refine hI_al (k := 0) rfl e0 rfl ?_
    refine hI_il (k := 2) rfl e2 rfl ?_
    refine hM_iv (MX.start (W := []) t h16') (by decide) rfl rfl (by decide) (as := [.int xi]) (r := []) rfl rfl (by decide +kernel) rfl (by decide +kernel) rfl rfl rfl rfl rfl ?_
    refine c_pf (k := i) hC t h16' m1 m2 pl (by omega) (by omega) (by omega) (fun ρ6 h6 p f6 t6 m1 m2 tp p6 pl6 so6 sk6 => ?_)
    show HJ 96 56 lv [.ref p] h6 Q
    have f06 : FQ ρ0 ρ6 w_ag8 h0 h6 := f.trans (f6.mono (by decide +kernel))
    have h166 : ρ6 16 = 6 := (f6.2.1 16 (by rw [h16']; decide)).trans h16'
    have fN6 : ρ6 N = 7 := (f6.2.1 N (by rw [fN]; decide)).trans fN
    have k166 : (h_k h6 16).1 = 9 := (t_spec t6 (by decide) (rfl : c_sp[6]? = some _) h166).1
    have kN6 : (h_k h6 N).1 = 7 := (t_spec t6 (by decide) (rfl : c_sp[7]? = some _) fN6).1
    have eN6 : h_r h6 16 0 = N := ((fq_f f06 (D := [(6, 0)]) (by decide +kernel) (List.mem_singleton.mpr rfl) (by decide) h16 l160).2).trans hN
    have s6 := td_frN t0 f06 (by decide +kernel) fN0
    obtain ⟨-, oR, oA⟩ := td_obN t6 fN6
    have kR := t_spec t6 (by decide) (rfl : c_sp[10]? = some _) oR
    have kR1 : (h_k h6 (h_r h6 N 1)).1 = 32 := kR.1
    have kR2 : 4 ≤ (h_k h6 (h_r h6 N 1)).2 := kR.2.1.1
    have i4 : i < 4 := by omega
    obtain ⟨a1, a2⟩ := s6.2.2.2 i i4
    have am : ac_sm h0 h6 (q_ac h0 N i) := ⟨a2.1, a2.2.2⟩
    refine hI_al (k := 0) rfl e0 rfl ?_
    refine hI_gr rfl rfl rfl k166 rfl ?_
    rw [eN6]
    refine hI_gr (c := 6) (k := 1) rfl rfl rfl kN6 rfl ?_
    refine hI_il (k := 2) rfl e2 rfl ?_
    refine hI_aa rfl (by rw [kR1]; decide) (by omega) (by omega) rfl ?_
    rw [show xi.toInt.toNat = i by omega]
    show HJ 96 65 lv [.ref (q_ac h6 N i), .ref p] h6 Q
    rw [a1]
    refine hM_iv (MX.start (W := []) t6 tp) (by decide) rfl rfl (by decide) (as := [.ref (q_ac h0 N i)]) (r := []) rfl rfl (by decide +kernel) rfl (by decide +kernel) rfl rfl rfl rfl rfl ?_
    refine c_ruN (k := i) (hC.x f6) t6 h166 m1 m2 pl6 i4 p6 (by rw [← a1]; exact (oA i i4).1) (ac_smV am (av i (by omega))) (fun ρ7 h7 f7 t7 m1 m2 pl7 so7 sk7 bk7 => ?_)
    show HJ 96 68 lv [] h7 Q
    refine hM_inc (k := 2) (z := 1) rfl e2 qi (by decide) (by omega) (by omega) (by decide +kernel) rfl (fun lv' w qw e2' u => ?_)
    refine hI_go (pc' := 35) (off := -36) rfl (by decide) ?_
    refine ih (i + 1) ρ7 h7 lv' w (by omega) (by omega) (u 0 _ (by decide) (Or.inl rfl) e0) e2' ((hC.x f6).x f7) (f06.trans (f7.mono (by decide +kernel))) t7 m1 m2 pl7 (fun s hs => ?_)
    by_cases es : s = i
    · rw [es, so7, p6.2, ← ac_smY am]
      exact ⟨p6.1, bk7⟩
    · obtain ⟨y1, y2⟩ := bk s (by omega)
      obtain ⟨z1, z2⟩ := sk_T (sk6 s (by omega)) (sk7 s (by omega) es) y1
      rw [z1]
      exact ⟨y1, z2 _ y2⟩
theorem fi_rg {ρ : Nat → Nat} {h : MH} {a R k : Nat} {rs : RS} {lo hi : Int} (ht : TH c_sp ρ h) (hR : R ≠ 0) (hs : c_sp[R]? = some rs) (hf : rs.2.2.2[k]? = some (.inl (lo, hi))) (ha : ρ a = R) (hn : rs.2.2.1 = false := by rfl) : lo ≤ (h_i h a k).toInt ∧ (h_i h a k).toInt ≤ hi := by
  have c := t_spec ht hR hs ha
  exact c.2.2.2 k (.inl (lo, hi)) (by unfold r_ft; rw [hn]; exact hf) (fun z => by rw [hn] at z; cases z)
section
variable {Q : Option Value → MH → Prop} {ρ : Nat → Nat} {m : Nat} {lv : List (Nat × Value)} {h : MH}
theorem c_again7 {x1 : Int32} (hC : CCok c_CC ρ) (ht : TH c_sp ρ h) (hm : ρ m = 6) (n1 : c_PT 1 ρ h) (n2 : c_PT 2 ρ h) (n15 : c_PT 15 ρ h) (ow : ow_ne h (h_r h 16 0) (h_r h 16 0)) (e0 : m_lk lv 0 = some (.ref m)) (e1 : m_lk lv 1 = some (.int x1)) (g0 : ∀ x : Int32, x.toInt = 0 → (x1.toInt < 0 ∨ 3 ≤ x1.toInt) ∨ (0 ≤ x1.toInt ∧ x1.toInt < 3 ∧ r_im h x1.toInt.toNat = 0) → Q (some (.int x)) h) (g1 : ∀ (ρ' : Nat → Nat) (h' : MH) (x : Int32), x.toInt = 1 → 0 ≤ x1.toInt → x1.toInt < 3 → r_im h x1.toInt.toNat ≠ 0 → FQ ρ ρ' w_ag7 h h' → TH c_sp ρ' h' → c_PT 1 ρ' h' → c_PT 2 ρ' h' → c_PT 15 ρ' h' → pc_eq h (r_im h x1.toInt.toNat) h' (h_r h 16 0) → Q (some (.int x)) h') : HJ 96 0 lv [] h Q := by
  have m16 : m = 16 := n2.1.2.2.2.2.2.1 m hm
  subst m16
  have fI : ρ (r_I h) = 8 := (th_rf ht (R := 6) (by decide) rfl hm (k := 1) rfl (fun z => by cases z)).2
  have fN : ρ (h_r h 16 0) = 7 := (th_rf ht (R := 6) (by decide) rfl hm (k := 0) rfl (fun z => by cases z)).2
  have k16 : (h_k h 16).1 = 9 := (t_spec ht (by decide) (rfl : c_sp[6]? = some _) hm).1
  have cI := t_spec ht (by decide) (rfl : c_sp[8]? = some _) fI
  have kI : (h_k h (r_I h)).1 = 30 := cI.1
  have lI : 3 ≤ (h_k h (r_I h)).2 := cI.2.1.1
  have bad : (x1.toInt < 0 ∨ 3 ≤ x1.toInt) ∨ (0 ≤ x1.toInt ∧ x1.toInt < 3 ∧ r_im h x1.toInt.toNat = 0) → HJ 96 18 lv [] h Q := fun hb => hM_ic (n := 0) rfl (by decide) rfl (fun x q => hM_rb rfl rfl q (by omega) (by omega) (g0 x q hb))
  refine hI_il (k := 1) rfl e1 rfl ?_
  refine hM_zlt (off := 17) (t := 18) rfl rfl (by decide) rfl (fun c => bad (Or.inl (Or.inl c))) (fun cA => ?_)
  refine hI_il (k := 1) rfl e1 rfl ?_
  refine hM_ic (n := 3) rfl (by decide) rfl (fun x3 q3 => ?_)
  refine hM_cge (off := 12) (t := 18) rfl rfl q3 (by decide) rfl (fun c => bad (Or.inl (Or.inr c))) (fun cB => ?_)
  have el : t_rf ρ 97 false (h_r h (r_I h) x1.toInt.toNat) := cI.2.2.2 x1.toInt.toNat (.inr (.inr (97, false))) rfl (fun _ => by omega)
  have el16 : h_r h (r_I h) x1.toInt.toNat = 0 ∨ 16 ≤ h_r h (r_I h) x1.toInt.toNat := by
    rcases el with q | ⟨-, -, q⟩
    · exact Or.inl q.1
    · exact Or.inr ((t_spec ht (by decide) (rfl : c_sp[97]? = some _) q).2.2.1 rfl)
  refine hI_al (k := 0) rfl e0 rfl ?_
  refine hI_gr rfl rfl rfl k16 rfl ?_
  refine hI_il (k := 1) rfl e1 rfl ?_
  refine hI_aa (o := r_I h) rfl ⟨by rw [kI]; decide, by rw [kI]; decide⟩ cA (by omega) rfl ?_
  refine hI_nn (t := 20) rfl (by decide) rfl el16 (fun hne => ?_) (fun he => bad (Or.inr ⟨cA, cB, he⟩))
  have rI : ρ (h_r h (r_I h) x1.toInt.toNat) = 97 := by
    rcases el with q | ⟨-, -, q⟩
    · exact absurd q.1 hne
    · exact q
  refine hI_al (k := 0) rfl e0 rfl ?_
  refine hI_gr rfl rfl rfl k16 rfl ?_
  refine hI_al (k := 0) rfl e0 rfl ?_
  refine hI_gr rfl rfl rfl k16 rfl ?_
  refine hI_il (k := 1) rfl e1 rfl ?_
  refine hI_aa (o := r_I h) rfl ⟨by rw [kI]; decide, by rw [kI]; decide⟩ cA (by omega) rfl ?_
  refine hM_iv (MX.start (W := []) ht fN) (by decide) rfl rfl (by decide) (as := [.ref (h_r h (r_I h) x1.toInt.toNat)]) (r := []) rfl rfl (by decide +kernel) rfl (by decide +kernel) rfl rfl rfl rfl rfl ?_
  have bI := fi_rg ht (by decide) rfl (k := 2) rfl rI
  refine HJ.both (r_toldN ht fN rI ow (Q := fun v h2 => v = none ∧ ct_I h (h_r h 16 0) (h_r h (r_I h) x1.toInt.toNat) 4 h2) (fun h2 I => ⟨rfl, I⟩)) (c_k95 (Q := fun v h2 => ∃ ρ2, FQ ρ ρ2 c_m95.2.1 h h2 ∧ TH c_sp ρ2 h2) hC ht rfl rfl fN rI bI (fun ρ2 h2 f2 t2 _ _ => ⟨ρ2, f2, t2⟩)) (fun v h2 ⟨ev, I⟩ ⟨ρ2, f2, t2⟩ => ?_)
  subst ev
  · obtain ⟨er, fs⟩ := FS.ofFQ (by decide +kernel) f2
    subst er
    show HJ 96 33 lv [] h2 Q
    have l16 := (ht.2 16 (by rw [hm]; decide)).1
    have eN2 : h_r h2 16 0 = h_r h 16 0 := (fq_f f2 (D := [(6, 0)]) (by decide +kernel) (List.mem_singleton.mpr rfl) (by decide) hm l16).2
    have av2 : av_t h2 (h_r h2 16 0) := by
      rw [eN2]
      exact av_pc (ct_pc I) (td_bdI ht rI) (n15.2.2.2.2 x1.toInt.toNat (by omega) hne)
    refine hM_ic (n := 0) rfl (by decide) rfl (fun x0 q0 => hM_si (k := 2) rfl (by decide +kernel) rfl (fun lv2 e2 u2 => ?_))
    refine l_ag t2 hm av2 (fun ρ3 h3 x qx f3 t3 m1 m2 pl3 bk3 => ?_) 4 0 ρ2 h2 lv2 x0 rfl q0 (u2 0 _ (by decide) (Or.inl rfl) e0) e2 (hC.x f2) (FQ.refl _ _ _) t2 (c_PTx 1 _ _ _ h h2 ht f2 (by decide +kernel) n1) (c_PTx 2 _ _ _ h h2 ht f2 (by decide +kernel) n2) ((sk_fr ht f2 (by decide +kernel) hm).1 n15.2.1) (fun s hs => absurd hs (Nat.not_lt_zero s))
    rw [eN2] at bk3
    have s3 := td_frN t2 f3 (by decide +kernel) fN
    have fa : FQ ρ2 ρ3 w_ag7 h h3 := (f2.mono (by decide +kernel)).trans (f3.mono (by decide +kernel))
    have pc3 : pc_eq h (r_im h x1.toInt.toNat) h3 (h_r h 16 0) := pc_eqT (ct_pc I) (pc_same s3)
    have eN3 : h_r h3 16 0 = h_r h 16 0 := (fq_f fa (D := [(6, 0)]) (by decide +kernel) (List.mem_singleton.mpr rfl) (by decide) hm l16).2
    refine g1 ρ3 h3 x qx cA cB hne fa t3 m1 m2 ⟨(fa.2.1 16 (by rw [hm]; decide)).trans hm, pl3, fun r hr => ?_, by rw [eN3]; exact av_pc pc3 (td_bdI ht rI) (n15.2.2.2.2 x1.toInt.toNat (by omega) hne), fun k hk h0 => ?_⟩ pc3
    · have e5 : q_fd h3 (h_r h 16 0) 5 = q_fd h2 (h_r h 16 0) 5 := congrArg Int32.toInt (s3.1 5 (by decide))
      rw [eN3, e5] at hr
      have b5 := (td_bdN t2 fN).2.1
      obtain ⟨a1, a2⟩ := s3.2.2.2 r (by omega)
      have am : ac_sm h2 h3 (q_ac h2 (h_r h 16 0) r) := ⟨a2.1, a2.2.2⟩
      rw [eN3, a1, ac_smY am]
      exact bk3 r hr
    · have eI := im_eq ht fa hm (D := [(6, 1), (8, 1001), (8, 1002)]) (by decide +kernel) (by decide) (by decide) (by decide) k
      rw [eI] at h0 ⊢
      have oI := im_ob ht hm k hk h0
      exact av_pc (pc_same (td_frI ht fa (by decide +kernel) oI)) (td_bdI ht oI) (n15.2.2.2.2 k hk h0)
end
end
