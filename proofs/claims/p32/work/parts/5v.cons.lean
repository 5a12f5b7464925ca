-- SUMMARIES AS CONTRACTS IN WHOLE NUMBERS: printed by wip/ck/con.py
theorem con_s {np : Nat} {σ σ' : Nat → Int} (e : (k_pins np).map (le_ev σ') = (k_pins np).map (le_ev σ)) (n : Nat) (hn : n < np) : σ' n = σ n := by
  have := List.map_inj_left.mp (show (List.range np).map (fun k => le_ev σ' (le_s k)) = (List.range np).map (fun k => le_ev σ (le_s k)) by
    unfold k_pins at e
    rw [List.map_map, List.map_map] at e
    exact e) n (List.mem_range.mpr hn)
  rw [le_sE, le_sE] at this
  exact this
theorem con_a {np : Nat} {α α' : Nat → Nat} (e : (List.range np).map α' = (List.range np).map α) (n : Nat) (hn : n < np) : α' n = α n := List.map_inj_left.mp e n (List.mem_range.mpr hn)
theorem th_na {ρ : Nat → Nat} {h : MH} {y R : Nat} (ht : TH c_sp ρ h) (e : ρ y = R) (hR : R ≠ 0) : y ≠ 0 := fun z => by
  rw [z, ht.1] at e
  exact hR e.symm
theorem c_k40 {ρ : Nat → Nat} {h : MH} {lv : List (Nat × Value)} {Q : Option Value → MH → Prop} {o0 : Nat} {o1 : Nat} (hC : CCok c_CC ρ) (ht : TH c_sp ρ h) (l0 : m_lk lv 0 = some (.ref o0)) (l1 : m_lk lv 1 = some (.ref o1)) (r0 : ρ (o0) = 12) (r1 : ρ (o1) = 103) (g0 : ∀ (ρ' : Nat → Nat) (h' : MH), FQ ρ ρ' c_m40.2.1 h h' → TH c_sp ρ' h' → Q none h') : HJ 40 0 lv [] h Q := by
  obtain ⟨σ, hσ⟩ : ∃ σ : Nat → Int, σ = fun k => 0 := ⟨_, rfl⟩
  obtain ⟨α, hα⟩ : ∃ α : Nat → Nat, α = fun k => if k = 0 then o0 else if k = 1 then o1 else 0 := ⟨_, rfl⟩
  have a0 : α 0 = o0 := by rw [hα]; rfl
  have a1 : α 1 = o1 := by rw [hα]; rfl
  clear hσ hα
  refine HJ.ofV (K := (k_pins 2).map (le_ev σ)) (KA := (List.range 2).map α) c_v40 hC ⟨ht, σ, α, fun q hq => ?_, fun q hq => ?_, fun q hq => ?_, rfl, rfl, fun q hq => ?_, trivial⟩ (fun t mt => ?_) (fun v h' ρ' f hP => ?_)
  · cases hq
  · cases hq
  · cases hq
  · have hq : q ∈ ([(0, .inr (.inr (0, (12, true)))), (1, .inr (.inr (1, (103, true))))] : List (Nat × AT)) := hq
    rcases List.mem_cons.mp hq with e | hq
    · rw [e]
      refine ⟨.ref (α 0), by rw [a0]; exact l0, rfl, ?_⟩
      show t_rf ρ 12 true (α 0)
      rw [a0]
      exact Or.inr ⟨th_na ht r0 (by decide), by decide, r0⟩
    · have hq := hq
      rw [List.mem_singleton.mp hq]
      refine ⟨.ref (α 1), by rw [a1]; exact l1, rfl, ?_⟩
      show t_rf ρ 103 true (α 1)
      rw [a1]
      exact Or.inr ⟨th_na ht r1 (by decide), by decide, r1⟩
  · cases mt
  · obtain ⟨P, mP, tP, kP⟩ := hP
    have mP : P = ((([], []), ([], ((k_pins 2, List.range 2), (2, ([], []))))), []) := by
      have mP : P ∈ ([((([], []), ([], ((k_pins 2, List.range 2), (2, ([], []))))), [])] : List (AST × List Nat)) := mP
      exact List.mem_singleton.mp mP
    subst mP
    obtain ⟨t', σ', α', u1, u2, u3, u4, u5, -, u7⟩ := tP
    have a'0 : α' 0 = o0 := (con_a u5 0 (by decide)).trans a0
    have a'1 : α' 1 = o1 := (con_a u5 1 (by decide)).trans a1
    cases v with
    | some v => exact u7.elim
    | none =>
      exact g0 ρ' h'  f t'
theorem c_k41 {ρ : Nat → Nat} {h : MH} {lv : List (Nat × Value)} {Q : Option Value → MH → Prop} {o0 : Nat} {x1 : Int32} (hC : CCok c_CC ρ) (ht : TH c_sp ρ h) (l0 : m_lk lv 0 = some (.ref o0)) (l1 : m_lk lv 1 = some (.int x1)) (r0 : ρ (o0) = 6) (b1 : 0 ≤ x1.toInt ∧ x1.toInt ≤ 3) (t1 : c_PT 1 ρ h) (t2 : c_PT 2 ρ h) (g0 : ∀ (ρ' : Nat → Nat) (h' : MH) (p2 : Nat), FQ ρ ρ' c_m41.2.1 h h' → TH c_sp ρ' h' → t_rf ρ' 29 true p2 → c_PT 1 ρ' h' → c_PT 2 ρ' h' → Q (some (.ref p2)) h') : HJ 41 0 lv [] h Q := by
  obtain ⟨σ, hσ⟩ : ∃ σ : Nat → Int, σ = fun k => if k = 1 then x1.toInt else 0 := ⟨_, rfl⟩
  obtain ⟨α, hα⟩ : ∃ α : Nat → Nat, α = fun k => if k = 0 then o0 else 0 := ⟨_, rfl⟩
  have s1 : σ 1 = x1.toInt := by rw [hσ]; rfl
  have a0 : α 0 = o0 := by rw [hα]; rfl
  clear hσ hα
  refine HJ.ofV (K := (k_pins 2).map (le_ev σ)) (KA := (List.range 2).map α) c_v41 hC ⟨ht, σ, α, fun q hq => ?_, fun q hq => ?_, fun q hq => ?_, rfl, rfl, fun q hq => ?_, trivial⟩ (fun t mt => ?_) (fun v h' ρ' f hP => ?_)
  · have hq : q ∈ ([(1, (0, 3))] : List (Nat × (Int × Int))) := hq
    rw [List.mem_singleton.mp hq]
    show 0 ≤ σ 1 ∧ σ 1 ≤ 3
    rw [s1]
    exact b1
  · cases hq
  · cases hq
  · have hq : q ∈ ([(0, .inr (.inr (0, (6, true)))), (1, .inl ([(1, 1)], 0))] : List (Nat × AT)) := hq
    rcases List.mem_cons.mp hq with e | hq
    · rw [e]
      refine ⟨.ref (α 0), by rw [a0]; exact l0, rfl, ?_⟩
      show t_rf ρ 6 true (α 0)
      rw [a0]
      exact Or.inr ⟨th_na ht r0 (by decide), by decide, r0⟩
    · have hq := hq
      rw [List.mem_singleton.mp hq]
      refine ⟨.int x1, l1, x1, rfl, ?_⟩
      show x1.toInt = (1 * σ 1 + 0) + 0
      omega
  · have mt : t ∈ ([1, 2] : List Nat) := mt
    simp only [List.mem_cons, List.not_mem_nil, or_false] at mt
    rcases mt with rfl | rfl
    · exact t1
    · exact t2
  · obtain ⟨P, mP, tP, kP⟩ := hP
    have mP : P = ((([], []), ([], ((k_pins 2, List.range 2), (3, ([], [.inr (.inr (2, (29, true)))]))))), [1, 2]) := by
      have mP : P ∈ ([((([], []), ([], ((k_pins 2, List.range 2), (3, ([], [.inr (.inr (2, (29, true)))]))))), [1, 2])] : List (AST × List Nat)) := mP
      exact List.mem_singleton.mp mP
    subst mP
    obtain ⟨t', σ', α', u1, u2, u3, u4, u5, -, u7⟩ := tP
    have s'1 : σ' 1 = x1.toInt := (con_s u4 1 (by decide)).trans s1
    have a'0 : α' 0 = o0 := (con_a u5 0 (by decide)).trans a0
    cases v with
    | none => exact u7.elim
    | some v =>
      obtain ⟨⟨e1, e2⟩, -⟩ := u7
      have e1 : v = .ref (α' 2) := e1
      subst e1
      exact g0 ρ' h' (α' 2) f t' e2 (kP 1 (by decide)) (kP 2 (by decide))
theorem c_k3045 {ρ : Nat → Nat} {h : MH} {lv : List (Nat × Value)} {Q : Option Value → MH → Prop} {o0 : Nat} {o1 : Nat} (hC : CCok c_CC ρ) (ht : TH c_sp ρ h) (l0 : m_lk lv 0 = some (.ref o0)) (l1 : m_lk lv 1 = some (.ref o1)) (r0 : ρ (o0) = 29) (r1 : ρ (o1) = 103) (t1 : c_PT 1 ρ h) (t2 : c_PT 2 ρ h) (g0 : ∀ (ρ' : Nat → Nat) (h' : MH), FQ ρ ρ' c_m3045.2.1 h h' → TH c_sp ρ' h' → c_PT 1 ρ' h' → c_PT 2 ρ' h' → Q none h') : HJ 45 0 lv [] h Q := by
  obtain ⟨σ, hσ⟩ : ∃ σ : Nat → Int, σ = fun k => 0 := ⟨_, rfl⟩
  obtain ⟨α, hα⟩ : ∃ α : Nat → Nat, α = fun k => if k = 0 then o0 else if k = 1 then o1 else 0 := ⟨_, rfl⟩
  have a0 : α 0 = o0 := by rw [hα]; rfl
  have a1 : α 1 = o1 := by rw [hα]; rfl
  clear hσ hα
  refine HJ.ofV (K := (k_pins 2).map (le_ev σ)) (KA := (List.range 2).map α) c_v3045 hC ⟨ht, σ, α, fun q hq => ?_, fun q hq => ?_, fun q hq => ?_, rfl, rfl, fun q hq => ?_, trivial⟩ (fun t mt => ?_) (fun v h' ρ' f hP => ?_)
  · cases hq
  · cases hq
  · cases hq
  · have hq : q ∈ ([(0, .inr (.inr (0, (29, true)))), (1, .inr (.inr (1, (103, true))))] : List (Nat × AT)) := hq
    rcases List.mem_cons.mp hq with e | hq
    · rw [e]
      refine ⟨.ref (α 0), by rw [a0]; exact l0, rfl, ?_⟩
      show t_rf ρ 29 true (α 0)
      rw [a0]
      exact Or.inr ⟨th_na ht r0 (by decide), by decide, r0⟩
    · have hq := hq
      rw [List.mem_singleton.mp hq]
      refine ⟨.ref (α 1), by rw [a1]; exact l1, rfl, ?_⟩
      show t_rf ρ 103 true (α 1)
      rw [a1]
      exact Or.inr ⟨th_na ht r1 (by decide), by decide, r1⟩
  · have mt : t ∈ ([1, 2] : List Nat) := mt
    simp only [List.mem_cons, List.not_mem_nil, or_false] at mt
    rcases mt with rfl | rfl
    · exact t1
    · exact t2
  · obtain ⟨P, mP, tP, kP⟩ := hP
    have mP : P = ((([], []), ([], ((k_pins 2, List.range 2), (2, ([], []))))), [1, 2]) := by
      have mP : P ∈ ([((([], []), ([], ((k_pins 2, List.range 2), (2, ([], []))))), [1, 2])] : List (AST × List Nat)) := mP
      exact List.mem_singleton.mp mP
    subst mP
    obtain ⟨t', σ', α', u1, u2, u3, u4, u5, -, u7⟩ := tP
    have a'0 : α' 0 = o0 := (con_a u5 0 (by decide)).trans a0
    have a'1 : α' 1 = o1 := (con_a u5 1 (by decide)).trans a1
    cases v with
    | some v => exact u7.elim
    | none =>
      exact g0 ρ' h'  f t' (kP 1 (by decide)) (kP 2 (by decide))
theorem c_k45 {ρ : Nat → Nat} {h : MH} {lv : List (Nat × Value)} {Q : Option Value → MH → Prop} {o0 : Nat} {o1 : Nat} (hC : CCok c_CC ρ) (ht : TH c_sp ρ h) (l0 : m_lk lv 0 = some (.ref o0)) (l1 : m_lk lv 1 = some (.ref o1)) (r0 : ρ (o0) = 29) (r1 : ρ (o1) = 12) (t1 : c_PT 1 ρ h) (t2 : c_PT 2 ρ h) (g0 : ∀ (ρ' : Nat → Nat) (h' : MH), FQ ρ ρ' c_m45.2.1 h h' → TH c_sp ρ' h' → c_PT 1 ρ' h' → c_PT 2 ρ' h' → Q none h') : HJ 45 0 lv [] h Q := by
  obtain ⟨σ, hσ⟩ : ∃ σ : Nat → Int, σ = fun k => 0 := ⟨_, rfl⟩
  obtain ⟨α, hα⟩ : ∃ α : Nat → Nat, α = fun k => if k = 0 then o0 else if k = 1 then o1 else 0 := ⟨_, rfl⟩
  have a0 : α 0 = o0 := by rw [hα]; rfl
  have a1 : α 1 = o1 := by rw [hα]; rfl
  clear hσ hα
  refine HJ.ofV (K := (k_pins 2).map (le_ev σ)) (KA := (List.range 2).map α) c_v45 hC ⟨ht, σ, α, fun q hq => ?_, fun q hq => ?_, fun q hq => ?_, rfl, rfl, fun q hq => ?_, trivial⟩ (fun t mt => ?_) (fun v h' ρ' f hP => ?_)
  · cases hq
  · cases hq
  · cases hq
  · have hq : q ∈ ([(0, .inr (.inr (0, (29, true)))), (1, .inr (.inr (1, (12, true))))] : List (Nat × AT)) := hq
    rcases List.mem_cons.mp hq with e | hq
    · rw [e]
      refine ⟨.ref (α 0), by rw [a0]; exact l0, rfl, ?_⟩
      show t_rf ρ 29 true (α 0)
      rw [a0]
      exact Or.inr ⟨th_na ht r0 (by decide), by decide, r0⟩
    · have hq := hq
      rw [List.mem_singleton.mp hq]
      refine ⟨.ref (α 1), by rw [a1]; exact l1, rfl, ?_⟩
      show t_rf ρ 12 true (α 1)
      rw [a1]
      exact Or.inr ⟨th_na ht r1 (by decide), by decide, r1⟩
  · have mt : t ∈ ([1, 2] : List Nat) := mt
    simp only [List.mem_cons, List.not_mem_nil, or_false] at mt
    rcases mt with rfl | rfl
    · exact t1
    · exact t2
  · obtain ⟨P, mP, tP, kP⟩ := hP
    have mP : P = ((([], []), ([], ((k_pins 2, List.range 2), (2, ([], []))))), [1, 2]) := by
      have mP : P ∈ ([((([], []), ([], ((k_pins 2, List.range 2), (2, ([], []))))), [1, 2])] : List (AST × List Nat)) := mP
      exact List.mem_singleton.mp mP
    subst mP
    obtain ⟨t', σ', α', u1, u2, u3, u4, u5, -, u7⟩ := tP
    have a'0 : α' 0 = o0 := (con_a u5 0 (by decide)).trans a0
    have a'1 : α' 1 = o1 := (con_a u5 1 (by decide)).trans a1
    cases v with
    | some v => exact u7.elim
    | none =>
      exact g0 ρ' h'  f t' (kP 1 (by decide)) (kP 2 (by decide))
theorem c_k95 {ρ : Nat → Nat} {h : MH} {lv : List (Nat × Value)} {Q : Option Value → MH → Prop} {o0 : Nat} {o1 : Nat} (hC : CCok c_CC ρ) (ht : TH c_sp ρ h) (l0 : m_lk lv 0 = some (.ref o0)) (l1 : m_lk lv 1 = some (.ref o1)) (r0 : ρ (o0) = 7) (r1 : ρ (o1) = 97) (b2 : 0 ≤ (h_i h (o1) 2).toInt ∧ (h_i h (o1) 2).toInt ≤ 600) (g0 : ∀ (ρ' : Nat → Nat) (h' : MH), FQ ρ ρ' c_m95.2.1 h h' → TH c_sp ρ' h' → (h_i h' (o0) 2).toInt = (h_i h (o1) 2).toInt → (h_i h' (o1) 2).toInt = (h_i h (o1) 2).toInt → Q none h') : HJ 95 0 lv [] h Q := by
  obtain ⟨σ, hσ⟩ : ∃ σ : Nat → Int, σ = fun k => if k = 2 then (h_i h (o1) 2).toInt else 0 := ⟨_, rfl⟩
  obtain ⟨α, hα⟩ : ∃ α : Nat → Nat, α = fun k => if k = 0 then o0 else if k = 1 then o1 else 0 := ⟨_, rfl⟩
  have s2 : σ 2 = (h_i h (o1) 2).toInt := by rw [hσ]; rfl
  have a0 : α 0 = o0 := by rw [hα]; rfl
  have a1 : α 1 = o1 := by rw [hα]; rfl
  clear hσ hα
  refine HJ.ofV (K := (k_pins 3).map (le_ev σ)) (KA := (List.range 3).map α) c_v95 hC ⟨ht, σ, α, fun q hq => ?_, fun q hq => ?_, fun q hq => ?_, rfl, rfl, fun q hq => ?_, trivial⟩ (fun t mt => ?_) (fun v h' ρ' f hP => ?_)
  · have hq : q ∈ ([(2, (0, 600))] : List (Nat × (Int × Int))) := hq
    rw [List.mem_singleton.mp hq]
    show 0 ≤ σ 2 ∧ σ 2 ≤ 600
    rw [s2]
    exact b2
  · cases hq
  · have hq : q ∈ ([((1, (97, 2)), .inl ([(2, 1)], 0))] : List ((Nat × (Nat × Nat)) × AT)) := hq
    rw [List.mem_singleton.mp hq]
    show (α 1 ≠ 0 ∧ ρ (α 1) = 97) ∧ t_fv σ α ρ h (α 1) 2 (.inl ([(2, 1)], 0))
    rw [a1]
    refine ⟨⟨th_na ht r1 (by decide), r1⟩, ?_⟩
    show (h_i h (o1) 2).toInt = (1 * σ 2 + 0) + 0
    omega
  · have hq : q ∈ ([(0, .inr (.inr (0, (7, true)))), (1, .inr (.inr (1, (97, true))))] : List (Nat × AT)) := hq
    rcases List.mem_cons.mp hq with e | hq
    · rw [e]
      refine ⟨.ref (α 0), by rw [a0]; exact l0, rfl, ?_⟩
      show t_rf ρ 7 true (α 0)
      rw [a0]
      exact Or.inr ⟨th_na ht r0 (by decide), by decide, r0⟩
    · have hq := hq
      rw [List.mem_singleton.mp hq]
      refine ⟨.ref (α 1), by rw [a1]; exact l1, rfl, ?_⟩
      show t_rf ρ 97 true (α 1)
      rw [a1]
      exact Or.inr ⟨th_na ht r1 (by decide), by decide, r1⟩
  · cases mt
  · obtain ⟨P, mP, tP, kP⟩ := hP
    have mP : P = ((([], []), ([((0, (7, 2)), .inl ([(2, 1)], 0)), ((1, (97, 2)), .inl ([(2, 1)], 0))], ((k_pins 3, List.range 3), (3, ([], []))))), []) := by
      have mP : P ∈ ([((([], []), ([((0, (7, 2)), .inl ([(2, 1)], 0)), ((1, (97, 2)), .inl ([(2, 1)], 0))], ((k_pins 3, List.range 3), (3, ([], []))))), [])] : List (AST × List Nat)) := mP
      exact List.mem_singleton.mp mP
    subst mP
    obtain ⟨t', σ', α', u1, u2, u3, u4, u5, -, u7⟩ := tP
    have s'2 : σ' 2 = (h_i h (o1) 2).toInt := (con_s u4 2 (by decide)).trans s2
    have a'0 : α' 0 = o0 := (con_a u5 0 (by decide)).trans a0
    have a'1 : α' 1 = o1 := (con_a u5 1 (by decide)).trans a1
    cases v with
    | some v => exact u7.elim
    | none =>
      have v0 : (h_i h' (α' 0) 2).toInt = (1 * σ' 2 + 0) + 0 := (u3 _ (List.mem_of_getElem? (i := 0) rfl)).2
      rw [a'0] at v0
      have v1 : (h_i h' (α' 1) 2).toInt = (1 * σ' 2 + 0) + 0 := (u3 _ (List.mem_of_getElem? (i := 1) rfl)).2
      rw [a'1] at v1
      exact g0 ρ' h'  f t' (by omega) (by omega)
theorem c_k1095 {ρ : Nat → Nat} {h : MH} {lv : List (Nat × Value)} {Q : Option Value → MH → Prop} {o0 : Nat} {o1 : Nat} (hC : CCok c_CC ρ) (ht : TH c_sp ρ h) (l0 : m_lk lv 0 = some (.ref o0)) (l1 : m_lk lv 1 = some (.ref o1)) (r0 : ρ (o0) = 97) (r1 : ρ (o1) = 7) (b2 : 0 ≤ (h_i h (o1) 2).toInt ∧ (h_i h (o1) 2).toInt ≤ 600) (g0 : ∀ (ρ' : Nat → Nat) (h' : MH), FQ ρ ρ' c_m1095.2.1 h h' → TH c_sp ρ' h' → (h_i h' (o0) 2).toInt = (h_i h (o1) 2).toInt → (h_i h' (o1) 2).toInt = (h_i h (o1) 2).toInt → Q none h') : HJ 95 0 lv [] h Q := by
  obtain ⟨σ, hσ⟩ : ∃ σ : Nat → Int, σ = fun k => if k = 2 then (h_i h (o1) 2).toInt else 0 := ⟨_, rfl⟩
  obtain ⟨α, hα⟩ : ∃ α : Nat → Nat, α = fun k => if k = 0 then o0 else if k = 1 then o1 else 0 := ⟨_, rfl⟩
  have s2 : σ 2 = (h_i h (o1) 2).toInt := by rw [hσ]; rfl
  have a0 : α 0 = o0 := by rw [hα]; rfl
  have a1 : α 1 = o1 := by rw [hα]; rfl
  clear hσ hα
  refine HJ.ofV (K := (k_pins 3).map (le_ev σ)) (KA := (List.range 3).map α) c_v1095 hC ⟨ht, σ, α, fun q hq => ?_, fun q hq => ?_, fun q hq => ?_, rfl, rfl, fun q hq => ?_, trivial⟩ (fun t mt => ?_) (fun v h' ρ' f hP => ?_)
  · have hq : q ∈ ([(2, (0, 600))] : List (Nat × (Int × Int))) := hq
    rw [List.mem_singleton.mp hq]
    show 0 ≤ σ 2 ∧ σ 2 ≤ 600
    rw [s2]
    exact b2
  · cases hq
  · have hq : q ∈ ([((1, (7, 2)), .inl ([(2, 1)], 0))] : List ((Nat × (Nat × Nat)) × AT)) := hq
    rw [List.mem_singleton.mp hq]
    show (α 1 ≠ 0 ∧ ρ (α 1) = 7) ∧ t_fv σ α ρ h (α 1) 2 (.inl ([(2, 1)], 0))
    rw [a1]
    refine ⟨⟨th_na ht r1 (by decide), r1⟩, ?_⟩
    show (h_i h (o1) 2).toInt = (1 * σ 2 + 0) + 0
    omega
  · have hq : q ∈ ([(0, .inr (.inr (0, (97, true)))), (1, .inr (.inr (1, (7, true))))] : List (Nat × AT)) := hq
    rcases List.mem_cons.mp hq with e | hq
    · rw [e]
      refine ⟨.ref (α 0), by rw [a0]; exact l0, rfl, ?_⟩
      show t_rf ρ 97 true (α 0)
      rw [a0]
      exact Or.inr ⟨th_na ht r0 (by decide), by decide, r0⟩
    · have hq := hq
      rw [List.mem_singleton.mp hq]
      refine ⟨.ref (α 1), by rw [a1]; exact l1, rfl, ?_⟩
      show t_rf ρ 7 true (α 1)
      rw [a1]
      exact Or.inr ⟨th_na ht r1 (by decide), by decide, r1⟩
  · cases mt
  · obtain ⟨P, mP, tP, kP⟩ := hP
    have mP : P = ((([], []), ([((0, (97, 2)), .inl ([(2, 1)], 0)), ((1, (7, 2)), .inl ([(2, 1)], 0))], ((k_pins 3, List.range 3), (3, ([], []))))), []) := by
      have mP : P ∈ ([((([], []), ([((0, (97, 2)), .inl ([(2, 1)], 0)), ((1, (7, 2)), .inl ([(2, 1)], 0))], ((k_pins 3, List.range 3), (3, ([], []))))), [])] : List (AST × List Nat)) := mP
      exact List.mem_singleton.mp mP
    subst mP
    obtain ⟨t', σ', α', u1, u2, u3, u4, u5, -, u7⟩ := tP
    have s'2 : σ' 2 = (h_i h (o1) 2).toInt := (con_s u4 2 (by decide)).trans s2
    have a'0 : α' 0 = o0 := (con_a u5 0 (by decide)).trans a0
    have a'1 : α' 1 = o1 := (con_a u5 1 (by decide)).trans a1
    cases v with
    | some v => exact u7.elim
    | none =>
      have v0 : (h_i h' (α' 0) 2).toInt = (1 * σ' 2 + 0) + 0 := (u3 _ (List.mem_of_getElem? (i := 0) rfl)).2
      rw [a'0] at v0
      have v1 : (h_i h' (α' 1) 2).toInt = (1 * σ' 2 + 0) + 0 := (u3 _ (List.mem_of_getElem? (i := 1) rfl)).2
      rw [a'1] at v1
      exact g0 ρ' h'  f t' (by omega) (by omega)
