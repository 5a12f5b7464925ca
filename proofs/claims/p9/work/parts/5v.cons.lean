-- SUMMARIES AS CONTRACTS IN WHOLE NUMBERS: printed by wip/ck/con.py
theorem con_s {np : Nat} {σ σ' : Nat → Int} (e : (k_pins np).map (le_ev σ') = (k_pins np).map (le_ev σ)) (n : Nat) (hn : n < np) : σ' n = σ n := by
  have := List.map_inj_left.mp (show (List.range np).map (fun k => le_ev σ' (le_s k)) = (List.range np).map (fun k => le_ev σ (le_s k)) by
    unfold k_pins at e
    rw [List.map_map, List.map_map] at e
    exact e) n (List.mem_range.mpr hn)
  rw [le_sE, le_sE] at this
  exact this
theorem con_a {np : Nat} {α α' : Nat → Nat} (e : (List.range np).map α' = (List.range np).map α) (n : Nat) (hn : n < np) : α' n = α n := List.map_inj_left.mp e n (List.mem_range.mpr hn)
theorem th_na {ρ : Nat → Nat} {h : MH} {y R : Nat} (ht : TH c_sp ρ h) (e : ρ y = R) (hR : R ≠ 0) : y ≠ 0 := fun z => by
  rw [z, ht.1] at e
  exact hR e.symm
theorem c_k40 {ρ : Nat → Nat} {h : MH} {lv : List (Nat × Value)} {Q : Option Value → MH → Prop} {o0 : Nat} {o1 : Nat} (hC : CCok c_CC ρ) (ht : TH c_sp ρ h) (l0 : m_lk lv 0 = some (.ref o0)) (l1 : m_lk lv 1 = some (.ref o1)) (r0 : ρ (o0) = 12) (r1 : ρ (o1) = 103) (g0 : ∀ (ρ' : Nat → Nat) (h' : MH), FQ ρ ρ' c_m40.2.1 h h' → TH c_sp ρ' h' → Q none h') : HJ 40 0 lv [] h Q := by
  obtain ⟨σ, hσ⟩ : ∃ σ : Nat → Int, σ = fun k => 0 := ⟨_, rfl⟩
  obtain ⟨α, hα⟩ : ∃ α : Nat → Nat, α = fun k => if k = 0 then o0 else if k = 1 then o1 else 0 := ⟨_, rfl⟩
  have a0 : α 0 = o0 := by rw [hα]; rfl
  have a1 : α 1 = o1 := by rw [hα]; rfl
  clear hσ hα
  refine HJ.ofV (K := (k_pins 2).map (le_ev σ)) (KA := (List.range 2).map α) c_v40 hC ⟨ht, σ, α, fun q hq => ?_, fun q hq => ?_, fun q hq => ?_, rfl, rfl, fun q hq => ?_, trivial⟩ (fun t mt => ?_) (fun v h' ρ' f hP => ?_)
  · cases hq
  · cases hq
  · cases hq
  · have hq : q ∈ ([(0, .inr (.inr (0, (12, true)))), (1, .inr (.inr (1, (103, true))))] : List (Nat × AT)) := hq
    rcases List.mem_cons.mp hq with e | hq
    · rw [e]
      refine ⟨.ref (α 0), by rw [a0]; exact l0, rfl, ?_⟩
      show t_rf ρ 12 true (α 0)
      rw [a0]
      exact Or.inr ⟨th_na ht r0 (by decide), by decide, r0⟩
    · have hq := hq
      rw [List.mem_singleton.mp hq]
      refine ⟨.ref (α 1), by rw [a1]; exact l1, rfl, ?_⟩
      show t_rf ρ 103 true (α 1)
      rw [a1]
      exact Or.inr ⟨th_na ht r1 (by decide), by decide, r1⟩
  · cases mt
  · obtain ⟨P, mP, tP, kP⟩ := hP
    have mP : P = ((([], []), ([], ((k_pins 2, List.range 2), (2, ([], []))))), []) := by
      have mP : P ∈ ([((([], []), ([], ((k_pins 2, List.range 2), (2, ([], []))))), [])] : List (AST × List Nat)) := mP
      exact List.mem_singleton.mp mP
    subst mP
    obtain ⟨t', σ', α', u1, u2, u3, u4, u5, -, u7⟩ := tP
    have a'0 : α' 0 = o0 := (con_a u5 0 (by decide)).trans a0
    have a'1 : α' 1 = o1 := (con_a u5 1 (by decide)).trans a1
    cases v with
    | some v => exact u7.elim
    | none =>
      exact g0 ρ' h'  f t'
theorem c_k41 {ρ : Nat → Nat} {h : MH} {lv : List (Nat × Value)} {Q : Option Value → MH → Prop} {o0 : Nat} {x1 : Int32} (hC : CCok c_CC ρ) (ht : TH c_sp ρ h) (l0 : m_lk lv 0 = some (.ref o0)) (l1 : m_lk lv 1 = some (.int x1)) (r0 : ρ (o0) = 6) (b1 : 0 ≤ x1.toInt ∧ x1.toInt ≤ 3) (t1 : c_PT 1 ρ h) (t2 : c_PT 2 ρ h) (g0 : ∀ (ρ' : Nat → Nat) (h' : MH) (p2 : Nat), FQ ρ ρ' c_m41.2.1 h h' → TH c_sp ρ' h' → t_rf ρ' 29 true p2 → c_PT 1 ρ' h' → c_PT 2 ρ' h' → Q (some (.ref p2)) h') : HJ 41 0 lv [] h Q := by
  obtain ⟨σ, hσ⟩ : ∃ σ : Nat → Int, σ = fun k => if k = 1 then x1.toInt else 0 := ⟨_, rfl⟩
  obtain ⟨α, hα⟩ : ∃ α : Nat → Nat, α = fun k => if k = 0 then o0 else 0 := ⟨_, rfl⟩
  have s1 : σ 1 = x1.toInt := by rw [hσ]; rfl
  have a0 : α 0 = o0 := by rw [hα]; rfl
  clear hσ hα
  refine HJ.ofV (K := (k_pins 2).map (le_ev σ)) (KA := (List.range 2).map α) c_v41 hC ⟨ht, σ, α, fun q hq => ?_, fun q hq => ?_, fun q hq => ?_, rfl, rfl, fun q hq => ?_, trivial⟩ (fun t mt => ?_) (fun v h' ρ' f hP => ?_)
  · have hq : q ∈ ([(1, (0, 3))] : List (Nat × (Int × Int))) := hq
    rw [List.mem_singleton.mp hq]
    show 0 ≤ σ 1 ∧ σ 1 ≤ 3
    rw [s1]
    exact b1
  · cases hq
  · cases hq
  · have hq : q ∈ ([(0, .inr (.inr (0, (6, true)))), (1, .inl ([(1, 1)], 0))] : List (Nat × AT)) := hq
    rcases List.mem_cons.mp hq with e | hq
    · rw [e]
      refine ⟨.ref (α 0), by rw [a0]; exact l0, rfl, ?_⟩
      show t_rf ρ 6 true (α 0)
      rw [a0]
      exact Or.inr ⟨th_na ht r0 (by decide), by decide, r0⟩
    · have hq := hq
      rw [List.mem_singleton.mp hq]
      refine ⟨.int x1, l1, x1, rfl, ?_⟩
      show x1.toInt = (1 * σ 1 + 0) + 0
      omega
  · have mt : t ∈ ([1, 2] : List Nat) := mt
    simp only [List.mem_cons, List.not_mem_nil, or_false] at mt
    rcases mt with rfl | rfl
    · exact t1
    · exact t2
  · obtain ⟨P, mP, tP, kP⟩ := hP
    have mP : P = ((([], []), ([], ((k_pins 2, List.range 2), (3, ([], [.inr (.inr (2, (29, true)))]))))), [1, 2]) := by
      have mP : P ∈ ([((([], []), ([], ((k_pins 2, List.range 2), (3, ([], [.inr (.inr (2, (29, true)))]))))), [1, 2])] : List (AST × List Nat)) := mP
      exact List.mem_singleton.mp mP
    subst mP
    obtain ⟨t', σ', α', u1, u2, u3, u4, u5, -, u7⟩ := tP
    have s'1 : σ' 1 = x1.toInt := (con_s u4 1 (by decide)).trans s1
    have a'0 : α' 0 = o0 := (con_a u5 0 (by decide)).trans a0
    cases v with
    | none => exact u7.elim
    | some v =>
      obtain ⟨⟨e1, e2⟩, -⟩ := u7
      have e1 : v = .ref (α' 2) := e1
      subst e1
      exact g0 ρ' h' (α' 2) f t' e2 (kP 1 (by decide)) (kP 2 (by decide))
theorem c_k3045 {ρ : Nat → Nat} {h : MH} {lv : List (Nat × Value)} {Q : Option Value → MH → Prop} {o0 : Nat} {o1 : Nat} (hC : CCok c_CC ρ) (ht : TH c_sp ρ h) (l0 : m_lk lv 0 = some (.ref o0)) (l1 : m_lk lv 1 = some (.ref o1)) (r0 : ρ (o0) = 29) (r1 : ρ (o1) = 103) (t1 : c_PT 1 ρ h) (t2 : c_PT 2 ρ h) (g0 : ∀ (ρ' : Nat → Nat) (h' : MH), FQ ρ ρ' c_m3045.2.1 h h' → TH c_sp ρ' h' → c_PT 1 ρ' h' → c_PT 2 ρ' h' → Q none h') : HJ 45 0 lv [] h Q := by
  obtain ⟨σ, hσ⟩ : ∃ σ : Nat → Int, σ = fun k => 0 := ⟨_, rfl⟩
  obtain ⟨α, hα⟩ : ∃ α : Nat → Nat, α = fun k => if k = 0 then o0 else if k = 1 then o1 else 0 := ⟨_, rfl⟩
  have a0 : α 0 = o0 := by rw [hα]; rfl
  have a1 : α 1 = o1 := by rw [hα]; rfl
  clear hσ hα
  refine HJ.ofV (K := (k_pins 2).map (le_ev σ)) (KA := (List.range 2).map α) c_v3045 hC ⟨ht, σ, α, fun q hq => ?_, fun q hq => ?_, fun q hq => ?_, rfl, rfl, fun q hq => ?_, trivial⟩ (fun t mt => ?_) (fun v h' ρ' f hP => ?_)
  · cases hq
  · cases hq
  · cases hq
  · have hq : q ∈ ([(0, .inr (.inr (0, (29, true)))), (1, .inr (.inr (1, (103, true))))] : List (Nat × AT)) := hq
    rcases List.mem_cons.mp hq with e | hq
    · rw [e]
      refine ⟨.ref (α 0), by rw [a0]; exact l0, rfl, ?_⟩
      show t_rf ρ 29 true (α 0)
      rw [a0]
      exact Or.inr ⟨th_na ht r0 (by decide), by decide, r0⟩
    · have hq := hq
      rw [List.mem_singleton.mp hq]
      refine ⟨.ref (α 1), by rw [a1]; exact l1, rfl, ?_⟩
      show t_rf ρ 103 true (α 1)
      rw [a1]
      exact Or.inr ⟨th_na ht r1 (by decide), by decide, r1⟩
  · have mt : t ∈ ([1, 2] : List Nat) := mt
    simp only [List.mem_cons, List.not_mem_nil, or_false] at mt
    rcases mt with rfl | rfl
    · exact t1
    · exact t2
  · obtain ⟨P, mP, tP, kP⟩ := hP
    have mP : P = ((([], []), ([], ((k_pins 2, List.range 2), (2, ([], []))))), [1, 2]) := by
      have mP : P ∈ ([((([], []), ([], ((k_pins 2, List.range 2), (2, ([], []))))), [1, 2])] : List (AST × List Nat)) := mP
      exact List.mem_singleton.mp mP
    subst mP
    obtain ⟨t', σ', α', u1, u2, u3, u4, u5, -, u7⟩ := tP
    have a'0 : α' 0 = o0 := (con_a u5 0 (by decide)).trans a0
    have a'1 : α' 1 = o1 := (con_a u5 1 (by decide)).trans a1
    cases v with
    | some v => exact u7.elim
    | none =>
      exact g0 ρ' h'  f t' (kP 1 (by decide)) (kP 2 (by decide))
theorem c_k45 {ρ : Nat → Nat} {h : MH} {lv : List (Nat × Value)} {Q : Option Value → MH → Prop} {o0 : Nat} {o1 : Nat} (hC : CCok c_CC ρ) (ht : TH c_sp ρ h) (l0 : m_lk lv 0 = some (.ref o0)) (l1 : m_lk lv 1 = some (.ref o1)) (r0 : ρ (o0) = 29) (r1 : ρ (o1) = 12) (t1 : c_PT 1 ρ h) (t2 : c_PT 2 ρ h) (g0 : ∀ (ρ' : Nat → Nat) (h' : MH), FQ ρ ρ' c_m45.2.1 h h' → TH c_sp ρ' h' → c_PT 1 ρ' h' → c_PT 2 ρ' h' → Q none h') : HJ 45 0 lv [] h Q := by
  obtain ⟨σ, hσ⟩ : ∃ σ : Nat → Int, σ = fun k => 0 := ⟨_, rfl⟩
  obtain ⟨α, hα⟩ : ∃ α : Nat → Nat, α = fun k => if k = 0 then o0 else if k = 1 then o1 else 0 := ⟨_, rfl⟩
  have a0 : α 0 = o0 := by rw [hα]; rfl
  have a1 : α 1 = o1 := by rw [hα]; rfl
  clear hσ hα
  refine HJ.ofV (K := (k_pins 2).map (le_ev σ)) (KA := (List.range 2).map α) c_v45 hC ⟨ht, σ, α, fun q hq => ?_, fun q hq => ?_, fun q hq => ?_, rfl, rfl, fun q hq => ?_, trivial⟩ (fun t mt => ?_) (fun v h' ρ' f hP => ?_)
  · cases hq
  · cases hq
  · cases hq
  · have hq : q ∈ ([(0, .inr (.inr (0, (29, true)))), (1, .inr (.inr (1, (12, true))))] : List (Nat × AT)) := hq
    rcases List.mem_cons.mp hq with e | hq
    · rw [e]
      refine ⟨.ref (α 0), by rw [a0]; exact l0, rfl, ?_⟩
      show t_rf ρ 29 true (α 0)
      rw [a0]
      exact Or.inr ⟨th_na ht r0 (by decide), by decide, r0⟩
    · have hq := hq
      rw [List.mem_singleton.mp hq]
      refine ⟨.ref (α 1), by rw [a1]; exact l1, rfl, ?_⟩
      show t_rf ρ 12 true (α 1)
      rw [a1]
      exact Or.inr ⟨th_na ht r1 (by decide), by decide, r1⟩
  · have mt : t ∈ ([1, 2] : List Nat) := mt
    simp only [List.mem_cons, List.not_mem_nil, or_false] at mt
    rcases mt with rfl | rfl
    · exact t1
    · exact t2
  · obtain ⟨P, mP, tP, kP⟩ := hP
    have mP : P = ((([], []), ([], ((k_pins 2, List.range 2), (2, ([], []))))), [1, 2]) := by
      have mP : P ∈ ([((([], []), ([], ((k_pins 2, List.range 2), (2, ([], []))))), [1, 2])] : List (AST × List Nat)) := mP
      exact List.mem_singleton.mp mP
    subst mP
    obtain ⟨t', σ', α', u1, u2, u3, u4, u5, -, u7⟩ := tP
    have a'0 : α' 0 = o0 := (con_a u5 0 (by decide)).trans a0
    have a'1 : α' 1 = o1 := (con_a u5 1 (by decide)).trans a1
    cases v with
    | some v => exact u7.elim
    | none =>
      exact g0 ρ' h'  f t' (kP 1 (by decide)) (kP 2 (by decide))
theorem c_k95 {ρ : Nat → Nat} {h : MH} {lv : List (Nat × Value)} {Q : Option Value → MH → Prop} {o0 : Nat} {o1 : Nat} (hC : CCok c_CC ρ) (ht : TH c_sp ρ h) (l0 : m_lk lv 0 = some (.ref o0)) (l1 : m_lk lv 1 = some (.ref o1)) (r0 : ρ (o0) = 7) (r1 : ρ (o1) = 97) (b2 : 0 ≤ (h_i h (o1) 2).toInt ∧ (h_i h (o1) 2).toInt ≤ 600) (g0 : ∀ (ρ' : Nat → Nat) (h' : MH), FQ ρ ρ' c_m95.2.1 h h' → TH c_sp ρ' h' → (h_i h' (o0) 2).toInt = (h_i h (o1) 2).toInt → (h_i h' (o1) 2).toInt = (h_i h (o1) 2).toInt → Q none h') : HJ 95 0 lv [] h Q := by
  obtain ⟨σ, hσ⟩ : ∃ σ : Nat → Int, σ = fun k => if k = 2 then (h_i h (o1) 2).toInt else 0 := ⟨_, rfl⟩
  obtain ⟨α, hα⟩ : ∃ α : Nat → Nat, α = fun k => if k = 0 then o0 else if k = 1 then o1 else 0 := ⟨_, rfl⟩
  have s2 : σ 2 = (h_i h (o1) 2).toInt := by rw [hσ]; rfl
  have a0 : α 0 = o0 := by rw [hα]; rfl
  have a1 : α 1 = o1 := by rw [hα]; rfl
  clear hσ hα
  refine HJ.ofV (K := (k_pins 3).map (le_ev σ)) (KA := (List.range 3).map α) c_v95 hC ⟨ht, σ, α, fun q hq => ?_, fun q hq => ?_, fun q hq => ?_, rfl, rfl, fun q hq => ?_, trivial⟩ (fun t mt => ?_) (fun v h' ρ' f hP => ?_)
  · have hq : q ∈ ([(2, (0, 600))] : List (Nat × (Int × Int))) := hq
    rw [List.mem_singleton.mp hq]
    show 0 ≤ σ 2 ∧ σ 2 ≤ 600
    rw [s2]
    exact b2
  · cases hq
  · have hq : q ∈ ([((1, (97, 2)), .inl ([(2, 1)], 0))] : List ((Nat × (Nat × Nat)) × AT)) := hq
    rw [List.mem_singleton.mp hq]
    show (α 1 ≠ 0 ∧ ρ (α 1) = 97) ∧ t_fv σ α ρ h (α 1) 2 (.inl ([(2, 1)], 0))
    rw [a1]
    refine ⟨⟨th_na ht r1 (by decide), r1⟩, ?_⟩
    show (h_i h (o1) 2).toInt = (1 * σ 2 + 0) + 0
    omega
  · have hq : q ∈ ([(0, .inr (.inr (0, (7, true)))), (1, .inr (.inr (1, (97, true))))] : List (Nat × AT)) := hq
    rcases List.mem_cons.mp hq with e | hq
    · rw [e]
      refine ⟨.ref (α 0), by rw [a0]; exact l0, rfl, ?_⟩
      show t_rf ρ 7 true (α 0)
      rw [a0]
      exact Or.inr ⟨th_na ht r0 (by decide), by decide, r0⟩
    · have hq := hq
      rw [List.mem_singleton.mp hq]
      refine ⟨.ref (α 1), by rw [a1]; exact l1, rfl, ?_⟩
      show t_rf ρ 97 true (α 1)
      rw [a1]
      exact Or.inr ⟨th_na ht r1 (by decide), by decide, r1⟩
  · cases mt
  · obtain ⟨P, mP, tP, kP⟩ := hP
    have mP : P = ((([], []), ([((0, (7, 2)), .inl ([(2, 1)], 0)), ((1, (97, 2)), .inl ([(2, 1)], 0))], ((k_pins 3, List.range 3), (3, ([], []))))), []) := by
      have mP : P ∈ ([((([], []), ([((0, (7, 2)), .inl ([(2, 1)], 0)), ((1, (97, 2)), .inl ([(2, 1)], 0))], ((k_pins 3, List.range 3), (3, ([], []))))), [])] : List (AST × List Nat)) := mP
      exact List.mem_singleton.mp mP
    subst mP
    obtain ⟨t', σ', α', u1, u2, u3, u4, u5, -, u7⟩ := tP
    have s'2 : σ' 2 = (h_i h (o1) 2).toInt := (con_s u4 2 (by decide)).trans s2
    have a'0 : α' 0 = o0 := (con_a u5 0 (by decide)).trans a0
    have a'1 : α' 1 = o1 := (con_a u5 1 (by decide)).trans a1
    cases v with
    | some v => exact u7.elim
    | none =>
      have v0 : (h_i h' (α' 0) 2).toInt = (1 * σ' 2 + 0) + 0 := (u3 _ (List.mem_of_getElem? (i := 0) rfl)).2
      rw [a'0] at v0
      have v1 : (h_i h' (α' 1) 2).toInt = (1 * σ' 2 + 0) + 0 := (u3 _ (List.mem_of_getElem? (i := 1) rfl)).2
      rw [a'1] at v1
      exact g0 ρ' h'  f t' (by omega) (by omega)
theorem c_k1095 {ρ : Nat → Nat} {h : MH} {lv : List (Nat × Value)} {Q : Option Value → MH → Prop} {o0 : Nat} {o1 : Nat} (hC : CCok c_CC ρ) (ht : TH c_sp ρ h) (l0 : m_lk lv 0 = some (.ref o0)) (l1 : m_lk lv 1 = some (.ref o1)) (r0 : ρ (o0) = 97) (r1 : ρ (o1) = 7) (b2 : 0 ≤ (h_i h (o1) 2).toInt ∧ (h_i h (o1) 2).toInt ≤ 600) (g0 : ∀ (ρ' : Nat → Nat) (h' : MH), FQ ρ ρ' c_m1095.2.1 h h' → TH c_sp ρ' h' → (h_i h' (o0) 2).toInt = (h_i h (o1) 2).toInt → (h_i h' (o1) 2).toInt = (h_i h (o1) 2).toInt → Q none h') : HJ 95 0 lv [] h Q := by
  obtain ⟨σ, hσ⟩ : ∃ σ : Nat → Int, σ = fun k => if k = 2 then (h_i h (o1) 2).toInt else 0 := ⟨_, rfl⟩
  obtain ⟨α, hα⟩ : ∃ α : Nat → Nat, α = fun k => if k = 0 then o0 else if k = 1 then o1 else 0 := ⟨_, rfl⟩
  have s2 : σ 2 = (h_i h (o1) 2).toInt := by rw [hσ]; rfl
  have a0 : α 0 = o0 := by rw [hα]; rfl
  have a1 : α 1 = o1 := by rw [hα]; rfl
  clear hσ hα
  refine HJ.ofV (K := (k_pins 3).map (le_ev σ)) (KA := (List.range 3).map α) c_v1095 hC ⟨ht, σ, α, fun q hq => ?_, fun q hq => ?_, fun q hq => ?_, rfl, rfl, fun q hq => ?_, trivial⟩ (fun t mt => ?_) (fun v h' ρ' f hP => ?_)
  · have hq : q ∈ ([(2, (0, 600))] : List (Nat × (Int × Int))) := hq
    rw [List.mem_singleton.mp hq]
    show 0 ≤ σ 2 ∧ σ 2 ≤ 600
    rw [s2]
    exact b2
  · cases hq
  · have hq : q ∈ ([((1, (7, 2)), .inl ([(2, 1)], 0))] : List ((Nat × (Nat × Nat)) × AT)) := hq
    rw [List.mem_singleton.mp hq]
    show (α 1 ≠ 0 ∧ ρ (α 1) = 7) ∧ t_fv σ α ρ h (α 1) 2 (.inl ([(2, 1)], 0))
    rw [a1]
    refine ⟨⟨th_na ht r1 (by decide), r1⟩, ?_⟩
    show (h_i h (o1) 2).toInt = (1 * σ 2 + 0) + 0
    omega
  · have hq : q ∈ ([(0, .inr (.inr (0, (97, true)))), (1, .inr (.inr (1, (7, true))))] : List (Nat × AT)) := hq
    rcases List.mem_cons.mp hq with e | hq
    · rw [e]
      refine ⟨.ref (α 0), by rw [a0]; exact l0, rfl, ?_⟩
      show t_rf ρ 97 true (α 0)
      rw [a0]
      exact Or.inr ⟨th_na ht r0 (by decide), by decide, r0⟩
    · have hq := hq
      rw [List.mem_singleton.mp hq]
      refine ⟨.ref (α 1), by rw [a1]; exact l1, rfl, ?_⟩
      show t_rf ρ 7 true (α 1)
      rw [a1]
      exact Or.inr ⟨th_na ht r1 (by decide), by decide, r1⟩
  · cases mt
  · obtain ⟨P, mP, tP, kP⟩ := hP
    have mP : P = ((([], []), ([((0, (97, 2)), .inl ([(2, 1)], 0)), ((1, (7, 2)), .inl ([(2, 1)], 0))], ((k_pins 3, List.range 3), (3, ([], []))))), []) := by
      have mP : P ∈ ([((([], []), ([((0, (97, 2)), .inl ([(2, 1)], 0)), ((1, (7, 2)), .inl ([(2, 1)], 0))], ((k_pins 3, List.range 3), (3, ([], []))))), [])] : List (AST × List Nat)) := mP
      exact List.mem_singleton.mp mP
    subst mP
    obtain ⟨t', σ', α', u1, u2, u3, u4, u5, -, u7⟩ := tP
    have s'2 : σ' 2 = (h_i h (o1) 2).toInt := (con_s u4 2 (by decide)).trans s2
    have a'0 : α' 0 = o0 := (con_a u5 0 (by decide)).trans a0
    have a'1 : α' 1 = o1 := (con_a u5 1 (by decide)).trans a1
    cases v with
    | some v => exact u7.elim
    | none =>
      have v0 : (h_i h' (α' 0) 2).toInt = (1 * σ' 2 + 0) + 0 := (u3 _ (List.mem_of_getElem? (i := 0) rfl)).2
      rw [a'0] at v0
      have v1 : (h_i h' (α' 1) 2).toInt = (1 * σ' 2 + 0) + 0 := (u3 _ (List.mem_of_getElem? (i := 1) rfl)).2
      rw [a'1] at v1
      exact g0 ρ' h'  f t' (by omega) (by omega)
theorem c_k168 {ρ : Nat → Nat} {h : MH} {lv : List (Nat × Value)} {Q : Option Value → MH → Prop} {o0 : Nat} {x1 : Int32} {x2 : Int32} {x3 : Int32} {x4 : Int32} {x5 : Int32} {x6 : Int32} (hC : CCok c_CC ρ) (ht : TH c_sp ρ h) (l0 : m_lk lv 0 = some (.ref o0)) (l1 : m_lk lv 1 = some (.int x1)) (l2 : m_lk lv 2 = some (.int x2)) (l3 : m_lk lv 3 = some (.int x3)) (l4 : m_lk lv 4 = some (.int x4)) (l5 : m_lk lv 5 = some (.int x5)) (l6 : m_lk lv 6 = some (.int x6)) (r0 : ρ (o0) = 6) (b6 : 0 ≤ x6.toInt ∧ x6.toInt ≤ 1) (t1 : c_PT 1 ρ h) (t2 : c_PT 2 ρ h) (g0 : ∀ (ρ' : Nat → Nat) (h' : MH) (y7 : Int) (x : Int32), FQ ρ ρ' c_m168.2.1 h h' → TH c_sp ρ' h' → x.toInt = y7 → (-2147483648) ≤ y7 ∧ y7 ≤ 2147483647 → c_PT 1 ρ' h' → c_PT 2 ρ' h' → Q (some (.int x)) h') : HJ 168 0 lv [] h Q := by
  obtain ⟨σ, hσ⟩ : ∃ σ : Nat → Int, σ = fun k => if k = 1 then x1.toInt else if k = 2 then x2.toInt else if k = 3 then x3.toInt else if k = 4 then x4.toInt else if k = 5 then x5.toInt else if k = 6 then x6.toInt else 0 := ⟨_, rfl⟩
  obtain ⟨α, hα⟩ : ∃ α : Nat → Nat, α = fun k => if k = 0 then o0 else 0 := ⟨_, rfl⟩
  have s1 : σ 1 = x1.toInt := by rw [hσ]; rfl
  have s2 : σ 2 = x2.toInt := by rw [hσ]; rfl
  have s3 : σ 3 = x3.toInt := by rw [hσ]; rfl
  have s4 : σ 4 = x4.toInt := by rw [hσ]; rfl
  have s5 : σ 5 = x5.toInt := by rw [hσ]; rfl
  have s6 : σ 6 = x6.toInt := by rw [hσ]; rfl
  have a0 : α 0 = o0 := by rw [hα]; rfl
  clear hσ hα
  refine HJ.ofV (K := (k_pins 7).map (le_ev σ)) (KA := (List.range 7).map α) c_v168 hC ⟨ht, σ, α, fun q hq => ?_, fun q hq => ?_, fun q hq => ?_, rfl, rfl, fun q hq => ?_, trivial⟩ (fun t mt => ?_) (fun v h' ρ' f hP => ?_)
  · have hq : q ∈ ([(1, ((-2147483648), 2147483647)), (2, ((-2147483648), 2147483647)), (3, ((-2147483648), 2147483647)), (4, ((-2147483648), 2147483647)), (5, ((-2147483648), 2147483647)), (6, (0, 1))] : List (Nat × (Int × Int))) := hq
    rcases List.mem_cons.mp hq with e | hq
    · rw [e]
      show (-2147483648) ≤ σ 1 ∧ σ 1 ≤ 2147483647
      rw [s1]
      exact g_iT _
    · have hq := hq
      rcases List.mem_cons.mp hq with e | hq
      · rw [e]
        show (-2147483648) ≤ σ 2 ∧ σ 2 ≤ 2147483647
        rw [s2]
        exact g_iT _
      · have hq := hq
        rcases List.mem_cons.mp hq with e | hq
        · rw [e]
          show (-2147483648) ≤ σ 3 ∧ σ 3 ≤ 2147483647
          rw [s3]
          exact g_iT _
        · have hq := hq
          rcases List.mem_cons.mp hq with e | hq
          · rw [e]
            show (-2147483648) ≤ σ 4 ∧ σ 4 ≤ 2147483647
            rw [s4]
            exact g_iT _
          · have hq := hq
            rcases List.mem_cons.mp hq with e | hq
            · rw [e]
              show (-2147483648) ≤ σ 5 ∧ σ 5 ≤ 2147483647
              rw [s5]
              exact g_iT _
            · have hq := hq
              rw [List.mem_singleton.mp hq]
              show 0 ≤ σ 6 ∧ σ 6 ≤ 1
              rw [s6]
              exact b6
  · cases hq
  · cases hq
  · have hq : q ∈ ([(0, .inr (.inr (0, (6, true)))), (1, .inl ([(1, 1)], 0)), (2, .inl ([(2, 1)], 0)), (3, .inl ([(3, 1)], 0)), (4, .inl ([(4, 1)], 0)), (5, .inl ([(5, 1)], 0)), (6, .inl ([(6, 1)], 0))] : List (Nat × AT)) := hq
    rcases List.mem_cons.mp hq with e | hq
    · rw [e]
      refine ⟨.ref (α 0), by rw [a0]; exact l0, rfl, ?_⟩
      show t_rf ρ 6 true (α 0)
      rw [a0]
      exact Or.inr ⟨th_na ht r0 (by decide), by decide, r0⟩
    · have hq := hq
      rcases List.mem_cons.mp hq with e | hq
      · rw [e]
        refine ⟨.int x1, l1, x1, rfl, ?_⟩
        show x1.toInt = (1 * σ 1 + 0) + 0
        omega
      · have hq := hq
        rcases List.mem_cons.mp hq with e | hq
        · rw [e]
          refine ⟨.int x2, l2, x2, rfl, ?_⟩
          show x2.toInt = (1 * σ 2 + 0) + 0
          omega
        · have hq := hq
          rcases List.mem_cons.mp hq with e | hq
          · rw [e]
            refine ⟨.int x3, l3, x3, rfl, ?_⟩
            show x3.toInt = (1 * σ 3 + 0) + 0
            omega
          · have hq := hq
            rcases List.mem_cons.mp hq with e | hq
            · rw [e]
              refine ⟨.int x4, l4, x4, rfl, ?_⟩
              show x4.toInt = (1 * σ 4 + 0) + 0
              omega
            · have hq := hq
              rcases List.mem_cons.mp hq with e | hq
              · rw [e]
                refine ⟨.int x5, l5, x5, rfl, ?_⟩
                show x5.toInt = (1 * σ 5 + 0) + 0
                omega
              · have hq := hq
                rw [List.mem_singleton.mp hq]
                refine ⟨.int x6, l6, x6, rfl, ?_⟩
                show x6.toInt = (1 * σ 6 + 0) + 0
                omega
  · have mt : t ∈ ([1, 2] : List Nat) := mt
    simp only [List.mem_cons, List.not_mem_nil, or_false] at mt
    rcases mt with rfl | rfl
    · exact t1
    · exact t2
  · obtain ⟨P, mP, tP, kP⟩ := hP
    have mP : P = ((([(7, ((-2147483648), 2147483647))], []), ([], ((k_pins 7, List.range 7), (8, ([], [.inl ([(7, 1)], 0)]))))), [1, 2]) := by
      have mP : P ∈ ([((([(7, ((-2147483648), 2147483647))], []), ([], ((k_pins 7, List.range 7), (8, ([], [.inl ([(7, 1)], 0)]))))), [1, 2])] : List (AST × List Nat)) := mP
      exact List.mem_singleton.mp mP
    subst mP
    obtain ⟨t', σ', α', u1, u2, u3, u4, u5, -, u7⟩ := tP
    have s'1 : σ' 1 = x1.toInt := (con_s u4 1 (by decide)).trans s1
    have s'2 : σ' 2 = x2.toInt := (con_s u4 2 (by decide)).trans s2
    have s'3 : σ' 3 = x3.toInt := (con_s u4 3 (by decide)).trans s3
    have s'4 : σ' 4 = x4.toInt := (con_s u4 4 (by decide)).trans s4
    have s'5 : σ' 5 = x5.toInt := (con_s u4 5 (by decide)).trans s5
    have s'6 : σ' 6 = x6.toInt := (con_s u4 6 (by decide)).trans s6
    have a'0 : α' 0 = o0 := (con_a u5 0 (by decide)).trans a0
    cases v with
    | none => exact u7.elim
    | some v =>
      obtain ⟨⟨x, e1, e2⟩, -⟩ := u7
      subst e1
      have e2 : x.toInt = (1 * σ' 7 + 0) + 0 := e2
      exact g0 ρ' h' (σ' 7) x f t' (by omega) (u1 _ (List.mem_of_getElem? (i := 0) rfl)) (kP 1 (by decide)) (kP 2 (by decide))
theorem c_k170 {ρ : Nat → Nat} {h : MH} {lv : List (Nat × Value)} {Q : Option Value → MH → Prop} {o0 : Nat} {x1 : Int32} {x2 : Int64} {x4 : Int32} (hC : CCok c_CC ρ) (ht : TH c_sp ρ h) (l0 : m_lk lv 0 = some (.ref o0)) (l1 : m_lk lv 1 = some (.int x1)) (l2 : m_lk lv 2 = some (.long x2)) (l4 : m_lk lv 4 = some (.int x4)) (r0 : ρ (o0) = 6) (t1 : c_PT 1 ρ h) (t2 : c_PT 2 ρ h) (g0 : ∀ (ρ' : Nat → Nat) (h' : MH) (y3 : Int) (x : Int32), FQ ρ ρ' c_m170.2.1 h h' → TH c_sp ρ' h' → x.toInt = y3 → (-2147483648) ≤ y3 ∧ y3 ≤ 2147483647 → c_PT 1 ρ' h' → c_PT 2 ρ' h' → Q (some (.int x)) h') : HJ 170 0 lv [] h Q := by
  obtain ⟨σ, hσ⟩ : ∃ σ : Nat → Int, σ = fun k => if k = 1 then x1.toInt else if k = 2 then x4.toInt else 0 := ⟨_, rfl⟩
  obtain ⟨α, hα⟩ : ∃ α : Nat → Nat, α = fun k => if k = 0 then o0 else 0 := ⟨_, rfl⟩
  have s1 : σ 1 = x1.toInt := by rw [hσ]; rfl
  have s2 : σ 2 = x4.toInt := by rw [hσ]; rfl
  have a0 : α 0 = o0 := by rw [hα]; rfl
  clear hσ hα
  refine HJ.ofV (K := (k_pins 3).map (le_ev σ)) (KA := (List.range 3).map α) c_v170 hC ⟨ht, σ, α, fun q hq => ?_, fun q hq => ?_, fun q hq => ?_, rfl, rfl, fun q hq => ?_, trivial⟩ (fun t mt => ?_) (fun v h' ρ' f hP => ?_)
  · have hq : q ∈ ([(1, ((-2147483648), 2147483647)), (2, ((-2147483648), 2147483647))] : List (Nat × (Int × Int))) := hq
    rcases List.mem_cons.mp hq with e | hq
    · rw [e]
      show (-2147483648) ≤ σ 1 ∧ σ 1 ≤ 2147483647
      rw [s1]
      exact g_iT _
    · have hq := hq
      rw [List.mem_singleton.mp hq]
      show (-2147483648) ≤ σ 2 ∧ σ 2 ≤ 2147483647
      rw [s2]
      exact g_iT _
  · cases hq
  · cases hq
  · have hq : q ∈ ([(0, .inr (.inr (0, (6, true)))), (1, .inl ([(1, 1)], 0)), (2, .inr (.inl ())), (4, .inl ([(2, 1)], 0))] : List (Nat × AT)) := hq
    rcases List.mem_cons.mp hq with e | hq
    · rw [e]
      refine ⟨.ref (α 0), by rw [a0]; exact l0, rfl, ?_⟩
      show t_rf ρ 6 true (α 0)
      rw [a0]
      exact Or.inr ⟨th_na ht r0 (by decide), by decide, r0⟩
    · have hq := hq
      rcases List.mem_cons.mp hq with e | hq
      · rw [e]
        refine ⟨.int x1, l1, x1, rfl, ?_⟩
        show x1.toInt = (1 * σ 1 + 0) + 0
        omega
      · have hq := hq
        rcases List.mem_cons.mp hq with e | hq
        · rw [e]
          exact ⟨.long x2, l2, x2, rfl⟩
        · have hq := hq
          rw [List.mem_singleton.mp hq]
          refine ⟨.int x4, l4, x4, rfl, ?_⟩
          show x4.toInt = (1 * σ 2 + 0) + 0
          omega
  · have mt : t ∈ ([1, 2] : List Nat) := mt
    simp only [List.mem_cons, List.not_mem_nil, or_false] at mt
    rcases mt with rfl | rfl
    · exact t1
    · exact t2
  · obtain ⟨P, mP, tP, kP⟩ := hP
    have mP : P = ((([(3, ((-2147483648), 2147483647))], []), ([], ((k_pins 3, List.range 3), (4, ([], [.inl ([(3, 1)], 0)]))))), [1, 2]) := by
      have mP : P ∈ ([((([(3, ((-2147483648), 2147483647))], []), ([], ((k_pins 3, List.range 3), (4, ([], [.inl ([(3, 1)], 0)]))))), [1, 2])] : List (AST × List Nat)) := mP
      exact List.mem_singleton.mp mP
    subst mP
    obtain ⟨t', σ', α', u1, u2, u3, u4, u5, -, u7⟩ := tP
    have s'1 : σ' 1 = x1.toInt := (con_s u4 1 (by decide)).trans s1
    have s'2 : σ' 2 = x4.toInt := (con_s u4 2 (by decide)).trans s2
    have a'0 : α' 0 = o0 := (con_a u5 0 (by decide)).trans a0
    cases v with
    | none => exact u7.elim
    | some v =>
      obtain ⟨⟨x, e1, e2⟩, -⟩ := u7
      subst e1
      have e2 : x.toInt = (1 * σ' 3 + 0) + 0 := e2
      exact g0 ρ' h' (σ' 3) x f t' (by omega) (u1 _ (List.mem_of_getElem? (i := 0) rfl)) (kP 1 (by decide)) (kP 2 (by decide))
theorem c_k178 {ρ : Nat → Nat} {h : MH} {lv : List (Nat × Value)} {Q : Option Value → MH → Prop} {o0 : Nat} {x1 : Int32} {x2 : Int32} {x3 : Int32} {x4 : Int32} {x5 : Int32} (hC : CCok c_CC ρ) (ht : TH c_sp ρ h) (l0 : m_lk lv 0 = some (.ref o0)) (l1 : m_lk lv 1 = some (.int x1)) (l2 : m_lk lv 2 = some (.int x2)) (l3 : m_lk lv 3 = some (.int x3)) (l4 : m_lk lv 4 = some (.int x4)) (l5 : m_lk lv 5 = some (.int x5)) (r0 : ρ (o0) = 6) (t1 : c_PT 1 ρ h) (t2 : c_PT 2 ρ h) (g0 : ∀ (ρ' : Nat → Nat) (h' : MH) (y6 : Int) (x : Int32), FQ ρ ρ' c_m178.2.1 h h' → TH c_sp ρ' h' → x.toInt = y6 → (-2147483648) ≤ y6 ∧ y6 ≤ 2147483647 → c_PT 1 ρ' h' → c_PT 2 ρ' h' → Q (some (.int x)) h') : HJ 178 0 lv [] h Q := by
  obtain ⟨σ, hσ⟩ : ∃ σ : Nat → Int, σ = fun k => if k = 1 then x1.toInt else if k = 2 then x2.toInt else if k = 3 then x3.toInt else if k = 4 then x4.toInt else if k = 5 then x5.toInt else 0 := ⟨_, rfl⟩
  obtain ⟨α, hα⟩ : ∃ α : Nat → Nat, α = fun k => if k = 0 then o0 else 0 := ⟨_, rfl⟩
  have s1 : σ 1 = x1.toInt := by rw [hσ]; rfl
  have s2 : σ 2 = x2.toInt := by rw [hσ]; rfl
  have s3 : σ 3 = x3.toInt := by rw [hσ]; rfl
  have s4 : σ 4 = x4.toInt := by rw [hσ]; rfl
  have s5 : σ 5 = x5.toInt := by rw [hσ]; rfl
  have a0 : α 0 = o0 := by rw [hα]; rfl
  clear hσ hα
  refine HJ.ofV (K := (k_pins 6).map (le_ev σ)) (KA := (List.range 6).map α) c_v178 hC ⟨ht, σ, α, fun q hq => ?_, fun q hq => ?_, fun q hq => ?_, rfl, rfl, fun q hq => ?_, trivial⟩ (fun t mt => ?_) (fun v h' ρ' f hP => ?_)
  · have hq : q ∈ ([(1, ((-2147483648), 2147483647)), (2, ((-2147483648), 2147483647)), (3, ((-2147483648), 2147483647)), (4, ((-2147483648), 2147483647)), (5, ((-2147483648), 2147483647))] : List (Nat × (Int × Int))) := hq
    rcases List.mem_cons.mp hq with e | hq
    · rw [e]
      show (-2147483648) ≤ σ 1 ∧ σ 1 ≤ 2147483647
      rw [s1]
      exact g_iT _
    · have hq := hq
      rcases List.mem_cons.mp hq with e | hq
      · rw [e]
        show (-2147483648) ≤ σ 2 ∧ σ 2 ≤ 2147483647
        rw [s2]
        exact g_iT _
      · have hq := hq
        rcases List.mem_cons.mp hq with e | hq
        · rw [e]
          show (-2147483648) ≤ σ 3 ∧ σ 3 ≤ 2147483647
          rw [s3]
          exact g_iT _
        · have hq := hq
          rcases List.mem_cons.mp hq with e | hq
          · rw [e]
            show (-2147483648) ≤ σ 4 ∧ σ 4 ≤ 2147483647
            rw [s4]
            exact g_iT _
          · have hq := hq
            rw [List.mem_singleton.mp hq]
            show (-2147483648) ≤ σ 5 ∧ σ 5 ≤ 2147483647
            rw [s5]
            exact g_iT _
  · cases hq
  · cases hq
  · have hq : q ∈ ([(0, .inr (.inr (0, (6, true)))), (1, .inl ([(1, 1)], 0)), (2, .inl ([(2, 1)], 0)), (3, .inl ([(3, 1)], 0)), (4, .inl ([(4, 1)], 0)), (5, .inl ([(5, 1)], 0))] : List (Nat × AT)) := hq
    rcases List.mem_cons.mp hq with e | hq
    · rw [e]
      refine ⟨.ref (α 0), by rw [a0]; exact l0, rfl, ?_⟩
      show t_rf ρ 6 true (α 0)
      rw [a0]
      exact Or.inr ⟨th_na ht r0 (by decide), by decide, r0⟩
    · have hq := hq
      rcases List.mem_cons.mp hq with e | hq
      · rw [e]
        refine ⟨.int x1, l1, x1, rfl, ?_⟩
        show x1.toInt = (1 * σ 1 + 0) + 0
        omega
      · have hq := hq
        rcases List.mem_cons.mp hq with e | hq
        · rw [e]
          refine ⟨.int x2, l2, x2, rfl, ?_⟩
          show x2.toInt = (1 * σ 2 + 0) + 0
          omega
        · have hq := hq
          rcases List.mem_cons.mp hq with e | hq
          · rw [e]
            refine ⟨.int x3, l3, x3, rfl, ?_⟩
            show x3.toInt = (1 * σ 3 + 0) + 0
            omega
          · have hq := hq
            rcases List.mem_cons.mp hq with e | hq
            · rw [e]
              refine ⟨.int x4, l4, x4, rfl, ?_⟩
              show x4.toInt = (1 * σ 4 + 0) + 0
              omega
            · have hq := hq
              rw [List.mem_singleton.mp hq]
              refine ⟨.int x5, l5, x5, rfl, ?_⟩
              show x5.toInt = (1 * σ 5 + 0) + 0
              omega
  · have mt : t ∈ ([1, 2] : List Nat) := mt
    simp only [List.mem_cons, List.not_mem_nil, or_false] at mt
    rcases mt with rfl | rfl
    · exact t1
    · exact t2
  · obtain ⟨P, mP, tP, kP⟩ := hP
    have mP : P = ((([(6, ((-2147483648), 2147483647))], []), ([], ((k_pins 6, List.range 6), (7, ([], [.inl ([(6, 1)], 0)]))))), [1, 2]) := by
      have mP : P ∈ ([((([(6, ((-2147483648), 2147483647))], []), ([], ((k_pins 6, List.range 6), (7, ([], [.inl ([(6, 1)], 0)]))))), [1, 2])] : List (AST × List Nat)) := mP
      exact List.mem_singleton.mp mP
    subst mP
    obtain ⟨t', σ', α', u1, u2, u3, u4, u5, -, u7⟩ := tP
    have s'1 : σ' 1 = x1.toInt := (con_s u4 1 (by decide)).trans s1
    have s'2 : σ' 2 = x2.toInt := (con_s u4 2 (by decide)).trans s2
    have s'3 : σ' 3 = x3.toInt := (con_s u4 3 (by decide)).trans s3
    have s'4 : σ' 4 = x4.toInt := (con_s u4 4 (by decide)).trans s4
    have s'5 : σ' 5 = x5.toInt := (con_s u4 5 (by decide)).trans s5
    have a'0 : α' 0 = o0 := (con_a u5 0 (by decide)).trans a0
    cases v with
    | none => exact u7.elim
    | some v =>
      obtain ⟨⟨x, e1, e2⟩, -⟩ := u7
      subst e1
      have e2 : x.toInt = (1 * σ' 6 + 0) + 0 := e2
      exact g0 ρ' h' (σ' 6) x f t' (by omega) (u1 _ (List.mem_of_getElem? (i := 0) rfl)) (kP 1 (by decide)) (kP 2 (by decide))
theorem c_k264 {ρ : Nat → Nat} {h : MH} {lv : List (Nat × Value)} {Q : Option Value → MH → Prop} {o0 : Nat} {x1 : Int32} {x2 : Int32} {x3 : Int32} {x4 : Int32} {x5 : Int32} {x6 : Int32} (hC : CCok c_CC ρ) (ht : TH c_sp ρ h) (l0 : m_lk lv 0 = some (.ref o0)) (l1 : m_lk lv 1 = some (.int x1)) (l2 : m_lk lv 2 = some (.int x2)) (l3 : m_lk lv 3 = some (.int x3)) (l4 : m_lk lv 4 = some (.int x4)) (l5 : m_lk lv 5 = some (.int x5)) (l6 : m_lk lv 6 = some (.int x6)) (r0 : ρ (o0) = 49) (b6 : 0 ≤ x6.toInt ∧ x6.toInt ≤ 1) (t7 : c_PT 7 ρ h) (g0 : ∀ (ρ' : Nat → Nat) (h' : MH) (y7 : Int) (x : Int32), FQ ρ ρ' c_m264.2.1 h h' → TH c_sp ρ' h' → x.toInt = y7 → (-2147483648) ≤ y7 ∧ y7 ≤ 2147483647 → c_PT 7 ρ' h' → Q (some (.int x)) h') : HJ 264 0 lv [] h Q := by
  obtain ⟨σ, hσ⟩ : ∃ σ : Nat → Int, σ = fun k => if k = 1 then x1.toInt else if k = 2 then x2.toInt else if k = 3 then x3.toInt else if k = 4 then x4.toInt else if k = 5 then x5.toInt else if k = 6 then x6.toInt else 0 := ⟨_, rfl⟩
  obtain ⟨α, hα⟩ : ∃ α : Nat → Nat, α = fun k => if k = 0 then o0 else 0 := ⟨_, rfl⟩
  have s1 : σ 1 = x1.toInt := by rw [hσ]; rfl
  have s2 : σ 2 = x2.toInt := by rw [hσ]; rfl
  have s3 : σ 3 = x3.toInt := by rw [hσ]; rfl
  have s4 : σ 4 = x4.toInt := by rw [hσ]; rfl
  have s5 : σ 5 = x5.toInt := by rw [hσ]; rfl
  have s6 : σ 6 = x6.toInt := by rw [hσ]; rfl
  have a0 : α 0 = o0 := by rw [hα]; rfl
  clear hσ hα
  refine HJ.ofV (K := (k_pins 7).map (le_ev σ)) (KA := (List.range 7).map α) c_v264 hC ⟨ht, σ, α, fun q hq => ?_, fun q hq => ?_, fun q hq => ?_, rfl, rfl, fun q hq => ?_, trivial⟩ (fun t mt => ?_) (fun v h' ρ' f hP => ?_)
  · have hq : q ∈ ([(1, ((-2147483648), 2147483647)), (2, ((-2147483648), 2147483647)), (3, ((-2147483648), 2147483647)), (4, ((-2147483648), 2147483647)), (5, ((-2147483648), 2147483647)), (6, (0, 1))] : List (Nat × (Int × Int))) := hq
    rcases List.mem_cons.mp hq with e | hq
    · rw [e]
      show (-2147483648) ≤ σ 1 ∧ σ 1 ≤ 2147483647
      rw [s1]
      exact g_iT _
    · have hq := hq
      rcases List.mem_cons.mp hq with e | hq
      · rw [e]
        show (-2147483648) ≤ σ 2 ∧ σ 2 ≤ 2147483647
        rw [s2]
        exact g_iT _
      · have hq := hq
        rcases List.mem_cons.mp hq with e | hq
        · rw [e]
          show (-2147483648) ≤ σ 3 ∧ σ 3 ≤ 2147483647
          rw [s3]
          exact g_iT _
        · have hq := hq
          rcases List.mem_cons.mp hq with e | hq
          · rw [e]
            show (-2147483648) ≤ σ 4 ∧ σ 4 ≤ 2147483647
            rw [s4]
            exact g_iT _
          · have hq := hq
            rcases List.mem_cons.mp hq with e | hq
            · rw [e]
              show (-2147483648) ≤ σ 5 ∧ σ 5 ≤ 2147483647
              rw [s5]
              exact g_iT _
            · have hq := hq
              rw [List.mem_singleton.mp hq]
              show 0 ≤ σ 6 ∧ σ 6 ≤ 1
              rw [s6]
              exact b6
  · cases hq
  · cases hq
  · have hq : q ∈ ([(0, .inr (.inr (0, (49, true)))), (1, .inl ([(1, 1)], 0)), (2, .inl ([(2, 1)], 0)), (3, .inl ([(3, 1)], 0)), (4, .inl ([(4, 1)], 0)), (5, .inl ([(5, 1)], 0)), (6, .inl ([(6, 1)], 0))] : List (Nat × AT)) := hq
    rcases List.mem_cons.mp hq with e | hq
    · rw [e]
      refine ⟨.ref (α 0), by rw [a0]; exact l0, rfl, ?_⟩
      show t_rf ρ 49 true (α 0)
      rw [a0]
      exact Or.inr ⟨th_na ht r0 (by decide), by decide, r0⟩
    · have hq := hq
      rcases List.mem_cons.mp hq with e | hq
      · rw [e]
        refine ⟨.int x1, l1, x1, rfl, ?_⟩
        show x1.toInt = (1 * σ 1 + 0) + 0
        omega
      · have hq := hq
        rcases List.mem_cons.mp hq with e | hq
        · rw [e]
          refine ⟨.int x2, l2, x2, rfl, ?_⟩
          show x2.toInt = (1 * σ 2 + 0) + 0
          omega
        · have hq := hq
          rcases List.mem_cons.mp hq with e | hq
          · rw [e]
            refine ⟨.int x3, l3, x3, rfl, ?_⟩
            show x3.toInt = (1 * σ 3 + 0) + 0
            omega
          · have hq := hq
            rcases List.mem_cons.mp hq with e | hq
            · rw [e]
              refine ⟨.int x4, l4, x4, rfl, ?_⟩
              show x4.toInt = (1 * σ 4 + 0) + 0
              omega
            · have hq := hq
              rcases List.mem_cons.mp hq with e | hq
              · rw [e]
                refine ⟨.int x5, l5, x5, rfl, ?_⟩
                show x5.toInt = (1 * σ 5 + 0) + 0
                omega
              · have hq := hq
                rw [List.mem_singleton.mp hq]
                refine ⟨.int x6, l6, x6, rfl, ?_⟩
                show x6.toInt = (1 * σ 6 + 0) + 0
                omega
  · have mt : t ∈ ([7] : List Nat) := mt
    simp only [List.mem_cons, List.not_mem_nil, or_false] at mt
    rcases mt with rfl
    · exact t7
  · obtain ⟨P, mP, tP, kP⟩ := hP
    have mP : P = ((([(7, ((-2147483648), 2147483647))], []), ([], ((k_pins 7, List.range 7), (8, ([], [.inl ([(7, 1)], 0)]))))), [7]) := by
      have mP : P ∈ ([((([(7, ((-2147483648), 2147483647))], []), ([], ((k_pins 7, List.range 7), (8, ([], [.inl ([(7, 1)], 0)]))))), [7])] : List (AST × List Nat)) := mP
      exact List.mem_singleton.mp mP
    subst mP
    obtain ⟨t', σ', α', u1, u2, u3, u4, u5, -, u7⟩ := tP
    have s'1 : σ' 1 = x1.toInt := (con_s u4 1 (by decide)).trans s1
    have s'2 : σ' 2 = x2.toInt := (con_s u4 2 (by decide)).trans s2
    have s'3 : σ' 3 = x3.toInt := (con_s u4 3 (by decide)).trans s3
    have s'4 : σ' 4 = x4.toInt := (con_s u4 4 (by decide)).trans s4
    have s'5 : σ' 5 = x5.toInt := (con_s u4 5 (by decide)).trans s5
    have s'6 : σ' 6 = x6.toInt := (con_s u4 6 (by decide)).trans s6
    have a'0 : α' 0 = o0 := (con_a u5 0 (by decide)).trans a0
    cases v with
    | none => exact u7.elim
    | some v =>
      obtain ⟨⟨x, e1, e2⟩, -⟩ := u7
      subst e1
      have e2 : x.toInt = (1 * σ' 7 + 0) + 0 := e2
      exact g0 ρ' h' (σ' 7) x f t' (by omega) (u1 _ (List.mem_of_getElem? (i := 0) rfl)) (kP 7 (by decide))
theorem c_k265 {ρ : Nat → Nat} {h : MH} {lv : List (Nat × Value)} {Q : Option Value → MH → Prop} {o0 : Nat} {x1 : Int32} {x2 : Int64} {x4 : Int32} (hC : CCok c_CC ρ) (ht : TH c_sp ρ h) (l0 : m_lk lv 0 = some (.ref o0)) (l1 : m_lk lv 1 = some (.int x1)) (l2 : m_lk lv 2 = some (.long x2)) (l4 : m_lk lv 4 = some (.int x4)) (r0 : ρ (o0) = 49) (t7 : c_PT 7 ρ h) (g0 : ∀ (ρ' : Nat → Nat) (h' : MH) (y3 : Int) (x : Int32), FQ ρ ρ' c_m265.2.1 h h' → TH c_sp ρ' h' → x.toInt = y3 → (-2147483648) ≤ y3 ∧ y3 ≤ 2147483647 → c_PT 7 ρ' h' → Q (some (.int x)) h') : HJ 265 0 lv [] h Q := by
  obtain ⟨σ, hσ⟩ : ∃ σ : Nat → Int, σ = fun k => if k = 1 then x1.toInt else if k = 2 then x4.toInt else 0 := ⟨_, rfl⟩
  obtain ⟨α, hα⟩ : ∃ α : Nat → Nat, α = fun k => if k = 0 then o0 else 0 := ⟨_, rfl⟩
  have s1 : σ 1 = x1.toInt := by rw [hσ]; rfl
  have s2 : σ 2 = x4.toInt := by rw [hσ]; rfl
  have a0 : α 0 = o0 := by rw [hα]; rfl
  clear hσ hα
  refine HJ.ofV (K := (k_pins 3).map (le_ev σ)) (KA := (List.range 3).map α) c_v265 hC ⟨ht, σ, α, fun q hq => ?_, fun q hq => ?_, fun q hq => ?_, rfl, rfl, fun q hq => ?_, trivial⟩ (fun t mt => ?_) (fun v h' ρ' f hP => ?_)
  · have hq : q ∈ ([(1, ((-2147483648), 2147483647)), (2, ((-2147483648), 2147483647))] : List (Nat × (Int × Int))) := hq
    rcases List.mem_cons.mp hq with e | hq
    · rw [e]
      show (-2147483648) ≤ σ 1 ∧ σ 1 ≤ 2147483647
      rw [s1]
      exact g_iT _
    · have hq := hq
      rw [List.mem_singleton.mp hq]
      show (-2147483648) ≤ σ 2 ∧ σ 2 ≤ 2147483647
      rw [s2]
      exact g_iT _
  · cases hq
  · cases hq
  · have hq : q ∈ ([(0, .inr (.inr (0, (49, true)))), (1, .inl ([(1, 1)], 0)), (2, .inr (.inl ())), (4, .inl ([(2, 1)], 0))] : List (Nat × AT)) := hq
    rcases List.mem_cons.mp hq with e | hq
    · rw [e]
      refine ⟨.ref (α 0), by rw [a0]; exact l0, rfl, ?_⟩
      show t_rf ρ 49 true (α 0)
      rw [a0]
      exact Or.inr ⟨th_na ht r0 (by decide), by decide, r0⟩
    · have hq := hq
      rcases List.mem_cons.mp hq with e | hq
      · rw [e]
        refine ⟨.int x1, l1, x1, rfl, ?_⟩
        show x1.toInt = (1 * σ 1 + 0) + 0
        omega
      · have hq := hq
        rcases List.mem_cons.mp hq with e | hq
        · rw [e]
          exact ⟨.long x2, l2, x2, rfl⟩
        · have hq := hq
          rw [List.mem_singleton.mp hq]
          refine ⟨.int x4, l4, x4, rfl, ?_⟩
          show x4.toInt = (1 * σ 2 + 0) + 0
          omega
  · have mt : t ∈ ([7] : List Nat) := mt
    simp only [List.mem_cons, List.not_mem_nil, or_false] at mt
    rcases mt with rfl
    · exact t7
  · obtain ⟨P, mP, tP, kP⟩ := hP
    have mP : P = ((([(3, ((-2147483648), 2147483647))], []), ([], ((k_pins 3, List.range 3), (4, ([], [.inl ([(3, 1)], 0)]))))), [7]) := by
      have mP : P ∈ ([((([(3, ((-2147483648), 2147483647))], []), ([], ((k_pins 3, List.range 3), (4, ([], [.inl ([(3, 1)], 0)]))))), [7])] : List (AST × List Nat)) := mP
      exact List.mem_singleton.mp mP
    subst mP
    obtain ⟨t', σ', α', u1, u2, u3, u4, u5, -, u7⟩ := tP
    have s'1 : σ' 1 = x1.toInt := (con_s u4 1 (by decide)).trans s1
    have s'2 : σ' 2 = x4.toInt := (con_s u4 2 (by decide)).trans s2
    have a'0 : α' 0 = o0 := (con_a u5 0 (by decide)).trans a0
    cases v with
    | none => exact u7.elim
    | some v =>
      obtain ⟨⟨x, e1, e2⟩, -⟩ := u7
      subst e1
      have e2 : x.toInt = (1 * σ' 3 + 0) + 0 := e2
      exact g0 ρ' h' (σ' 3) x f t' (by omega) (u1 _ (List.mem_of_getElem? (i := 0) rfl)) (kP 7 (by decide))
theorem c_k275 {ρ : Nat → Nat} {h : MH} {lv : List (Nat × Value)} {Q : Option Value → MH → Prop} {o0 : Nat} {x1 : Int32} {x2 : Int32} {x3 : Int32} {x4 : Int32} {x5 : Int32} (hC : CCok c_CC ρ) (ht : TH c_sp ρ h) (l0 : m_lk lv 0 = some (.ref o0)) (l1 : m_lk lv 1 = some (.int x1)) (l2 : m_lk lv 2 = some (.int x2)) (l3 : m_lk lv 3 = some (.int x3)) (l4 : m_lk lv 4 = some (.int x4)) (l5 : m_lk lv 5 = some (.int x5)) (r0 : ρ (o0) = 49) (t7 : c_PT 7 ρ h) (g0 : ∀ (ρ' : Nat → Nat) (h' : MH) (y6 : Int) (x : Int32), FQ ρ ρ' c_m275.2.1 h h' → TH c_sp ρ' h' → x.toInt = y6 → (-2147483648) ≤ y6 ∧ y6 ≤ 2147483647 → c_PT 7 ρ' h' → Q (some (.int x)) h') : HJ 275 0 lv [] h Q := by
  obtain ⟨σ, hσ⟩ : ∃ σ : Nat → Int, σ = fun k => if k = 1 then x1.toInt else if k = 2 then x2.toInt else if k = 3 then x3.toInt else if k = 4 then x4.toInt else if k = 5 then x5.toInt else 0 := ⟨_, rfl⟩
  obtain ⟨α, hα⟩ : ∃ α : Nat → Nat, α = fun k => if k = 0 then o0 else 0 := ⟨_, rfl⟩
  have s1 : σ 1 = x1.toInt := by rw [hσ]; rfl
  have s2 : σ 2 = x2.toInt := by rw [hσ]; rfl
  have s3 : σ 3 = x3.toInt := by rw [hσ]; rfl
  have s4 : σ 4 = x4.toInt := by rw [hσ]; rfl
  have s5 : σ 5 = x5.toInt := by rw [hσ]; rfl
  have a0 : α 0 = o0 := by rw [hα]; rfl
  clear hσ hα
  refine HJ.ofV (K := (k_pins 6).map (le_ev σ)) (KA := (List.range 6).map α) c_v275 hC ⟨ht, σ, α, fun q hq => ?_, fun q hq => ?_, fun q hq => ?_, rfl, rfl, fun q hq => ?_, trivial⟩ (fun t mt => ?_) (fun v h' ρ' f hP => ?_)
  · have hq : q ∈ ([(1, ((-2147483648), 2147483647)), (2, ((-2147483648), 2147483647)), (3, ((-2147483648), 2147483647)), (4, ((-2147483648), 2147483647)), (5, ((-2147483648), 2147483647))] : List (Nat × (Int × Int))) := hq
    rcases List.mem_cons.mp hq with e | hq
    · rw [e]
      show (-2147483648) ≤ σ 1 ∧ σ 1 ≤ 2147483647
      rw [s1]
      exact g_iT _
    · have hq := hq
      rcases List.mem_cons.mp hq with e | hq
      · rw [e]
        show (-2147483648) ≤ σ 2 ∧ σ 2 ≤ 2147483647
        rw [s2]
        exact g_iT _
      · have hq := hq
        rcases List.mem_cons.mp hq with e | hq
        · rw [e]
          show (-2147483648) ≤ σ 3 ∧ σ 3 ≤ 2147483647
          rw [s3]
          exact g_iT _
        · have hq := hq
          rcases List.mem_cons.mp hq with e | hq
          · rw [e]
            show (-2147483648) ≤ σ 4 ∧ σ 4 ≤ 2147483647
            rw [s4]
            exact g_iT _
          · have hq := hq
            rw [List.mem_singleton.mp hq]
            show (-2147483648) ≤ σ 5 ∧ σ 5 ≤ 2147483647
            rw [s5]
            exact g_iT _
  · cases hq
  · cases hq
  · have hq : q ∈ ([(0, .inr (.inr (0, (49, true)))), (1, .inl ([(1, 1)], 0)), (2, .inl ([(2, 1)], 0)), (3, .inl ([(3, 1)], 0)), (4, .inl ([(4, 1)], 0)), (5, .inl ([(5, 1)], 0))] : List (Nat × AT)) := hq
    rcases List.mem_cons.mp hq with e | hq
    · rw [e]
      refine ⟨.ref (α 0), by rw [a0]; exact l0, rfl, ?_⟩
      show t_rf ρ 49 true (α 0)
      rw [a0]
      exact Or.inr ⟨th_na ht r0 (by decide), by decide, r0⟩
    · have hq := hq
      rcases List.mem_cons.mp hq with e | hq
      · rw [e]
        refine ⟨.int x1, l1, x1, rfl, ?_⟩
        show x1.toInt = (1 * σ 1 + 0) + 0
        omega
      · have hq := hq
        rcases List.mem_cons.mp hq with e | hq
        · rw [e]
          refine ⟨.int x2, l2, x2, rfl, ?_⟩
          show x2.toInt = (1 * σ 2 + 0) + 0
          omega
        · have hq := hq
          rcases List.mem_cons.mp hq with e | hq
          · rw [e]
            refine ⟨.int x3, l3, x3, rfl, ?_⟩
            show x3.toInt = (1 * σ 3 + 0) + 0
            omega
          · have hq := hq
            rcases List.mem_cons.mp hq with e | hq
            · rw [e]
              refine ⟨.int x4, l4, x4, rfl, ?_⟩
              show x4.toInt = (1 * σ 4 + 0) + 0
              omega
            · have hq := hq
              rw [List.mem_singleton.mp hq]
              refine ⟨.int x5, l5, x5, rfl, ?_⟩
              show x5.toInt = (1 * σ 5 + 0) + 0
              omega
  · have mt : t ∈ ([7] : List Nat) := mt
    simp only [List.mem_cons, List.not_mem_nil, or_false] at mt
    rcases mt with rfl
    · exact t7
  · obtain ⟨P, mP, tP, kP⟩ := hP
    have mP : P = ((([(6, ((-2147483648), 2147483647))], []), ([], ((k_pins 6, List.range 6), (7, ([], [.inl ([(6, 1)], 0)]))))), [7]) := by
      have mP : P ∈ ([((([(6, ((-2147483648), 2147483647))], []), ([], ((k_pins 6, List.range 6), (7, ([], [.inl ([(6, 1)], 0)]))))), [7])] : List (AST × List Nat)) := mP
      exact List.mem_singleton.mp mP
    subst mP
    obtain ⟨t', σ', α', u1, u2, u3, u4, u5, -, u7⟩ := tP
    have s'1 : σ' 1 = x1.toInt := (con_s u4 1 (by decide)).trans s1
    have s'2 : σ' 2 = x2.toInt := (con_s u4 2 (by decide)).trans s2
    have s'3 : σ' 3 = x3.toInt := (con_s u4 3 (by decide)).trans s3
    have s'4 : σ' 4 = x4.toInt := (con_s u4 4 (by decide)).trans s4
    have s'5 : σ' 5 = x5.toInt := (con_s u4 5 (by decide)).trans s5
    have a'0 : α' 0 = o0 := (con_a u5 0 (by decide)).trans a0
    cases v with
    | none => exact u7.elim
    | some v =>
      obtain ⟨⟨x, e1, e2⟩, -⟩ := u7
      subst e1
      have e2 : x.toInt = (1 * σ' 6 + 0) + 0 := e2
      exact g0 ρ' h' (σ' 6) x f t' (by omega) (u1 _ (List.mem_of_getElem? (i := 0) rfl)) (kP 7 (by decide))
theorem c_k74 {ρ : Nat → Nat} {h : MH} {lv : List (Nat × Value)} {Q : Option Value → MH → Prop} {o0 : Nat} {o1 : Nat} {o2 : Nat} (hC : CCok c_CC ρ) (ht : TH c_sp ρ h) (l0 : m_lk lv 0 = some (.ref o0)) (l1 : m_lk lv 1 = some (.ref o1)) (l2 : m_lk lv 2 = some (.ref o2)) (r0 : ρ (o0) = 16) (r1 : ρ (o1) = 39) (r2 : ρ (o2) = 35) (t1 : c_PT 1 ρ h) (g0 : ∀ (ρ' : Nat → Nat) (h' : MH), FQ ρ ρ' c_m74.2.1 h h' → TH c_sp ρ' h' → c_PT 1 ρ' h' → Q none h') : HJ 74 0 lv [] h Q := by
  obtain ⟨σ, hσ⟩ : ∃ σ : Nat → Int, σ = fun k => 0 := ⟨_, rfl⟩
  obtain ⟨α, hα⟩ : ∃ α : Nat → Nat, α = fun k => if k = 0 then o0 else if k = 1 then o1 else if k = 2 then o2 else 0 := ⟨_, rfl⟩
  have a0 : α 0 = o0 := by rw [hα]; rfl
  have a1 : α 1 = o1 := by rw [hα]; rfl
  have a2 : α 2 = o2 := by rw [hα]; rfl
  clear hσ hα
  refine HJ.ofV (K := (k_pins 3).map (le_ev σ)) (KA := (List.range 3).map α) c_v74 hC ⟨ht, σ, α, fun q hq => ?_, fun q hq => ?_, fun q hq => ?_, rfl, rfl, fun q hq => ?_, trivial⟩ (fun t mt => ?_) (fun v h' ρ' f hP => ?_)
  · cases hq
  · cases hq
  · cases hq
  · have hq : q ∈ ([(0, .inr (.inr (0, (16, true)))), (1, .inr (.inr (1, (39, true)))), (2, .inr (.inr (2, (35, true))))] : List (Nat × AT)) := hq
    rcases List.mem_cons.mp hq with e | hq
    · rw [e]
      refine ⟨.ref (α 0), by rw [a0]; exact l0, rfl, ?_⟩
      show t_rf ρ 16 true (α 0)
      rw [a0]
      exact Or.inr ⟨th_na ht r0 (by decide), by decide, r0⟩
    · have hq := hq
      rcases List.mem_cons.mp hq with e | hq
      · rw [e]
        refine ⟨.ref (α 1), by rw [a1]; exact l1, rfl, ?_⟩
        show t_rf ρ 39 true (α 1)
        rw [a1]
        exact Or.inr ⟨th_na ht r1 (by decide), by decide, r1⟩
      · have hq := hq
        rw [List.mem_singleton.mp hq]
        refine ⟨.ref (α 2), by rw [a2]; exact l2, rfl, ?_⟩
        show t_rf ρ 35 true (α 2)
        rw [a2]
        exact Or.inr ⟨th_na ht r2 (by decide), by decide, r2⟩
  · have mt : t ∈ ([1] : List Nat) := mt
    simp only [List.mem_cons, List.not_mem_nil, or_false] at mt
    rcases mt with rfl
    · exact t1
  · obtain ⟨P, mP, tP, kP⟩ := hP
    have mP : P = ((([], []), ([], ((k_pins 3, List.range 3), (3, ([], []))))), [1]) := by
      have mP : P ∈ ([((([], []), ([], ((k_pins 3, List.range 3), (3, ([], []))))), [1])] : List (AST × List Nat)) := mP
      exact List.mem_singleton.mp mP
    subst mP
    obtain ⟨t', σ', α', u1, u2, u3, u4, u5, -, u7⟩ := tP
    have a'0 : α' 0 = o0 := (con_a u5 0 (by decide)).trans a0
    have a'1 : α' 1 = o1 := (con_a u5 1 (by decide)).trans a1
    have a'2 : α' 2 = o2 := (con_a u5 2 (by decide)).trans a2
    cases v with
    | some v => exact u7.elim
    | none =>
      exact g0 ρ' h'  f t' (kP 1 (by decide))
theorem c_k103 {ρ : Nat → Nat} {h : MH} {lv : List (Nat × Value)} {Q : Option Value → MH → Prop} {o0 : Nat} (hC : CCok c_CC ρ) (ht : TH c_sp ρ h) (l0 : m_lk lv 0 = some (.ref o0)) (r0 : ρ (o0) = 16) (g0 : ∀ (ρ' : Nat → Nat) (h' : MH), FQ ρ ρ' c_m103.2.1 h h' → TH c_sp ρ' h' → Q none h') : HJ 103 0 lv [] h Q := by
  obtain ⟨σ, hσ⟩ : ∃ σ : Nat → Int, σ = fun k => 0 := ⟨_, rfl⟩
  obtain ⟨α, hα⟩ : ∃ α : Nat → Nat, α = fun k => if k = 0 then o0 else 0 := ⟨_, rfl⟩
  have a0 : α 0 = o0 := by rw [hα]; rfl
  clear hσ hα
  refine HJ.ofV (K := (k_pins 1).map (le_ev σ)) (KA := (List.range 1).map α) c_v103 hC ⟨ht, σ, α, fun q hq => ?_, fun q hq => ?_, fun q hq => ?_, rfl, rfl, fun q hq => ?_, trivial⟩ (fun t mt => ?_) (fun v h' ρ' f hP => ?_)
  · cases hq
  · cases hq
  · cases hq
  · have hq : q ∈ ([(0, .inr (.inr (0, (16, true))))] : List (Nat × AT)) := hq
    rw [List.mem_singleton.mp hq]
    refine ⟨.ref (α 0), by rw [a0]; exact l0, rfl, ?_⟩
    show t_rf ρ 16 true (α 0)
    rw [a0]
    exact Or.inr ⟨th_na ht r0 (by decide), by decide, r0⟩
  · cases mt
  · obtain ⟨P, mP, tP, kP⟩ := hP
    have mP : P = ((([], []), ([], ((k_pins 1, List.range 1), (1, ([], []))))), []) := by
      have mP : P ∈ ([((([], []), ([], ((k_pins 1, List.range 1), (1, ([], []))))), [])] : List (AST × List Nat)) := mP
      exact List.mem_singleton.mp mP
    subst mP
    obtain ⟨t', σ', α', u1, u2, u3, u4, u5, -, u7⟩ := tP
    have a'0 : α' 0 = o0 := (con_a u5 0 (by decide)).trans a0
    cases v with
    | some v => exact u7.elim
    | none =>
      exact g0 ρ' h'  f t'
