def c_m1061 : SM := (((([(1, ((-2147483648), 2147483647)), (2, ((-2147483648), 2147483647)), (3, (0, 15999))], []), ([((0, (48, 5)), .inl ([(3, 1)], 0))], ((k_pins 4, List.range 4), (4, ([(0, .inr (.inr (0, (48, true)))), (1, .inl ([(1, 1)], 0)), (2, .inl ([(2, 1)], 0))], []))))), [1, 2]), ([(40, 1001), (40, 1002), (41, 1001), (41, 1002), (48, 0), (48, 1), (48, 5), (1000, 1002)], [((([(4, ((-2147483648), 2147483647)), (5, (0, 16000))], [([(3, (-1)), (5, 1)], (-1)), ([(3, 1), (5, (-1))], 1), ([(3, (-1)), (4, 1)], 0), ([(3, 1), (4, (-1))], 0)]), ([((0, (48, 5)), .inl ([(5, 1)], 0))], ((k_pins 4, List.range 4), (6, ([], [.inl ([(4, 1)], 0)]))))), [1, 2])]))
-- by hand: PastHeaps$Nodes.makeNode
theorem c_v1061 : V_ok c_sp c_CC c_PT 61 c_m1061 := V_of2 (fun ρ K KA lv h hC hS hT => by
  obtain ⟨ht, σ, α, w1, w2, w3, w4, w5, w6, -⟩ := hS
  obtain ⟨e0, hm⟩ := hv_ref w6 (o := 0) (R := 48) (List.mem_of_getElem? (i := 0) rfl)
  obtain ⟨x1, e1, q1⟩ := hv_int w6 (k := 1) (n := 1) (List.mem_of_getElem? (i := 1) rfl)
  obtain ⟨x2, e2, q2⟩ := hv_int w6 (k := 2) (n := 2) (List.mem_of_getElem? (i := 2) rfl)
  have f5 : (h_i h (α 0) 5).toInt = σ 3 := fv_i (n := 3) (by decide) (w3 _ (List.mem_of_getElem? (i := 0) rfl)).2
  have b3 := w1 _ (List.mem_of_getElem? (i := 2) rfl)
  dsimp only at b3
  refine c_makeNode ht hm (hT 1 (by decide)) (hT 2 (by decide)) (by omega) e0 e1 e2 (fun ρ' x h' f ht' n1 n2 qx qm => ⟨ρ', f.mono (by decide +kernel), _, List.mem_singleton.mpr rfl, ⟨ht', s_up (s_up σ 4 (σ 3)) 5 (σ 3 + 1), α, fun q hq => ?_, fun e he => ?_, fun q hq => ?_, hv_K w4 (fun k hk => ?_), w5, fun q hq => (by cases hq), ⟨⟨x, rfl, ?_⟩, trivial⟩⟩, fun t mt => ?_⟩)
  · rcases List.mem_cons.mp hq with e | hq
    · rw [e]
      show -2147483648 ≤ σ 3 ∧ σ 3 ≤ 2147483647
      omega
    · rw [List.mem_singleton.mp hq]
      show 0 ≤ σ 3 + 1 ∧ σ 3 + 1 ≤ 16000
      omega
  · rcases List.mem_cons.mp he with e | he
    · rw [e]
      show -1 * σ 3 + (1 * (σ 3 + 1) + 0) + -1 ≤ 0
      omega
    · rcases List.mem_cons.mp he with e | he
      · rw [e]
        show 1 * σ 3 + (-1 * (σ 3 + 1) + 0) + 1 ≤ 0
        omega
      · rcases List.mem_cons.mp he with e | he
        · rw [e]
          show -1 * σ 3 + (1 * σ 3 + 0) + 0 ≤ 0
          omega
        · rw [List.mem_singleton.mp he]
          show 1 * σ 3 + (-1 * σ 3 + 0) + 0 ≤ 0
          omega
  · rw [List.mem_singleton.mp hq]
    have hm' : ρ' (α 0) = 48 := (f.2.1 (α 0) (by rw [hm]; decide)).trans hm
    refine ⟨⟨fun z => ?_, hm'⟩, ?_⟩
    · have := ht'.1
      rw [show α 0 = 0 from z, this] at hm'
      cases hm'
    · show (h_i h' (α 0) 5).toInt = 1 * (σ 3 + 1) + 0 + 0
      rw [qm, f5]
      omega
  · unfold s_up
    rw [if_neg (by omega), if_neg (by omega)]
  · show x.toInt = 1 * σ 3 + 0 + 0
    rw [qx, f5]
    omega
  · rcases List.mem_cons.mp mt with e | mt
    · rw [e]; exact n1
    · rw [List.mem_singleton.mp mt]; exact n2)
