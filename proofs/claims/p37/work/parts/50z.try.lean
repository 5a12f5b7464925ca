def c_m255 : SM := (((([(1, (0, 6))], []), ([((0, (49, 51)), .inl ([(1, 1)], 0))], ((k_pins 2, List.range 2), (2, ([(0, .inr (.inr (0, (49, true))))], []))))), []), ([(49, 57), (86, 1001), (87, 1001)], [((([(2, ((-2147483648), 2147483647))], []), ([], ((k_pins 2, List.range 2), (3, ([], [.inl ([(2, 1)], 0)]))))), [])]))
-- by hand: PastHeapsModel.fewestSteps
theorem c_v255 : V_ok c_sp c_CC c_PT 255 c_m255 := V_of (fun ρ K KA lv h hC hS hT => by
  obtain ⟨ht, σ, α, w1, w2, w3, w4, w5, w6, -⟩ := hS
  obtain ⟨e0, hm⟩ := hv_ref w6 (o := 0) (R := 49) (List.mem_of_getElem? (i := 0) rfl)
  refine c_steps (MX.start (W := c_m255.2.1) ht hm) e0 (by decide +kernel) (fun x h' F' V' M' => ⟨M'.1.2.2, _, List.mem_singleton.mpr rfl, ⟨M'.1.1, s_up σ 2 x.toInt, α, fun q hq => ?_, fun e he => (by cases he), fun q hq => (by cases hq), hv_K w4 (fun k hk => if_neg (by omega)), w5, fun q hq => (by cases hq), ⟨⟨x, rfl, ?_⟩, trivial⟩⟩, fun t mt => (by cases mt)⟩)
  · rw [List.mem_singleton.mp hq]
    exact g_iT x
  · show x.toInt = 1 * x.toInt + 0 + 0
    omega)
