def c_m253 : SM := (((([(1, ((-2147483648), 2147483647)), (2, ((-2147483648), 2147483647)), (3, ((-2147483648), 2147483647))], []), ([], ((k_pins 4, List.range 4), (4, ([(0, .inr (.inr (0, (49, true)))), (1, .inl ([(1, 1)], 0)), (2, .inl ([(2, 1)], 0)), (3, .inl ([(3, 1)], 0))], []))))), [7]), ([(49, 0), (49, 17), (49, 18), (49, 19), (49, 26), (49, 35), (49, 43), (49, 51), (49, 57), (57, 1001), (58, 1001), (59, 1001), (60, 1001), (61, 1001), (62, 1001), (63, 1001), (64, 1001), (65, 1001), (66, 1001), (67, 1001), (68, 1001), (69, 1001), (70, 1001), (71, 1001), (72, 1001), (73, 1001), (74, 1001), (75, 1001), (76, 1001), (78, 1001), (79, 1001), (83, 1001), (84, 1001), (85, 1001), (86, 1001), (87, 1001)], [((([(4, ((-2147483648), 2147483647))], []), ([], ((k_pins 4, List.range 4), (5, ([], [.inl ([(4, 1)], 0)]))))), [7])]))
-- by hand: PastHeapsModel.differ
theorem c_v253 : V_ok c_sp c_CC c_PT 253 c_m253 := V_of (fun ρ K KA lv h hC hS hT => by
  obtain ⟨ht, σ, α, w1, w2, w3, w4, w5, w6, -⟩ := hS
  obtain ⟨e0, hm⟩ := hv_ref w6 (o := 0) (R := 49) (List.mem_of_getElem? (i := 0) rfl)
  obtain ⟨x1, e1, q1⟩ := hv_int w6 (k := 1) (n := 1) (List.mem_of_getElem? (i := 1) rfl)
  obtain ⟨x2, e2, q2⟩ := hv_int w6 (k := 2) (n := 2) (List.mem_of_getElem? (i := 2) rfl)
  obtain ⟨x3, e3, q3⟩ := hv_int w6 (k := 3) (n := 3) (List.mem_of_getElem? (i := 3) rfl)
  have t7 := hT 7 (by decide)
  refine c_differ (MX.start (W := c_m253.2.1) ht hm) e0 e1 e2 e3 (by decide +kernel) rfl rfl rfl (t7.2 _ hm) (fun x h' F' V' G' M' => ⟨M'.1.2.2, _, List.mem_singleton.mpr rfl, ⟨M'.1.1, s_up σ 4 x.toInt, α, fun q hq => ?_, fun e he => (by cases he), fun q hq => (by cases hq), hv_K w4 (fun k hk => if_neg (by omega)), w5, fun q hq => (by cases hq), ⟨⟨x, rfl, ?_⟩, trivial⟩⟩, fun t mt => ?_⟩)
  · rw [List.mem_singleton.mp hq]
    exact g_iT x
  · show x.toInt = 1 * x.toInt + 0 + 0
    omega
  · rw [List.mem_singleton.mp mt]
    exact c_PTx 7 ρ ρ c_m253.2.1 h h' ht M'.1.2.2.fq (by decide +kernel) t7)
