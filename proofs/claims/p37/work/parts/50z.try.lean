def c_m248 : SM := (((([(1, ((-2147483648), 2147483647))], []), ([], ((k_pins 2, List.range 2), (2, ([(0, .inr (.inr (0, (49, true)))), (1, .inl ([(1, 1)], 0)), (2, .inr (.inl ()))], []))))), [7]), ([(49, 0), (49, 17), (49, 18), (49, 19), (49, 26), (49, 35), (49, 47), (49, 49), (57, 1001), (58, 1001), (59, 1001), (60, 1001), (61, 1001), (62, 1001), (63, 1001), (64, 1001), (65, 1001), (66, 1001), (67, 1001), (68, 1001), (69, 1001), (70, 1001), (71, 1001), (72, 1001), (73, 1001), (74, 1001), (75, 1001), (76, 1001), (77, 1001), (81, 1001), (82, 1001)], [((([], []), ([], ((k_pins 2, List.range 2), (2, ([], [.inr (.inl ())]))))), [7])]))
-- by hand: PastHeapsModel.cover
theorem c_v248 : V_ok c_sp c_CC c_PT 248 c_m248 := V_of (fun ρ K KA lv h hC hS hT => by
  obtain ⟨ht, σ, α, w1, w2, w3, w4, w5, w6, -⟩ := hS
  obtain ⟨e0, hm⟩ := hv_ref w6 (o := 0) (R := 49) (List.mem_of_getElem? (i := 0) rfl)
  obtain ⟨x1, e1, q1⟩ := hv_int w6 (k := 1) (n := 1) (List.mem_of_getElem? (i := 1) rfl)
  obtain ⟨x2, e2⟩ := hv_lng w6 (k := 2) (List.mem_of_getElem? (i := 2) rfl)
  have t7 := hT 7 (by decide)
  refine c_cover (MX.start (W := c_m248.2.1) ht hm) e0 e1 e2 (by decide +kernel) rfl (t7.2 _ hm) (fun x h' F' V' G' M' => ⟨M'.1.2.2, _, List.mem_singleton.mpr rfl, ⟨M'.1.1, σ, α, fun q hq => (by cases hq), fun e he => (by cases he), fun q hq => (by cases hq), w4, w5, fun q hq => (by cases hq), ⟨⟨x, rfl⟩, trivial⟩⟩, fun t mt => ?_⟩)
  rw [List.mem_singleton.mp mt]
  exact c_PTx 7 ρ ρ c_m248.2.1 h h' ht M'.1.2.2.fq (by decide +kernel) t7)
def c_m285 : SM := (((([(1, ((-2147483648), 2147483647)), (2, ((-2147483648), 2147483647))], []), ([], ((k_pins 3, List.range 3), (3, ([(0, .inr (.inr (0, (49, true)))), (1, .inl ([(1, 1)], 0)), (2, .inr (.inl ())), (4, .inl ([(2, 1)], 0))], []))))), [7]), ([(49, 0), (49, 17), (49, 18), (49, 19), (49, 26), (49, 35), (49, 47), (49, 49), (57, 1001), (58, 1001), (59, 1001), (60, 1001), (61, 1001), (62, 1001), (63, 1001), (64, 1001), (65, 1001), (66, 1001), (67, 1001), (68, 1001), (69, 1001), (70, 1001), (71, 1001), (72, 1001), (73, 1001), (74, 1001), (75, 1001), (76, 1001), (77, 1001), (81, 1001), (82, 1001)], [((([], []), ([], ((k_pins 3, List.range 3), (3, ([], [.inr (.inl ())]))))), [7])]))
-- by hand: PastHeapsModel.forget
theorem c_v285 : V_ok c_sp c_CC c_PT 285 c_m285 := V_of (fun ρ K KA lv h hC hS hT => by
  obtain ⟨ht, σ, α, w1, w2, w3, w4, w5, w6, -⟩ := hS
  obtain ⟨e0, hm⟩ := hv_ref w6 (o := 0) (R := 49) (List.mem_of_getElem? (i := 0) rfl)
  obtain ⟨x1, e1, q1⟩ := hv_int w6 (k := 1) (n := 1) (List.mem_of_getElem? (i := 1) rfl)
  obtain ⟨x2, e2⟩ := hv_lng w6 (k := 2) (List.mem_of_getElem? (i := 2) rfl)
  obtain ⟨x4, e4, q4⟩ := hv_int w6 (k := 4) (n := 2) (List.mem_of_getElem? (i := 3) rfl)
  have t7 := hT 7 (by decide)
  refine c_forget (MX.start (W := c_m285.2.1) ht hm) e0 e1 e2 e4 (by decide +kernel) rfl rfl (t7.2 _ hm) (fun x h' F' V' G' M' => ⟨M'.1.2.2, _, List.mem_singleton.mpr rfl, ⟨M'.1.1, σ, α, fun q hq => (by cases hq), fun e he => (by cases he), fun q hq => (by cases hq), w4, w5, fun q hq => (by cases hq), ⟨⟨x, rfl⟩, trivial⟩⟩, fun t mt => ?_⟩)
  rw [List.mem_singleton.mp mt]
  exact c_PTx 7 ρ ρ c_m285.2.1 h h' ht M'.1.2.2.fq (by decide +kernel) t7)
