def c_m265 : SM := (((([(1, ((-2147483648), 2147483647)), (2, ((-2147483648), 2147483647))], []), ([], ((k_pins 3, List.range 3), (3, ([(0, .inr (.inr (0, (49, true)))), (1, .inl ([(1, 1)], 0)), (2, .inr (.inl ())), (4, .inl ([(2, 1)], 0))], []))))), [7]), ([(49, 0), (49, 17), (49, 18), (49, 19), (49, 26), (49, 35), (49, 47), (57, 1001), (58, 1001), (59, 1001), (60, 1001), (61, 1001), (62, 1001), (63, 1001), (64, 1001), (65, 1001), (66, 1001), (67, 1001), (68, 1001), (69, 1001), (70, 1001), (71, 1001), (72, 1001), (73, 1001), (74, 1001), (75, 1001), (76, 1001), (81, 1001), (90, 1001), (91, 1001)], [((([(3, ((-2147483648), 2147483647))], []), ([], ((k_pins 3, List.range 3), (4, ([], [.inl ([(3, 1)], 0)]))))), [7])]))
-- by hand: PastHeapsModel.fold
theorem c_v265 : V_ok c_sp c_CC c_PT 265 c_m265 := V_of (fun ρ K KA lv h hC hS hT => by
  obtain ⟨ht, σ, α, w1, w2, w3, w4, w5, w6, -⟩ := hS
  obtain ⟨e0, hm⟩ := hv_ref w6 (o := 0) (R := 49) (List.mem_of_getElem? (i := 0) rfl)
  obtain ⟨x1, e1, q1⟩ := hv_int w6 (k := 1) (n := 1) (List.mem_of_getElem? (i := 1) rfl)
  obtain ⟨x2, e2⟩ := hv_lng w6 (k := 2) (List.mem_of_getElem? (i := 2) rfl)
  obtain ⟨x4, e4, q4⟩ := hv_int w6 (k := 4) (n := 2) (List.mem_of_getElem? (i := 3) rfl)
  have t7 := hT 7 (by decide)
  refine c_fold (MX.start (W := c_m265.2.1) ht hm) e0 e1 e2 e4 (by decide +kernel) rfl rfl (t7.2 _ hm) (fun x h' F' V' G' M' => ⟨M'.1.2.2, _, List.mem_singleton.mpr rfl, ⟨M'.1.1, s_up σ 3 x.toInt, α, fun q hq => ?_, fun e he => (by cases he), fun q hq => (by cases hq), hv_K w4 (fun k hk => if_neg (by omega)), w5, fun q hq => (by cases hq), ⟨⟨x, rfl, ?_⟩, trivial⟩⟩, fun t mt => ?_⟩)
  · rw [List.mem_singleton.mp hq]
    exact g_iT x
  · show x.toInt = 1 * x.toInt + 0 + 0
    omega
  · rw [List.mem_singleton.mp mt]
    exact c_PTx 7 ρ ρ c_m265.2.1 h h' ht M'.1.2.2.fq (by decide +kernel) t7)
def c_m216 : SM := (((([(1, (0, 15994))], []), ([((0, (49, 17)), .inl ([(1, 1)], 0))], ((k_pins 2, List.range 2), (2, ([(0, .inr (.inr (0, (49, true))))], []))))), [3, 4, 6]), ([(49, 17), (49, 19), (57, 1001), (58, 1001), (59, 1001), (60, 1001), (61, 1001), (62, 1001)], [((([(2, (0, 1)), (3, (0, 16000))], [([(1, (-1)), (3, 1)], (-6)), ([(1, 1), (3, (-1))], 0)]), ([((0, (49, 17)), .inl ([(3, 1)], 0))], ((k_pins 2, List.range 2), (4, ([], [.inl ([(2, 1)], 0)]))))), [3, 4, 6])]))
-- by hand: PastHeapsModel.lessens
theorem c_v216 : V_ok c_sp c_CC c_PT 216 c_m216 := V_of (fun ρ K KA lv h hC hS hT => by
  obtain ⟨ht, σ, α, w1, w2, w3, w4, w5, w6, -⟩ := hS
  obtain ⟨e0, hm⟩ := hv_ref w6 (o := 0) (R := 49) (List.mem_of_getElem? (i := 0) rfl)
  have t3 := hT 3 (by decide)
  have t4 := hT 4 (by decide)
  have t6 := hT 6 (by decide)
  have fn : (h_i h (α 0) 17).toInt = σ 1 := fv_i (n := 1) (by decide) (w3 _ (List.mem_of_getElem? (i := 0) rfl)).2
  have bn := w1 _ (List.mem_of_getElem? (i := 0) rfl)
  dsimp only at bn
  exact c_lessens (MX.start (W := c_m216.2.1) ht hm) e0 (by decide +kernel) (t3.2 _ hm) (t4.2 _ hm) (by show 0 ≤ (h_i h (α 0) 17).toInt; omega) (by show (h_i h (α 0) 17).toInt + 6 ≤ 16000; omega) (fun x h' F' V' x0 x1 M' I _ _ => ⟨M'.1.2.2, _, List.mem_singleton.mpr rfl, hv_pA (np := 2) (nn := 1) (k := 6) M' (by decide) w4 w5 x0 x1 (by rw [← fn]; exact I.2.1.1) (by rw [← fn]; exact I.2.1.2), hv_346 M' t3.1 I.1.1 I.1.2 (hv_ro I (t6.2 _ hm))⟩))
