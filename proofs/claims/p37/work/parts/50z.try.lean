def c_m213 : SM := (((([(1, ((-2147483648), 2147483647)), (2, (0, 15993))], []), ([((0, (49, 17)), .inl ([(2, 1)], 0))], ((k_pins 3, List.range 3), (3, ([(0, .inr (.inr (0, (49, true)))), (1, .inl ([(1, 1)], 0))], []))))), [3, 4, 6]), ([(49, 17), (49, 18), (49, 19), (57, 1001), (58, 1001), (59, 1001), (60, 1001), (61, 1001), (62, 1001)], [((([(3, (0, 1)), (4, (0, 16000))], [([(2, (-1)), (4, 1)], (-7)), ([(2, 1), (4, (-1))], 0)]), ([((0, (49, 17)), .inl ([(4, 1)], 0))], ((k_pins 3, List.range 3), (5, ([], [.inl ([(3, 1)], 0)]))))), [3, 4, 6])]))
-- by hand: PastHeapsModel.puts
theorem c_v213 : V_ok c_sp c_CC c_PT 213 c_m213 := V_of (fun ρ K KA lv h hC hS hT => by
  obtain ⟨ht, σ, α, w1, w2, w3, w4, w5, w6, -⟩ := hS
  obtain ⟨e0, hm⟩ := hv_ref w6 (o := 0) (R := 49) (List.mem_of_getElem? (i := 0) rfl)
  have t3 := hT 3 (by decide)
  have t4 := hT 4 (by decide)
  have t6 := hT 6 (by decide)
  obtain ⟨x1, e1, q1⟩ := hv_int w6 (k := 1) (n := 1) (List.mem_of_getElem? (i := 1) rfl)
  have fn : (h_i h (α 0) 17).toInt = σ 2 := fv_i (n := 2) (by decide) (w3 _ (List.mem_of_getElem? (i := 0) rfl)).2
  have bn := w1 _ (List.mem_of_getElem? (i := 1) rfl)
  dsimp only at bn
  exact c_puts (MX.start (W := c_m213.2.1) ht hm) e0 e1 (by decide +kernel) rfl (t3.2 _ hm) (t4.2 _ hm) (by show 0 ≤ (h_i h (α 0) 17).toInt; omega) (by show (h_i h (α 0) 17).toInt + 7 ≤ 16000; omega) (fun x h' F' V' x0 x1 M' I => ⟨M'.1.2.2, _, List.mem_singleton.mpr rfl, hv_pA (np := 3) (nn := 2) (k := 7) M' (by decide) w4 w5 x0 x1 (by rw [← fn]; exact I.2.1.1) (by rw [← fn]; exact I.2.1.2), hv_346 M' t3.1 I.1.1 I.1.2 (hv_ro I (t6.2 _ hm))⟩))
def c_m216 : SM := (((([(1, (0, 15994))], []), ([((0, (49, 17)), .inl ([(1, 1)], 0))], ((k_pins 2, List.range 2), (2, ([(0, .inr (.inr (0, (49, true))))], []))))), [3, 4, 6]), ([(49, 17), (49, 19), (57, 1001), (58, 1001), (59, 1001), (60, 1001), (61, 1001), (62, 1001)], [((([(2, (0, 1)), (3, (0, 16000))], [([(1, (-1)), (3, 1)], (-6)), ([(1, 1), (3, (-1))], 0)]), ([((0, (49, 17)), .inl ([(3, 1)], 0))], ((k_pins 2, List.range 2), (4, ([], [.inl ([(2, 1)], 0)]))))), [3, 4, 6])]))
-- by hand: PastHeapsModel.lessens
theorem c_v216 : V_ok c_sp c_CC c_PT 216 c_m216 := V_of (fun ρ K KA lv h hC hS hT => by
  obtain ⟨ht, σ, α, w1, w2, w3, w4, w5, w6, -⟩ := hS
  obtain ⟨e0, hm⟩ := hv_ref w6 (o := 0) (R := 49) (List.mem_of_getElem? (i := 0) rfl)
  have t3 := hT 3 (by decide)
  have t4 := hT 4 (by decide)
  have t6 := hT 6 (by decide)
  have fn : (h_i h (α 0) 17).toInt = σ 1 := fv_i (n := 1) (by decide) (w3 _ (List.mem_of_getElem? (i := 0) rfl)).2
  have bn := w1 _ (List.mem_of_getElem? (i := 0) rfl)
  dsimp only at bn
  exact c_lessens (MX.start (W := c_m216.2.1) ht hm) e0 (by decide +kernel) (t3.2 _ hm) (t4.2 _ hm) (by show 0 ≤ (h_i h (α 0) 17).toInt; omega) (by show (h_i h (α 0) 17).toInt + 6 ≤ 16000; omega) (fun x h' F' V' x0 x1 M' I _ => ⟨M'.1.2.2, _, List.mem_singleton.mpr rfl, hv_pA (np := 2) (nn := 1) (k := 6) M' (by decide) w4 w5 x0 x1 (by rw [← fn]; exact I.2.1.1) (by rw [← fn]; exact I.2.1.2), hv_346 M' t3.1 I.1.1 I.1.2 (hv_ro I (t6.2 _ hm))⟩))
def c_m218 : SM := (((([(1, ((-2147483648), 2147483647)), (2, ((-2147483648), 2147483647)), (3, (0, 15994))], []), ([((0, (49, 17)), .inl ([(3, 1)], 0))], ((k_pins 4, List.range 4), (4, ([(0, .inr (.inr (0, (49, true)))), (1, .inl ([(1, 1)], 0)), (2, .inl ([(2, 1)], 0))], []))))), [3, 4, 6]), ([(49, 17), (49, 19), (49, 26), (57, 1001), (58, 1001), (59, 1001), (60, 1001), (61, 1001), (63, 1001), (64, 1001), (65, 1001), (66, 1001), (67, 1001), (68, 1001), (69, 1001), (70, 1001)], [((([(4, (0, 1)), (5, (0, 16000))], [([(3, (-1)), (5, 1)], (-6)), ([(3, 1), (5, (-1))], 0)]), ([((0, (49, 17)), .inl ([(5, 1)], 0))], ((k_pins 4, List.range 4), (6, ([], [.inl ([(4, 1)], 0)]))))), [3, 4, 6])]))
-- by hand: PastHeapsModel.lowers
theorem c_v218 : V_ok c_sp c_CC c_PT 218 c_m218 := V_of (fun ρ K KA lv h hC hS hT => by
  obtain ⟨ht, σ, α, w1, w2, w3, w4, w5, w6, -⟩ := hS
  obtain ⟨e0, hm⟩ := hv_ref w6 (o := 0) (R := 49) (List.mem_of_getElem? (i := 0) rfl)
  have t3 := hT 3 (by decide)
  have t4 := hT 4 (by decide)
  have t6 := hT 6 (by decide)
  obtain ⟨x1, e1, q1⟩ := hv_int w6 (k := 1) (n := 1) (List.mem_of_getElem? (i := 1) rfl)
  obtain ⟨x2, e2, q2⟩ := hv_int w6 (k := 2) (n := 2) (List.mem_of_getElem? (i := 2) rfl)
  have fn : (h_i h (α 0) 17).toInt = σ 3 := fv_i (n := 3) (by decide) (w3 _ (List.mem_of_getElem? (i := 0) rfl)).2
  have bn := w1 _ (List.mem_of_getElem? (i := 2) rfl)
  dsimp only at bn
  exact c_lowers (MX.start (W := c_m218.2.1) ht hm) e0 e1 e2 (by decide +kernel) (t3.2 _ hm) (t4.2 _ hm) (by show 0 ≤ (h_i h (α 0) 17).toInt; omega) (by show (h_i h (α 0) 17).toInt + 6 ≤ 16000; omega) (fun x h' F' V' x0 x1 M' I => ⟨M'.1.2.2, _, List.mem_singleton.mpr rfl, hv_pA (np := 4) (nn := 3) (k := 6) M' (by decide) w4 w5 x0 x1 (by rw [← fn]; exact I.2.1.1) (by rw [← fn]; exact I.2.1.2), hv_346 M' t3.1 I.1.1 I.1.2 (hv_ro I (t6.2 _ hm))⟩))
def c_m219 : SM := (((([], []), ([], ((k_pins 1, List.range 1), (1, ([(0, .inr (.inr (0, (49, true))))], []))))), [3, 4, 6]), ([(49, 26), (63, 1001), (64, 1001), (65, 1001), (66, 1001), (67, 1001)], [((([(1, (0, 63))], []), ([((0, (49, 26)), .inl ([(1, 1)], 0))], ((k_pins 1, List.range 1), (2, ([], []))))), [3, 4, 6, 9])]))
-- by hand: PastHeapsModel.walkAll
theorem c_v219 : V_ok c_sp c_CC c_PT 219 c_m219 := V_of (fun ρ K KA lv h hC hS hT => by
  obtain ⟨ht, σ, α, w1, w2, w3, w4, w5, w6, -⟩ := hS
  obtain ⟨e0, hm⟩ := hv_ref w6 (o := 0) (R := 49) (List.mem_of_getElem? (i := 0) rfl)
  have t3 := hT 3 (by decide)
  have t4 := hT 4 (by decide)
  have t6 := hT 6 (by decide)
  have bn := (MX.start (W := c_m219.2.1) ht hm).fi (by decide) (k := 17) (lo := 0) (hi := 16000) rfl rfl rfl
  refine c_walkAll (MX.start (W := c_m219.2.1) ht hm) e0 (by decide +kernel) (t3.2 _ hm) (t4.2 _ hm) bn.2 (fun h' F' V' M' I fw X => ?_)
  have f17 : F' 17 = (h_i h (α 0) 17).toInt := I.1 17 (by decide)
  have f35 : F' 35 = (h_i h (α 0) 35).toInt := I.1 35 (by decide)
  have v22 : V' 22 = v_rk h (α 0) := I.2 22 (by decide)
  have v23 : V' 23 = v_bl h (α 0) := I.2 23 (by decide)
  have v24 : V' 24 = v_hp h (α 0) := I.2 24 (by decide)
  have v36 : V' 36 = v_ro h (α 0) := I.2 36 (by decide)
  have wb := M'.fi (by decide) (k := 26) (lo := 0) (hi := 63) rfl rfl rfl
  refine ⟨M'.1.2.2, _, List.mem_singleton.mpr rfl, ⟨M'.1.1, s_up σ 1 (F' 26), α, fun q hq => ?_, fun e he => (by cases he), fun q hq => ?_, hv_K w4 (fun k hk => if_neg (by omega)), w5, fun q hq => (by cases hq), trivial⟩, fun t mt => ?_⟩
  · rw [List.mem_singleton.mp hq]
    exact wb
  · rw [List.mem_singleton.mp hq]
    refine ⟨⟨fun z => ?_, hm⟩, ?_⟩
    · have h9 := ht.1
      have z : α 0 = 0 := z
      rw [z, h9] at hm
      cases hm
    · show (h_i h' (α 0) 26).toInt = 1 * F' 26 + 0 + 0
      rw [M'.2.1 26]
      omega
  · rcases List.mem_cons.mp (show t ∈ 3 :: [4, 6, 9] from mt) with e | mt
    · rw [e]
      exact hv_3 M' t3.1 (by rw [f17, v22, v23]; exact t3.2 _ hm)
    · rcases List.mem_cons.mp mt with e | mt
      · rw [e]
        exact hv_4 M' t3.1 (by rw [f17, v22, v24]; exact t4.2 _ hm)
      · rcases List.mem_cons.mp mt with e | mt
        · rw [e]
          exact hv_6 M' t3.1 (by rw [f17, f35, v22, v36]; exact t6.2 _ hm)
        · rw [List.mem_singleton.mp mt]
          refine hv_9 M' t3.1 ?_
          rw [fw, Int.toNat_natCast, f17, v22]
          exact X)
def c_m222 : SM := (((([(1, ((-2147483648), 2147483647)), (2, (0, 15622))], []), ([((0, (49, 17)), .inl ([(2, 1)], 0))], ((k_pins 3, List.range 3), (3, ([(0, .inr (.inr (0, (49, true)))), (1, .inl ([(1, 1)], 0))], []))))), [3, 4, 6]), ([(49, 17), (49, 19), (57, 1001), (58, 1001), (59, 1001), (60, 1001), (61, 1001), (62, 1001)], [((([(3, (0, 16000))], [([(2, (-1)), (3, 1)], (-378)), ([(2, 1), (3, (-1))], 0)]), ([((0, (49, 17)), .inl ([(3, 1)], 0))], ((k_pins 3, List.range 3), (4, ([], [.inl ([], 1)]))))), [3, 4, 6])]))
-- by hand: PastHeapsModel.cuts
theorem c_v222 : V_ok c_sp c_CC c_PT 222 c_m222 := V_of (fun ρ K KA lv h hC hS hT => by
  obtain ⟨ht, σ, α, w1, w2, w3, w4, w5, w6, -⟩ := hS
  obtain ⟨e0, hm⟩ := hv_ref w6 (o := 0) (R := 49) (List.mem_of_getElem? (i := 0) rfl)
  have t3 := hT 3 (by decide)
  have t4 := hT 4 (by decide)
  have t6 := hT 6 (by decide)
  obtain ⟨x1, e1, q1⟩ := hv_int w6 (k := 1) (n := 1) (List.mem_of_getElem? (i := 1) rfl)
  have fn : (h_i h (α 0) 17).toInt = σ 2 := fv_i (n := 2) (by decide) (w3 _ (List.mem_of_getElem? (i := 0) rfl)).2
  have bn := w1 _ (List.mem_of_getElem? (i := 1) rfl)
  dsimp only at bn
  refine c_cuts (MX.start (W := c_m222.2.1) ht hm) e0 e1 (by decide +kernel) rfl (t3.2 _ hm) (t4.2 _ hm) (by show 0 ≤ (h_i h (α 0) 17).toInt; omega) (by show (h_i h (α 0) 17).toInt + 378 ≤ 16000; omega) (fun x h' F' V' x1 M' I => ⟨M'.1.2.2, _, List.mem_singleton.mpr rfl, ?_, hv_346 M' t3.1 I.1.1 I.1.2 (hv_ro I (t6.2 _ hm))⟩)
  have nb := M'.fi (by decide) (k := 17) (lo := 0) (hi := 16000) rfl rfl rfl
  have i1 : (h_i h (α 0) 17).toInt ≤ F' 17 := I.2.1.1
  have i2 : F' 17 ≤ (h_i h (α 0) 17).toInt + 378 := I.2.1.2
  refine ⟨M'.1.1, s_up σ 3 (F' 17), α, fun q hq => ?_, fun e he => ?_, fun q hq => ?_, hv_K w4 (fun k hk => if_neg (by omega)), w5, fun q hq => (by cases hq), ⟨⟨x, rfl, ?_⟩, trivial⟩⟩
  · rw [List.mem_singleton.mp hq]
    exact nb
  · rcases List.mem_cons.mp he with e9 | he
    · rw [e9]
      show -1 * σ 2 + (1 * F' 17 + 0) + -378 ≤ 0
      omega
    · rw [List.mem_singleton.mp he]
      show 1 * σ 2 + (-1 * F' 17 + 0) + 0 ≤ 0
      omega
  · rw [List.mem_singleton.mp hq]
    refine ⟨⟨fun z => ?_, hm⟩, ?_⟩
    · have h9 := ht.1
      have z : α 0 = 0 := z
      rw [z, h9] at hm
      cases hm
    · show (h_i h' (α 0) 17).toInt = 1 * F' 17 + 0 + 0
      rw [M'.2.1 17]
      omega
  · show x.toInt = 0 + 1
    omega)
def c_m204 : SM := (((([(1, ((-2147483648), 2147483647)), (2, ((-2147483648), 2147483647)), (3, ((-2147483648), 2147483647)), (4, ((-2147483648), 2147483647)), (5, (0, 15622)), (6, (0, 41))], []), ([((0, (49, 17)), .inl ([(5, 1)], 0)), ((0, (49, 35)), .inl ([(6, 1)], 0))], ((k_pins 7, List.range 7), (7, ([(0, .inr (.inr (0, (49, true)))), (1, .inl ([(1, 1)], 0)), (2, .inl ([(2, 1)], 0)), (3, .inl ([(3, 1)], 0)), (4, .inl ([(4, 1)], 0))], []))))), [3, 4, 6]), ([(49, 17), (49, 18), (49, 19), (49, 26), (57, 1001), (58, 1001), (59, 1001), (60, 1001), (61, 1001), (62, 1001), (63, 1001), (64, 1001), (65, 1001), (66, 1001), (67, 1001), (68, 1001), (69, 1001), (70, 1001)], [((([(7, (0, 1)), (8, (0, 16000))], [([(5, (-1)), (8, 1)], (-378)), ([(5, 1), (8, (-1))], 0)]), ([((0, (49, 17)), .inl ([(8, 1)], 0))], ((k_pins 7, List.range 7), (9, ([], [.inl ([(7, 1)], 0)]))))), [3, 4, 6])]))
-- by hand: PastHeapsModel.does
theorem c_v204 : V_ok c_sp c_CC c_PT 204 c_m204 := V_of (fun ρ K KA lv h hC hS hT => by
  obtain ⟨ht, σ, α, w1, w2, w3, w4, w5, w6, -⟩ := hS
  obtain ⟨e0, hm⟩ := hv_ref w6 (o := 0) (R := 49) (List.mem_of_getElem? (i := 0) rfl)
  have t3 := hT 3 (by decide)
  have t4 := hT 4 (by decide)
  have t6 := hT 6 (by decide)
  obtain ⟨x1, e1, q1⟩ := hv_int w6 (k := 1) (n := 1) (List.mem_of_getElem? (i := 1) rfl)
  obtain ⟨x2, e2, q2⟩ := hv_int w6 (k := 2) (n := 2) (List.mem_of_getElem? (i := 2) rfl)
  obtain ⟨x3, e3, q3⟩ := hv_int w6 (k := 3) (n := 3) (List.mem_of_getElem? (i := 3) rfl)
  obtain ⟨x4, e4, q4⟩ := hv_int w6 (k := 4) (n := 4) (List.mem_of_getElem? (i := 4) rfl)
  have fn : (h_i h (α 0) 17).toInt = σ 5 := fv_i (n := 5) (by decide) (w3 _ (List.mem_of_getElem? (i := 0) rfl)).2
  have bn := w1 _ (List.mem_of_getElem? (i := 4) rfl)
  dsimp only at bn
  have fv : (h_i h (α 0) 35).toInt = σ 6 := fv_i (n := 6) (by decide) (w3 _ (List.mem_of_getElem? (i := 1) rfl)).2
  have bv := w1 _ (List.mem_of_getElem? (i := 5) rfl)
  dsimp only at bv
  exact c_does (MX.start (W := c_m204.2.1) ht hm) e0 e1 e2 e3 e4 (by decide +kernel) rfl rfl rfl rfl (t3.2 _ hm) (t4.2 _ hm) (t6.2 _ hm) (by show 0 ≤ (h_i h (α 0) 17).toInt; omega) (by show (h_i h (α 0) 17).toInt + 378 ≤ 16000; omega) (by show (h_i h (α 0) 35).toInt ≤ 41; omega) (fun x h' F' V' x0 x1 M' I _ _ => ⟨M'.1.2.2, _, List.mem_singleton.mpr rfl, hv_pA (np := 7) (nn := 5) (k := 378) M' (by decide) w4 w5 x0 x1 (by rw [← fn]; exact I.2.1.1) (by rw [← fn]; exact I.2.1.2), hv_346 M' t3.1 I.1.1 I.1.2 (hv_ro I (t6.2 _ hm))⟩))
def c_m201 : SM := (((([(1, ((-2147483648), 2147483647))], []), ([], ((k_pins 2, List.range 2), (2, ([(0, .inr (.inr (0, (49, true)))), (1, .inl ([(1, 1)], 0))], []))))), [7]), ([(49, 17), (49, 18), (49, 19), (49, 26), (49, 35), (57, 1001), (58, 1001), (59, 1001), (60, 1001), (61, 1001), (62, 1001), (63, 1001), (64, 1001), (65, 1001), (66, 1001), (67, 1001), (68, 1001), (69, 1001), (70, 1001), (71, 1001), (72, 1001), (73, 1001), (74, 1001), (75, 1001), (76, 1001)], [((([], []), ([], ((k_pins 2, List.range 2), (2, ([], [.inl ([], 0)]))))), [7]), ((([(2, (0, 15120)), (3, (1, 41))], []), ([((0, (49, 17)), .inl ([(2, 1)], 0)), ((0, (49, 35)), .inl ([(3, 1)], 0))], ((k_pins 2, List.range 2), (4, ([], [.inl ([], 1)]))))), [3, 4, 6, 7, 8])]))
-- by hand: PastHeapsModel.lay
theorem c_v201 : V_ok c_sp c_CC c_PT 201 c_m201 := V_of (fun ρ K KA lv h hC hS hT => by
  obtain ⟨ht, σ, α, w1, w2, w3, w4, w5, w6, -⟩ := hS
  obtain ⟨e0, hm⟩ := hv_ref w6 (o := 0) (R := 49) (List.mem_of_getElem? (i := 0) rfl)
  obtain ⟨x1, e1, q1⟩ := hv_int w6 (k := 1) (n := 1) (List.mem_of_getElem? (i := 1) rfl)
  have t7 := hT 7 (by decide)
  refine c_lay (MX.start (W := c_m201.2.1) ht hm) e0 e1 (by decide +kernel) rfl (t7.2 _ hm) (fun x h' F' V' G' M' hx => ⟨M'.1.2.2, ?_⟩)
  have t7' : c_PT 7 ρ h' := c_PTx 7 ρ ρ c_m201.2.1 h h' ht M'.1.2.2.fq (by decide +kernel) t7
  rcases hx with hx | ⟨hx, I⟩
  · refine ⟨_, List.mem_cons_self, ⟨M'.1.1, σ, α, fun q hq => (by cases hq), fun e he => (by cases he), fun q hq => (by cases hq), w4, w5, fun q hq => (by cases hq), ⟨⟨x, rfl, hx⟩, trivial⟩⟩, fun t mt => ?_⟩
    rw [List.mem_singleton.mp mt]
    exact t7'
  · obtain ⟨⟨i1, i2, i3⟩, i4, i5, i6⟩ := I
    have nn : α 0 ≠ 0 := fun z => by
      have h9 := ht.1
      rw [z, h9] at hm
      cases hm
    refine ⟨_, List.mem_cons_of_mem _ List.mem_cons_self, ⟨M'.1.1, s_up (s_up σ 2 (F' 17)) 3 (F' 35), α, fun q hq => ?_, fun e he => (by cases he), fun q hq => ?_, hv_K w4 (fun k hk => (if_neg (by omega)).trans (if_neg (by omega))), w5, fun q hq => (by cases hq), ⟨⟨x, rfl, hx⟩, trivial⟩⟩, fun t mt => ?_⟩
    · rcases List.mem_cons.mp hq with e | hq
      · rw [e]
        show 0 ≤ F' 17 ∧ F' 17 ≤ 15120
        omega
      · rw [List.mem_singleton.mp hq]
        show 1 ≤ F' 35 ∧ F' 35 ≤ 41
        omega
    · rcases List.mem_cons.mp hq with e | hq
      · rw [e]
        refine ⟨⟨nn, hm⟩, ?_⟩
        show (h_i h' (α 0) 17).toInt = 1 * F' 17 + 0 + 0
        rw [M'.2.1 17]
        omega
      · rw [List.mem_singleton.mp hq]
        refine ⟨⟨nn, hm⟩, ?_⟩
        show (h_i h' (α 0) 35).toInt = 1 * F' 35 + 0 + 0
        rw [M'.2.1 35]
        omega
    · rcases List.mem_cons.mp (show t ∈ 3 :: [4, 6, 7, 8] from mt) with e | mt
      · rw [e]
        exact hv_3 M' t7.1 i1
      · rcases List.mem_cons.mp mt with e | mt
        · rw [e]
          exact hv_4 M' t7.1 i2
        · rcases List.mem_cons.mp mt with e | mt
          · rw [e]
            exact hv_6 M' t7.1 i3
          · rcases List.mem_cons.mp mt with e | mt
            · rw [e]
              exact t7'
            · rw [List.mem_singleton.mp mt]
              exact hv_8 M' t7.1 i6)
