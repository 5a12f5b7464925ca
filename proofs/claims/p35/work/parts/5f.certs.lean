-- certificates
def c_m216 : SM := (((([(1, (0, 15994))], []), ([((0, (49, 17)), .inl ([(1, 1)], 0))], ((k_pins 2, List.range 2), (2, ([(0, .inr (.inr (0, (49, true))))], []))))), [3, 4, 6]), ([(49, 17), (49, 19), (57, 1001), (58, 1001), (59, 1001), (60, 1001), (61, 1001), (62, 1001)], [((([(2, (0, 1)), (3, (0, 16000))], [([(1, (-1)), (3, 1)], (-6)), ([(1, 1), (3, (-1))], 0)]), ([((0, (49, 17)), .inl ([(3, 1)], 0))], ((k_pins 2, List.range 2), (4, ([], [.inl ([(2, 1)], 0)]))))), [3, 4, 6])]))
-- by hand: PastHeapsModel.lessens
theorem c_v216 : V_ok c_sp c_CC c_PT 216 c_m216 := V_of (fun ρ K KA lv h hC hS hT => by
  obtain ⟨ht, σ, α, w1, w2, w3, w4, w5, w6, -⟩ := hS
  obtain ⟨e0, hm⟩ := hv_ref w6 (o := 0) (R := 49) (List.mem_of_getElem? (i := 0) rfl)
  have t3 := hT 3 (by decide)
  have t4 := hT 4 (by decide)
  have t6 := hT 6 (by decide)
  have fn : (h_i h (α 0) 17).toInt = σ 1 := fv_i (n := 1) (by decide) (w3 _ (List.mem_of_getElem? (i := 0) rfl)).2
  have bn := w1 _ (List.mem_of_getElem? (i := 0) rfl)
  dsimp only at bn
  exact c_lessens (MX.start (W := c_m216.2.1) ht hm) e0 (by decide +kernel) (t3.2 _ hm) (t4.2 _ hm) (by show 0 ≤ (h_i h (α 0) 17).toInt; omega) (by show (h_i h (α 0) 17).toInt + 6 ≤ 16000; omega) (fun x h' F' V' x0 x1 M' I _ _ _ _ => ⟨M'.1.2.2, _, List.mem_singleton.mpr rfl, hv_pA (np := 2) (nn := 1) (k := 6) M' (by decide) w4 w5 x0 x1 (by rw [← fn]; exact I.2.1.1) (by rw [← fn]; exact I.2.1.2), hv_346 M' t3.1 I.1.1 I.1.2 (hv_ro I (t6.2 _ hm))⟩))
def c_m219 : SM := (((([], []), ([], ((k_pins 1, List.range 1), (1, ([(0, .inr (.inr (0, (49, true))))], []))))), [3, 4, 6]), ([(49, 26), (63, 1001), (64, 1001), (65, 1001), (66, 1001), (67, 1001)], [((([(1, (0, 63))], []), ([((0, (49, 26)), .inl ([(1, 1)], 0))], ((k_pins 1, List.range 1), (2, ([], []))))), [3, 4, 6, 9])]))
-- by hand: PastHeapsModel.walkAll
theorem c_v219 : V_ok c_sp c_CC c_PT 219 c_m219 := V_of (fun ρ K KA lv h hC hS hT => by
  obtain ⟨ht, σ, α, w1, w2, w3, w4, w5, w6, -⟩ := hS
  obtain ⟨e0, hm⟩ := hv_ref w6 (o := 0) (R := 49) (List.mem_of_getElem? (i := 0) rfl)
  have t3 := hT 3 (by decide)
  have t4 := hT 4 (by decide)
  have t6 := hT 6 (by decide)
  have bn := (MX.start (W := c_m219.2.1) ht hm).fi (by decide) (k := 17) (lo := 0) (hi := 16000) rfl rfl rfl
  refine c_walkAll (MX.start (W := c_m219.2.1) ht hm) e0 (by decide +kernel) (t3.2 _ hm) (t4.2 _ hm) bn.2 (fun h' F' V' M' I fw X _ => ?_)
  have f17 : F' 17 = (h_i h (α 0) 17).toInt := I.1 17 (by decide)
  have f35 : F' 35 = (h_i h (α 0) 35).toInt := I.1 35 (by decide)
  have v22 : V' 22 = v_rk h (α 0) := I.2 22 (by decide)
  have v23 : V' 23 = v_bl h (α 0) := I.2 23 (by decide)
  have v24 : V' 24 = v_hp h (α 0) := I.2 24 (by decide)
  have v36 : V' 36 = v_ro h (α 0) := I.2 36 (by decide)
  have wb := M'.fi (by decide) (k := 26) (lo := 0) (hi := 63) rfl rfl rfl
  refine ⟨M'.1.2.2, _, List.mem_singleton.mpr rfl, ⟨M'.1.1, s_up σ 1 (F' 26), α, fun q hq => ?_, fun e he => (by cases he), fun q hq => ?_, hv_K w4 (fun k hk => if_neg (by omega)), w5, fun q hq => (by cases hq), trivial⟩, fun t mt => ?_⟩
  · rw [List.mem_singleton.mp hq]
    exact wb
  · rw [List.mem_singleton.mp hq]
    refine ⟨⟨fun z => ?_, hm⟩, ?_⟩
    · have h9 := ht.1
      have z : α 0 = 0 := z
      rw [z, h9] at hm
      cases hm
    · show (h_i h' (α 0) 26).toInt = 1 * F' 26 + 0 + 0
      rw [M'.2.1 26]
      omega
  · rcases List.mem_cons.mp (show t ∈ 3 :: [4, 6, 9] from mt) with e | mt
    · rw [e]
      exact hv_3 M' t3.1 (by rw [f17, v22, v23]; exact t3.2 _ hm)
    · rcases List.mem_cons.mp mt with e | mt
      · rw [e]
        exact hv_4 M' t3.1 (by rw [f17, v22, v24]; exact t4.2 _ hm)
      · rcases List.mem_cons.mp mt with e | mt
        · rw [e]
          exact hv_6 M' t3.1 (by rw [f17, f35, v22, v36]; exact t6.2 _ hm)
        · rw [List.mem_singleton.mp mt]
          refine hv_9 M' t3.1 ?_
          rw [fw, Int.toNat_natCast, f17, v22]
          exact X)
def c_m218 : SM := (((([(1, ((-2147483648), 2147483647)), (2, ((-2147483648), 2147483647)), (3, (0, 15994))], []), ([((0, (49, 17)), .inl ([(3, 1)], 0))], ((k_pins 4, List.range 4), (4, ([(0, .inr (.inr (0, (49, true)))), (1, .inl ([(1, 1)], 0)), (2, .inl ([(2, 1)], 0))], []))))), [3, 4, 6]), ([(49, 17), (49, 19), (49, 26), (57, 1001), (58, 1001), (59, 1001), (60, 1001), (61, 1001), (63, 1001), (64, 1001), (65, 1001), (66, 1001), (67, 1001), (68, 1001), (69, 1001), (70, 1001)], [((([(4, (0, 1)), (5, (0, 16000))], [([(3, (-1)), (5, 1)], (-6)), ([(3, 1), (5, (-1))], 0)]), ([((0, (49, 17)), .inl ([(5, 1)], 0))], ((k_pins 4, List.range 4), (6, ([], [.inl ([(4, 1)], 0)]))))), [3, 4, 6])]))
-- by hand: PastHeapsModel.lowers
theorem c_v218 : V_ok c_sp c_CC c_PT 218 c_m218 := V_of (fun ρ K KA lv h hC hS hT => by
  obtain ⟨ht, σ, α, w1, w2, w3, w4, w5, w6, -⟩ := hS
  obtain ⟨e0, hm⟩ := hv_ref w6 (o := 0) (R := 49) (List.mem_of_getElem? (i := 0) rfl)
  have t3 := hT 3 (by decide)
  have t4 := hT 4 (by decide)
  have t6 := hT 6 (by decide)
  obtain ⟨x1, e1, q1⟩ := hv_int w6 (k := 1) (n := 1) (List.mem_of_getElem? (i := 1) rfl)
  obtain ⟨x2, e2, q2⟩ := hv_int w6 (k := 2) (n := 2) (List.mem_of_getElem? (i := 2) rfl)
  have fn : (h_i h (α 0) 17).toInt = σ 3 := fv_i (n := 3) (by decide) (w3 _ (List.mem_of_getElem? (i := 0) rfl)).2
  have bn := w1 _ (List.mem_of_getElem? (i := 2) rfl)
  dsimp only at bn
  exact c_lowers (MX.start (W := c_m218.2.1) ht hm) e0 e1 e2 (by decide +kernel) (t3.2 _ hm) (t4.2 _ hm) (by show 0 ≤ (h_i h (α 0) 17).toInt; omega) (by show (h_i h (α 0) 17).toInt + 6 ≤ 16000; omega) (fun x h' F' V' x0 x1 M' I _ _ => ⟨M'.1.2.2, _, List.mem_singleton.mpr rfl, hv_pA (np := 4) (nn := 3) (k := 6) M' (by decide) w4 w5 x0 x1 (by rw [← fn]; exact I.2.1.1) (by rw [← fn]; exact I.2.1.2), hv_346 M' t3.1 I.1.1 I.1.2 (hv_ro I (t6.2 _ hm))⟩))
def c_m222 : SM := (((([(1, ((-2147483648), 2147483647)), (2, (0, 15622))], []), ([((0, (49, 17)), .inl ([(2, 1)], 0))], ((k_pins 3, List.range 3), (3, ([(0, .inr (.inr (0, (49, true)))), (1, .inl ([(1, 1)], 0))], []))))), [3, 4, 6]), ([(49, 17), (49, 19), (57, 1001), (58, 1001), (59, 1001), (60, 1001), (61, 1001), (62, 1001)], [((([(3, (0, 16000))], [([(2, (-1)), (3, 1)], (-378)), ([(2, 1), (3, (-1))], 0)]), ([((0, (49, 17)), .inl ([(3, 1)], 0))], ((k_pins 3, List.range 3), (4, ([], [.inl ([], 1)]))))), [3, 4, 6])]))
-- by hand: PastHeapsModel.cuts
theorem c_v222 : V_ok c_sp c_CC c_PT 222 c_m222 := V_of (fun ρ K KA lv h hC hS hT => by
  obtain ⟨ht, σ, α, w1, w2, w3, w4, w5, w6, -⟩ := hS
  obtain ⟨e0, hm⟩ := hv_ref w6 (o := 0) (R := 49) (List.mem_of_getElem? (i := 0) rfl)
  have t3 := hT 3 (by decide)
  have t4 := hT 4 (by decide)
  have t6 := hT 6 (by decide)
  obtain ⟨x1, e1, q1⟩ := hv_int w6 (k := 1) (n := 1) (List.mem_of_getElem? (i := 1) rfl)
  have fn : (h_i h (α 0) 17).toInt = σ 2 := fv_i (n := 2) (by decide) (w3 _ (List.mem_of_getElem? (i := 0) rfl)).2
  have bn := w1 _ (List.mem_of_getElem? (i := 1) rfl)
  dsimp only at bn
  refine c_cuts (MX.start (W := c_m222.2.1) ht hm) e0 e1 (by decide +kernel) rfl (t3.2 _ hm) (t4.2 _ hm) (by show 0 ≤ (h_i h (α 0) 17).toInt; omega) (by show (h_i h (α 0) 17).toInt + 378 ≤ 16000; omega) (fun x h' F' V' x1 M' I _ _ => ⟨M'.1.2.2, _, List.mem_singleton.mpr rfl, ?_, hv_346 M' t3.1 I.1.1 I.1.2 (hv_ro I (t6.2 _ hm))⟩)
  have nb := M'.fi (by decide) (k := 17) (lo := 0) (hi := 16000) rfl rfl rfl
  have i1 : (h_i h (α 0) 17).toInt ≤ F' 17 := I.2.1.1
  have i2 : F' 17 ≤ (h_i h (α 0) 17).toInt + 378 := I.2.1.2
  refine ⟨M'.1.1, s_up σ 3 (F' 17), α, fun q hq => ?_, fun e he => ?_, fun q hq => ?_, hv_K w4 (fun k hk => if_neg (by omega)), w5, fun q hq => (by cases hq), ⟨⟨x, rfl, ?_⟩, trivial⟩⟩
  · rw [List.mem_singleton.mp hq]
    exact nb
  · rcases List.mem_cons.mp he with e9 | he
    · rw [e9]
      show -1 * σ 2 + (1 * F' 17 + 0) + -378 ≤ 0
      omega
    · rw [List.mem_singleton.mp he]
      show 1 * σ 2 + (-1 * F' 17 + 0) + 0 ≤ 0
      omega
  · rw [List.mem_singleton.mp hq]
    refine ⟨⟨fun z => ?_, hm⟩, ?_⟩
    · have h9 := ht.1
      have z : α 0 = 0 := z
      rw [z, h9] at hm
      cases hm
    · show (h_i h' (α 0) 17).toInt = 1 * F' 17 + 0 + 0
      rw [M'.2.1 17]
      omega
  · show x.toInt = 0 + 1
    omega)
def c_m204 : SM := (((([(1, ((-2147483648), 2147483647)), (2, ((-2147483648), 2147483647)), (3, ((-2147483648), 2147483647)), (4, ((-2147483648), 2147483647)), (5, (0, 15622)), (6, (0, 41))], []), ([((0, (49, 17)), .inl ([(5, 1)], 0)), ((0, (49, 35)), .inl ([(6, 1)], 0))], ((k_pins 7, List.range 7), (7, ([(0, .inr (.inr (0, (49, true)))), (1, .inl ([(1, 1)], 0)), (2, .inl ([(2, 1)], 0)), (3, .inl ([(3, 1)], 0)), (4, .inl ([(4, 1)], 0))], []))))), [3, 4, 6]), ([(49, 17), (49, 18), (49, 19), (49, 26), (57, 1001), (58, 1001), (59, 1001), (60, 1001), (61, 1001), (62, 1001), (63, 1001), (64, 1001), (65, 1001), (66, 1001), (67, 1001), (68, 1001), (69, 1001), (70, 1001)], [((([(7, (0, 1)), (8, (0, 16000))], [([(5, (-1)), (8, 1)], (-378)), ([(5, 1), (8, (-1))], 0)]), ([((0, (49, 17)), .inl ([(8, 1)], 0))], ((k_pins 7, List.range 7), (9, ([], [.inl ([(7, 1)], 0)]))))), [3, 4, 6])]))
-- by hand: PastHeapsModel.does
theorem c_v204 : V_ok c_sp c_CC c_PT 204 c_m204 := V_of (fun ρ K KA lv h hC hS hT => by
  obtain ⟨ht, σ, α, w1, w2, w3, w4, w5, w6, -⟩ := hS
  obtain ⟨e0, hm⟩ := hv_ref w6 (o := 0) (R := 49) (List.mem_of_getElem? (i := 0) rfl)
  have t3 := hT 3 (by decide)
  have t4 := hT 4 (by decide)
  have t6 := hT 6 (by decide)
  obtain ⟨x1, e1, q1⟩ := hv_int w6 (k := 1) (n := 1) (List.mem_of_getElem? (i := 1) rfl)
  obtain ⟨x2, e2, q2⟩ := hv_int w6 (k := 2) (n := 2) (List.mem_of_getElem? (i := 2) rfl)
  obtain ⟨x3, e3, q3⟩ := hv_int w6 (k := 3) (n := 3) (List.mem_of_getElem? (i := 3) rfl)
  obtain ⟨x4, e4, q4⟩ := hv_int w6 (k := 4) (n := 4) (List.mem_of_getElem? (i := 4) rfl)
  have fn : (h_i h (α 0) 17).toInt = σ 5 := fv_i (n := 5) (by decide) (w3 _ (List.mem_of_getElem? (i := 0) rfl)).2
  have bn := w1 _ (List.mem_of_getElem? (i := 4) rfl)
  dsimp only at bn
  have fv : (h_i h (α 0) 35).toInt = σ 6 := fv_i (n := 6) (by decide) (w3 _ (List.mem_of_getElem? (i := 1) rfl)).2
  have bv := w1 _ (List.mem_of_getElem? (i := 5) rfl)
  dsimp only at bv
  exact c_does (MX.start (W := c_m204.2.1) ht hm) e0 e1 e2 e3 e4 (by decide +kernel) rfl rfl rfl rfl (t3.2 _ hm) (t4.2 _ hm) (t6.2 _ hm) (by show 0 ≤ (h_i h (α 0) 17).toInt; omega) (by show (h_i h (α 0) 17).toInt + 378 ≤ 16000; omega) (by show (h_i h (α 0) 35).toInt ≤ 41; omega) (fun x h' F' V' x0 x1 M' I _ _ _ => ⟨M'.1.2.2, _, List.mem_singleton.mpr rfl, hv_pA (np := 7) (nn := 5) (k := 378) M' (by decide) w4 w5 x0 x1 (by rw [← fn]; exact I.2.1.1) (by rw [← fn]; exact I.2.1.2), hv_346 M' t3.1 I.1.1 I.1.2 (hv_ro I (t6.2 _ hm))⟩))
def c_m201 : SM := (((([(1, ((-2147483648), 2147483647))], []), ([], ((k_pins 2, List.range 2), (2, ([(0, .inr (.inr (0, (49, true)))), (1, .inl ([(1, 1)], 0))], []))))), [7]), ([(49, 17), (49, 18), (49, 19), (49, 26), (49, 35), (57, 1001), (58, 1001), (59, 1001), (60, 1001), (61, 1001), (62, 1001), (63, 1001), (64, 1001), (65, 1001), (66, 1001), (67, 1001), (68, 1001), (69, 1001), (70, 1001), (71, 1001), (72, 1001), (73, 1001), (74, 1001), (75, 1001), (76, 1001)], [((([], []), ([], ((k_pins 2, List.range 2), (2, ([], [.inl ([], 0)]))))), [7]), ((([(2, (0, 15120)), (3, (1, 41))], []), ([((0, (49, 17)), .inl ([(2, 1)], 0)), ((0, (49, 35)), .inl ([(3, 1)], 0))], ((k_pins 2, List.range 2), (4, ([], [.inl ([], 1)]))))), [3, 4, 6, 7, 8])]))
-- by hand: PastHeapsModel.lay
theorem c_v201 : V_ok c_sp c_CC c_PT 201 c_m201 := V_of (fun ρ K KA lv h hC hS hT => by
  obtain ⟨ht, σ, α, w1, w2, w3, w4, w5, w6, -⟩ := hS
  obtain ⟨e0, hm⟩ := hv_ref w6 (o := 0) (R := 49) (List.mem_of_getElem? (i := 0) rfl)
  obtain ⟨x1, e1, q1⟩ := hv_int w6 (k := 1) (n := 1) (List.mem_of_getElem? (i := 1) rfl)
  have t7 := hT 7 (by decide)
  refine c_lay (MX.start (W := c_m201.2.1) ht hm) e0 e1 (by decide +kernel) rfl (t7.2 _ hm) (fun x h' F' V' G' M' hx0 => ⟨M'.1.2.2, ?_⟩)
  have hx : x.toInt = 0 ∨ (x.toInt = 1 ∧ g_ly F' V' 40) := hx0.imp (fun q => q.1) (fun q => ⟨q.1, q.2.1⟩)
  have t7' : c_PT 7 ρ h' := c_PTx 7 ρ ρ c_m201.2.1 h h' ht M'.1.2.2.fq (by decide +kernel) t7
  rcases hx with hx | ⟨hx, I⟩
  · refine ⟨_, List.mem_cons_self, ⟨M'.1.1, σ, α, fun q hq => (by cases hq), fun e he => (by cases he), fun q hq => (by cases hq), w4, w5, fun q hq => (by cases hq), ⟨⟨x, rfl, hx⟩, trivial⟩⟩, fun t mt => ?_⟩
    rw [List.mem_singleton.mp mt]
    exact t7'
  · obtain ⟨⟨i1, i2, i3⟩, i4, i5, i6⟩ := I
    have nn : α 0 ≠ 0 := fun z => by
      have h9 := ht.1
      rw [z, h9] at hm
      cases hm
    refine ⟨_, List.mem_cons_of_mem _ List.mem_cons_self, ⟨M'.1.1, s_up (s_up σ 2 (F' 17)) 3 (F' 35), α, fun q hq => ?_, fun e he => (by cases he), fun q hq => ?_, hv_K w4 (fun k hk => (if_neg (by omega)).trans (if_neg (by omega))), w5, fun q hq => (by cases hq), ⟨⟨x, rfl, hx⟩, trivial⟩⟩, fun t mt => ?_⟩
    · rcases List.mem_cons.mp hq with e | hq
      · rw [e]
        show 0 ≤ F' 17 ∧ F' 17 ≤ 15120
        omega
      · rw [List.mem_singleton.mp hq]
        show 1 ≤ F' 35 ∧ F' 35 ≤ 41
        omega
    · rcases List.mem_cons.mp hq with e | hq
      · rw [e]
        refine ⟨⟨nn, hm⟩, ?_⟩
        show (h_i h' (α 0) 17).toInt = 1 * F' 17 + 0 + 0
        rw [M'.2.1 17]
        omega
      · rw [List.mem_singleton.mp hq]
        refine ⟨⟨nn, hm⟩, ?_⟩
        show (h_i h' (α 0) 35).toInt = 1 * F' 35 + 0 + 0
        rw [M'.2.1 35]
        omega
    · rcases List.mem_cons.mp (show t ∈ 3 :: [4, 6, 7, 8] from mt) with e | mt
      · rw [e]
        exact hv_3 M' t7.1 i1
      · rcases List.mem_cons.mp mt with e | mt
        · rw [e]
          exact hv_4 M' t7.1 i2
        · rcases List.mem_cons.mp mt with e | mt
          · rw [e]
            exact hv_6 M' t7.1 i3
          · rcases List.mem_cons.mp mt with e | mt
            · rw [e]
              exact t7'
            · rw [List.mem_singleton.mp mt]
              exact hv_8 M' t7.1 i6)
def c_m200 : SM := (((([(1, ((-2147483648), 2147483647))], []), ([], ((k_pins 2, List.range 2), (2, ([(0, .inr (.inr (0, (49, true)))), (1, .inl ([(1, 1)], 0))], []))))), [7]), ([(49, 0), (49, 17), (49, 18), (49, 19), (49, 26), (49, 35), (57, 1001), (58, 1001), (59, 1001), (60, 1001), (61, 1001), (62, 1001), (63, 1001), (64, 1001), (65, 1001), (66, 1001), (67, 1001), (68, 1001), (69, 1001), (70, 1001), (71, 1001), (72, 1001), (73, 1001), (74, 1001), (75, 1001), (76, 1001)], [((([(2, ((-2147483648), 2147483647))], []), ([], ((k_pins 2, List.range 2), (3, ([], [.inl ([(2, 1)], 0)]))))), [7])]))
-- PastHeapsModel.stop
theorem c_v200 : V_ok c_sp c_CC c_PT 200 c_m200 := d_mthS (dep := c_dep) (gk := ([], [])) (env := [(201, c_m201)]) (alt := []) (cuts := []) (B := 10) (fuel := 2000) c_PTx (ENV_cons (id := 201) c_v201 ENV_nil) GK_nil c_hlen (by decide +kernel) (by decide +kernel)
def c_m225 : SM := (((([(1, (0, 40))], []), ([], ((k_pins 2, List.range 2), (2, ([(0, .inr (.inr (0, (49, true)))), (1, .inl ([(1, 1)], 0))], []))))), []), ([], [((([(2, (0, 6))], []), ([], ((k_pins 2, List.range 2), (3, ([], [.inl ([(2, 1)], 0)]))))), [])]))
-- PastHeapsModel.credit
theorem c_v225 : V_ok c_sp c_CC c_PT 225 c_m225 := d_mthS (dep := c_dep) (gk := ([], [])) (env := []) (alt := []) (cuts := [(4, ((([(1, (0, 40)), (2, (0, 6)), (3, (0, 6))], [([(2, 1), (3, (-1))], 0)]), ([], ((k_pins 2, List.range 2), (4, ([(0, .inr (.inr (0, (49, true)))), (1, .inl ([(1, 1)], 0)), (2, .inl ([(2, 1)], 0)), (3, .inl ([(3, 1)], 0))], []))))), ([], ([(3, (-2))], 13))))]) (B := 24) (fuel := 2000) c_PTx ENV_nil GK_nil c_hlen (by decide +kernel) (by decide +kernel)
def c_m224 : SM := (((([(1, (0, 39))], []), ([], ((k_pins 2, List.range 2), (2, ([(0, .inr (.inr (0, (49, true)))), (1, .inl ([(1, 1)], 0))], []))))), []), ([], [((([(2, ((-2147483648), 2147483647))], []), ([], ((k_pins 2, List.range 2), (3, ([], [.inl ([(2, 1)], 0)]))))), [])]))
-- PastHeapsModel.paid
theorem c_v224 : V_ok c_sp c_CC c_PT 224 c_m224 := d_mthS (dep := c_dep) (gk := ([], [])) (env := [(225, c_m225)]) (alt := [(23, 1), (40, 1), (54, 1), (71, 1)]) (cuts := []) (B := 10) (fuel := 2000) c_PTx (ENV_cons (id := 225) c_v225 ENV_nil) GK_nil c_hlen (by decide +kernel) (by decide +kernel)
def c_m223 : SM := (((([(1, ((-2147483648), 2147483647)), (2, ((-2147483648), 2147483647)), (3, ((-2147483648), 2147483647))], []), ([], ((k_pins 4, List.range 4), (4, ([(0, .inr (.inr (0, (49, true)))), (1, .inl ([(1, 1)], 0)), (2, .inl ([(2, 1)], 0)), (3, .inl ([(3, 1)], 0))], []))))), [7]), ([(49, 0), (49, 17), (49, 18), (49, 19), (49, 26), (49, 35), (57, 1001), (58, 1001), (59, 1001), (60, 1001), (61, 1001), (62, 1001), (63, 1001), (64, 1001), (65, 1001), (66, 1001), (67, 1001), (68, 1001), (69, 1001), (70, 1001), (71, 1001), (72, 1001), (73, 1001), (74, 1001), (75, 1001), (76, 1001)], [((([(4, ((-2147483648), 2147483647))], []), ([], ((k_pins 4, List.range 4), (5, ([], [.inl ([(4, 1)], 0)]))))), [7])]))
-- PastHeapsModel.did
theorem c_v223 : V_ok c_sp c_CC c_PT 223 c_m223 := d_mthS (dep := c_dep) (gk := ([], [])) (env := [(201, c_m201), (186, c_m186), (224, c_m224)]) (alt := []) (cuts := []) (B := 10) (fuel := 2000) c_PTx (ENV_cons (id := 201) c_v201 (ENV_cons (id := 186) c_v186 (ENV_cons (id := 224) c_v224 ENV_nil))) GK_nil c_hlen (by decide +kernel) (by decide +kernel)
def c_m226 : SM := (((([(1, ((-2147483648), 2147483647)), (2, (0, 1))], []), ([], ((k_pins 3, List.range 3), (3, ([(0, .inr (.inr (0, (49, true)))), (1, .inl ([(1, 1)], 0)), (2, .inl ([(2, 1)], 0))], []))))), [7]), ([(49, 0), (49, 17), (49, 18), (49, 19), (49, 26), (49, 35), (57, 1001), (58, 1001), (59, 1001), (60, 1001), (61, 1001), (62, 1001), (63, 1001), (64, 1001), (65, 1001), (66, 1001), (67, 1001), (68, 1001), (69, 1001), (70, 1001), (71, 1001), (72, 1001), (73, 1001), (74, 1001), (75, 1001), (76, 1001)], [((([(3, ((-2147483648), 2147483647))], []), ([], ((k_pins 3, List.range 3), (4, ([], [.inl ([(3, 1)], 0)]))))), [7])]))
-- PastHeapsModel.all
theorem c_v226 : V_ok c_sp c_CC c_PT 226 c_m226 := d_mthS (dep := c_dep) (gk := ([], [])) (env := [(201, c_m201)]) (alt := []) (cuts := []) (B := 10) (fuel := 2000) c_PTx (ENV_cons (id := 201) c_v201 ENV_nil) GK_nil c_hlen (by decide +kernel) (by decide +kernel)
def c_m228 : SM := (((([(1, ((-2147483648), 2147483647)), (2, ((-2147483648), 2147483647))], []), ([], ((k_pins 3, List.range 3), (3, ([(0, .inr (.inr (0, (49, true)))), (1, .inl ([(1, 1)], 0)), (2, .inl ([(2, 1)], 0))], []))))), [7]), ([(49, 17), (49, 18), (49, 19), (49, 26), (49, 35), (57, 1001), (58, 1001), (59, 1001), (60, 1001), (61, 1001), (62, 1001), (63, 1001), (64, 1001), (65, 1001), (66, 1001), (67, 1001), (68, 1001), (69, 1001), (70, 1001), (71, 1001), (72, 1001), (73, 1001), (74, 1001), (75, 1001), (76, 1001)], [((([], []), ([], ((k_pins 3, List.range 3), (3, ([], [.inl ([], 0)]))))), [7]), ((([(3, (0, 15120)), (4, (1, 41))], [([(2, (-1))], 0), ([(2, 1), (4, (-1))], 1)]), ([((0, (49, 17)), .inl ([(3, 1)], 0)), ((0, (49, 35)), .inl ([(4, 1)], 0))], ((k_pins 3, List.range 3), (5, ([], [.inl ([], 1)]))))), [3, 4, 6, 7, 8])]))
-- PastHeapsModel.layOne
theorem c_v228 : V_ok c_sp c_CC c_PT 228 c_m228 := d_mthS (dep := c_dep) (gk := ([], [])) (env := [(201, c_m201), (205, c_m205)]) (alt := []) (cuts := []) (B := 10) (fuel := 2000) c_PTx (ENV_cons (id := 201) c_v201 (ENV_cons (id := 205) c_v205 ENV_nil)) GK_nil c_hlen (by decide +kernel) (by decide +kernel)
def c_m229 : SM := (((([(1, (1, 41))], []), ([((0, (49, 35)), .inl ([(1, 1)], 0))], ((k_pins 2, List.range 2), (2, ([(0, .inr (.inr (0, (49, true))))], []))))), [3, 4, 6]), ([(49, 26), (61, 1001), (63, 1001), (64, 1001), (65, 1001), (66, 1001), (67, 1001), (77, 1001)], [((([], []), ([], ((k_pins 2, List.range 2), (2, ([], []))))), [3, 4, 6])]))
-- PastHeapsModel.hold
theorem c_v229 : V_ok c_sp c_CC c_PT 229 c_m229 := d_mthS (dep := c_dep) (gk := ([], [])) (env := [(208, c_m208), (219, c_m219)]) (alt := []) (cuts := [(2, ((([(1, (1, 41)), (2, (0, 16000))], []), ([((0, (49, 35)), .inl ([(1, 1)], 0))], ((k_pins 2, List.range 2), (3, ([(0, .inr (.inr (0, (49, true)))), (1, .inl ([(2, 1)], 0))], []))))), ([3, 4, 6], ([(2, (-2))], 37461)))), (25, ((([(1, (1, 41)), (2, (0, 41)), (3, (0, 16000))], [([(1, (-1)), (2, 1)], 0)]), ([((0, (49, 35)), .inl ([(1, 1)], 0)), ((0, (49, 17)), .inl ([(3, 1)], 0))], ((k_pins 2, List.range 2), (4, ([(0, .inr (.inr (0, (49, true)))), (1, .inl ([(2, 1)], 0))], []))))), ([3, 4, 6], ([(2, (-130))], 5459)))), (44, ((([(1, (1, 41)), (2, (0, 40)), (3, (0, 63)), (4, (0, 16000)), (5, (0, 63))], [([(1, (-1)), (2, 1)], 1), ([(3, 1), (5, (-1))], 0)]), ([((0, (49, 35)), .inl ([(1, 1)], 0)), ((0, (49, 17)), .inl ([(4, 1)], 0)), ((0, (49, 26)), .inl ([(5, 1)], 0))], ((k_pins 2, List.range 2), (6, ([(0, .inr (.inr (0, (49, true)))), (1, .inl ([(2, 1)], 0)), (2, .inl ([(3, 1)], 0))], []))))), ([3, 4, 6, 9], ([(2, (-130)), (3, (-2))], 5457))))]) (B := 37472) (fuel := 2000) c_PTx (ENV_cons (id := 208) c_v208 (ENV_cons (id := 219) c_v219 ENV_nil)) GK_nil c_hlen (by decide +kernel) (by decide +kernel)
def c_m230 : SM := (((([(1, (0, 40)), (2, (0, 41))], [([(1, 1), (2, (-1))], 1)]), ([((0, (49, 35)), .inl ([(2, 1)], 0))], ((k_pins 3, List.range 3), (3, ([(0, .inr (.inr (0, (49, true)))), (1, .inl ([(1, 1)], 0))], []))))), [3, 4, 6]), ([(49, 26), (49, 43), (61, 1001), (63, 1001), (64, 1001), (65, 1001), (66, 1001), (67, 1001), (78, 1001), (79, 1001)], [((([(3, (0, 63)), (4, (0, 63))], [([(3, 1), (4, (-1))], 0), ([(3, (-1)), (4, 1)], 0)]), ([((0, (49, 43)), .inl ([(3, 1)], 0)), ((0, (49, 26)), .inl ([(4, 1)], 0))], ((k_pins 3, List.range 3), (5, ([], []))))), [3, 4, 6, 9])]))
-- PastHeapsModel.sortAll
theorem c_v230 : V_ok c_sp c_CC c_PT 230 c_m230 := d_mthS (dep := c_dep) (gk := ([], [])) (env := [(208, c_m208), (219, c_m219)]) (alt := []) (cuts := [(16, ((([(1, (0, 40)), (2, (0, 41)), (3, (0, 63)), (4, (0, 63)), (5, (0, 63))], [([(1, 1), (2, (-1))], 1), ([(3, 1), (5, (-1))], 0), ([(3, (-1)), (5, 1)], 0), ([(4, (-1)), (5, 1)], 0)]), ([((0, (49, 35)), .inl ([(2, 1)], 0)), ((0, (49, 26)), .inl ([(4, 1)], 0)), ((0, (49, 43)), .inl ([(5, 1)], 0))], ((k_pins 3, List.range 3), (6, ([(0, .inr (.inr (0, (49, true)))), (1, .inl ([(1, 1)], 0)), (2, .inl ([(3, 1)], 0))], []))))), ([3, 4, 6, 9], ([(3, (-128))], 8191)))), (55, ((([(1, (0, 40)), (2, (0, 41)), (6, (0, 62)), (7, ((-2147483648), 2147483647)), (8, ((-2147483648), 2147483647)), (9, (0, 62)), (10, (1, 63)), (11, (0, 62))], [([(1, 1), (2, (-1))], 1), ([(6, 1), (11, (-1))], 0), ([(9, 1), (11, (-1))], 0), ([(6, (-1)), (11, 1)], 0), ([(10, (-1)), (11, 1)], 1)]), ([((0, (49, 35)), .inl ([(2, 1)], 0)), ((0, (49, 26)), .inl ([(10, 1)], 0)), ((0, (49, 43)), .inl ([(11, 1)], 0)), ((0, (49, 20)), .inr (.inr (3, (57, true)))), ((0, (49, 27)), .inr (.inr (4, (63, true)))), ((0, (49, 21)), .inr (.inr (5, (58, true))))], ((k_pins 3, List.range 3), (12, ([(0, .inr (.inr (0, (49, true)))), (1, .inl ([(1, 1)], 0)), (2, .inl ([(6, 1)], 0)), (3, .inl ([(7, 1)], 0)), (4, .inl ([(8, 1)], 0)), (5, .inl ([(9, 1)], 0))], []))))), ([3, 4, 6, 9], ([(6, (-128)), (9, 2)], 8065))))]) (B := 8202) (fuel := 2000) c_PTx (ENV_cons (id := 208) c_v208 (ENV_cons (id := 219) c_v219 ENV_nil)) GK_nil c_hlen (by decide +kernel) (by decide +kernel)
def c_m232 : SM := (((([(0, ((-2147483648), 2147483647))], []), ([], ((k_pins 1, List.range 1), (1, ([(0, .inr (.inl ())), (2, .inl ([(0, 1)], 0))], []))))), []), ([], [((([(1, (0, 1))], []), ([], ((k_pins 1, List.range 1), (2, ([], [.inl ([(1, 1)], 0)]))))), [])]))
-- PastHeapsModel.has
theorem c_v232 : V_ok c_sp c_CC c_PT 232 c_m232 := d_mthS (dep := c_dep) (gk := ([], [])) (env := []) (alt := []) (cuts := []) (B := 10) (fuel := 2000) c_PTx ENV_nil GK_nil c_hlen (by decide +kernel) (by decide +kernel)
def c_m231 : SM := (((([(1, ((-2147483648), 2147483647))], []), ([], ((k_pins 2, List.range 2), (2, ([(0, .inr (.inr (0, (49, true)))), (1, .inl ([(1, 1)], 0)), (2, .inr (.inl ()))], []))))), []), ([], [((([(2, (0, 16000))], []), ([], ((k_pins 2, List.range 2), (3, ([], [.inl ([(2, 1)], 0)]))))), [])]))
-- PastHeapsModel.holds
theorem c_v231 : V_ok c_sp c_CC c_PT 231 c_m231 := d_mthS (dep := c_dep) (gk := ([], [])) (env := [(232, c_m232)]) (alt := []) (cuts := [(6, ((([(1, ((-2147483648), 2147483647)), (2, (0, 16000)), (3, (0, 16000))], [([(2, 1), (3, (-1))], 0)]), ([], ((k_pins 2, List.range 2), (4, ([(0, .inr (.inr (0, (49, true)))), (1, .inl ([(1, 1)], 0)), (2, .inr (.inl ())), (4, .inl ([(2, 1)], 0)), (5, .inl ([(3, 1)], 0))], []))))), ([], ([(3, (-2))], 32001))))]) (B := 32012) (fuel := 2000) c_PTx (ENV_cons (id := 232) c_v232 ENV_nil) GK_nil c_hlen (by decide +kernel) (by decide +kernel)
def c_m233 : SM := (((([], []), ([], ((k_pins 1, List.range 1), (1, ([(0, .inr (.inr (0, (49, true))))], []))))), []), ([], [((([(1, ((-2147483648), 2147483647))], []), ([], ((k_pins 1, List.range 1), (2, ([], [.inl ([(1, 1)], 0)]))))), [])]))
-- PastHeapsModel.gap
theorem c_v233 : V_ok c_sp c_CC c_PT 233 c_m233 := d_mthS (dep := c_dep) (gk := ([], [])) (env := []) (alt := []) (cuts := [(4, ((([(1, ((-2147483648), 2147483647)), (2, (1, 63))], []), ([], ((k_pins 1, List.range 1), (3, ([(0, .inr (.inr (0, (49, true)))), (1, .inl ([(1, 1)], 0)), (2, .inl ([(2, 1)], 0))], []))))), ([], ([(2, (-2))], 127))))]) (B := 136) (fuel := 2000) c_PTx ENV_nil GK_nil c_hlen (by decide +kernel) (by decide +kernel)
def c_m234 : SM := (((([(1, (0, 40))], []), ([], ((k_pins 2, List.range 2), (2, ([(0, .inr (.inr (0, (49, true)))), (1, .inl ([(1, 1)], 0))], []))))), []), ([], [((([(2, ((-1), 5))], []), ([], ((k_pins 2, List.range 2), (3, ([], [.inl ([(2, 1)], 0)]))))), [])]))
-- PastHeapsModel.greatestRank
theorem c_v234 : V_ok c_sp c_CC c_PT 234 c_m234 := d_mthS (dep := c_dep) (gk := ([], [])) (env := []) (alt := []) (cuts := [(4, ((([(1, (0, 40)), (2, ((-1), 5)), (3, (0, 6))], [([(2, 1), (3, (-1))], 1)]), ([], ((k_pins 2, List.range 2), (4, ([(0, .inr (.inr (0, (49, true)))), (1, .inl ([(1, 1)], 0)), (2, .inl ([(2, 1)], 0)), (3, .inl ([(3, 1)], 0))], []))))), ([], ([(3, (-2))], 13))))]) (B := 24) (fuel := 2000) c_PTx ENV_nil GK_nil c_hlen (by decide +kernel) (by decide +kernel)
def c_m227 : SM := (((([(1, ((-2147483648), 2147483647)), (2, ((-2147483648), 2147483647)), (3, ((-2147483648), 2147483647))], []), ([], ((k_pins 4, List.range 4), (4, ([(0, .inr (.inr (0, (49, true)))), (1, .inl ([(1, 1)], 0)), (2, .inl ([(2, 1)], 0)), (3, .inl ([(3, 1)], 0))], []))))), [7]), ([(49, 0), (49, 17), (49, 18), (49, 19), (49, 26), (49, 35), (49, 43), (57, 1001), (58, 1001), (59, 1001), (60, 1001), (61, 1001), (62, 1001), (63, 1001), (64, 1001), (65, 1001), (66, 1001), (67, 1001), (68, 1001), (69, 1001), (70, 1001), (71, 1001), (72, 1001), (73, 1001), (74, 1001), (75, 1001), (76, 1001), (77, 1001), (78, 1001), (79, 1001)], [((([(4, ((-2147483648), 2147483647))], []), ([], ((k_pins 4, List.range 4), (5, ([], [.inl ([(4, 1)], 0)]))))), [7])]))
-- PastHeapsModel.version
theorem c_v227 : V_ok c_sp c_CC c_PT 227 c_m227 := d_mthS (dep := c_dep) (gk := ([], [])) (env := [(228, c_m228), (229, c_m229), (230, c_m230), (225, c_m225), (231, c_m231), (233, c_m233), (234, c_m234)]) (alt := []) (cuts := []) (B := 10) (fuel := 2000) c_PTx (ENV_cons (id := 228) c_v228 (ENV_cons (id := 229) c_v229 (ENV_cons (id := 230) c_v230 (ENV_cons (id := 225) c_v225 (ENV_cons (id := 231) c_v231 (ENV_cons (id := 233) c_v233 (ENV_cons (id := 234) c_v234 ENV_nil))))))) GK_nil c_hlen (by decide +kernel) (by decide +kernel)
def c_m235 : SM := (((([(1, ((-2147483648), 2147483647)), (2, ((-2147483648), 2147483647)), (3, ((-2147483648), 2147483647)), (4, (0, 1))], []), ([], ((k_pins 5, List.range 5), (5, ([(0, .inr (.inr (0, (49, true)))), (1, .inl ([(1, 1)], 0)), (2, .inl ([(2, 1)], 0)), (3, .inl ([(3, 1)], 0)), (4, .inl ([(4, 1)], 0))], []))))), [7]), ([(49, 0), (49, 17), (49, 18), (49, 19), (49, 26), (49, 35), (49, 43), (57, 1001), (58, 1001), (59, 1001), (60, 1001), (61, 1001), (62, 1001), (63, 1001), (64, 1001), (65, 1001), (66, 1001), (67, 1001), (68, 1001), (69, 1001), (70, 1001), (71, 1001), (72, 1001), (73, 1001), (74, 1001), (75, 1001), (76, 1001), (78, 1001), (79, 1001)], [((([(5, ((-2147483648), 2147483647))], []), ([], ((k_pins 5, List.range 5), (6, ([], [.inl ([(5, 1)], 0)]))))), [7])]))
-- PastHeapsModel.order
theorem c_v235 : V_ok c_sp c_CC c_PT 235 c_m235 := d_mthS (dep := c_dep) (gk := ([], [])) (env := [(228, c_m228), (230, c_m230), (186, c_m186)]) (alt := []) (cuts := []) (B := 10) (fuel := 2000) c_PTx (ENV_cons (id := 228) c_v228 (ENV_cons (id := 230) c_v230 (ENV_cons (id := 186) c_v186 ENV_nil))) GK_nil c_hlen (by decide +kernel) (by decide +kernel)
def c_m236 : SM := (((([(1, ((-2147483648), 2147483647)), (2, ((-2147483648), 2147483647)), (3, ((-2147483648), 2147483647)), (4, ((-2147483648), 2147483647))], []), ([], ((k_pins 5, List.range 5), (5, ([(0, .inr (.inr (0, (49, true)))), (1, .inl ([(1, 1)], 0)), (2, .inl ([(2, 1)], 0)), (3, .inl ([(3, 1)], 0)), (4, .inl ([(4, 1)], 0))], []))))), [7]), ([(49, 0), (49, 17), (49, 18), (49, 19), (49, 26), (49, 35), (57, 1001), (58, 1001), (59, 1001), (60, 1001), (61, 1001), (62, 1001), (63, 1001), (64, 1001), (65, 1001), (66, 1001), (67, 1001), (68, 1001), (69, 1001), (70, 1001), (71, 1001), (72, 1001), (73, 1001), (74, 1001), (75, 1001), (76, 1001)], [((([(5, ((-2147483648), 2147483647))], []), ([], ((k_pins 5, List.range 5), (6, ([], [.inl ([(5, 1)], 0)]))))), [7])]))
-- PastHeapsModel.walk
theorem c_v236 : V_ok c_sp c_CC c_PT 236 c_m236 := d_mthS (dep := c_dep) (gk := ([], [])) (env := [(228, c_m228), (208, c_m208), (219, c_m219), (186, c_m186)]) (alt := []) (cuts := []) (B := 10) (fuel := 2000) c_PTx (ENV_cons (id := 228) c_v228 (ENV_cons (id := 208) c_v208 (ENV_cons (id := 219) c_v219 (ENV_cons (id := 186) c_v186 ENV_nil)))) GK_nil c_hlen (by decide +kernel) (by decide +kernel)
def c_m237 : SM := (((([(1, ((-2147483648), 2147483647)), (2, ((-2147483648), 2147483647)), (3, ((-2147483648), 2147483647))], []), ([], ((k_pins 4, List.range 4), (4, ([(0, .inr (.inr (0, (49, true)))), (1, .inl ([(1, 1)], 0)), (2, .inl ([(2, 1)], 0)), (3, .inl ([(3, 1)], 0))], []))))), [7]), ([(49, 0), (49, 17), (49, 18), (49, 19), (49, 26), (49, 35), (57, 1001), (58, 1001), (59, 1001), (60, 1001), (61, 1001), (62, 1001), (63, 1001), (64, 1001), (65, 1001), (66, 1001), (67, 1001), (68, 1001), (69, 1001), (70, 1001), (71, 1001), (72, 1001), (73, 1001), (74, 1001), (75, 1001), (76, 1001)], [((([(4, ((-2147483648), 2147483647))], []), ([], ((k_pins 4, List.range 4), (5, ([], [.inl ([(4, 1)], 0)]))))), [7])]))
-- PastHeapsModel.root
theorem c_v237 : V_ok c_sp c_CC c_PT 237 c_m237 := d_mthS (dep := c_dep) (gk := ([], [])) (env := [(228, c_m228), (186, c_m186)]) (alt := []) (cuts := []) (B := 10) (fuel := 2000) c_PTx (ENV_cons (id := 228) c_v228 (ENV_cons (id := 186) c_v186 ENV_nil)) GK_nil c_hlen (by decide +kernel) (by decide +kernel)
def c_m238 : SM := (((([(1, ((-2147483648), 2147483647)), (2, ((-2147483648), 2147483647)), (3, ((-2147483648), 2147483647))], []), ([], ((k_pins 4, List.range 4), (4, ([(0, .inr (.inr (0, (49, true)))), (1, .inl ([(1, 1)], 0)), (2, .inl ([(2, 1)], 0)), (3, .inl ([(3, 1)], 0))], []))))), [7]), ([(49, 0), (49, 17), (49, 18), (49, 19), (49, 26), (49, 35), (57, 1001), (58, 1001), (59, 1001), (60, 1001), (61, 1001), (62, 1001), (63, 1001), (64, 1001), (65, 1001), (66, 1001), (67, 1001), (68, 1001), (69, 1001), (70, 1001), (71, 1001), (72, 1001), (73, 1001), (74, 1001), (75, 1001), (76, 1001)], [((([(4, ((-2147483648), 2147483647))], []), ([], ((k_pins 4, List.range 4), (5, ([], [.inl ([(4, 1)], 0)]))))), [7])]))
-- PastHeapsModel.depth
theorem c_v238 : V_ok c_sp c_CC c_PT 238 c_m238 := d_mthS (dep := c_dep) (gk := ([], [])) (env := [(228, c_m228), (208, c_m208), (219, c_m219)]) (alt := []) (cuts := [(31, ((([(1, ((-2147483648), 2147483647)), (2, (0, 40)), (3, ((-2147483648), 2147483647)), (4, ((-1), 5)), (5, (0, 63)), (6, (0, 15120)), (7, (1, 41)), (8, (0, 63))], [([(2, 1), (7, (-1))], 1), ([(5, 1), (8, (-1))], 0)]), ([((0, (49, 0)), .inl ([], 0)), ((0, (49, 17)), .inl ([(6, 1)], 0)), ((0, (49, 35)), .inl ([(7, 1)], 0)), ((0, (49, 26)), .inl ([(8, 1)], 0))], ((k_pins 4, List.range 4), (9, ([(0, .inr (.inr (0, (49, true)))), (1, .inl ([(1, 1)], 0)), (2, .inl ([(2, 1)], 0)), (3, .inl ([(3, 1)], 0)), (4, .inl ([(4, 1)], 0)), (5, .inl ([(5, 1)], 0))], []))))), ([3, 4, 6, 7, 8, 9], ([(5, (-2))], 127))))]) (B := 138) (fuel := 2000) c_PTx (ENV_cons (id := 228) c_v228 (ENV_cons (id := 208) c_v208 (ENV_cons (id := 219) c_v219 ENV_nil))) GK_nil c_hlen (by decide +kernel) (by decide +kernel)
def c_m240 : SM := (((([(1, ((-2147483648), 2147483647)), (2, ((-2147483648), 2147483647)), (3, ((-2147483648), 2147483647))], []), ([], ((k_pins 4, List.range 4), (4, ([(0, .inr (.inr (0, (49, true)))), (1, .inl ([(1, 1)], 0)), (2, .inl ([(2, 1)], 0)), (3, .inl ([(3, 1)], 0))], []))))), [7]), ([(49, 17), (49, 18), (49, 19), (49, 26), (49, 35), (57, 1001), (58, 1001), (59, 1001), (60, 1001), (61, 1001), (62, 1001), (63, 1001), (64, 1001), (65, 1001), (66, 1001), (67, 1001), (68, 1001), (69, 1001), (70, 1001), (71, 1001), (72, 1001), (73, 1001), (74, 1001), (75, 1001), (76, 1001)], [((([], []), ([], ((k_pins 4, List.range 4), (4, ([], [.inl ([], 0)]))))), [7]), ((([(4, (0, 15120)), (5, (1, 41))], [([(2, (-1))], 0), ([(2, 1), (5, (-1))], 1), ([(3, (-1))], 0), ([(3, 1), (5, (-1))], 1)]), ([((0, (49, 17)), .inl ([(4, 1)], 0)), ((0, (49, 35)), .inl ([(5, 1)], 0))], ((k_pins 4, List.range 4), (6, ([], [.inl ([], 1)]))))), [3, 4, 6, 7, 8])]))
-- PastHeapsModel.layTwo
theorem c_v240 : V_ok c_sp c_CC c_PT 240 c_m240 := d_mthS (dep := c_dep) (gk := ([], [])) (env := [(201, c_m201), (205, c_m205)]) (alt := []) (cuts := []) (B := 10) (fuel := 2000) c_PTx (ENV_cons (id := 201) c_v201 (ENV_cons (id := 205) c_v205 ENV_nil)) GK_nil c_hlen (by decide +kernel) (by decide +kernel)
def c_m239 : SM := (((([(1, ((-2147483648), 2147483647)), (2, ((-2147483648), 2147483647)), (3, ((-2147483648), 2147483647))], []), ([], ((k_pins 4, List.range 4), (4, ([(0, .inr (.inr (0, (49, true)))), (1, .inl ([(1, 1)], 0)), (2, .inl ([(2, 1)], 0)), (3, .inl ([(3, 1)], 0))], []))))), [7]), ([(49, 0), (49, 17), (49, 18), (49, 19), (49, 26), (49, 35), (57, 1001), (58, 1001), (59, 1001), (60, 1001), (61, 1001), (62, 1001), (63, 1001), (64, 1001), (65, 1001), (66, 1001), (67, 1001), (68, 1001), (69, 1001), (70, 1001), (71, 1001), (72, 1001), (73, 1001), (74, 1001), (75, 1001), (76, 1001)], [((([(4, (0, 1))], []), ([], ((k_pins 4, List.range 4), (5, ([], [.inl ([(4, 1)], 0)]))))), [7])]))
-- PastHeapsModel.comes
theorem c_v239 : V_ok c_sp c_CC c_PT 239 c_m239 := d_mthS (dep := c_dep) (gk := ([], [])) (env := [(240, c_m240), (232, c_m232)]) (alt := []) (cuts := []) (B := 10) (fuel := 2000) c_PTx (ENV_cons (id := 240) c_v240 (ENV_cons (id := 232) c_v232 ENV_nil)) GK_nil c_hlen (by decide +kernel) (by decide +kernel)
def c_m242 : SM := (((([(1, (0, 40)), (2, (0, 40)), (3, (0, 41))], []), ([((0, (49, 35)), .inl ([(3, 1)], 0))], ((k_pins 4, List.range 4), (4, ([(0, .inr (.inr (0, (49, true)))), (1, .inl ([(1, 1)], 0)), (2, .inl ([(2, 1)], 0))], []))))), []), ([(80, 1001)], [((([(4, ((-2147483648), 2147483647))], []), ([], ((k_pins 4, List.range 4), (5, ([], [.inl ([(4, 1)], 0)]))))), [])]))
-- PastHeapsModel.awayOf
theorem c_v242 : V_ok c_sp c_CC c_PT 242 c_m242 := d_mthS (dep := c_dep) (gk := ([], [])) (env := []) (alt := [(29, 1), (43, 1), (61, 1), (77, 1), (91, 1), (109, 1)]) (cuts := [(2, ((([(1, (0, 40)), (2, (0, 40)), (3, (0, 41)), (4, (0, 41))], [([(3, (-1)), (4, 1)], 0)]), ([((0, (49, 35)), .inl ([(3, 1)], 0))], ((k_pins 4, List.range 4), (5, ([(0, .inr (.inr (0, (49, true)))), (1, .inl ([(1, 1)], 0)), (2, .inl ([(2, 1)], 0)), (3, .inl ([(4, 1)], 0))], []))))), ([], ([(4, (-2))], 83))))]) (B := 94) (fuel := 2000) c_PTx ENV_nil GK_nil c_hlen (by decide +kernel) (by decide +kernel)
def c_m241 : SM := (((([(1, ((-2147483648), 2147483647)), (2, ((-2147483648), 2147483647)), (3, ((-2147483648), 2147483647)), (4, (0, 1))], []), ([], ((k_pins 5, List.range 5), (5, ([(0, .inr (.inr (0, (49, true)))), (1, .inl ([(1, 1)], 0)), (2, .inl ([(2, 1)], 0)), (3, .inl ([(3, 1)], 0)), (4, .inl ([(4, 1)], 0))], []))))), [7]), ([(49, 0), (49, 17), (49, 18), (49, 19), (49, 26), (49, 35), (57, 1001), (58, 1001), (59, 1001), (60, 1001), (61, 1001), (62, 1001), (63, 1001), (64, 1001), (65, 1001), (66, 1001), (67, 1001), (68, 1001), (69, 1001), (70, 1001), (71, 1001), (72, 1001), (73, 1001), (74, 1001), (75, 1001), (76, 1001), (80, 1001)], [((([(5, ((-2147483648), 2147483647))], []), ([], ((k_pins 5, List.range 5), (6, ([], [.inl ([(5, 1)], 0)]))))), [7])]))
-- PastHeapsModel.meet
theorem c_v241 : V_ok c_sp c_CC c_PT 241 c_m241 := d_mthS (dep := c_dep) (gk := ([], [])) (env := [(240, c_m240), (242, c_m242), (232, c_m232)]) (alt := []) (cuts := [(35, ((([(1, ((-2147483648), 2147483647)), (2, (0, 40)), (3, (0, 40)), (4, (0, 0)), (5, ((-1), 40)), (6, (0, 41)), (7, (0, 15120)), (8, (1, 41))], [([(2, 1), (8, (-1))], 1), ([(3, 1), (8, (-1))], 1), ([(5, 1), (6, (-1))], 1), ([(6, 1), (8, (-1))], 0)]), ([((0, (49, 0)), .inl ([], 0)), ((0, (49, 17)), .inl ([(7, 1)], 0)), ((0, (49, 35)), .inl ([(8, 1)], 0))], ((k_pins 5, List.range 5), (9, ([(0, .inr (.inr (0, (49, true)))), (1, .inl ([(1, 1)], 0)), (2, .inl ([(2, 1)], 0)), (3, .inl ([(3, 1)], 0)), (4, .inl ([(4, 1)], 0)), (5, .inl ([(5, 1)], 0)), (6, .inl ([(6, 1)], 0))], []))))), ([3, 4, 6, 7, 8], ([(6, (-2))], 83))))]) (B := 94) (fuel := 2000) c_PTx (ENV_cons (id := 240) c_v240 (ENV_cons (id := 242) c_v242 (ENV_cons (id := 232) c_v232 ENV_nil))) GK_nil c_hlen (by decide +kernel) (by decide +kernel)
def c_m243 : SM := (((([(1, ((-2147483648), 2147483647)), (2, ((-2147483648), 2147483647)), (3, ((-2147483648), 2147483647))], []), ([], ((k_pins 4, List.range 4), (4, ([(0, .inr (.inr (0, (49, true)))), (1, .inl ([(1, 1)], 0)), (2, .inl ([(2, 1)], 0)), (3, .inl ([(3, 1)], 0))], []))))), [7]), ([(49, 0), (49, 17), (49, 18), (49, 19), (49, 26), (49, 35), (57, 1001), (58, 1001), (59, 1001), (60, 1001), (61, 1001), (62, 1001), (63, 1001), (64, 1001), (65, 1001), (66, 1001), (67, 1001), (68, 1001), (69, 1001), (70, 1001), (71, 1001), (72, 1001), (73, 1001), (74, 1001), (75, 1001), (76, 1001), (77, 1001)], [((([(4, ((-2147483648), 2147483647))], []), ([], ((k_pins 4, List.range 4), (5, ([], [.inl ([(4, 1)], 0)]))))), [7])]))
-- PastHeapsModel.shared
theorem c_v243 : V_ok c_sp c_CC c_PT 243 c_m243 := d_mthS (dep := c_dep) (gk := ([], [])) (env := [(240, c_m240), (229, c_m229), (232, c_m232)]) (alt := []) (cuts := [(27, ((([(1, ((-2147483648), 2147483647)), (2, (0, 40)), (3, (0, 40)), (4, (0, 15999)), (5, (0, 15999)), (6, (0, 15120)), (7, (1, 41))], [([(2, 1), (7, (-1))], 1), ([(3, 1), (7, (-1))], 1), ([(4, 1), (5, (-1))], 0), ([(5, 1), (6, (-1))], 0)]), ([((0, (49, 0)), .inl ([], 0)), ((0, (49, 17)), .inl ([(6, 1)], 0)), ((0, (49, 35)), .inl ([(7, 1)], 0))], ((k_pins 4, List.range 4), (8, ([(0, .inr (.inr (0, (49, true)))), (1, .inl ([(1, 1)], 0)), (2, .inl ([(2, 1)], 0)), (3, .inl ([(3, 1)], 0)), (4, .inl ([(4, 1)], 0)), (5, .inl ([(5, 1)], 0))], []))))), ([3, 4, 6, 7, 8], ([(5, (-2))], 31999))))]) (B := 32010) (fuel := 2000) c_PTx (ENV_cons (id := 240) c_v240 (ENV_cons (id := 229) c_v229 (ENV_cons (id := 232) c_v232 ENV_nil))) GK_nil c_hlen (by decide +kernel) (by decide +kernel)
def c_m245 : SM := (((([], []), ([], ((k_pins 1, List.range 1), (1, ([(0, .inr (.inr (0, (49, true)))), (1, .inr (.inl ()))], []))))), []), ([], [((([(1, (0, 1))], []), ([], ((k_pins 1, List.range 1), (2, ([], [.inl ([(1, 1)], 0)]))))), [])]))
-- PastHeapsModel.areVersions
theorem c_v245 : V_ok c_sp c_CC c_PT 245 c_m245 := d_mthS (dep := c_dep) (gk := ([], [])) (env := []) (alt := []) (cuts := []) (B := 10) (fuel := 2000) c_PTx ENV_nil GK_nil c_hlen (by decide +kernel) (by decide +kernel)
def c_m246 : SM := (((([], []), ([], ((k_pins 1, List.range 1), (1, ([(0, .inr (.inr (0, (49, true)))), (1, .inr (.inl ()))], []))))), []), ([], [((([(1, (0, 16000))], []), ([], ((k_pins 1, List.range 1), (2, ([], [.inl ([(1, 1)], 0)]))))), [])]))
-- PastHeapsModel.keptBy
theorem c_v246 : V_ok c_sp c_CC c_PT 246 c_m246 := d_mthS (dep := c_dep) (gk := ([], [])) (env := []) (alt := []) (cuts := [(5, ((([(1, (0, 16000)), (2, (0, 16000))], [([(1, 1), (2, (-1))], 0)]), ([], ((k_pins 1, List.range 1), (3, ([(0, .inr (.inr (0, (49, true)))), (1, .inr (.inl ())), (3, .inl ([(1, 1)], 0)), (4, .inl ([(2, 1)], 0))], []))))), ([], ([(2, (-2))], 32001))))]) (B := 32012) (fuel := 2000) c_PTx ENV_nil GK_nil c_hlen (by decide +kernel) (by decide +kernel)
def c_m244 : SM := (((([(1, ((-2147483648), 2147483647)), (2, (0, 1))], []), ([], ((k_pins 3, List.range 3), (3, ([(0, .inr (.inr (0, (49, true)))), (1, .inl ([(1, 1)], 0)), (2, .inr (.inl ())), (4, .inl ([(2, 1)], 0))], []))))), [7]), ([(49, 0), (49, 17), (49, 18), (49, 19), (49, 26), (49, 35), (57, 1001), (58, 1001), (59, 1001), (60, 1001), (61, 1001), (62, 1001), (63, 1001), (64, 1001), (65, 1001), (66, 1001), (67, 1001), (68, 1001), (69, 1001), (70, 1001), (71, 1001), (72, 1001), (73, 1001), (74, 1001), (75, 1001), (76, 1001), (77, 1001)], [((([(3, ((-2147483648), 2147483647))], []), ([], ((k_pins 3, List.range 3), (4, ([], [.inl ([(3, 1)], 0)]))))), [7])]))
-- PastHeapsModel.kept
theorem c_v244 : V_ok c_sp c_CC c_PT 244 c_m244 := d_mthS (dep := c_dep) (gk := ([], [])) (env := [(201, c_m201), (245, c_m245), (229, c_m229), (246, c_m246)]) (alt := []) (cuts := []) (B := 10) (fuel := 2000) c_PTx (ENV_cons (id := 201) c_v201 (ENV_cons (id := 245) c_v245 (ENV_cons (id := 229) c_v229 (ENV_cons (id := 246) c_v246 ENV_nil)))) GK_nil c_hlen (by decide +kernel) (by decide +kernel)
def c_m247 : SM := (((([(1, ((-2147483648), 2147483647))], []), ([], ((k_pins 2, List.range 2), (2, ([(0, .inr (.inr (0, (49, true)))), (1, .inl ([(1, 1)], 0)), (2, .inr (.inl ()))], []))))), [7]), ([(49, 0), (49, 17), (49, 18), (49, 19), (49, 26), (49, 35), (57, 1001), (58, 1001), (59, 1001), (60, 1001), (61, 1001), (62, 1001), (63, 1001), (64, 1001), (65, 1001), (66, 1001), (67, 1001), (68, 1001), (69, 1001), (70, 1001), (71, 1001), (72, 1001), (73, 1001), (74, 1001), (75, 1001), (76, 1001), (77, 1001)], [((([(2, ((-2147483648), 2147483647))], []), ([], ((k_pins 2, List.range 2), (3, ([], [.inl ([(2, 1)], 0)]))))), [7])]))
-- PastHeapsModel.heavy
theorem c_v247 : V_ok c_sp c_CC c_PT 247 c_m247 := d_mthS (dep := c_dep) (gk := ([], [])) (env := [(201, c_m201), (245, c_m245), (229, c_m229), (232, c_m232), (246, c_m246)]) (alt := []) (cuts := [(36, ((([(1, ((-2147483648), 2147483647)), (2, ((-1), 40)), (3, (0, 16000)), (4, (0, 41)), (5, (0, 15120)), (6, (1, 41))], [([(2, 1), (4, (-1))], 1), ([(4, 1), (6, (-1))], 0)]), ([((0, (49, 0)), .inl ([], 0)), ((0, (49, 17)), .inl ([(5, 1)], 0)), ((0, (49, 35)), .inl ([(6, 1)], 0))], ((k_pins 2, List.range 2), (7, ([(0, .inr (.inr (0, (49, true)))), (1, .inl ([(1, 1)], 0)), (2, .inr (.inl ())), (4, .inl ([(2, 1)], 0)), (5, .inl ([(3, 1)], 0)), (6, .inl ([(4, 1)], 0))], []))))), ([3, 4, 6, 7, 8], ([(4, (-2))], 83))))]) (B := 94) (fuel := 2000) c_PTx (ENV_cons (id := 201) c_v201 (ENV_cons (id := 245) c_v245 (ENV_cons (id := 229) c_v229 (ENV_cons (id := 232) c_v232 (ENV_cons (id := 246) c_v246 ENV_nil))))) GK_nil c_hlen (by decide +kernel) (by decide +kernel)
def c_m249 : SM := (((([], []), ([], ((k_pins 1, List.range 1), (1, ([(0, .inr (.inr (0, (49, true)))), (1, .inr (.inl ()))], []))))), []), ([(49, 47), (81, 1001)], [((([(1, (0, 1))], []), ([], ((k_pins 1, List.range 1), (2, ([], [.inl ([(1, 1)], 0)]))))), [])]))
-- PastHeapsModel.list
theorem c_v249 : V_ok c_sp c_CC c_PT 249 c_m249 := d_mthS (dep := c_dep) (gk := ([], [])) (env := [(232, c_m232)]) (alt := []) (cuts := [(7, ((([(1, (0, 41)), (2, (0, 12))], [([(1, (-1)), (2, 1)], 0)]), ([((0, (49, 47)), .inl ([(2, 1)], 0))], ((k_pins 1, List.range 1), (3, ([(0, .inr (.inr (0, (49, true)))), (1, .inr (.inl ())), (3, .inl ([(1, 1)], 0))], []))))), ([], ([(1, (-2))], 83))))]) (B := 94) (fuel := 2000) c_PTx (ENV_cons (id := 232) c_v232 ENV_nil) GK_nil c_hlen (by decide +kernel) (by decide +kernel)
def c_m250 : SM := (((([(0, ((-2147483648), 2147483647))], []), ([], ((k_pins 1, List.range 1), (1, ([(0, .inl ([(0, 1)], 0))], []))))), []), ([], [((([(1, (0, 12))], []), ([], ((k_pins 1, List.range 1), (2, ([], [.inl ([(1, 1)], 0)]))))), [])]))
-- PastHeapsModel.bitsOf
theorem c_v250 : V_ok c_sp c_CC c_PT 250 c_m250 := d_mthS (dep := c_dep) (gk := ([], [])) (env := [(232, c_m232)]) (alt := []) (cuts := [(4, ((([(0, ((-2147483648), 2147483647)), (1, (0, 12)), (2, (0, 12))], [([(1, 1), (2, (-1))], 0)]), ([], ((k_pins 1, List.range 1), (3, ([(0, .inl ([(0, 1)], 0)), (1, .inl ([(1, 1)], 0)), (2, .inl ([(2, 1)], 0))], []))))), ([], ([(2, (-2))], 25))))]) (B := 36) (fuel := 2000) c_PTx (ENV_cons (id := 232) c_v232 ENV_nil) GK_nil c_hlen (by decide +kernel) (by decide +kernel)
def c_m248 : SM := (((([(1, ((-2147483648), 2147483647))], []), ([], ((k_pins 2, List.range 2), (2, ([(0, .inr (.inr (0, (49, true)))), (1, .inl ([(1, 1)], 0)), (2, .inr (.inl ()))], []))))), [7]), ([(49, 0), (49, 17), (49, 18), (49, 19), (49, 26), (49, 35), (49, 47), (49, 49), (57, 1001), (58, 1001), (59, 1001), (60, 1001), (61, 1001), (62, 1001), (63, 1001), (64, 1001), (65, 1001), (66, 1001), (67, 1001), (68, 1001), (69, 1001), (70, 1001), (71, 1001), (72, 1001), (73, 1001), (74, 1001), (75, 1001), (76, 1001), (77, 1001), (81, 1001), (82, 1001)], [((([], []), ([], ((k_pins 2, List.range 2), (2, ([], [.inr (.inl ())]))))), [7])]))
-- by hand: PastHeapsModel.cover
theorem c_v248 : V_ok c_sp c_CC c_PT 248 c_m248 := V_of (fun ρ K KA lv h hC hS hT => by
  obtain ⟨ht, σ, α, w1, w2, w3, w4, w5, w6, -⟩ := hS
  obtain ⟨e0, hm⟩ := hv_ref w6 (o := 0) (R := 49) (List.mem_of_getElem? (i := 0) rfl)
  obtain ⟨x1, e1, q1⟩ := hv_int w6 (k := 1) (n := 1) (List.mem_of_getElem? (i := 1) rfl)
  obtain ⟨x2, e2⟩ := hv_lng w6 (k := 2) (List.mem_of_getElem? (i := 2) rfl)
  have t7 := hT 7 (by decide)
  refine c_cover (MX.start (W := c_m248.2.1) ht hm) e0 e1 e2 (by decide +kernel) rfl (t7.2 _ hm) (fun x h' F' V' G' M' => ⟨M'.1.2.2, _, List.mem_singleton.mpr rfl, ⟨M'.1.1, σ, α, fun q hq => (by cases hq), fun e he => (by cases he), fun q hq => (by cases hq), w4, w5, fun q hq => (by cases hq), ⟨⟨x, rfl⟩, trivial⟩⟩, fun t mt => ?_⟩)
  rw [List.mem_singleton.mp mt]
  exact c_PTx 7 ρ ρ c_m248.2.1 h h' ht M'.1.2.2.fq (by decide +kernel) t7)
def c_m254 : SM := (((([], []), ([], ((k_pins 1, List.range 1), (1, ([(0, .inr (.inr (0, (49, true))))], []))))), []), ([], [((([(1, (0, 1))], []), ([], ((k_pins 1, List.range 1), (2, ([], [.inl ([(1, 1)], 0)]))))), [])]))
-- PastHeapsModel.hasTwice
theorem c_v254 : V_ok c_sp c_CC c_PT 254 c_m254 := d_mthS (dep := c_dep) (gk := ([], [])) (env := []) (alt := []) (cuts := [(2, ((([(1, (0, 63))], []), ([], ((k_pins 1, List.range 1), (2, ([(0, .inr (.inr (0, (49, true)))), (1, .inl ([(1, 1)], 0))], []))))), ([], ([(1, (-128))], 8191)))), (12, ((([(1, (0, 62)), (2, (0, 62)), (3, (1, 63))], [([(1, 1), (3, (-1))], 1), ([(1, (-1)), (2, 1)], 0)]), ([((0, (49, 43)), .inl ([(3, 1)], 0))], ((k_pins 1, List.range 1), (4, ([(0, .inr (.inr (0, (49, true)))), (1, .inl ([(1, 1)], 0)), (2, .inl ([(2, 1)], 0))], []))))), ([], ([(1, (-128)), (2, (-2))], 8189))))]) (B := 8202) (fuel := 2000) c_PTx ENV_nil GK_nil c_hlen (by decide +kernel) (by decide +kernel)
def c_m256 : SM := (((([(0, ((-2147483648), 2147483647)), (1, ((-2147483648), 2147483647)), (2, ((-2147483648), 2147483647))], []), ([], ((k_pins 3, List.range 3), (3, ([(0, .inl ([(0, 1)], 0)), (1, .inl ([(1, 1)], 0)), (2, .inl ([(2, 1)], 0))], []))))), []), ([], [((([(3, ((-2147483648), 2147483647))], []), ([], ((k_pins 3, List.range 3), (4, ([], [.inl ([(3, 1)], 0)]))))), [])]))
-- PastHeapsModel.with
theorem c_v256 : V_ok c_sp c_CC c_PT 256 c_m256 := d_mthS (dep := c_dep) (gk := ([], [])) (env := []) (alt := []) (cuts := []) (B := 10) (fuel := 2000) c_PTx ENV_nil GK_nil c_hlen (by decide +kernel) (by decide +kernel)
def c_m259 : SM := (((([(0, ((-2147483648), 2147483647)), (1, ((-2147483648), 2147483647))], []), ([], ((k_pins 2, List.range 2), (2, ([(0, .inl ([(0, 1)], 0)), (1, .inl ([(1, 1)], 0))], []))))), []), ([], [((([(2, (0, 3))], []), ([], ((k_pins 2, List.range 2), (3, ([], [.inl ([(2, 1)], 0)]))))), [])]))
-- PastHeapsModel.digit
theorem c_v259 : V_ok c_sp c_CC c_PT 259 c_m259 := d_mthS (dep := c_dep) (gk := ([], [])) (env := []) (alt := []) (cuts := []) (B := 10) (fuel := 2000) c_PTx ENV_nil GK_nil c_hlen (by decide +kernel) (by decide +kernel)
def c_m260 : SM := (((([(1, (0, 5)), (2, (0, 3))], []), ([], ((k_pins 3, List.range 3), (3, ([(0, .inr (.inr (0, (49, true)))), (1, .inl ([(1, 1)], 0)), (2, .inl ([(2, 1)], 0))], []))))), []), ([], [((([(3, ((-2147483648), 2147483647))], []), ([], ((k_pins 3, List.range 3), (4, ([], [.inl ([(3, 1)], 0)]))))), [])]))
-- PastHeapsModel.keyOf
theorem c_v260 : V_ok c_sp c_CC c_PT 260 c_m260 := d_mthS (dep := c_dep) (gk := ([], [])) (env := []) (alt := []) (cuts := []) (B := 10) (fuel := 2000) c_PTx ENV_nil GK_nil c_hlen (by decide +kernel) (by decide +kernel)
def c_m258 : SM := (((([(1, ((-2147483648), 2147483647))], []), ([], ((k_pins 2, List.range 2), (2, ([(0, .inr (.inr (0, (49, true)))), (1, .inl ([(1, 1)], 0))], []))))), []), ([], [((([(2, (0, 1))], []), ([], ((k_pins 2, List.range 2), (3, ([], [.inl ([(2, 1)], 0)]))))), [])]))
-- PastHeapsModel.isThere
theorem c_v258 : V_ok c_sp c_CC c_PT 258 c_m258 := d_mthS (dep := c_dep) (gk := ([], [])) (env := [(259, c_m259), (260, c_m260)]) (alt := []) (cuts := [(2, ((([(1, ((-2147483648), 2147483647)), (2, (0, 6))], []), ([], ((k_pins 2, List.range 2), (3, ([(0, .inr (.inr (0, (49, true)))), (1, .inl ([(1, 1)], 0)), (2, .inl ([(2, 1)], 0))], []))))), ([], ([(2, (-2))], 13))))]) (B := 24) (fuel := 2000) c_PTx (ENV_cons (id := 259) c_v259 (ENV_cons (id := 260) c_v260 ENV_nil)) GK_nil c_hlen (by decide +kernel) (by decide +kernel)
def c_m261 : SM := (((([(1, ((-2147483648), 2147483647))], []), ([], ((k_pins 2, List.range 2), (2, ([(0, .inr (.inr (0, (49, true)))), (1, .inl ([(1, 1)], 0))], []))))), []), ([], [((([(2, ((-2147483648), 2147483647))], []), ([], ((k_pins 2, List.range 2), (3, ([], [.inl ([(2, 1)], 0)]))))), [])]))
-- PastHeapsModel.lessOf
theorem c_v261 : V_ok c_sp c_CC c_PT 261 c_m261 := d_mthS (dep := c_dep) (gk := ([], [])) (env := [(259, c_m259), (260, c_m260), (256, c_m256)]) (alt := []) (cuts := [(4, ((([(1, ((-2147483648), 2147483647)), (2, ((-1), 5)), (3, (0, 6))], [([(2, 1), (3, (-1))], 1)]), ([], ((k_pins 2, List.range 2), (4, ([(0, .inr (.inr (0, (49, true)))), (1, .inl ([(1, 1)], 0)), (2, .inl ([(2, 1)], 0)), (3, .inl ([(3, 1)], 0))], []))))), ([], ([(3, (-2))], 13))))]) (B := 24) (fuel := 2000) c_PTx (ENV_cons (id := 259) c_v259 (ENV_cons (id := 260) c_v260 (ENV_cons (id := 256) c_v256 ENV_nil))) GK_nil c_hlen (by decide +kernel) (by decide +kernel)
def c_m255 : SM := (((([(1, (0, 6))], []), ([((0, (49, 51)), .inl ([(1, 1)], 0))], ((k_pins 2, List.range 2), (2, ([(0, .inr (.inr (0, (49, true))))], []))))), []), ([(49, 57), (86, 1001), (87, 1001)], [((([(2, ((-2147483648), 2147483647))], []), ([], ((k_pins 2, List.range 2), (3, ([], [.inl ([(2, 1)], 0)]))))), [])]))
-- by hand: PastHeapsModel.fewestSteps
theorem c_v255 : V_ok c_sp c_CC c_PT 255 c_m255 := V_of (fun ρ K KA lv h hC hS hT => by
  obtain ⟨ht, σ, α, w1, w2, w3, w4, w5, w6, -⟩ := hS
  obtain ⟨e0, hm⟩ := hv_ref w6 (o := 0) (R := 49) (List.mem_of_getElem? (i := 0) rfl)
  refine c_steps (MX.start (W := c_m255.2.1) ht hm) e0 (by decide +kernel) (fun x h' F' V' M' => ⟨M'.1.2.2, _, List.mem_singleton.mpr rfl, ⟨M'.1.1, s_up σ 2 x.toInt, α, fun q hq => ?_, fun e he => (by cases he), fun q hq => (by cases hq), hv_K w4 (fun k hk => if_neg (by omega)), w5, fun q hq => (by cases hq), ⟨⟨x, rfl, ?_⟩, trivial⟩⟩, fun t mt => (by cases mt)⟩)
  · rw [List.mem_singleton.mp hq]
    exact g_iT x
  · show x.toInt = 1 * x.toInt + 0 + 0
    omega)
def c_m253 : SM := (((([(1, ((-2147483648), 2147483647)), (2, ((-2147483648), 2147483647)), (3, ((-2147483648), 2147483647))], []), ([], ((k_pins 4, List.range 4), (4, ([(0, .inr (.inr (0, (49, true)))), (1, .inl ([(1, 1)], 0)), (2, .inl ([(2, 1)], 0)), (3, .inl ([(3, 1)], 0))], []))))), [7]), ([(49, 0), (49, 17), (49, 18), (49, 19), (49, 26), (49, 35), (49, 43), (49, 51), (49, 57), (57, 1001), (58, 1001), (59, 1001), (60, 1001), (61, 1001), (62, 1001), (63, 1001), (64, 1001), (65, 1001), (66, 1001), (67, 1001), (68, 1001), (69, 1001), (70, 1001), (71, 1001), (72, 1001), (73, 1001), (74, 1001), (75, 1001), (76, 1001), (78, 1001), (79, 1001), (83, 1001), (84, 1001), (85, 1001), (86, 1001), (87, 1001)], [((([(4, ((-2147483648), 2147483647))], []), ([], ((k_pins 4, List.range 4), (5, ([], [.inl ([(4, 1)], 0)]))))), [7])]))
-- by hand: PastHeapsModel.differ
theorem c_v253 : V_ok c_sp c_CC c_PT 253 c_m253 := V_of (fun ρ K KA lv h hC hS hT => by
  obtain ⟨ht, σ, α, w1, w2, w3, w4, w5, w6, -⟩ := hS
  obtain ⟨e0, hm⟩ := hv_ref w6 (o := 0) (R := 49) (List.mem_of_getElem? (i := 0) rfl)
  obtain ⟨x1, e1, q1⟩ := hv_int w6 (k := 1) (n := 1) (List.mem_of_getElem? (i := 1) rfl)
  obtain ⟨x2, e2, q2⟩ := hv_int w6 (k := 2) (n := 2) (List.mem_of_getElem? (i := 2) rfl)
  obtain ⟨x3, e3, q3⟩ := hv_int w6 (k := 3) (n := 3) (List.mem_of_getElem? (i := 3) rfl)
  have t7 := hT 7 (by decide)
  refine c_differ (MX.start (W := c_m253.2.1) ht hm) e0 e1 e2 e3 (by decide +kernel) rfl rfl rfl (t7.2 _ hm) (fun x h' F' V' G' M' => ⟨M'.1.2.2, _, List.mem_singleton.mpr rfl, ⟨M'.1.1, s_up σ 4 x.toInt, α, fun q hq => ?_, fun e he => (by cases he), fun q hq => (by cases hq), hv_K w4 (fun k hk => if_neg (by omega)), w5, fun q hq => (by cases hq), ⟨⟨x, rfl, ?_⟩, trivial⟩⟩, fun t mt => ?_⟩)
  · rw [List.mem_singleton.mp hq]
    exact g_iT x
  · show x.toInt = 1 * x.toInt + 0 + 0
    omega
  · rw [List.mem_singleton.mp mt]
    exact c_PTx 7 ρ ρ c_m253.2.1 h h' ht M'.1.2.2.fq (by decide +kernel) t7)
def c_m263 : SM := (((([(1, (0, 63)), (2, (0, 1))], []), ([], ((k_pins 3, List.range 3), (3, ([(0, .inr (.inr (0, (49, true)))), (1, .inl ([(1, 1)], 0)), (2, .inl ([(2, 1)], 0))], []))))), []), ([], [((([(3, (0, 1))], []), ([], ((k_pins 3, List.range 3), (4, ([], [.inl ([(3, 1)], 0)]))))), [])]))
-- PastHeapsModel.isAsOther
theorem c_v263 : V_ok c_sp c_CC c_PT 263 c_m263 := d_mthS (dep := c_dep) (gk := ([], [])) (env := []) (alt := []) (cuts := [(2, ((([(1, (0, 63)), (2, (0, 1)), (3, (0, 63))], [([(1, (-1)), (3, 1)], 0)]), ([], ((k_pins 3, List.range 3), (4, ([(0, .inr (.inr (0, (49, true)))), (1, .inl ([(1, 1)], 0)), (2, .inl ([(2, 1)], 0)), (3, .inl ([(3, 1)], 0))], []))))), ([], ([(3, (-2))], 127))))]) (B := 138) (fuel := 2000) c_PTx ENV_nil GK_nil c_hlen (by decide +kernel) (by decide +kernel)
def c_m262 : SM := (((([(1, ((-2147483648), 2147483647)), (2, ((-2147483648), 2147483647)), (3, ((-2147483648), 2147483647)), (4, (0, 1))], []), ([], ((k_pins 5, List.range 5), (5, ([(0, .inr (.inr (0, (49, true)))), (1, .inl ([(1, 1)], 0)), (2, .inl ([(2, 1)], 0)), (3, .inl ([(3, 1)], 0)), (4, .inl ([(4, 1)], 0))], []))))), [7]), ([(49, 0), (49, 17), (49, 18), (49, 19), (49, 26), (49, 35), (49, 43), (57, 1001), (58, 1001), (59, 1001), (60, 1001), (61, 1001), (62, 1001), (63, 1001), (64, 1001), (65, 1001), (66, 1001), (67, 1001), (68, 1001), (69, 1001), (70, 1001), (71, 1001), (72, 1001), (73, 1001), (74, 1001), (75, 1001), (76, 1001), (78, 1001), (79, 1001), (88, 1001), (89, 1001)], [((([(5, (0, 1))], []), ([], ((k_pins 5, List.range 5), (6, ([], [.inl ([(5, 1)], 0)]))))), [7])]))
-- PastHeapsModel.alike
theorem c_v262 : V_ok c_sp c_CC c_PT 262 c_m262 := d_mthS (dep := c_dep) (gk := ([], [])) (env := [(240, c_m240), (207, c_m207), (230, c_m230), (263, c_m263)]) (alt := []) (cuts := [(38, ((([(1, ((-2147483648), 2147483647)), (2, (0, 40)), (3, (0, 40)), (4, (0, 1)), (5, (0, 63)), (6, (0, 15120)), (7, (1, 41)), (8, (0, 63)), (9, (0, 63))], [([(2, 1), (7, (-1))], 1), ([(3, 1), (7, (-1))], 1), ([(5, 1), (9, (-1))], 0), ([(8, 1), (9, (-1))], 0), ([(8, (-1)), (9, 1)], 0)]), ([((0, (49, 0)), .inl ([], 0)), ((0, (49, 17)), .inl ([(6, 1)], 0)), ((0, (49, 35)), .inl ([(7, 1)], 0)), ((0, (49, 43)), .inl ([(8, 1)], 0)), ((0, (49, 26)), .inl ([(9, 1)], 0))], ((k_pins 5, List.range 5), (10, ([(0, .inr (.inr (0, (49, true)))), (1, .inl ([(1, 1)], 0)), (2, .inl ([(2, 1)], 0)), (3, .inl ([(3, 1)], 0)), (4, .inl ([(4, 1)], 0)), (5, .inl ([(5, 1)], 0))], []))))), ([3, 4, 6, 7, 8, 9], ([(5, (-2))], 127))))]) (B := 138) (fuel := 2000) c_PTx (ENV_cons (id := 240) c_v240 (ENV_cons (id := 207) c_v207 (ENV_cons (id := 230) c_v230 (ENV_cons (id := 263) c_v263 ENV_nil)))) GK_nil c_hlen (by decide +kernel) (by decide +kernel)
def c_m264 : SM := (((([(1, ((-2147483648), 2147483647)), (2, ((-2147483648), 2147483647)), (3, ((-2147483648), 2147483647)), (4, ((-2147483648), 2147483647)), (5, ((-2147483648), 2147483647)), (6, (0, 1))], []), ([], ((k_pins 7, List.range 7), (7, ([(0, .inr (.inr (0, (49, true)))), (1, .inl ([(1, 1)], 0)), (2, .inl ([(2, 1)], 0)), (3, .inl ([(3, 1)], 0)), (4, .inl ([(4, 1)], 0)), (5, .inl ([(5, 1)], 0)), (6, .inl ([(6, 1)], 0))], []))))), [7]), ([(49, 0), (49, 17), (49, 18), (49, 19), (49, 26), (49, 35), (57, 1001), (58, 1001), (59, 1001), (60, 1001), (61, 1001), (62, 1001), (63, 1001), (64, 1001), (65, 1001), (66, 1001), (67, 1001), (68, 1001), (69, 1001), (70, 1001), (71, 1001), (72, 1001), (73, 1001), (74, 1001), (75, 1001), (76, 1001)], [((([(7, ((-2147483648), 2147483647))], []), ([], ((k_pins 7, List.range 7), (8, ([], [.inl ([(7, 1)], 0)]))))), [7])]))
-- PastHeapsModel.would
theorem c_v264 : V_ok c_sp c_CC c_PT 264 c_m264 := d_mthS (dep := c_dep) (gk := ([], [])) (env := [(228, c_m228), (186, c_m186), (204, c_m204)]) (alt := []) (cuts := []) (B := 10) (fuel := 2000) c_PTx (ENV_cons (id := 228) c_v228 (ENV_cons (id := 186) c_v186 (ENV_cons (id := 204) c_v204 ENV_nil))) GK_nil c_hlen (by decide +kernel) (by decide +kernel)
def c_m266 : SM := (((([(1, (0, 2147483647)), (2, (2, 5))], []), ([((0, (49, 47)), .inl ([(2, 1)], 0))], ((k_pins 3, List.range 3), (3, ([(0, .inr (.inr (0, (49, true)))), (1, .inl ([(1, 1)], 0))], []))))), []), ([(90, 1001)], [((([(3, (0, 1))], []), ([], ((k_pins 3, List.range 3), (4, ([], [.inl ([(3, 1)], 0)]))))), [])]))
-- PastHeapsModel.isTurn
theorem c_v266 : V_ok c_sp c_CC c_PT 266 c_m266 := d_mthS (dep := c_dep) (gk := ([], [])) (env := []) (alt := []) (cuts := [(12, ((([(1, (0, 2147483647)), (2, (2, 5)), (3, ((-2147483648), 2147483647)), (4, (0, 2147483647)), (5, ((-1), 4))], [([(2, (-1)), (5, 1)], 1)]), ([((0, (49, 47)), .inl ([(2, 1)], 0))], ((k_pins 3, List.range 3), (6, ([(0, .inr (.inr (0, (49, true)))), (1, .inl ([(1, 1)], 0)), (2, .inl ([(3, 1)], 0)), (3, .inl ([(4, 1)], 0)), (4, .inl ([(5, 1)], 0))], []))))), ([], ([(5, 2)], 3))))]) (B := 22) (fuel := 2000) c_PTx ENV_nil GK_nil c_hlen (by decide +kernel) (by decide +kernel)
def c_m265 : SM := (((([(1, ((-2147483648), 2147483647)), (2, ((-2147483648), 2147483647))], []), ([], ((k_pins 3, List.range 3), (3, ([(0, .inr (.inr (0, (49, true)))), (1, .inl ([(1, 1)], 0)), (2, .inr (.inl ())), (4, .inl ([(2, 1)], 0))], []))))), [7]), ([(49, 0), (49, 17), (49, 18), (49, 19), (49, 26), (49, 35), (49, 47), (57, 1001), (58, 1001), (59, 1001), (60, 1001), (61, 1001), (62, 1001), (63, 1001), (64, 1001), (65, 1001), (66, 1001), (67, 1001), (68, 1001), (69, 1001), (70, 1001), (71, 1001), (72, 1001), (73, 1001), (74, 1001), (75, 1001), (76, 1001), (81, 1001), (90, 1001), (91, 1001)], [((([(3, ((-2147483648), 2147483647))], []), ([], ((k_pins 3, List.range 3), (4, ([], [.inl ([(3, 1)], 0)]))))), [7])]))
-- by hand: PastHeapsModel.fold
theorem c_v265 : V_ok c_sp c_CC c_PT 265 c_m265 := V_of (fun ρ K KA lv h hC hS hT => by
  obtain ⟨ht, σ, α, w1, w2, w3, w4, w5, w6, -⟩ := hS
  obtain ⟨e0, hm⟩ := hv_ref w6 (o := 0) (R := 49) (List.mem_of_getElem? (i := 0) rfl)
  obtain ⟨x1, e1, q1⟩ := hv_int w6 (k := 1) (n := 1) (List.mem_of_getElem? (i := 1) rfl)
  obtain ⟨x2, e2⟩ := hv_lng w6 (k := 2) (List.mem_of_getElem? (i := 2) rfl)
  obtain ⟨x4, e4, q4⟩ := hv_int w6 (k := 4) (n := 2) (List.mem_of_getElem? (i := 3) rfl)
  have t7 := hT 7 (by decide)
  refine c_fold (MX.start (W := c_m265.2.1) ht hm) e0 e1 e2 e4 (by decide +kernel) rfl rfl (t7.2 _ hm) (fun x h' F' V' G' M' => ⟨M'.1.2.2, _, List.mem_singleton.mpr rfl, ⟨M'.1.1, s_up σ 3 x.toInt, α, fun q hq => ?_, fun e he => (by cases he), fun q hq => (by cases hq), hv_K w4 (fun k hk => if_neg (by omega)), w5, fun q hq => (by cases hq), ⟨⟨x, rfl, ?_⟩, trivial⟩⟩, fun t mt => ?_⟩)
  · rw [List.mem_singleton.mp hq]
    exact g_iT x
  · show x.toInt = 1 * x.toInt + 0 + 0
    omega
  · rw [List.mem_singleton.mp mt]
    exact c_PTx 7 ρ ρ c_m265.2.1 h h' ht M'.1.2.2.fq (by decide +kernel) t7)
def c_m269 : SM := (((([(0, ((-2147483648), 2147483647))], []), ([], ((k_pins 1, List.range 1), (1, ([(0, .inl ([(0, 1)], 0))], []))))), []), ([], [((([(1, (0, 6))], []), ([], ((k_pins 1, List.range 1), (2, ([], [.inl ([(1, 1)], 0)]))))), [])]))
-- PastHeapsModel.ones
theorem c_v269 : V_ok c_sp c_CC c_PT 269 c_m269 := d_mthS (dep := c_dep) (gk := ([], [])) (env := [(232, c_m232)]) (alt := []) (cuts := [(4, ((([(0, ((-2147483648), 2147483647)), (1, (0, 6)), (2, (0, 6))], [([(1, 1), (2, (-1))], 0)]), ([], ((k_pins 1, List.range 1), (3, ([(0, .inl ([(0, 1)], 0)), (1, .inl ([(1, 1)], 0)), (2, .inl ([(2, 1)], 0))], []))))), ([], ([(2, (-2))], 13))))]) (B := 24) (fuel := 2000) c_PTx (ENV_cons (id := 232) c_v232 ENV_nil) GK_nil c_hlen (by decide +kernel) (by decide +kernel)
def c_m268 : SM := (((([(1, ((-2147483648), 2147483647)), (2, (0, 1))], []), ([], ((k_pins 3, List.range 3), (3, ([(0, .inr (.inr (0, (49, true)))), (1, .inl ([(1, 1)], 0)), (2, .inl ([(2, 1)], 0))], []))))), [7]), ([(49, 0), (49, 17), (49, 18), (49, 19), (49, 26), (49, 35), (57, 1001), (58, 1001), (59, 1001), (60, 1001), (61, 1001), (62, 1001), (63, 1001), (64, 1001), (65, 1001), (66, 1001), (67, 1001), (68, 1001), (69, 1001), (70, 1001), (71, 1001), (72, 1001), (73, 1001), (74, 1001), (75, 1001), (76, 1001)], [((([(3, ((-2147483648), 2147483647))], []), ([], ((k_pins 3, List.range 3), (4, ([], [.inl ([(3, 1)], 0)]))))), [7])]))
-- PastHeapsModel.dearest
theorem c_v268 : V_ok c_sp c_CC c_PT 268 c_m268 := d_mthS (dep := c_dep) (gk := ([], [])) (env := [(201, c_m201), (207, c_m207), (225, c_m225), (269, c_m269)]) (alt := []) (cuts := [(23, ((([(1, ((-2147483648), 2147483647)), (2, (0, 1)), (3, (0, 2000)), (4, (0, 12)), (5, (0, 41)), (6, (0, 15120)), (7, (1, 41))], [([(5, 1), (7, (-1))], 0)]), ([((0, (49, 0)), .inl ([], 0)), ((0, (49, 17)), .inl ([(6, 1)], 0)), ((0, (49, 35)), .inl ([(7, 1)], 0))], ((k_pins 3, List.range 3), (8, ([(0, .inr (.inr (0, (49, true)))), (1, .inl ([(1, 1)], 0)), (2, .inl ([(2, 1)], 0)), (3, .inl ([(3, 1)], 0)), (4, .inl ([(4, 1)], 0)), (5, .inl ([(5, 1)], 0))], []))))), ([3, 4, 6, 7, 8], ([(5, (-86))], 3611)))), (36, ((([(1, ((-2147483648), 2147483647)), (2, (0, 1)), (3, (0, 2000)), (4, (0, 12)), (5, (0, 40)), (6, (0, 41)), (7, (0, 15120)), (8, (1, 41))], [([(5, 1), (6, (-1))], 0), ([(5, 1), (8, (-1))], 1), ([(6, 1), (8, (-1))], 0)]), ([((0, (49, 0)), .inl ([], 0)), ((0, (49, 17)), .inl ([(7, 1)], 0)), ((0, (49, 35)), .inl ([(8, 1)], 0))], ((k_pins 3, List.range 3), (9, ([(0, .inr (.inr (0, (49, true)))), (1, .inl ([(1, 1)], 0)), (2, .inl ([(2, 1)], 0)), (3, .inl ([(3, 1)], 0)), (4, .inl ([(4, 1)], 0)), (5, .inl ([(5, 1)], 0)), (6, .inl ([(6, 1)], 0))], []))))), ([3, 4, 6, 7, 8], ([(5, (-86)), (6, (-2))], 3609))))]) (B := 3622) (fuel := 2000) c_PTx (ENV_cons (id := 201) c_v201 (ENV_cons (id := 207) c_v207 (ENV_cons (id := 225) c_v225 (ENV_cons (id := 269) c_v269 ENV_nil)))) GK_nil c_hlen (by decide +kernel) (by decide +kernel)
def c_m270 : SM := (((([(1, ((-2147483648), 2147483647)), (2, ((-2147483648), 2147483647)), (3, ((-2147483648), 2147483647))], []), ([], ((k_pins 4, List.range 4), (4, ([(0, .inr (.inr (0, (49, true)))), (1, .inl ([(1, 1)], 0)), (2, .inl ([(2, 1)], 0)), (3, .inl ([(3, 1)], 0))], []))))), [7]), ([(49, 0), (49, 17), (49, 18), (49, 19), (49, 26), (49, 35), (49, 43), (57, 1001), (58, 1001), (59, 1001), (60, 1001), (61, 1001), (62, 1001), (63, 1001), (64, 1001), (65, 1001), (66, 1001), (67, 1001), (68, 1001), (69, 1001), (70, 1001), (71, 1001), (72, 1001), (73, 1001), (74, 1001), (75, 1001), (76, 1001), (78, 1001), (79, 1001)], [((([(4, ((-2147483648), 2147483647))], []), ([], ((k_pins 4, List.range 4), (5, ([], [.inl ([(4, 1)], 0)]))))), [7])]))
-- PastHeapsModel.below
theorem c_v270 : V_ok c_sp c_CC c_PT 270 c_m270 := d_mthS (dep := c_dep) (gk := ([], [])) (env := [(228, c_m228), (230, c_m230)]) (alt := []) (cuts := [(24, ((([(1, ((-2147483648), 2147483647)), (2, (0, 40)), (3, ((-2147483648), 2147483647)), (4, (0, 63)), (5, (0, 15120)), (6, (1, 41)), (7, (0, 63)), (8, (0, 63))], [([(2, 1), (6, (-1))], 1), ([(4, 1), (8, (-1))], 0), ([(7, 1), (8, (-1))], 0), ([(7, (-1)), (8, 1)], 0)]), ([((0, (49, 0)), .inl ([], 0)), ((0, (49, 17)), .inl ([(5, 1)], 0)), ((0, (49, 35)), .inl ([(6, 1)], 0)), ((0, (49, 43)), .inl ([(7, 1)], 0)), ((0, (49, 26)), .inl ([(8, 1)], 0))], ((k_pins 4, List.range 4), (9, ([(0, .inr (.inr (0, (49, true)))), (1, .inl ([(1, 1)], 0)), (2, .inl ([(2, 1)], 0)), (3, .inl ([(3, 1)], 0)), (4, .inl ([(4, 1)], 0))], []))))), ([3, 4, 6, 7, 8, 9], ([(4, (-2))], 127))))]) (B := 138) (fuel := 2000) c_PTx (ENV_cons (id := 228) c_v228 (ENV_cons (id := 230) c_v230 ENV_nil)) GK_nil c_hlen (by decide +kernel) (by decide +kernel)
def c_m272 : SM := (((([(1, (0, 40)), (2, ((-2147483648), 2147483647)), (3, (0, 41))], [([(1, 1), (3, (-1))], 1)]), ([((0, (49, 35)), .inl ([(3, 1)], 0))], ((k_pins 4, List.range 4), (4, ([(0, .inr (.inr (0, (49, true)))), (1, .inl ([(1, 1)], 0)), (2, .inl ([(2, 1)], 0))], []))))), [3, 4, 6]), ([(49, 26), (49, 43), (61, 1001), (63, 1001), (64, 1001), (65, 1001), (66, 1001), (67, 1001), (78, 1001), (79, 1001)], [((([(4, ((-2147483648), 2147483647))], []), ([], ((k_pins 4, List.range 4), (5, ([], [.inl ([(4, 1)], 0)]))))), [3, 4, 6])]))
-- PastHeapsModel.leastKey
theorem c_v272 : V_ok c_sp c_CC c_PT 272 c_m272 := d_mthS (dep := c_dep) (gk := ([], [])) (env := [(230, c_m230)]) (alt := []) (cuts := [(7, ((([(1, (0, 40)), (2, ((-2147483648), 2147483647)), (3, (0, 41)), (4, (0, 63)), (5, (0, 63)), (6, (0, 63))], [([(1, 1), (3, (-1))], 1), ([(4, 1), (6, (-1))], 0), ([(5, 1), (6, (-1))], 0), ([(5, (-1)), (6, 1)], 0)]), ([((0, (49, 35)), .inl ([(3, 1)], 0)), ((0, (49, 43)), .inl ([(5, 1)], 0)), ((0, (49, 26)), .inl ([(6, 1)], 0))], ((k_pins 4, List.range 4), (7, ([(0, .inr (.inr (0, (49, true)))), (1, .inl ([(1, 1)], 0)), (2, .inl ([(2, 1)], 0)), (3, .inl ([(4, 1)], 0))], []))))), ([3, 4, 6, 9], ([(4, (-2))], 127))))]) (B := 138) (fuel := 2000) c_PTx (ENV_cons (id := 230) c_v230 ENV_nil) GK_nil c_hlen (by decide +kernel) (by decide +kernel)
def c_m271 : SM := (((([(1, ((-2147483648), 2147483647)), (2, ((-2147483648), 2147483647)), (3, (0, 1))], []), ([], ((k_pins 4, List.range 4), (4, ([(0, .inr (.inr (0, (49, true)))), (1, .inl ([(1, 1)], 0)), (2, .inl ([(2, 1)], 0)), (3, .inl ([(3, 1)], 0))], []))))), [7]), ([(49, 0), (49, 17), (49, 18), (49, 19), (49, 26), (49, 35), (49, 43), (57, 1001), (58, 1001), (59, 1001), (60, 1001), (61, 1001), (62, 1001), (63, 1001), (64, 1001), (65, 1001), (66, 1001), (67, 1001), (68, 1001), (69, 1001), (70, 1001), (71, 1001), (72, 1001), (73, 1001), (74, 1001), (75, 1001), (76, 1001), (78, 1001), (79, 1001)], [((([(4, ((-2147483648), 2147483647))], []), ([], ((k_pins 4, List.range 4), (5, ([], [.inl ([(4, 1)], 0)]))))), [7])]))
-- PastHeapsModel.age
theorem c_v271 : V_ok c_sp c_CC c_PT 271 c_m271 := d_mthS (dep := c_dep) (gk := ([], [])) (env := [(201, c_m201), (272, c_m272)]) (alt := []) (cuts := [(21, ((([(1, ((-2147483648), 2147483647)), (2, ((-2147483648), 2147483647)), (3, (0, 1)), (4, ((-1), 40)), (5, (0, 41)), (6, (0, 15120)), (7, (1, 41))], [([(4, 1), (5, (-1))], 1), ([(5, 1), (7, (-1))], 0)]), ([((0, (49, 0)), .inl ([], 0)), ((0, (49, 17)), .inl ([(6, 1)], 0)), ((0, (49, 35)), .inl ([(7, 1)], 0))], ((k_pins 4, List.range 4), (8, ([(0, .inr (.inr (0, (49, true)))), (1, .inl ([(1, 1)], 0)), (2, .inl ([(2, 1)], 0)), (3, .inl ([(3, 1)], 0)), (4, .inl ([(4, 1)], 0)), (5, .inl ([(5, 1)], 0))], []))))), ([3, 4, 6, 7, 8], ([(5, (-2))], 83))))]) (B := 94) (fuel := 2000) c_PTx (ENV_cons (id := 201) c_v201 (ENV_cons (id := 272) c_v272 ENV_nil)) GK_nil c_hlen (by decide +kernel) (by decide +kernel)
def c_m273 : SM := (((([(1, ((-2147483648), 2147483647)), (2, ((-2147483648), 2147483647))], []), ([], ((k_pins 3, List.range 3), (3, ([(0, .inr (.inr (0, (49, true)))), (1, .inl ([(1, 1)], 0)), (2, .inl ([(2, 1)], 0))], []))))), [7]), ([(49, 0), (49, 17), (49, 18), (49, 19), (49, 26), (49, 35), (49, 43), (57, 1001), (58, 1001), (59, 1001), (60, 1001), (61, 1001), (62, 1001), (63, 1001), (64, 1001), (65, 1001), (66, 1001), (67, 1001), (68, 1001), (69, 1001), (70, 1001), (71, 1001), (72, 1001), (73, 1001), (74, 1001), (75, 1001), (76, 1001), (78, 1001), (79, 1001)], [((([(3, ((-2147483648), 2147483647))], []), ([], ((k_pins 3, List.range 3), (4, ([], [.inl ([(3, 1)], 0)]))))), [7])]))
-- PastHeapsModel.lowest
theorem c_v273 : V_ok c_sp c_CC c_PT 273 c_m273 := d_mthS (dep := c_dep) (gk := ([], [])) (env := [(201, c_m201), (272, c_m272)]) (alt := []) (cuts := [(20, ((([(1, ((-2147483648), 2147483647)), (2, ((-2147483648), 2147483647)), (3, ((-2147483648), 2147483647)), (4, (0, 41)), (5, (0, 15120)), (6, (1, 41))], [([(4, 1), (6, (-1))], 0)]), ([((0, (49, 0)), .inl ([], 0)), ((0, (49, 17)), .inl ([(5, 1)], 0)), ((0, (49, 35)), .inl ([(6, 1)], 0))], ((k_pins 3, List.range 3), (7, ([(0, .inr (.inr (0, (49, true)))), (1, .inl ([(1, 1)], 0)), (2, .inl ([(2, 1)], 0)), (3, .inl ([(3, 1)], 0)), (4, .inl ([(4, 1)], 0))], []))))), ([3, 4, 6, 7, 8], ([(4, (-2))], 83))))]) (B := 94) (fuel := 2000) c_PTx (ENV_cons (id := 201) c_v201 (ENV_cons (id := 272) c_v272 ENV_nil)) GK_nil c_hlen (by decide +kernel) (by decide +kernel)
def c_m274 : SM := (((([(1, ((-2147483648), 2147483647)), (2, ((-2147483648), 2147483647))], []), ([], ((k_pins 3, List.range 3), (3, ([(0, .inr (.inr (0, (49, true)))), (1, .inl ([(1, 1)], 0)), (2, .inl ([(2, 1)], 0))], []))))), [7]), ([(49, 0), (49, 17), (49, 18), (49, 19), (49, 26), (49, 35), (57, 1001), (58, 1001), (59, 1001), (60, 1001), (61, 1001), (62, 1001), (63, 1001), (64, 1001), (65, 1001), (66, 1001), (67, 1001), (68, 1001), (69, 1001), (70, 1001), (71, 1001), (72, 1001), (73, 1001), (74, 1001), (75, 1001), (76, 1001)], [((([(3, ((-2147483648), 2147483647))], []), ([], ((k_pins 3, List.range 3), (4, ([], [.inl ([(3, 1)], 0)]))))), [7])]))
-- PastHeapsModel.over
theorem c_v274 : V_ok c_sp c_CC c_PT 274 c_m274 := d_mthS (dep := c_dep) (gk := ([], [])) (env := [(201, c_m201), (224, c_m224)]) (alt := []) (cuts := [(17, ((([(1, ((-2147483648), 2147483647)), (2, ((-2147483648), 2147483647)), (3, (0, 40)), (4, (0, 15120)), (5, (1, 41))], [([(3, 1), (5, (-1))], 1)]), ([((0, (49, 0)), .inl ([], 0)), ((0, (49, 17)), .inl ([(4, 1)], 0)), ((0, (49, 35)), .inl ([(5, 1)], 0))], ((k_pins 3, List.range 3), (6, ([(0, .inr (.inr (0, (49, true)))), (1, .inl ([(1, 1)], 0)), (2, .inl ([(2, 1)], 0)), (3, .inl ([(3, 1)], 0))], []))))), ([3, 4, 6, 7, 8], ([(3, (-2))], 81))))]) (B := 92) (fuel := 2000) c_PTx (ENV_cons (id := 201) c_v201 (ENV_cons (id := 224) c_v224 ENV_nil)) GK_nil c_hlen (by decide +kernel) (by decide +kernel)
