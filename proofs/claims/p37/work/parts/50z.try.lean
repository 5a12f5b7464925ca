def c_m278 : SM := (((([(1, (0, 63)), (2, (0, 63))], [([(1, 1), (2, (-1))], 0)]), ([((0, (49, 26)), .inl ([(2, 1)], 0))], ((k_pins 3, List.range 3), (3, ([(0, .inr (.inr (0, (49, true)))), (1, .inl ([(1, 1)], 0))], []))))), [3, 4, 6, 9]), ([(92, 1001), (93, 1001)], [((([(3, ((-2147483648), 2147483647))], []), ([], ((k_pins 3, List.range 3), (4, ([], [.inl ([(3, 1)], 0)]))))), [3, 4, 6])]))
-- by hand: PastHeapsModel.lookedFor
theorem c_v278 : V_ok c_sp c_CC c_PT 278 c_m278 := V_of (fun ρ K KA lv h hC hS hT => by
  obtain ⟨ht, σ, α, w1, w2, w3, w4, w5, w6, -⟩ := hS
  obtain ⟨e0, hm⟩ := hv_ref w6 (o := 0) (R := 49) (List.mem_of_getElem? (i := 0) rfl)
  obtain ⟨x1, e1, q1⟩ := hv_int w6 (k := 1) (n := 1) (List.mem_of_getElem? (i := 1) rfl)
  have t9 := hT 9 (by decide)
  have fw : (h_i h (α 0) 26).toInt = σ 2 := fv_i (n := 2) (by decide) (w3 _ (List.mem_of_getElem? (i := 0) rfl)).2
  have b1 := w1 _ (List.mem_of_getElem? (i := 0) rfl)
  dsimp only at b1
  have c1 : 1 * σ 1 + (-1 * σ 2 + 0) + 0 ≤ 0 := w2 _ (List.mem_of_getElem? (i := 0) rfl)
  refine c_looked (k := (σ 1).toNat) (MX.start (W := c_m278.2.1) ht hm) e0 e1 (by decide +kernel) (t9.2 _ hm) (by omega) (by show ((σ 1).toNat : Int) ≤ (h_i h (α 0) 26).toInt; omega) (fun x h' V' M' => ⟨M'.1.2.2, _, List.mem_singleton.mpr rfl, ⟨M'.1.1, s_up σ 3 x.toInt, α, fun q hq => ?_, fun e he => (by cases he), fun q hq => (by cases hq), hv_K w4 (fun k hk => if_neg (by omega)), w5, fun q hq => (by cases hq), ⟨⟨x, rfl, ?_⟩, trivial⟩⟩, fun t mt => ?_⟩)
  · rw [List.mem_singleton.mp hq]
    exact g_iT x
  · show x.toInt = 1 * x.toInt + 0 + 0
    omega
  · have hm3 : t ∈ [3, 4, 6, 9] := by
      rcases List.mem_cons.mp mt with e | mt
      · rw [e]; decide
      · rcases List.mem_cons.mp mt with e | mt
        · rw [e]; decide
        · rw [List.mem_singleton.mp mt]; decide
    refine c_PTx t ρ ρ c_m278.2.1 h h' ht M'.1.2.2.fq ?_ (hT t hm3)
    rcases List.mem_cons.mp mt with e | mt
    · rw [e]; decide +kernel
    · rcases List.mem_cons.mp mt with e | mt
      · rw [e]; decide +kernel
      · rw [List.mem_singleton.mp mt]; decide +kernel)
