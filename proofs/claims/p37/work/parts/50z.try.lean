def c_m153 : SM := (((([], []), ([], ((k_pins 2, List.range 2), (2, ([(0, .inr (.inr (0, (25, true)))), (1, .inr (.inr (1, (39, true)))), (2, .inr (.inl ()))], []))))), [1, 2]), ([(25, 0), (25, 3), (26, 1001), (26, 1002), (27, 1001), (28, 1001), (1000, 1002)], [((([(2, ((-2147483648), 2147483647))], []), ([], ((k_pins 2, List.range 2), (3, ([], [.inl ([(2, 1)], 0)]))))), [1, 2])]))
-- by hand: PastHeaps$Shares.heaviest
theorem c_v153 : V_ok c_sp c_CC c_PT 153 c_m153 := V_of (fun ρ K KA lv h hC hS hT => by
  obtain ⟨ht, σ, α, w1, w2, w3, w4, w5, w6, -⟩ := hS
  obtain ⟨e0, hm⟩ := hv_ref w6 (o := 0) (R := 25) (List.mem_of_getElem? (i := 0) rfl)
  obtain ⟨e1, hnd⟩ := hv_ref w6 (o := 1) (R := 39) (List.mem_of_getElem? (i := 1) rfl)
  obtain ⟨p, e2⟩ := hv_lng w6 (k := 2) (List.mem_of_getElem? (i := 2) rfl)
  refine c_heaviest (MX.start (W := [(28, 1001)]) ht hm) e0 e1 e2 hnd (fun h' V' M' => c_PTx 1 ρ ρ [(28, 1001)] h h' ht M'.1.2.2.fq (by decide +kernel) (hT 1 (by decide))) (by decide +kernel) (fun x h' V' M' => ⟨M'.1.2.2.mono (by decide +kernel), _, List.mem_singleton.mpr rfl, ⟨M'.1.1, s_up σ 2 x.toInt, α, fun q hq => ?_, fun e he => (by cases he), fun q hq => (by cases hq), hv_K w4 (fun k hk => if_neg (by omega)), w5, fun q hq => (by cases hq), ⟨⟨x, rfl, ?_⟩, trivial⟩⟩, fun t mt => ?_⟩)
  · rw [List.mem_singleton.mp hq]
    exact g_iT x
  · show x.toInt = 1 * x.toInt + 0 + 0
    omega
  · refine c_PTx t ρ ρ [(28, 1001)] h h' ht M'.1.2.2.fq ?_ (hT t mt)
    rcases List.mem_cons.mp mt with e | mt
    · rw [e]; decide +kernel
    · rw [List.mem_singleton.mp mt]; decide +kernel)
