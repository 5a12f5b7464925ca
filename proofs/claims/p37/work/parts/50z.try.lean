def c_m41 : SM := (((([(1, (0, 3))], []), ([], ((k_pins 2, List.range 2), (2, ([(0, .inr (.inr (0, (6, true)))), (1, .inl ([(1, 1)], 0))], []))))), [1, 2]), ([(9, 1001), (16, 1002), (17, 1002), (18, 1002), (19, 1002), (20, 1002), (21, 1002), (22, 1002), (23, 1002), (24, 1002), (29, 1002), (30, 1002), (31, 1002), (32, 1002), (33, 1002), (34, 1002), (35, 1002), (36, 1002), (37, 1002), (38, 1002), (39, 1002), (40, 1002), (41, 1002), (42, 1002), (43, 1002), (44, 1002), (45, 1002), (46, 1002), (1000, 1002)], [((([], []), ([], ((k_pins 2, List.range 2), (3, ([], [.inr (.inr (2, (29, true)))]))))), [1, 2])]))
-- by hand: PastHeaps.pastFor
theorem c_v41 : V_ok c_sp c_CC c_PT 41 c_m41 := V_of2 (fun ρ K KA lv h hC hS hT => by
  obtain ⟨ht, σ, α, w1, w2, w3, w4, w5, w6, -⟩ := hS
  obtain ⟨e0, hm⟩ := hv_ref w6 (o := 0) (R := 6) (List.mem_of_getElem? (i := 0) rfl)
  obtain ⟨x1, e1, q1⟩ := hv_int w6 (k := 1) (n := 1) (List.mem_of_getElem? (i := 1) rfl)
  have b1 := w1 _ (List.mem_of_getElem? (i := 0) rfl)
  dsimp only at b1
  refine c_pastFor ht hm (hT 1 (by decide)) (hT 2 (by decide)) e0 e1 (by omega) (by omega) (fun ρ' h' p f ht' n1 n2 rp p0 => ⟨ρ', f.mono (by decide +kernel), _, List.mem_singleton.mpr rfl, ⟨ht', σ, fun k => if k = 2 then p else α k, fun q hq => (by cases hq), fun e he => (by cases he), fun q hq => (by cases hq), w4, w5, fun q hq => (by cases hq), ⟨⟨rfl, Or.inr ⟨p0, by decide, rp⟩⟩, trivial⟩⟩, fun t mt => ?_⟩)
  rcases List.mem_cons.mp mt with e | mt
  · rw [e]; exact n1
  · rw [List.mem_singleton.mp mt]; exact n2)
