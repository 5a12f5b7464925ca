def c_m153 : SM := (((([], []), ([], ((k_pins 2, List.range 2), (2, ([(0, .inr (.inr (0, (25, true)))), (1, .inr (.inr (1, (39, true)))), (2, .inr (.inl ()))], []))))), [1, 2]), ([(25, 0), (25, 3), (26, 1001), (26, 1002), (27, 1001), (28, 1001), (1000, 1002)], [((([(2, ((-2147483648), 2147483647))], []), ([], ((k_pins 2, List.range 2), (3, ([], [.inl ([(2, 1)], 0)]))))), [1, 2])]))
-- by hand: PastHeaps$Shares.heaviest
theorem c_v153 : V_ok c_sp c_CC c_PT 153 c_m153 := V_of (fun ρ K KA lv h hC hS hT => by
  obtain ⟨ht, σ, α, w1, w2, w3, w4, w5, w6, -⟩ := hS
  obtain ⟨e0, hm⟩ := hv_ref w6 (o := 0) (R := 25) (List.mem_of_getElem? (i := 0) rfl)
  obtain ⟨e1, hnd⟩ := hv_ref w6 (o := 1) (R := 39) (List.mem_of_getElem? (i := 1) rfl)
  obtain ⟨p, e2⟩ := hv_lng w6 (k := 2) (List.mem_of_getElem? (i := 2) rfl)
  refine c_heaviest (MX.start (W := [(28, 1001)]) ht hm) e0 e1 e2 hnd (fun h' V' M' => c_PTx 1 ρ ρ [(28, 1001)] h h' ht M'.1.2.2.fq (by decide +kernel) (hT 1 (by decide))) (by decide +kernel) (fun x h' V' M' => ⟨M'.1.2.2.mono (by decide +kernel), _, List.mem_singleton.mpr rfl, ⟨M'.1.1, s_up σ 2 x.toInt, α, fun q hq => ?_, fun e he => (by cases he), fun q hq => (by cases hq), hv_K w4 (fun k hk => if_neg (by omega)), w5, fun q hq => (by cases hq), ⟨⟨x, rfl, ?_⟩, trivial⟩⟩, fun t mt => ?_⟩)
  · rw [List.mem_singleton.mp hq]
    exact g_iT x
  · show x.toInt = 1 * x.toInt + 0 + 0
    omega
  · refine c_PTx t ρ ρ [(28, 1001)] h h' ht M'.1.2.2.fq ?_ (hT t mt)
    rcases List.mem_cons.mp mt with e | mt
    · rw [e]; decide +kernel
    · rw [List.mem_singleton.mp mt]; decide +kernel)
def c_m157 : SM := (((([], []), ([], ((k_pins 2, List.range 2), (2, ([(0, .inr (.inr (0, (25, true)))), (1, .inr (.inr (1, (39, true)))), (2, .inr (.inl ()))], []))))), [1, 2]), ([(25, 0), (25, 3), (26, 1001), (26, 1002), (27, 1001), (28, 1001), (1000, 1002)], [((([], []), ([], ((k_pins 2, List.range 2), (2, ([], [.inr (.inl ())]))))), [1, 2])]))
-- by hand: PastHeaps$Shares.fewestKeeping
theorem c_v157 : V_ok c_sp c_CC c_PT 157 c_m157 := V_of2 (fun ρ K KA lv h hC hS hT => by
  obtain ⟨ht, σ, α, w1, w2, w3, w4, w5, w6, -⟩ := hS
  obtain ⟨e0, hm⟩ := hv_ref w6 (o := 0) (R := 25) (List.mem_of_getElem? (i := 0) rfl)
  obtain ⟨e1, hnd⟩ := hv_ref w6 (o := 1) (R := 39) (List.mem_of_getElem? (i := 1) rfl)
  obtain ⟨p, e2⟩ := hv_lng w6 (k := 2) (List.mem_of_getElem? (i := 2) rfl)
  refine c_fewK ht hm hnd (hT 1 (by decide)) (hT 2 (by decide)) e0 e1 e2 (fun ρ' h1 h' y f fs ht' n1 n2 => ⟨ρ', (f.mono (by decide +kernel)).trans (fs.fq.mono (by decide +kernel)), _, List.mem_singleton.mpr rfl, ⟨ht', σ, α, fun q hq => (by cases hq), fun e he => (by cases he), fun q hq => (by cases hq), w4, w5, fun q hq => (by cases hq), ⟨⟨y, rfl⟩, trivial⟩⟩, fun t mt => ?_⟩)
  rcases List.mem_cons.mp mt with e | mt
  · rw [e]; exact n1
  · rw [List.mem_singleton.mp mt]; exact n2)
def c_m163 : SM := (((([(2, ((-2147483648), 2147483647))], []), ([], ((k_pins 3, List.range 3), (3, ([(0, .inr (.inr (0, (25, true)))), (1, .inr (.inr (1, (39, true)))), (2, .inr (.inl ())), (4, .inl ([(2, 1)], 0))], []))))), [1, 2]), ([(25, 0), (25, 3), (26, 1001), (26, 1002), (27, 1001), (28, 1001), (1000, 1002)], [((([], []), ([], ((k_pins 3, List.range 3), (3, ([], [.inr (.inl ())]))))), [1, 2])]))
-- by hand: PastHeaps$Shares.fewestGiving
theorem c_v163 : V_ok c_sp c_CC c_PT 163 c_m163 := V_of2 (fun ρ K KA lv h hC hS hT => by
  obtain ⟨ht, σ, α, w1, w2, w3, w4, w5, w6, -⟩ := hS
  obtain ⟨e0, hm⟩ := hv_ref w6 (o := 0) (R := 25) (List.mem_of_getElem? (i := 0) rfl)
  obtain ⟨e1, hnd⟩ := hv_ref w6 (o := 1) (R := 39) (List.mem_of_getElem? (i := 1) rfl)
  obtain ⟨p, e2⟩ := hv_lng w6 (k := 2) (List.mem_of_getElem? (i := 2) rfl)
  obtain ⟨x4, e4, q4⟩ := hv_int w6 (k := 4) (n := 2) (List.mem_of_getElem? (i := 3) rfl)
  refine c_fewG ht hm hnd (hT 1 (by decide)) (hT 2 (by decide)) e0 e1 e2 e4 (fun ρ' h1 h' y f fs ht' n1 n2 => ⟨ρ', (f.mono (by decide +kernel)).trans (fs.fq.mono (by decide +kernel)), _, List.mem_singleton.mpr rfl, ⟨ht', σ, α, fun q hq => (by cases hq), fun e he => (by cases he), fun q hq => (by cases hq), w4, w5, fun q hq => (by cases hq), ⟨⟨y, rfl⟩, trivial⟩⟩, fun t mt => ?_⟩)
  rcases List.mem_cons.mp mt with e | mt
  · rw [e]; exact n1
  · rw [List.mem_singleton.mp mt]; exact n2)
