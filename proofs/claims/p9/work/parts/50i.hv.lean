-- FROM CONTRACTS IN WHOLE NUMBERS TO SUMMARIES
theorem V_of {j : Nat} {sm : SM} (H : ∀ (ρ : Nat → Nat) (K : List Int) (KA : List Nat) (lv : List (Nat × Value)) (h : MH), CCok c_CC ρ → TS c_sp ρ K KA sm.1.1 lv [] h → (∀ t ∈ sm.1.2, c_PT t ρ h) → HJ j 0 lv [] h (fun v h' => FS ρ sm.2.1 h h' ∧ ∃ P ∈ sm.2.2, TS c_sp ρ K KA P.1 [] v.toList h' ∧ ∀ t ∈ P.2, c_PT t ρ h')) : V_ok c_sp c_CC c_PT j sm := fun ρ K KA lv h hC hS hT => by
  obtain ⟨v, h', ⟨n, g1⟩, f, P, mP, t, T⟩ := H ρ K KA lv h hC hS hT
  exact ⟨n, v, h', ρ, g1, f.fq, P, mP, t, T⟩
section
variable {σ : Nat → Int} {α ρ : Nat → Nat} {h : MH} {lv : List (Nat × Value)}
theorem hv_ref {L : List (Nat × AT)} (w6 : t_lv σ α ρ L lv) {k o R : Nat} (hm : (k, (.inr (.inr (o, (R, true))) : AT)) ∈ L) : m_lk lv k = some (.ref (α o)) ∧ ρ (α o) = R := by
  obtain ⟨x, h1, h2, h3⟩ := w6 _ hm
  rw [h2] at h1
  exact ⟨h1, (t_nn h3).2⟩
theorem hv_int {L : List (Nat × AT)} (w6 : t_lv σ α ρ L lv) {k n : Nat} (hm : (k, (.inl (le_s n) : AT)) ∈ L) : ∃ x : Int32, m_lk lv k = some (.int x) ∧ x.toInt = σ n := by
  obtain ⟨v, h1, x, h2, h3⟩ := w6 _ hm
  rw [h2] at h1
  exact ⟨x, h1, by rw [h3, le_sE]⟩
theorem hv_lng {L : List (Nat × AT)} (w6 : t_lv σ α ρ L lv) {k : Nat} (hm : (k, (.inr (.inl ()) : AT)) ∈ L) : ∃ x : Int64, m_lk lv k = some (.long x) := by
  obtain ⟨v, h1, x, h2⟩ := w6 _ hm
  rw [h2] at h1
  exact ⟨x, h1⟩
theorem hv_K {np : Nat} {σ' : Nat → Int} {K : List Int} (w4 : (k_pins np).map (le_ev σ) = K) (hs : ∀ k, k < np → σ' k = σ k) : (k_pins np).map (le_ev σ') = K := by
  rw [← w4]
  unfold k_pins
  rw [List.map_map, List.map_map]
  refine List.map_congr_left (fun k hk => ?_)
  show le_ev σ' (le_s k) = le_ev σ (le_s k)
  rw [le_sE, le_sE]
  exact hs k (List.mem_range.mp hk)
end
section
variable {R : Nat} {W : List (Nat × Nat)} {ρ : Nat → Nat} {m : Nat} {A : Nat → Nat} {h0 h : MH} {F : Nat → Int} {V : Nat → Nat → Int} {G : Nat → Nat → Int64}
theorem MX.v (M : MX R W ρ m A h0 h F V G) {K : Nat} (hK : rg_a R K ≠ 0) : (fun j => (h_i h (h_r h m K) j).toInt) = V K := funext (fun j => by rw [(M.2.2 K hK).1, ((M.2.2 K hK).2 j).1])
-- tokens, of what stands
theorem hv_3 (M : MX 49 W ρ m A h0 h F V G) (um : t_um ρ) (sh : p_sh (F 17) (V 22) (V 23)) : c_PT 3 ρ h := ⟨um, fun m' hm' => by
  rw [um m' m hm' M.1.2.1, show v_n h m = F 17 from M.2.1 17, show v_rk h m = V 22 from M.v (by decide +kernel), show v_bl h m = V 23 from M.v (by decide +kernel)]
  exact sh⟩
theorem hv_4 (M : MX 49 W ρ m A h0 h F V G) (um : t_um ρ) (hp : p_hp (F 17) (V 22) (V 24)) : c_PT 4 ρ h := ⟨um, fun m' hm' => by
  rw [um m' m hm' M.1.2.1, show v_n h m = F 17 from M.2.1 17, show v_rk h m = V 22 from M.v (by decide +kernel), show v_hp h m = V 24 from M.v (by decide +kernel)]
  exact hp⟩
theorem hv_6 (M : MX 49 W ρ m A h0 h F V G) (um : t_um ρ) (ro : p_ro (F 17) (F 35) (V 22) (V 36)) : c_PT 6 ρ h := ⟨um, fun m' hm' => by
  rw [um m' m hm' M.1.2.1, show v_n h m = F 17 from M.2.1 17, show v_vs h m = F 35 from M.2.1 35, show v_rk h m = V 22 from M.v (by decide +kernel), show v_ro h m = V 36 from M.v (by decide +kernel)]
  exact ro⟩
theorem hv_8 (M : MX 49 W ρ m A h0 h F V G) (um : t_um ρ) (p : V 39 0 = -1 ∧ V 40 0 = -1) : c_PT 8 ρ h := ⟨um, fun m' hm' => by
  rw [um m' m hm' M.1.2.1, show v_pa h m = V 39 from M.v (by decide +kernel), show v_pb h m = V 40 from M.v (by decide +kernel)]
  exact p⟩
theorem hv_9 (M : MX 49 W ρ m A h0 h F V G) (um : t_um ρ) (X : w_X (F 17) (V 22) (V 27) (V 29) (V 28) (F 26).toNat) : c_PT 9 ρ h := ⟨um, fun m' hm' => by
  rw [um m' m hm' M.1.2.1, show v_n h m = F 17 from M.2.1 17, show v_wd h m = F 26 from M.2.1 26, show v_rk h m = V 22 from M.v (by decide +kernel), show v_at h m = V 27 from M.v (by decide +kernel), show v_up h m = V 29 from M.v (by decide +kernel), show v_dp h m = V 28 from M.v (by decide +kernel)]
  exact X⟩
theorem hv_346 (M : MX 49 W ρ m A h0 h F V G) (um : t_um ρ) (sh : p_sh (F 17) (V 22) (V 23)) (hp : p_hp (F 17) (V 22) (V 24)) (ro : p_ro (F 17) (F 35) (V 22) (V 36)) : ∀ t ∈ [3, 4, 6], c_PT t ρ h := by
  intro t mt
  rcases List.mem_cons.mp mt with e | mt
  · rw [e]
    exact hv_3 M um sh
  · rcases List.mem_cons.mp mt with e | mt
    · rw [e]
      exact hv_4 M um hp
    · rw [List.mem_singleton.mp mt]
      exact hv_6 M um ro
-- an act's answer and the nodes
theorem hv_pA {np nn : Nat} {k : Int} {σ : Nat → Int} {α : Nat → Nat} {K : List Int} {KA : List Nat} {x : Int32} (M : MX 49 W ρ (α 0) A h0 h F V G) (h0n : nn < np) (w4 : (k_pins np).map (le_ev σ) = K) (w5 : (List.range np).map α = KA) (x0 : 0 ≤ x.toInt) (x1 : x.toInt ≤ 1) (n0 : σ nn ≤ F 17) (n1 : F 17 ≤ σ nn + k) : TS c_sp ρ K KA (([(np, (0, 1)), (np + 1, (0, 16000))], [([(nn, (-1)), (np + 1, 1)], (-k)), ([(nn, 1), (np + 1, (-1))], 0)]), ([((0, (49, 17)), .inl ([(np + 1, 1)], 0))], ((k_pins np, List.range np), (np + 2, ([], [.inl ([(np, 1)], 0)]))))) [] [.int x] h := by
  have nb := M.fi (by decide) (k := 17) (lo := 0) (hi := 16000) rfl rfl rfl
  have s1 : s_up (s_up σ np x.toInt) (np + 1) (F 17) np = x.toInt := by
    unfold s_up
    rw [if_neg (by omega), if_pos rfl]
  have s2 : s_up (s_up σ np x.toInt) (np + 1) (F 17) (np + 1) = F 17 := if_pos rfl
  have s3 : ∀ q, q < np → s_up (s_up σ np x.toInt) (np + 1) (F 17) q = σ q := fun q hq => by
    unfold s_up
    rw [if_neg (by omega), if_neg (by omega)]
  have nm : ρ (α 0) = 49 := M.1.2.1
  refine ⟨M.1.1, s_up (s_up σ np x.toInt) (np + 1) (F 17), α, fun q hq => ?_, fun e he => ?_, fun q hq => ?_, hv_K w4 s3, w5, fun q hq => (by cases hq), ⟨⟨x, rfl, ?_⟩, trivial⟩⟩
  · rcases List.mem_cons.mp hq with e | hq
    · rw [e]
      show 0 ≤ s_up _ _ _ np ∧ s_up _ _ _ np ≤ 1
      rw [s1]
      exact ⟨x0, x1⟩
    · rw [List.mem_singleton.mp hq]
      show 0 ≤ s_up _ _ _ (np + 1) ∧ s_up _ _ _ (np + 1) ≤ 16000
      rw [s2]
      exact nb
  · rcases List.mem_cons.mp he with e9 | he
    · rw [e9]
      show -1 * s_up _ _ _ nn + (1 * s_up _ _ _ (np + 1) + 0) + -k ≤ 0
      rw [s2, s3 nn h0n]
      omega
    · rw [List.mem_singleton.mp he]
      show 1 * s_up _ _ _ nn + (-1 * s_up _ _ _ (np + 1) + 0) + 0 ≤ 0
      rw [s2, s3 nn h0n]
      omega
  · rw [List.mem_singleton.mp hq]
    refine ⟨⟨fun z => ?_, nm⟩, ?_⟩
    · have := M.1.1.1
      rw [show α 0 = 0 from z, this] at nm
      cases nm
    · show (h_i h (α 0) 17).toInt = 1 * s_up _ _ _ (np + 1) + 0 + 0
      rw [s2, M.2.1 17]
      omega
  · show x.toInt = 1 * s_up _ _ _ np + 0 + 0
    rw [s1]
    omega
theorem hv_ro {F0 : Nat → Int} {V0 : Nat → Nat → Int} {k : Int} (I : g_ex F0 V0 F V k) (ro : p_ro (F0 17) (F0 35) (V0 22) (V0 36)) : p_ro (F 17) (F 35) (V 22) (V 36) := by
  obtain ⟨-, ⟨j3, -⟩, j5, j6, j7⟩ := I
  rw [j5 35 (by decide) (by decide) (by decide) (by decide), j7 36 (by decide)]
  exact p_roU j3 j6 ro
end
