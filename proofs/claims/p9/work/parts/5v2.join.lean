-- A PAST FOR A ROW, AND ITS RUN: summaries and what is told, in one
theorem c_pf {ρ : Nat → Nat} {h : MH} {Q : Option Value → MH → Prop} {x1 : Int32} {k : Nat} (hC : CCok c_CC ρ) (ht : TH c_sp ρ h) (h16 : ρ 16 = 6) (n1 : c_PT 1 ρ h) (n2 : c_PT 2 ρ h) (pl : pl_t h) (b0 : 0 ≤ x1.toInt) (b3 : x1.toInt ≤ 3) (ek : x1.toInt.toNat = k) (g : ∀ (ρ' : Nat → Nat) (h' : MH) (p : Nat), FQ ρ ρ' c_m41.2.1 h h' → TH c_sp ρ' h' → c_PT 1 ρ' h' → c_PT 2 ρ' h' → ρ' p = 29 → (p ≠ 0 ∧ r_sl h' k = p) → pl_t h' → (∀ j, j ≠ k → r_sl h' j = r_sl h j) → (∀ s, s < 4 → sk h h' s) → Q (some (.ref p)) h') : HJ 41 0 (lv_args 0 [.ref 16, .int x1]) [] h Q := by
  subst ek
  refine HJ.both (r_pastFor ht h16 b0 b3 (Q := fun v h' => ∃ p, v = some (.ref p) ∧ pf_E h x1.toInt.toNat p h') (fun h' p E => ⟨p, rfl, E⟩)) (c_k41 (Q := fun v h' => ∃ ρ' p, v = some (.ref p) ∧ FQ ρ ρ' c_m41.2.1 h h' ∧ TH c_sp ρ' h' ∧ t_rf ρ' 29 true p ∧ c_PT 1 ρ' h' ∧ c_PT 2 ρ' h') hC ht rfl rfl h16 ⟨b0, b3⟩ n1 n2 (fun ρ' h' p f t r m1 m2 => ⟨ρ', p, rfl, f, t, r, m1, m2⟩)) (fun v h' ⟨p, ev, E⟩ ⟨ρ', p2, e2, f, t, r, m1, m2⟩ => ?_)
  subst ev
  cases e2
  obtain ⟨P1, P2, P3, P4⟩ := pf_pl ht h16 (by omega) pl E
  exact g ρ' h' p f t m1 m2 (t_nn r).2 P1 P2 P3 P4
theorem c_ruN {ρ : Nat → Nat} {h : MH} {Q : Option Value → MH → Prop} {p k c : Nat} (hC : CCok c_CC ρ) (ht : TH c_sp ρ h) (h16 : ρ 16 = 6) (n1 : c_PT 1 ρ h) (n2 : c_PT 2 ρ h) (pl : pl_t h) (hk : k < 4) (ep : p ≠ 0 ∧ r_sl h k = p) (hc : ρ c = 12) (av : av_c h c) (g : ∀ (ρ' : Nat → Nat) (h' : MH), FQ ρ ρ' c_m45.2.1 h h' → TH c_sp ρ' h' → c_PT 1 ρ' h' → c_PT 2 ρ' h' → pl_t h' → (∀ j, r_sl h' j = r_sl h j) → (∀ s, s < 4 → s ≠ k → sk h h' s) → bk_0 h' p (ac_Y h c) → Q none h') : HJ 45 0 (lv_args 0 [.ref p, .ref c]) [] h Q := by
  obtain ⟨p0, ep⟩ := ep
  subst ep
  have hp := sl_ob ht h16 hk p0
  obtain ⟨ao, q0, q40⟩ := ac_okTN ht hp hc
  have n40 : ac_N h c ≤ 40 := by
    unfold ac_N
    omega
  refine HJ.both (k_runAll (pa_okT ht n1 hp (pl k hk p0).1) ao (ac_ofT q0) n40 (fun q hq => av q (by unfold ac_N at hq; omega)) (Q := fun v h' => v = none ∧ (pk_of h' (r_sl h k) (ac_Y h c) ∧ hd_0 h' (r_sl h k) (ac_Y h c)) ∧ FW (h_r h (r_sl h k) 0) (run_Y h (r_sl h k)) h h') (fun h' _ _ _ _ pk F hd => ⟨rfl, ⟨pk, hd⟩, F⟩)) (c_k45 (Q := fun v h' => ∃ ρ', FQ ρ ρ' c_m45.2.1 h h' ∧ TH c_sp ρ' h' ∧ c_PT 1 ρ' h' ∧ c_PT 2 ρ' h') hC ht rfl rfl hp hc n1 n2 (fun ρ' h' f t m1 m2 => ⟨ρ', f, t, m1, m2⟩)) (fun v h' ⟨ev, pk, F⟩ ⟨ρ', f, t, m1, m2⟩ => ?_)
  subst ev
  obtain ⟨P1, P2, P3⟩ := run_pl ht h16 pl hk p0 (F.mono (fun a z => Or.inl z))
  exact g ρ' h' f t m1 m2 P1 P2 (fun s hs hn s0 => ⟨P2 s, P3 s hs hn s0⟩) (bk_pk pk.1 pk.2)
theorem c_ruT {ρ : Nat → Nat} {h : MH} {Q : Option Value → MH → Prop} {p k c : Nat} (hC : CCok c_CC ρ) (ht : TH c_sp ρ h) (h16 : ρ 16 = 6) (n1 : c_PT 1 ρ h) (n2 : c_PT 2 ρ h) (pl : pl_t h) (hk : k < 4) (ep : p ≠ 0 ∧ r_sl h k = p) (hc : ρ c = 103) (av : av_c h c) (g : ∀ (ρ' : Nat → Nat) (h' : MH), FQ ρ ρ' c_m3045.2.1 h h' → TH c_sp ρ' h' → c_PT 1 ρ' h' → c_PT 2 ρ' h' → pl_t h' → (∀ j, r_sl h' j = r_sl h j) → (∀ s, s < 4 → s ≠ k → sk h h' s) → bk_0 h' p (ac_Y h c) → Q none h') : HJ 45 0 (lv_args 0 [.ref p, .ref c]) [] h Q := by
  obtain ⟨p0, ep⟩ := ep
  subst ep
  have hp := sl_ob ht h16 hk p0
  obtain ⟨ao, q0, q40⟩ := ac_okTT ht hp hc
  have n40 : ac_N h c ≤ 40 := by
    unfold ac_N
    omega
  refine HJ.both (k_runAll (pa_okT ht n1 hp (pl k hk p0).1) ao (ac_ofT q0) n40 (fun q hq => av q (by unfold ac_N at hq; omega)) (Q := fun v h' => v = none ∧ (pk_of h' (r_sl h k) (ac_Y h c) ∧ hd_0 h' (r_sl h k) (ac_Y h c)) ∧ FW (h_r h (r_sl h k) 0) (run_Y h (r_sl h k)) h h') (fun h' _ _ _ _ pk F hd => ⟨rfl, ⟨pk, hd⟩, F⟩)) (c_k3045 (Q := fun v h' => ∃ ρ', FQ ρ ρ' c_m3045.2.1 h h' ∧ TH c_sp ρ' h' ∧ c_PT 1 ρ' h' ∧ c_PT 2 ρ' h') hC ht rfl rfl hp hc n1 n2 (fun ρ' h' f t m1 m2 => ⟨ρ', f, t, m1, m2⟩)) (fun v h' ⟨ev, pk, F⟩ ⟨ρ', f, t, m1, m2⟩ => ?_)
  subst ev
  obtain ⟨P1, P2, P3⟩ := run_pl ht h16 pl hk p0 (F.mono (fun a z => Or.inl z))
  exact g ρ' h' f t m1 m2 P1 P2 (fun s hs hn s0 => ⟨P2 s, P3 s hs hn s0⟩) (bk_pk pk.1 pk.2)
