-- THE END: the law's run, its answer, its room
theorem rm_len {ρ : Nat → Nat} {h : MH} {a R : Nat} {rs : RS} (ht : TH c_sp ρ h) (hR : R ≠ 0) (hsp : c_sp[R]? = some rs) (ha : ρ a = R) : (h_k h a).2 ≤ rs.1.2.2 ∧ rs.1.2.1 ≤ (h_k h a).2 := ⟨(t_spec ht hR hsp ha).2.1.2, (t_spec ht hR hsp ha).2.1.1⟩
theorem rm_room {ρ : Nat → Nat} {h : MH} (ht : TH c_sp ρ h) (h16 : ρ 16 = 6) (k : t_rm ρ h) : h_n h ≤ 600000 ∧ h_z h ≤ 7302250 := by
  obtain ⟨-, -, -, d, e⟩ := k
  have fP : ρ (r_P h) = 9 := (th_rf ht (R := 6) (by decide) rfl h16 (k := 2) rfl (fun z => by cases z)).2
  have fS : ρ (r_S h) = 25 := (th_rf ht (R := 6) (by decide) rfl h16 (k := 7) rfl (fun z => by cases z)).2
  have fT := (th_rf ht (R := 25) (by decide) rfl fS (k := 0) rfl (fun z => by cases z)).2
  have lT : r_T h ≤ 4096 := (rm_len ht (R := 26) (by decide) rfl fT).1
  have lP := rm_len ht (R := 9) (by decide) rfl fP
  have lZ : r_tz (r_T h) ≤ 8192 := by
    unfold r_tz
    by_cases h0 : r_T h = 0
    · rw [h0]
      decide
    · have := Nat.log2_self_le h0
      omega
  have hL : ∀ k, k < 4 → r_sl h k ≠ 0 → r_L h k ≤ 32000 := fun k hk hs => by
    have hrf := (t_spec ht (R := 9) (by decide) rfl fP).2.2.2 k (Sum.inr (Sum.inr (29, false))) rfl (fun _ => Nat.lt_of_lt_of_le hk lP.2)
    rcases (hrf : t_rf ρ 29 false (r_sl h k)) with q | ⟨-, -, q⟩
    · exact absurd q.1 hs
    · have fN := (th_rf ht (R := 29) (by decide) rfl q (k := 0) rfl (fun z => by cases z)).2
      have fH := (th_rf ht (R := 39) (by decide) rfl fN (k := 1) rfl (fun z => by cases z)).2
      exact (rm_len ht (R := 41) (by decide) rfl fH).1
  have hp : ∀ k, k < 4 → r_pn h k ≤ 32100 ∧ r_pz h k ≤ 516000 := fun k hk => by
    unfold r_pn r_pz
    by_cases hs : r_sl h k = 0
    · rw [if_pos hs, if_pos hs]
      omega
    · rw [if_neg hs, if_neg hs]
      have := hL k hk hs
      omega
  have hq : ∀ k, r_qn h k ≤ 20 ∧ r_qz h k ≤ 1400 := fun k => by
    unfold r_qn r_qz
    by_cases hs : r_im h k = 0
    · rw [if_pos hs, if_pos hs]
      omega
    · rw [if_neg hs, if_neg hs]
      omega
  have p0 := hp 0 (by decide)
  have p1 := hp 1 (by decide)
  have p2 := hp 2 (by decide)
  have p3 := hp 3 (by decide)
  have q0 := hq 0
  have q1 := hq 1
  have q2 := hq 2
  omega
theorem c_end (L : Nat) (hL : L ≤ 448) (xs : Nat → Int32) : ∃ (n : Nat) (h' : MH), m_rn n 0 0 [(0, .ref 14)] [] (m_h0 L xs) = some (some (.int 1), h') ∧ h_n h' ≤ 600000 ∧ h_z h' ≤ 7302250 := by
  obtain ⟨lv, h, k1, hlv, ht, hC, t1, t2, t7, t10, -, t12, t13, t14, t15⟩ := hs_st L hL xs
  subst hlv
  obtain ⟨σ, hσ⟩ : ∃ σ : Nat → Int, σ = fun _ => 0 := ⟨_, rfl⟩
  obtain ⟨α, hα⟩ : ∃ α : Nat → Nat, α = fun k => if k = 0 then 14 else if k = 1 then 16 else 61 := ⟨_, rfl⟩
  have hTS : TS c_sp c_r0 ((k_pins 3).map (le_ev σ)) ((List.range 3).map α) c_m0.1.1 [(2, .ref 61), (1, .ref 16), (0, .ref 14)] [] h := by
    refine ⟨ht, σ, α, ?_, ?_, ?_, rfl, rfl, ?_, trivial⟩
    · intro q hq
      cases hq
    · intro q hq
      cases hq
    · intro q hq
      cases hq
    · intro q hq
      have hq : q ∈ [((0 : Nat), (Sum.inr (Sum.inr (0, (5, true))) : AT)), (1, Sum.inr (Sum.inr (1, (6, true)))), (2, Sum.inr (Sum.inr (2, (49, true))))] := hq
      rcases List.mem_cons.mp hq with e | hq
      · rw [e]
        exact ⟨.ref 14, rfl, by rw [hα]; rfl, Or.inr ⟨by rw [hα]; decide, by decide, by rw [hα]; rfl⟩⟩
      · rcases List.mem_cons.mp hq with e | hq
        · rw [e]
          exact ⟨.ref 16, rfl, by rw [hα]; rfl, Or.inr ⟨by rw [hα]; decide, by decide, by rw [hα]; rfl⟩⟩
        · rcases List.mem_cons.mp hq with e | hq
          · rw [e]
            exact ⟨.ref 61, rfl, by rw [hα]; rfl, Or.inr ⟨by rw [hα]; decide, by decide, by rw [hα]; rfl⟩⟩
          · cases hq
  obtain ⟨n, v, h', ρ', r1, f, P, mP, tP, tk⟩ := c_law c_r0 _ _ _ h hC hTS (fun t mt => by
    exact t_7 t1 t2 t7 t10 t12 t13 t14 t15 t mt)
  have eP := List.mem_singleton.mp mP
  subst eP
  obtain ⟨ht', σ', α', u1, u2, u3, u4, u5, u6, u7⟩ := tP
  have hv : v = some (.int 1) := by
    cases v with
    | none => exact u7.elim
    | some x =>
      obtain ⟨⟨y, e1, e2⟩, -⟩ := u7
      have e2 : y.toInt = 0 + 1 := e2
      have : y = 1 := Int32.toInt_inj.mp (by rw [e2]; decide)
      rw [e1, this]
  subst hv
  obtain ⟨n2, r2⟩ := k1 _ ⟨n, r1⟩
  have h16 : ρ' 16 = 6 := (f.2.1 16 (by decide)).trans rfl
  exact ⟨n2, h', r2, rm_room ht' h16 (tk 2 (List.mem_singleton.mpr rfl))⟩
theorem whole_start {p : Program} {e : Env} {s : State} {m : MethodId} {below : List Frame} {meth : Method} {c : Code} (l : Launch) (hflags : l.flags = flags0) {b L : Nat} {xs : Nat → Int32} (hL : L ≤ 448) (C0 : lw_At p s m meth c b L xs) : W p l e room_1 s m #[Value.ref b] below meth c s.heap [] 0 0 (lw_Z below #[Value.ref b] s) (entryFrame m ([Value.ref b] : List Value).toArray 4) := m_law l hL C0 (c_end L hL xs)
