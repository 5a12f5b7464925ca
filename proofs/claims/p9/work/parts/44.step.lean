-- more fuel, the same end
theorem m_up : ∀ (n i pc : Nat) (lv : List (Nat × Value)) (st : List Value) (h : MH) (r : Option Value × MH), m_rn n i pc lv st h = some r → m_rn (n + 1) i pc lv st h = some r
  | 0, _, _, _, _, _, _, e => by cases e
  | n + 1, i, pc, lv, st, h, r, e => by
    rw [m_rn] at e
    rw [m_rn]
    generalize m_st i pc lv st h = R at e ⊢
    match R, e with
    | some (.inl (pc', lv', st', h')), e => exact m_up n i pc' lv' st' h' r e
    | some (.inr (.inl q)), e => exact e
    | some (.inr (.inr (j, as, rr, pc'))), e =>
      dsimp only at e ⊢
      split at e
      · next hc =>
        rw [if_pos hc]
        cases h1 : m_rn n j 0 (lv_args 0 as) [] h with
        | none => rw [h1] at e; cases e
        | some q =>
          rw [h1] at e
          rw [m_up n j 0 _ _ _ q h1]
          exact m_up n i pc' lv _ _ r e
      · cases e
    | none, e => cases e
theorem m_upk (k : Nat) {n i pc : Nat} {lv : List (Nat × Value)} {st : List Value} {h : MH} {r : Option Value × MH} (e : m_rn n i pc lv st h = some r) : m_rn (n + k) i pc lv st h = some r := by
  induction k with
  | zero => exact e
  | succ k ih => exact m_up _ _ _ _ _ _ _ ih
-- it ends, with r
def Rq (i pc : Nat) (lv : List (Nat × Value)) (st : List Value) (h : MH) (r : Option Value × MH) : Prop := ∃ n, m_rn n i pc lv st h = some r
theorem Rq.step {i pc : Nat} {lv : List (Nat × Value)} {st : List Value} {h : MH} {r : Option Value × MH} {pc' : Nat} {lv' : List (Nat × Value)} {st' : List Value} {h' : MH} (e : m_st i pc lv st h = some (.inl (pc', lv', st', h'))) (g : Rq i pc' lv' st' h' r) : Rq i pc lv st h r := by
  obtain ⟨n, hn⟩ := g
  refine ⟨n + 1, ?_⟩
  rw [m_rn, e]
  exact hn
theorem Rq.ret {i pc : Nat} {lv : List (Nat × Value)} {st : List Value} {h : MH} {r : Option Value × MH} (e : m_st i pc lv st h = some (.inr (.inl r))) : Rq i pc lv st h r := by
  refine ⟨1, ?_⟩
  rw [m_rn, e]
theorem Rq.call {i pc : Nat} {lv : List (Nat × Value)} {st : List Value} {h : MH} {r : Option Value × MH} {j : Nat} {as rr : List Value} {pc' : Nat} {v : Option Value} {h' : MH} (e : m_st i pc lv st h = some (.inr (.inr (j, as, rr, pc')))) (hc : m_cat as ≤ m_lc j) (g1 : Rq j 0 (lv_args 0 as) [] h (v, h')) (g2 : Rq i pc' lv (v.toList ++ rr) h' r) : Rq i pc lv st h r := by
  obtain ⟨n1, h1⟩ := g1
  obtain ⟨n2, h2⟩ := g2
  refine ⟨n1 + n2 + 1, ?_⟩
  rw [m_rn, e]
  dsimp only
  rw [if_pos hc, m_upk n2 h1]
  have := m_upk n1 h2
  rw [Nat.add_comm] at this
  exact this
-- tokens
def d_kill (dep : Nat → List (Nat × Nat)) (W : List (Nat × Nat)) (T : List Nat) : List Nat := T.filter (fun t => d_no (dep t) W)
def d_has (T U : List Nat) : Bool := T.all (fun t => U.contains t)
def k_do (sp : List RS) (dep : Nat → List (Nat × Nat)) (m : SM) (W : List (Nat × Nat)) (as r : List AT) (pc : Nat) (S : AST) (T : List Nat) : Option (List (Nat × (AST × List Nat))) := match r_al sp 0 (a_ca m.1.1) S (b_lv 0 (w_fs S (a_args 0 as) []) (a_lv m.1.1) ([], [])) with
  | none => none
  | some (S1, b) => if (u_ok (b_tz b) (b_pz b) m.1.1 (w_fs S1 (a_args 0 as) []) && (decide (a_kp m.1.1 = k_pins (a_nx m.1.1)) && decide (a_ko m.1.1 = List.range (a_nx m.1.1)))) && ((xg_S (a_nx S1) (w_fs S1 (a_lv S1) r) && (List.range (a_nx m.1.1)).all (fun k => xg_l (a_nx S1) (b_tz b k).1 && Nat.blt (b_pz b k) (a_nx S1))) && ((d_has m.1.2 T && d_sub m.2.1 W) && m.2.2.all (fun P => k_pk (a_nx m.1.1) P.1))) then some (m.2.2.filterMap (fun P => match k_ps S1 r m.2.1 (a_nx m.1.1) b P.1 with
      | some S2 => some (pc + 3, (S2, d_kill dep m.2.1 T ++ P.2))
      | none => none)) else none
def j_cl (sp : List RS) (dep : Nat → List (Nat × Nat)) (env : List (Nat × SM)) (alt : List (Nat × Nat)) (W : List (Nat × Nat)) (kd i idx pc : Nat) (S : AST) (T : List Nat) : Option (List (Nat × (AST × List Nat))) := match m_ml i idx with
  | none => none
  | some (_, j) => if k_ok kd i j = true then (match m_lk env (match m_lk alt pc with
      | some x => x
      | none => j) with
    | some m => (match k_sp sp kd j (a_st S) with
      | some (as, r) => if (as.map a_cat).sum ≤ m_lc j ∧ (match m_lk alt pc with
          | some x => x
          | none => j) % 1000 = j then k_do sp dep m W as r pc S T else none
      | none => none)
    | none => none) else none
-- one step: plain or a call
def j_wr (i : Nat) (ins : Instr) (S : AST) : List (Nat × Nat) := match ins with
  | .putfield idx => (match a_st S, m_fl i idx with
    | _ :: .inr (.inr q) :: _, some (_, _, k) => [(q.2.1, k)]
    | _, _ => [])
  | .iastore => (match a_st S with
    | _ :: _ :: .inr (.inr q) :: _ => [(q.2.1, 1001)]
    | _ => [])
  | .bastore => (match a_st S with
    | _ :: _ :: .inr (.inr q) :: _ => [(q.2.1, 1001)]
    | _ => [])
  | .lastore => (match a_st S with
    | _ :: _ :: .inr (.inr q) :: _ => [(q.2.1, 1001)]
    | _ => [])
  | .aastore => (match a_st S with
    | _ :: _ :: .inr (.inr q) :: _ => [(q.2.1, 1001)]
    | _ => [])
  | .invokestatic _ => (match a_st S with
    | _ :: _ :: .inr (.inr q) :: .inl _ :: .inr (.inr _) :: _ => [(q.2.1, 1001)]
    | _ => [])
  | _ => []
-- GHOSTS: what tokens say of a state's own words; KEEPERS: tokens that a store leaves true
abbrev KR : Type := (AST × List Nat) × List Nat
abbrev GK : Type := List (Nat × SM) × List (Nat × KR)
def G_ok (sp : List RS) (CC : Nat × (Nat × Nat)) (PT : Nat → (Nat → Nat) → MH → Prop) (g : SM) : Prop := ∀ (ρ : Nat → Nat) (K : List Int) (KA : List Nat) (lv : List (Nat × Value)) (h : MH), CCok CC ρ → TS sp ρ K KA g.1.1 lv [] h → (∀ t ∈ g.1.2, PT t ρ h) → ∃ P ∈ g.2.2, TS sp ρ K KA P.1 [] [] h ∧ ∀ t ∈ P.2, PT t ρ h
def K_ok (sp : List RS) (CC : Nat × (Nat × Nat)) (PT : Nat → (Nat → Nat) → MH → Prop) (i pc : Nat) (k : KR) : Prop := ∀ (ρ : Nat → Nat) (K : List Int) (KA : List Nat) (lv : List (Nat × Value)) (st : List Value) (h : MH) (pc' : Nat) (lv' : List (Nat × Value)) (st' : List Value) (h' : MH), CCok CC ρ → TS sp ρ K KA k.1.1 lv st h → (∀ t ∈ k.1.2, PT t ρ h) → m_st i pc lv st h = some (.inl (pc', lv', st', h')) → ∀ t ∈ k.2, PT t ρ h'
def GKok (sp : List RS) (CC : Nat × (Nat × Nat)) (PT : Nat → (Nat → Nat) → MH → Prop) (i : Nat) (gk : GK) : Prop := (∀ pc g, m_lk gk.1 pc = some g → G_ok sp CC PT g) ∧ ∀ pc k, m_lk gk.2 pc = some k → K_ok sp CC PT i pc k
def d_gh (sp : List RS) (g : SM) (S : AST) (T : List Nat) : Option (List (AST × List Nat)) := match r_al sp 0 (a_ca g.1.1) S (b_lv 0 S (a_lv g.1.1) ([], [])) with
  | none => none
  | some (S1, b) => if (u_ok (b_tz b) (b_pz b) g.1.1 (w_fs S1 (a_lv S1) []) && (decide (a_kp g.1.1 = k_pins (a_nx g.1.1)) && decide (a_ko g.1.1 = List.range (a_nx g.1.1)))) && ((xg_S (a_nx S1) (w_fs S1 (a_lv S1) (a_st S1)) && (List.range (a_nx g.1.1)).all (fun k => xg_l (a_nx S1) (b_tz b k).1 && Nat.blt (b_pz b k) (a_nx S1))) && (d_has g.1.2 T && g.2.2.all (fun P => k_pk (a_nx g.1.1) P.1))) then some (g.2.2.filterMap (fun P => match k_ps S1 (a_st S1) [] (a_nx g.1.1) b P.1 with
      | some S2 => some (S2, T ++ P.2)
      | none => none)) else none
def d_kr (k : KR) (S : AST) (T : List Nat) : List Nat := if u_ok (b_th (b_al 0 k.1.1 S)) (b_ph (b_al 0 k.1.1 S)) k.1.1 S = true ∧ d_has k.1.2 T = true then k.2 else []
def d_kp (kr : List (Nat × KR)) (pc : Nat) (S : AST) (T : List Nat) : List Nat := match m_lk kr pc with
  | some k => d_kr k S T
  | none => []
def d_pl (sp : List RS) (CC : Nat × (Nat × Nat)) (dep : Nat → List (Nat × Nat)) (kr : List (Nat × KR)) (W : List (Nat × Nat)) (i pc : Nat) (ins : Instr) (S : AST) (T : List Nat) : Option (List (Nat × (AST × List Nat))) := match j_ex sp (j_wr i ins S) CC i pc ins S with
  | some L => if d_sub (j_wr i ins S) W = true then some (L.map (fun q => (q.1, (q.2, d_kill dep (j_wr i ins S) T ++ d_kp kr pc S T)))) else none
  | none => none
-- a step that writes nothing
def d_ps (R : Option (List AO)) (T : List Nat) : Option (List (Nat × (AST × List Nat))) := match R with
  | some L => some (L.map (fun q => (q.1, (q.2, T))))
  | none => none
def d_st (sp : List RS) (CC : Nat × (Nat × Nat)) (dep : Nat → List (Nat × Nat)) (kr : List (Nat × KR)) (env : List (Nat × SM)) (alt : List (Nat × Nat)) (W : List (Nat × Nat)) (i pc : Nat) (ins : Instr) (S : AST) (T : List Nat) : Option (List (Nat × (AST × List Nat))) := match ins with
  | .invokestatic idx => (match j_cl sp dep env alt W 0 i idx pc S T with
    | some L => some L
    | none => d_pl sp CC dep kr W i pc ins S T)
  | .invokevirtual idx => j_cl sp dep env alt W 1 i idx pc S T
  | .invokespecial idx => j_cl sp dep env alt W 2 i idx pc S T
  | .iaload => (match m_lk alt pc with
    | some _ => d_ps (j_sali sp 20 20 pc S) T
    | none => d_pl sp CC dep kr W i pc ins S T)
  | .baload => (match m_lk alt pc with
    | some _ => d_ps (j_sali sp 21 22 pc S) T
    | none => d_pl sp CC dep kr W i pc ins S T)
  | .aaload => (match m_lk alt pc with
    | some _ => d_ps (j_sala sp pc S) T
    | none => d_pl sp CC dep kr W i pc ins S T)
  | _ => d_pl sp CC dep kr W i pc ins S T
def PTx (sp : List RS) (dep : Nat → List (Nat × Nat)) (PT : Nat → (Nat → Nat) → MH → Prop) : Prop := ∀ (t : Nat) (ρ ρ' : Nat → Nat) (W : List (Nat × Nat)) (h h' : MH), TH sp ρ h → FQ ρ ρ' W h h' → d_no (dep t) W = true → PT t ρ h → PT t ρ' h'
def ENV (sp : List RS) (CC : Nat × (Nat × Nat)) (PT : Nat → (Nat → Nat) → MH → Prop) (env : List (Nat × SM)) : Prop := ∀ id m, m_lk env id = some m → V_ok sp CC PT (id % 1000) m
section
variable {sp : List RS} {CC : Nat × (Nat × Nat)} {dep : Nat → List (Nat × Nat)} {kr : List (Nat × KR)} {PT : Nat → (Nat → Nat) → MH → Prop} {env : List (Nat × SM)} {alt : List (Nat × Nat)} {ρ : Nat → Nat} {W : List (Nat × Nat)} {K : List Int} {KA : List Nat} {S : AST} {T : List Nat} {lv' : List (Nat × Value)} {st' : List Value} {h : MH} {pc : Nat} {σ : Nat → Int} {α : Nat → Nat}
def NX (sp : List RS) (PT : Nat → (Nat → Nat) → MH → Prop) (W : List (Nat × Nat)) (K : List Int) (KA : List Nat) (i pc : Nat) (lv : List (Nat × Value)) (st : List Value) (h : MH) (ρ : Nat → Nat) (L : List (Nat × (AST × List Nat))) : Prop := ∃ x ∈ L, ∃ (lv1 : List (Nat × Value)) (st1 : List Value) (h1 : MH) (ρ1 : Nat → Nat), (∀ r, Rq i x.1 lv1 st1 h1 r → Rq i pc lv st h r) ∧ FQ ρ ρ1 W h h1 ∧ TS sp ρ1 K KA x.2.1 lv1 st1 h1 ∧ ∀ t ∈ x.2.2, PT t ρ1 h1
theorem d_killS {ρ' : Nat → Nat} {h' : MH} (hPT : PTx sp dep PT) (ht : TH sp ρ h) (f : FQ ρ ρ' W h h') (hT : ∀ t ∈ T, PT t ρ h) : ∀ t ∈ d_kill dep W T, PT t ρ' h' := fun t m => by
  obtain ⟨m1, m2⟩ := List.mem_filter.mp m
  exact hPT t ρ ρ' W h h' ht f m2 (hT t m1)
theorem d_plS {i : Nat} {ins : Instr} {L : List (Nat × (AST × List Nat))} (hkr : ∀ pc k, m_lk kr pc = some k → K_ok sp CC PT i pc k) (hPT : PTx sp dep PT) (hC : CCok CC ρ) (hlen : ∀ (R : Nat) (rs : RS), sp[R]? = some rs → rs.1.2.2 < 1000 ∨ ¬ (30 ≤ rs.1.1 ∧ rs.1.1 < 33)) (hst : m_st i pc lv' st' h = m_ex i pc ins lv' st' h) (ht : TH sp ρ h) (hw : TW ρ K KA S lv' st' h σ α) (hT : ∀ t ∈ T, PT t ρ h) (e : d_pl sp CC dep kr W i pc ins S T = some L) : NX sp PT W K KA i pc lv' st' h ρ L := by
  unfold d_pl at e
  split at e
  · next L0 h0 =>
    split at e
    · next hs =>
      cases e
      obtain ⟨pc1, lv1, st1, h1, e1, f, S1, m1, t1⟩ := q_ex (W := j_wr i ins S) CC i ins hC.1 hC.2.1 hC.2.2 hlen ht hw L0 h0
      have f1 := FQ.ofFR f
      refine ⟨(pc1, (S1, d_kill dep (j_wr i ins S) T ++ d_kp kr pc S T)), List.mem_map.mpr ⟨_, m1, rfl⟩, lv1, st1, h1, ρ, fun r g => Rq.step (hst.trans e1) g, FQ.mono hs f1, t1, fun t mt => ?_⟩
      rcases List.mem_append.mp mt with mt | mt
      · exact d_killS hPT ht f1 hT t mt
      · unfold d_kp at mt
        split at mt
        · next k hk =>
          unfold d_kr at mt
          split at mt
          · next hc =>
            exact hkr pc k hk ρ _ _ lv' st' h pc1 lv1 st1 h1 hC ⟨ht, _, _, u_okS hw hc.1⟩ (fun t m => hT t (List.contains_iff_mem.mp (List.all_eq_true.mp hc.2 t m))) (hst.trans e1) t mt
          · cases mt
        · cases mt
    · cases e
  · cases e
theorem d_psS {i : Nat} {R : Option (List AO)} {R' : Option MA} {L : List (Nat × (AST × List Nat))} (hst : m_st i pc lv' st' h = R') (hPT : PTx sp dep PT) (ht : TH sp ρ h) (hP : T_P sp ρ [] K KA R h R') (hT : ∀ t ∈ T, PT t ρ h) (e : d_ps R T = some L) : NX sp PT W K KA i pc lv' st' h ρ L := by
  unfold d_ps at e
  split at e
  · next L0 =>
    cases e
    obtain ⟨pc1, lv1, st1, h1, e1, f, S1, m1, t1⟩ := hP L0 rfl
    have f1 := FQ.ofFR f
    refine ⟨(pc1, (S1, T)), List.mem_map.mpr ⟨_, m1, rfl⟩, lv1, st1, h1, ρ, fun r g => Rq.step (hst.trans e1) g, FQ.mono rfl f1, t1, fun t mt => ?_⟩
    refine hPT t ρ ρ [] h h1 ht f1 ?_ (hT t mt)
    exact List.all_eq_true.mpr (fun d _ => rfl)
  · cases e
theorem j_clS {kd i idx : Nat} {L : List (Nat × (AST × List Nat))} (hPT : PTx sp dep PT) (henv : ENV sp CC PT env) (hC : CCok CC ρ) (hst : m_st i pc lv' st' h = e_call kd i idx pc lv' st' h) (ht : TH sp ρ h) (hw : TW ρ K KA S lv' st' h σ α) (hT : ∀ t ∈ T, PT t ρ h) (e : j_cl sp dep env alt W kd i idx pc S T = some L) : NX sp PT W K KA i pc lv' st' h ρ L := by
  unfold j_cl at e
  split at e
  · cases e
  · next nest j hm =>
    split at e
    · next hk =>
      generalize (match m_lk alt pc with
        | some x => x
        | none => j) = id at e
      split at e
      · next m hme =>
        split at e
        · next as r hsp =>
          split at e
          · next hc =>
            have hV := henv id m hme
            rw [hc.2] at hV
            unfold k_do at e
            split at e
            · cases e
            · next S1 b hal =>
              split at e
              · next hall =>
                rw [Bool.and_eq_true, Bool.and_eq_true, Bool.and_eq_true, Bool.and_eq_true, Bool.and_eq_true, Bool.and_eq_true, Bool.and_eq_true] at hall
                obtain ⟨⟨c1, c2, c3⟩, ⟨c4, c5⟩, ⟨c6, c7⟩, c8⟩ := hall
                cases e
                obtain ⟨⟨σ1, α1, hw1⟩, es, el, -, -⟩ := r_alS _ ht _ _ _ _ _ ⟨σ, α, hw⟩ hal
                rw [← es] at hsp
                obtain ⟨as', r', g1, g2, g3⟩ := k_spS (pc := pc) hm hk ht hw1 hsp
                have hwc : TW ρ K KA (w_fs S1 (a_args 0 as) []) (lv_args 0 as') [] h σ1 α1 := q_fs hw1 (a_argsS 0 g2) trivial
                have hu := u_okS hwc c1
                have hT1 : ∀ t ∈ m.1.2, PT t ρ h := fun t mt => hT t (List.contains_iff_mem.mp (List.all_eq_true.mp c6 t mt))
                obtain ⟨n, v, h', ρ', k1, k2, P, mP, k3, k4⟩ := hV ρ _ _ (lv_args 0 as') h hC ⟨ht, _, _, hu⟩ hT1
                rw [of_decide_eq_true c2, of_decide_eq_true c3] at k3
                have hwr : TW ρ K KA (w_fs S1 (a_lv S1) r) lv' r' h σ1 α1 := q_fs hw1 hw1.2.2.2.2.2.1 g3
                obtain ⟨S2, e2, t2⟩ := k_psS ht k2 k3.1 hwr c4 c5 (List.all_eq_true.mp c8 P mP) k3
                refine ⟨(pc + 3, (S2, d_kill dep m.2.1 T ++ P.2)), List.mem_filterMap.mpr ⟨P, mP, by rw [e2]⟩, lv', v.toList ++ r', h', ρ', fun rr g => Rq.call (hst.trans g1) (by rw [t_ct g2]; exact hc.1) ⟨n, k1⟩ g, FQ.mono c7 k2, t2, fun t mt => ?_⟩
                rcases List.mem_append.mp mt with mt | mt
                · exact d_killS hPT ht k2 hT t mt
                · exact k4 t mt
              · cases e
          · cases e
        · cases e
      · cases e
    · cases e
theorem d_stS {i : Nat} {ins : Instr} {L : List (Nat × (AST × List Nat))} (hkr : ∀ pc k, m_lk kr pc = some k → K_ok sp CC PT i pc k) (hPT : PTx sp dep PT) (henv : ENV sp CC PT env) (hC : CCok CC ρ) (hlen : ∀ (R : Nat) (rs : RS), sp[R]? = some rs → rs.1.2.2 < 1000 ∨ ¬ (30 ≤ rs.1.1 ∧ rs.1.1 < 33)) (hst : m_st i pc lv' st' h = m_ex i pc ins lv' st' h) (ht : TH sp ρ h) (hw : TW ρ K KA S lv' st' h σ α) (hT : ∀ t ∈ T, PT t ρ h) (e : d_st sp CC dep kr env alt W i pc ins S T = some L) : NX sp PT W K KA i pc lv' st' h ρ L := by
  unfold d_st at e
  split at e
  · next idx =>
    split at e
    · next L0 h0 =>
      cases e
      exact j_clS hPT henv hC hst ht hw hT h0
    · exact d_plS hkr hPT hC hlen hst ht hw hT e
  · next idx => exact j_clS hPT henv hC hst ht hw hT e
  · next idx => exact j_clS hPT henv hC hst ht hw hT e
  · split at e
    · exact d_psS hst hPT ht (q_sali 20 20 ht hw) hT e
    · exact d_plS hkr hPT hC hlen hst ht hw hT e
  · split at e
    · exact d_psS hst hPT ht (q_sali 21 22 ht hw) hT e
    · exact d_plS hkr hPT hC hlen hst ht hw hT e
  · split at e
    · exact d_psS hst hPT ht (q_sala ht hw) hT e
    · exact d_plS hkr hPT hC hlen hst ht hw hT e
  · exact d_plS hkr hPT hC hlen hst ht hw hT e
theorem d_ghS {g : SM} {L : List (AST × List Nat)} (hg : G_ok sp CC PT g) (hC : CCok CC ρ) (ht : TH sp ρ h) (hw : TW ρ K KA S lv' st' h σ α) (hT : ∀ t ∈ T, PT t ρ h) (e : d_gh sp g S T = some L) : ∃ x ∈ L, TS sp ρ K KA x.1 lv' st' h ∧ ∀ t ∈ x.2, PT t ρ h := by
  unfold d_gh at e
  split at e
  · cases e
  · next S1 b hal =>
    split at e
    · next hall =>
      rw [Bool.and_eq_true, Bool.and_eq_true, Bool.and_eq_true, Bool.and_eq_true, Bool.and_eq_true, Bool.and_eq_true] at hall
      obtain ⟨⟨c1, c2, c3⟩, ⟨c4, c5⟩, c6, c8⟩ := hall
      cases e
      obtain ⟨⟨σ1, α1, hw1⟩, es, el, -, -⟩ := r_alS _ ht _ _ _ _ _ ⟨σ, α, hw⟩ hal
      have hwc : TW ρ K KA (w_fs S1 (a_lv S1) []) lv' [] h σ1 α1 := q_fs hw1 hw1.2.2.2.2.2.1 trivial
      have hu := u_okS hwc c1
      obtain ⟨P, mP, k3, k4⟩ := hg ρ _ _ lv' h hC ⟨ht, _, _, hu⟩ (fun t mt => hT t (List.contains_iff_mem.mp (List.all_eq_true.mp c6 t mt)))
      rw [of_decide_eq_true c2, of_decide_eq_true c3] at k3
      have hwr : TW ρ K KA (w_fs S1 (a_lv S1) (a_st S1)) lv' st' h σ1 α1 := q_fs hw1 hw1.2.2.2.2.2.1 hw1.2.2.2.2.2.2
      obtain ⟨S2, e2, t2⟩ := k_psS (v := none) ht (FQ.refl ρ [] h) k3.1 hwr c4 c5 (List.all_eq_true.mp c8 P mP) k3
      refine ⟨(S2, T ++ P.2), List.mem_filterMap.mpr ⟨P, mP, by rw [e2]⟩, t2, fun t mt => ?_⟩
      rcases List.mem_append.mp mt with mt | mt
      · exact hT t mt
      · exact k4 t mt
    · cases e
end
