-- ONE TABLE MORE: choose, the fewest
def dp_t : List (Nat × Nat) := [(0, 1001), (0, 1002), (6, 0), (6, 1), (6, 2), (6, 7), (6, 1002), (25, 1002), (9, 1001), (8, 1001), (29, 0), (47, 0), (39, 1), (48, 1), (39, 1002), (48, 1002)]
theorem rm_rD {D : List (Nat × Nat)} {ρ ρ' : Nat → Nat} {W : List (Nat × Nat)} {h h' : MH} {b k R : Nat} (f : FQ ρ ρ' W h h') (hD : (0, 1001) ∈ D) (hn : d_no D W = true) (hb : b < 16 + h_n h) (hR : (R, k) ∈ D) (hk : k ≠ 1002) (hρ : ρ b = R ∨ ρ b = 0) : h_r h' b k = h_r h b k := by
  have hw : ¬ t_W W (ρ b) k := by
    rcases hρ with e | e
    · rw [e]
      exact d_noW hn hR hk
    · rw [e]
      intro z
      rcases d_noE (R := 0) (k := k) hn hD with y | y
      · exact y z
      · exact hk y
  exact ((f.2.2.2 b hb).2 k hw).2.2
theorem rm_eD {D : List (Nat × Nat)} {ρ ρ' : Nat → Nat} {W : List (Nat × Nat)} {h h' : MH} {b k R : Nat} (f : FQ ρ ρ' W h h') (hD : (0, 1001) ∈ D) (hn : d_no D W = true) (hb : b < 16 + h_n h) (hR : (R, 1001) ∈ D) (hk : k < 1000) (hρ : ρ b = R ∨ ρ b = 0) : h_r h' b k = h_r h b k := by
  have hw : ¬ t_W W (ρ b) k := by
    rcases hρ with e | e
    · rw [e]
      rcases d_noE (k := k) hn hR with y | y
      · exact y
      · omega
    · rw [e]
      rcases d_noE (R := 0) (k := k) hn hD with y | y
      · exact y
      · omega
  exact ((f.2.2.2 b hb).2 k hw).2.2
theorem rm_tab {ρ ρ' : Nat → Nat} {W : List (Nat × Nat)} {h h' : MH} (ht : TH c_sp ρ h) (f : FQ ρ ρ' W h h') (hn : d_no dp_t W = true) {n : Nat} (en : h_n h' = h_n h + 1) (ez : h_z h' = h_z h + 2 ^ n) (e5 : h_r h' (r_S h) 0 < 16 + h_n h') (eT : r_T h' = 2 ^ n) (t0 : 0 < r_T h) (t1 : r_T h < 2 ^ n) (k : t_rm ρ h) : t_rm ρ' h' := by
  obtain ⟨⟨a1, a2, a3, a4, a5⟩, b, c, d, e⟩ := k
  have eP : r_P h' = r_P h := rm_rD f (by decide) hn a1.1 (R := 6) (by decide) (by decide) a1.2
  have eI : r_I h' = r_I h := rm_rD f (by decide) hn a1.1 (R := 6) (by decide) (by decide) a1.2
  have eS : r_S h' = r_S h := rm_rD f (by decide) hn a1.1 (R := 6) (by decide) (by decide) a1.2
  have esl : ∀ k, k < 4 → r_sl h' k = r_sl h k := fun k hk => by
    unfold r_sl
    rw [eP]
    exact rm_eD f (by decide) hn a2.1 (R := 9) (by decide) (by omega) a2.2
  have eim : ∀ k, k < 4 → r_im h' k = r_im h k := fun k hk => by
    unfold r_im
    rw [eI]
    exact rm_eD f (by decide) hn a3.1 (R := 8) (by decide) (by omega) a3.2
  have eno : ∀ k, k < 4 → r_sl h k ≠ 0 → r_no h' k = r_no h k := fun k hk hs => by
    rcases b k hk with z | ⟨z1, z2, z3⟩
    · exact absurd z hs
    · unfold r_no
      rw [esl k hk]
      rcases z1.2 with q | q | q
      · exact rm_rD f (by decide) hn z1.1 (R := 29) (by decide) (by decide) (Or.inl q)
      · exact rm_rD f (by decide) hn z1.1 (R := 47) (by decide) (by decide) (Or.inl q)
      · exact rm_rD f (by decide) hn z1.1 (R := 29) (by decide) (by decide) (Or.inr q)
  have eho : ∀ k, k < 4 → r_sl h k ≠ 0 → r_ho h' k = r_ho h k ∧ r_L h' k = r_L h k := fun k hk hs => by
    rcases b k hk with z | ⟨z1, z2, z3⟩
    · exact absurd z hs
    · have e1 : r_ho h' k = r_ho h k := by
        unfold r_ho
        rw [eno k hk hs]
        rcases z2.2 with q | q | q
        · exact rm_rD f (by decide) hn z2.1 (R := 39) (by decide) (by decide) (Or.inl q)
        · exact rm_rD f (by decide) hn z2.1 (R := 48) (by decide) (by decide) (Or.inl q)
        · exact rm_rD f (by decide) hn z2.1 (R := 39) (by decide) (by decide) (Or.inr q)
      refine ⟨e1, ?_⟩
      unfold r_L
      rw [e1, (f.2.2.2 _ z3).1]
  have epn : ∀ k, k < 4 → r_pn h' k = r_pn h k ∧ r_pz h' k = r_pz h k := fun k hk => by
    unfold r_pn r_pz
    rw [esl k hk]
    by_cases hs : r_sl h k = 0
    · rw [if_pos hs, if_pos hs, if_pos hs, if_pos hs]
      exact ⟨rfl, rfl⟩
    · rw [if_neg hs, if_neg hs, if_neg hs, if_neg hs, (eho k hk hs).2]
      exact ⟨rfl, rfl⟩
  have eqn : ∀ k, k < 4 → r_qn h' k = r_qn h k ∧ r_qz h' k = r_qz h k := fun k hk => by
    unfold r_qn r_qz
    rw [eim k hk]
    exact ⟨rfl, rfl⟩
  have hin : ∀ {a R : Nat}, r_iu ρ h a R → r_iu ρ' h' a R := fun {a R} q => ⟨by have := q.1; omega, by rw [f.same q.1]; exact q.2⟩
  have hin2 : ∀ {a R R2 : Nat}, r_iu2 ρ h a R R2 → r_iu2 ρ' h' a R R2 := fun {a R R2} q => ⟨by have := q.1; omega, by rw [f.same q.1]; exact q.2⟩
  refine ⟨⟨hin a1, by rw [eP]; exact hin a2, by rw [eI]; exact hin a3, by rw [eS]; exact hin a4, by rw [eS]; exact e5, fun a ha => a5.2.1 a (fq_m f ht hn (by decide) (show (6, 1002) ∈ dp_t by decide) ha).1, fun a ha => by rw [eS]; exact a5.2.2 a (fq_m f ht hn (by decide) (show (25, 1002) ∈ dp_t by decide) ha).1⟩, fun k hk => ?_, fun a ha => ?_, ?_, ?_⟩
  · by_cases hs : r_sl h k = 0
    · exact Or.inl ((esl k hk).trans hs)
    · rcases b k hk with z | ⟨z1, z2, z3⟩
      · exact absurd z hs
      · refine Or.inr ⟨by rw [esl k hk]; exact hin2 z1, by rw [eno k hk hs]; exact hin2 z2, ?_⟩
        rw [(eho k hk hs).1]
        omega
  · have ha2 : ρ a = 39 ∨ ρ a = 48 := by
      rcases ha with q | q
      · exact Or.inl (fq_m f ht hn (by decide) (show (39, 1002) ∈ dp_t by decide) q).1
      · exact Or.inr (fq_m f ht hn (by decide) (show (48, 1002) ∈ dp_t by decide) q).1
    obtain ⟨k, hk, hs, e9⟩ := c a ha2
    exact ⟨k, hk, by rw [esl k hk]; exact hs, by rw [eno k hk hs]; exact e9⟩
  · rw [en, (epn 0 (by decide)).1, (epn 1 (by decide)).1, (epn 2 (by decide)).1, (epn 3 (by decide)).1, (eqn 0 (by decide)).1, (eqn 1 (by decide)).1, (eqn 2 (by decide)).1, eT]
    omega
  · rw [ez, (epn 0 (by decide)).2, (epn 1 (by decide)).2, (epn 2 (by decide)).2, (epn 3 (by decide)).2, (eqn 0 (by decide)).2, (eqn 1 (by decide)).2, (eqn 2 (by decide)).2, eT]
    have key : r_tz (r_T h) + 2 ^ n ≤ r_tz (2 ^ n) := by
      unfold r_tz
      have l1 : Nat.log2 (r_T h) < n := (Nat.log2_lt (by omega)).mpr t1
      have l2 : 2 ^ (Nat.log2 (r_T h) + 1) ≤ 2 ^ n := Nat.pow_le_pow_right (by decide) l1
      have l3 : 2 ^ Nat.log2 (2 ^ n) = 2 ^ n := by rw [Nat.log2_two_pow]
      rw [Nat.pow_succ] at l2
      omega
    omega
-- from contracts to summaries, where things are made
theorem V_of2 {j : Nat} {sm : SM} (H : ∀ (ρ : Nat → Nat) (K : List Int) (KA : List Nat) (lv : List (Nat × Value)) (h : MH), CCok c_CC ρ → TS c_sp ρ K KA sm.1.1 lv [] h → (∀ t ∈ sm.1.2, c_PT t ρ h) → HJ j 0 lv [] h (fun v h' => ∃ ρ', FQ ρ ρ' sm.2.1 h h' ∧ ∃ P ∈ sm.2.2, TS c_sp ρ' K KA P.1 [] v.toList h' ∧ ∀ t ∈ P.2, c_PT t ρ' h')) : V_ok c_sp c_CC c_PT j sm := fun ρ K KA lv h hC hS hT => by
  obtain ⟨v, h', ⟨n, g1⟩, ρ', f, P, mP, t, T⟩ := H ρ K KA lv h hC hS hT
  exact ⟨n, v, h', ρ', g1, f, P, mP, t, T⟩
-- a row that is made
def nw_b (ft : FT) : Bool := match ft with
  | .inl p => decide (p.1 ≤ 0 ∧ 0 ≤ p.2)
  | .inr (.inl _) => true
  | .inr (.inr q) => !q.2
section
variable {ρ : Nat → Nat} {h : MH}
theorem th_fr {sp : List RS} (ht : TH sp ρ h) {a : Nat} (ha : 16 + h_n h ≤ a) : ρ a = 0 := by
  by_cases e : ρ a = 0
  · exact e
  · have := (ht.2 a e).1
    omega
theorem nw_k {k len sz a : Nat} (ha : a ≠ 16 + h_n h) : h_k (h_new h k len sz) a = h_k h a := m_uN _ _ _ _ ha
theorem nw_i {k len sz a : Nat} (ha : a ≠ 16 + h_n h) (j : Nat) : h_i (h_new h k len sz) a j = h_i h a j := congrFun (m_uN h.2.2.1 (16 + h.1.1) (fun _ => 0) a ha) j
theorem nw_l {k len sz a : Nat} (ha : a ≠ 16 + h_n h) (j : Nat) : h_l (h_new h k len sz) a j = h_l h a j := congrFun (m_uN h.2.2.2.1 (16 + h.1.1) (fun _ => 0) a ha) j
theorem nw_r {k len sz a : Nat} (ha : a ≠ 16 + h_n h) (j : Nat) : h_r (h_new h k len sz) a j = h_r h a j := congrFun (m_uN h.2.2.2.2 (16 + h.1.1) (fun _ => 0) a ha) j
theorem fq_new {R k len sz : Nat} (ht : TH c_sp ρ h) : FQ ρ (m_u ρ (16 + h_n h) R) [(R, 1002), (1000, 1002)] h (h_new h k len sz) := by
  refine ⟨⟨?_, fun z => absurd (List.mem_cons_of_mem _ List.mem_cons_self) z⟩, fun a ha => ?_, fun a h0 h1 => ?_, fun a ha => ⟨nw_k (by omega), fun j _ => ⟨nw_i (by omega) j, nw_l (by omega) j, nw_r (by omega) j⟩⟩⟩
  · show h_n h ≤ h_n h + 1
    omega
  · exact m_uN _ _ _ _ (fun e => ha (th_fr ht (by omega)))
  · by_cases e : a = 16 + h_n h
    · rw [e, m_uE]
      exact ⟨Nat.le_refl _, List.mem_cons_self⟩
    · rw [m_uN _ _ _ _ e] at h1
      exact absurd h0 h1
theorem th_new {R len sz : Nat} {rs : RS} (ht : TH c_sp ρ h) (hR : R ≠ 0) (hs : c_sp[R]? = some rs) (hl : rs.1.2.1 ≤ len ∧ len ≤ rs.1.2.2) (hz : rs.2.2.2.all nw_b = true) : TH c_sp (m_u ρ (16 + h_n h) R) (h_new h rs.1.1 len sz) := by
  refine ⟨by rw [m_uN _ _ _ _ (by omega)]; exact ht.1, fun a ha => ?_⟩
  by_cases e : a = 16 + h_n h
  · refine ⟨by show a < 16 + (h_n h + 1); omega, rs, by rw [e, m_uE]; exact hs, ?_⟩
    rw [e]
    refine ⟨by rw [z_newk], by rw [z_newk]; exact hl, fun _ => by omega, fun k ft hk _ => ?_⟩
    have hmem : ft ∈ rs.2.2.2 := by
      unfold r_ft at hk
      split at hk
      · exact List.mem_of_getElem? hk
      · exact List.mem_of_getElem? hk
    have hb := List.all_eq_true.mp hz ft hmem
    match ft, hb with
    | .inl p, hb =>
      have hb := of_decide_eq_true hb
      show p.1 ≤ (h_i (h_new h rs.1.1 len sz) (16 + h_n h) k).toInt ∧ _ ≤ p.2
      rw [z_newi]
      exact hb
    | .inr (.inl _), _ => trivial
    | .inr (.inr q), hb =>
      refine Or.inl ⟨?_, ?_⟩
      · rw [z_newr]
      · have hb : (!q.2) = true := hb
        cases hq : q.2 with
        | false => rfl
        | true => rw [hq] at hb; cases hb
  · rw [m_uN _ _ _ _ e] at ha ⊢
    obtain ⟨l, rs2, s2, c1, c2, c3, c4⟩ := ht.2 a ha
    refine ⟨by show a < 16 + (h_n h + 1); omega, rs2, s2, by rw [nw_k e]; exact c1, by rw [nw_k e]; exact c2, c3, fun k ft hk hb => ?_⟩
    have := c4 k ft hk (fun z => by have := hb z; rw [nw_k e] at this; exact this)
    match ft, this with
    | .inl p, this =>
      show p.1 ≤ (h_i (h_new h rs.1.1 len sz) a k).toInt ∧ (h_i (h_new h rs.1.1 len sz) a k).toInt ≤ p.2
      rw [nw_i e]
      exact this
    | .inr (.inl _), _ => trivial
    | .inr (.inr q), this =>
      show t_rf _ q.1 q.2 (h_r (h_new h rs.1.1 len sz) a k)
      rw [nw_r e]
      exact x_rf (fq_new (k := rs.1.1) (len := len) (sz := sz) ht) this
end
section
variable {i pc pc' : Nat} {lv : List (Nat × Value)} {st : List Value} {h : MH} {Q : Option Value → MH → Prop}
theorem hI_newa {t : ArrayType} {n : Int32} (a : m_at i pc = some (.newarray t, 2)) (hk : m_ak t ≠ 0) (h0 : 0 ≤ n.toInt) (h1 : n.toInt ≤ 1000000) (hp : pc + 2 = pc') (g : HJ i pc' lv (.ref (16 + h_n h) :: st) (h_new h (m_ak t) n.toInt.toNat n.toInt.toNat) Q) : HJ i pc lv (.int n :: st) h Q := by
  subst hp
  refine HJ.ex a (Or.inl rfl) ?_ g
  show e_newa t pc lv (.int n :: st) h = _
  unfold e_newa
  dsimp only
  have hn : ¬ n < 0 := fun z => by
    have := Int32.lt_iff_toInt_lt.mp z
    have h00 : (0 : Int32).toInt = 0 := rfl
    omega
  rw [if_pos ⟨hk, hn, by show n.toInt.toNat ≤ 1000000; omega⟩]
  rfl
theorem hN_pr {idx nest c k o x : Nat} (a : m_at i pc = some (.putfield idx, 3)) (hf : m_fl i idx = some (nest, c, k)) (hk : (h_k h o).1 = c + 1) (hc : c < 10 ∧ k < m_nf c ∧ (m_ty c k).1 = 2 ∧ ((m_ty c k).2 = true → nest = 0 ∧ m_kind i = 2 ∧ m_ownL.getD i 0 = m_ow i ∧ m_cnm c = (m_m i).2.1.cls)) (hp : pc + 3 = pc') (g : HJ i pc' lv st (h_sr h o k x) Q) : HJ i pc lv (.ref x :: .ref o :: st) h Q := by
  subst hp
  refine HJ.ex a (Or.inl rfl) ?_ g
  show e_put i idx pc lv (.ref x :: .ref o :: st) h = _
  unfold e_put
  rw [hf]
  dsimp only
  rw [if_pos ⟨hk, hc⟩]
  rfl
end
