section
-- ONE TABLE MORE: choose, the fewest
def dp_t : List (Nat × Nat) := [(0, 1001), (0, 1002), (6, 0), (6, 1), (6, 2), (6, 7), (6, 1002), (25, 1002), (9, 1001), (8, 1001), (29, 0), (47, 0), (39, 1), (48, 1), (39, 1002), (48, 1002)]
theorem rm_rD {D : List (Nat × Nat)} {ρ ρ' : Nat → Nat} {W : List (Nat × Nat)} {h h' : MH} {b k R : Nat} (f : FQ ρ ρ' W h h') (hD : (0, 1001) ∈ D) (hn : d_no D W = true) (hb : b < 16 + h_n h) (hR : (R, k) ∈ D) (hk : k ≠ 1002) (hρ : ρ b = R ∨ ρ b = 0) : h_r h' b k = h_r h b k := by
  have hw : ¬ t_W W (ρ b) k := by
    rcases hρ with e | e
    · rw [e]
      exact d_noW hn hR hk
    · rw [e]
      intro z
      rcases d_noE (R := 0) (k := k) hn hD with y | y
      · exact y z
      · exact hk y
  exact ((f.2.2.2 b hb).2 k hw).2.2
theorem rm_eD {D : List (Nat × Nat)} {ρ ρ' : Nat → Nat} {W : List (Nat × Nat)} {h h' : MH} {b k R : Nat} (f : FQ ρ ρ' W h h') (hD : (0, 1001) ∈ D) (hn : d_no D W = true) (hb : b < 16 + h_n h) (hR : (R, 1001) ∈ D) (hk : k < 1000) (hρ : ρ b = R ∨ ρ b = 0) : h_r h' b k = h_r h b k := by
  have hw : ¬ t_W W (ρ b) k := by
    rcases hρ with e | e
    · rw [e]
      rcases d_noE (k := k) hn hR with y | y
      · exact y
      · omega
    · rw [e]
      rcases d_noE (R := 0) (k := k) hn hD with y | y
      · exact y
      · omega
  exact ((f.2.2.2 b hb).2 k hw).2.2
theorem rm_tab {ρ ρ' : Nat → Nat} {W : List (Nat × Nat)} {h h' : MH} (ht : TH c_sp ρ h) (f : FQ ρ ρ' W h h') (hn : d_no dp_t W = true) {n : Nat} (en : h_n h' = h_n h + 1) (ez : h_z h' = h_z h + 2 ^ n) (e5 : h_r h' (r_S h) 0 < 16 + h_n h') (eT : r_T h' = 2 ^ n) (t0 : 0 < r_T h) (t1 : r_T h < 2 ^ n) (k : t_rm ρ h) : t_rm ρ' h' := by
  obtain ⟨⟨a1, a2, a3, a4, a5⟩, b, c, d, e⟩ := k
  have eP : r_P h' = r_P h := rm_rD f (by decide) hn a1.1 (R := 6) (by decide) (by decide) a1.2
  have eI : r_I h' = r_I h := rm_rD f (by decide) hn a1.1 (R := 6) (by decide) (by decide) a1.2
  have eS : r_S h' = r_S h := rm_rD f (by decide) hn a1.1 (R := 6) (by decide) (by decide) a1.2
  have esl : ∀ k, k < 4 → r_sl h' k = r_sl h k := fun k hk => by
    unfold r_sl
    rw [eP]
    exact rm_eD f (by decide) hn a2.1 (R := 9) (by decide) (by omega) a2.2
  have eim : ∀ k, k < 4 → r_im h' k = r_im h k := fun k hk => by
    unfold r_im
    rw [eI]
    exact rm_eD f (by decide) hn a3.1 (R := 8) (by decide) (by omega) a3.2
  have eno : ∀ k, k < 4 → r_sl h k ≠ 0 → r_no h' k = r_no h k := fun k hk hs => by
    rcases b k hk with z | ⟨z1, z2, z3⟩
    · exact absurd z hs
    · unfold r_no
      rw [esl k hk]
      rcases z1.2 with q | q | q
      · exact rm_rD f (by decide) hn z1.1 (R := 29) (by decide) (by decide) (Or.inl q)
      · exact rm_rD f (by decide) hn z1.1 (R := 47) (by decide) (by decide) (Or.inl q)
      · exact rm_rD f (by decide) hn z1.1 (R := 29) (by decide) (by decide) (Or.inr q)
  have eho : ∀ k, k < 4 → r_sl h k ≠ 0 → r_ho h' k = r_ho h k ∧ r_L h' k = r_L h k := fun k hk hs => by
    rcases b k hk with z | ⟨z1, z2, z3⟩
    · exact absurd z hs
    · have e1 : r_ho h' k = r_ho h k := by
        unfold r_ho
        rw [eno k hk hs]
        rcases z2.2 with q | q | q
        · exact rm_rD f (by decide) hn z2.1 (R := 39) (by decide) (by decide) (Or.inl q)
        · exact rm_rD f (by decide) hn z2.1 (R := 48) (by decide) (by decide) (Or.inl q)
        · exact rm_rD f (by decide) hn z2.1 (R := 39) (by decide) (by decide) (Or.inr q)
      refine ⟨e1, ?_⟩
      unfold r_L
      rw [e1, (f.2.2.2 _ z3).1]
  have epn : ∀ k, k < 4 → r_pn h' k = r_pn h k ∧ r_pz h' k = r_pz h k := fun k hk => by
    unfold r_pn r_pz
    rw [esl k hk]
    by_cases hs : r_sl h k = 0
    · rw [if_pos hs, if_pos hs, if_pos hs, if_pos hs]
      exact ⟨rfl, rfl⟩
    · rw [if_neg hs, if_neg hs, if_neg hs, if_neg hs, (eho k hk hs).2]
      exact ⟨rfl, rfl⟩
  have eqn : ∀ k, k < 4 → r_qn h' k = r_qn h k ∧ r_qz h' k = r_qz h k := fun k hk => by
    unfold r_qn r_qz
    rw [eim k hk]
    exact ⟨rfl, rfl⟩
  have hin : ∀ {a R : Nat}, r_iu ρ h a R → r_iu ρ' h' a R := fun {a R} q => ⟨by have := q.1; omega, by rw [f.same q.1]; exact q.2⟩
  have hin2 : ∀ {a R R2 : Nat}, r_iu2 ρ h a R R2 → r_iu2 ρ' h' a R R2 := fun {a R R2} q => ⟨by have := q.1; omega, by rw [f.same q.1]; exact q.2⟩
  refine ⟨⟨hin a1, by rw [eP]; exact hin a2, by rw [eI]; exact hin a3, by rw [eS]; exact hin a4, by rw [eS]; exact e5, fun a ha => a5.2.1 a (fq_m f ht hn (by decide) (show (6, 1002) ∈ dp_t by decide) ha).1, fun a ha => by rw [eS]; exact a5.2.2 a (fq_m f ht hn (by decide) (show (25, 1002) ∈ dp_t by decide) ha).1⟩, fun k hk => ?_, fun a ha => ?_, ?_, ?_⟩
  · by_cases hs : r_sl h k = 0
    · exact Or.inl ((esl k hk).trans hs)
    · rcases b k hk with z | ⟨z1, z2, z3⟩
      · exact absurd z hs
      · refine Or.inr ⟨by rw [esl k hk]; exact hin2 z1, by rw [eno k hk hs]; exact hin2 z2, ?_⟩
        rw [(eho k hk hs).1]
        omega
  · have ha2 : ρ a = 39 ∨ ρ a = 48 := by
      rcases ha with q | q
      · exact Or.inl (fq_m f ht hn (by decide) (show (39, 1002) ∈ dp_t by decide) q).1
      · exact Or.inr (fq_m f ht hn (by decide) (show (48, 1002) ∈ dp_t by decide) q).1
    obtain ⟨k, hk, hs, e9⟩ := c a ha2
    exact ⟨k, hk, by rw [esl k hk]; exact hs, by rw [eno k hk hs]; exact e9⟩
  · rw [en, (epn 0 (by decide)).1, (epn 1 (by decide)).1, (epn 2 (by decide)).1, (epn 3 (by decide)).1, (eqn 0 (by decide)).1, (eqn 1 (by decide)).1, (eqn 2 (by decide)).1, eT]
    omega
  · rw [ez, (epn 0 (by decide)).2, (epn 1 (by decide)).2, (epn 2 (by decide)).2, (epn 3 (by decide)).2, (eqn 0 (by decide)).2, (eqn 1 (by decide)).2, (eqn 2 (by decide)).2, eT]
    have key : r_tz (r_T h) + 2 ^ n ≤ r_tz (2 ^ n) := by
      unfold r_tz
      have l1 : Nat.log2 (r_T h) < n := (Nat.log2_lt (by omega)).mpr t1
      have l2 : 2 ^ (Nat.log2 (r_T h) + 1) ≤ 2 ^ n := Nat.pow_le_pow_right (by decide) l1
      have l3 : 2 ^ Nat.log2 (2 ^ n) = 2 ^ n := by rw [Nat.log2_two_pow]
      rw [Nat.pow_succ] at l2
      omega
    omega
-- from contracts to summaries, where things are made
theorem V_of2 {j : Nat} {sm : SM} (H : ∀ (ρ : Nat → Nat) (K : List Int) (KA : List Nat) (lv : List (Nat × Value)) (h : MH), CCok c_CC ρ → TS c_sp ρ K KA sm.1.1 lv [] h → (∀ t ∈ sm.1.2, c_PT t ρ h) → HJ j 0 lv [] h (fun v h' => ∃ ρ', FQ ρ ρ' sm.2.1 h h' ∧ ∃ P ∈ sm.2.2, TS c_sp ρ' K KA P.1 [] v.toList h' ∧ ∀ t ∈ P.2, c_PT t ρ' h')) : V_ok c_sp c_CC c_PT j sm := fun ρ K KA lv h hC hS hT => by
  obtain ⟨v, h', ⟨n, g1⟩, ρ', f, P, mP, t, T⟩ := H ρ K KA lv h hC hS hT
  exact ⟨n, v, h', ρ', g1, f, P, mP, t, T⟩
-- a row that is made
def nw_b (ft : FT) : Bool := match ft with
  | .inl p => decide (p.1 ≤ 0 ∧ 0 ≤ p.2)
  | .inr (.inl _) => true
  | .inr (.inr q) => !q.2
section
variable {ρ : Nat → Nat} {h : MH}
theorem th_fr {sp : List RS} (ht : TH sp ρ h) {a : Nat} (ha : 16 + h_n h ≤ a) : ρ a = 0 := by
  by_cases e : ρ a = 0
  · exact e
  · have := (ht.2 a e).1
    omega
theorem nw_k {k len sz a : Nat} (ha : a ≠ 16 + h_n h) : h_k (h_new h k len sz) a = h_k h a := m_uN _ _ _ _ ha
theorem nw_i {k len sz a : Nat} (ha : a ≠ 16 + h_n h) (j : Nat) : h_i (h_new h k len sz) a j = h_i h a j := congrFun (m_uN h.2.2.1 (16 + h.1.1) (fun _ => 0) a ha) j
theorem nw_l {k len sz a : Nat} (ha : a ≠ 16 + h_n h) (j : Nat) : h_l (h_new h k len sz) a j = h_l h a j := congrFun (m_uN h.2.2.2.1 (16 + h.1.1) (fun _ => 0) a ha) j
theorem nw_r {k len sz a : Nat} (ha : a ≠ 16 + h_n h) (j : Nat) : h_r (h_new h k len sz) a j = h_r h a j := congrFun (m_uN h.2.2.2.2 (16 + h.1.1) (fun _ => 0) a ha) j
theorem fq_new {R k len sz : Nat} (ht : TH c_sp ρ h) : FQ ρ (m_u ρ (16 + h_n h) R) [(R, 1002), (1000, 1002)] h (h_new h k len sz) := by
  refine ⟨⟨?_, fun z => absurd (List.mem_cons_of_mem _ List.mem_cons_self) z⟩, fun a ha => ?_, fun a h0 h1 => ?_, fun a ha => ⟨nw_k (by omega), fun j _ => ⟨nw_i (by omega) j, nw_l (by omega) j, nw_r (by omega) j⟩⟩⟩
  · show h_n h ≤ h_n h + 1
    omega
  · exact m_uN _ _ _ _ (fun e => ha (th_fr ht (by omega)))
  · by_cases e : a = 16 + h_n h
    · rw [e, m_uE]
      exact ⟨Nat.le_refl _, List.mem_cons_self⟩
    · rw [m_uN _ _ _ _ e] at h1
      exact absurd h0 h1
theorem th_new {R len sz : Nat} {rs : RS} (ht : TH c_sp ρ h) (hR : R ≠ 0) (hs : c_sp[R]? = some rs) (hl : rs.1.2.1 ≤ len ∧ len ≤ rs.1.2.2) (hz : rs.2.2.2.all nw_b = true) : TH c_sp (m_u ρ (16 + h_n h) R) (h_new h rs.1.1 len sz) := by
  refine ⟨by rw [m_uN _ _ _ _ (by omega)]; exact ht.1, fun a ha => ?_⟩
  by_cases e : a = 16 + h_n h
  · refine ⟨by show a < 16 + (h_n h + 1); omega, rs, by rw [e, m_uE]; exact hs, ?_⟩
    rw [e]
    refine ⟨by rw [z_newk], by rw [z_newk]; exact hl, fun _ => by omega, fun k ft hk _ => ?_⟩
    have hmem : ft ∈ rs.2.2.2 := by
      unfold r_ft at hk
      split at hk
      · exact List.mem_of_getElem? hk
      · exact List.mem_of_getElem? hk
    have hb := List.all_eq_true.mp hz ft hmem
    match ft, hb with
    | .inl p, hb =>
      have hb := of_decide_eq_true hb
      show p.1 ≤ (h_i (h_new h rs.1.1 len sz) (16 + h_n h) k).toInt ∧ _ ≤ p.2
      rw [z_newi]
      exact hb
    | .inr (.inl _), _ => trivial
    | .inr (.inr q), hb =>
      refine Or.inl ⟨?_, ?_⟩
      · rw [z_newr]
      · have hb : (!q.2) = true := hb
        cases hq : q.2 with
        | false => rfl
        | true => rw [hq] at hb; cases hb
  · rw [m_uN _ _ _ _ e] at ha ⊢
    obtain ⟨l, rs2, s2, c1, c2, c3, c4⟩ := ht.2 a ha
    refine ⟨by show a < 16 + (h_n h + 1); omega, rs2, s2, by rw [nw_k e]; exact c1, by rw [nw_k e]; exact c2, c3, fun k ft hk hb => ?_⟩
    have := c4 k ft hk (fun z => by have := hb z; rw [nw_k e] at this; exact this)
    match ft, this with
    | .inl p, this =>
      show p.1 ≤ (h_i (h_new h rs.1.1 len sz) a k).toInt ∧ (h_i (h_new h rs.1.1 len sz) a k).toInt ≤ p.2
      rw [nw_i e]
      exact this
    | .inr (.inl _), _ => trivial
    | .inr (.inr q), this =>
      show t_rf _ q.1 q.2 (h_r (h_new h rs.1.1 len sz) a k)
      rw [nw_r e]
      exact x_rf (fq_new (k := rs.1.1) (len := len) (sz := sz) ht) this
end
section
variable {i pc pc' : Nat} {lv : List (Nat × Value)} {st : List Value} {h : MH} {Q : Option Value → MH → Prop}
theorem hI_newa {t : ArrayType} {n : Int32} (a : m_at i pc = some (.newarray t, 2)) (hk : m_ak t ≠ 0) (h0 : 0 ≤ n.toInt) (h1 : n.toInt ≤ 1000000) (hp : pc + 2 = pc') (g : HJ i pc' lv (.ref (16 + h_n h) :: st) (h_new h (m_ak t) n.toInt.toNat n.toInt.toNat) Q) : HJ i pc lv (.int n :: st) h Q := by
  subst hp
  refine HJ.ex a (Or.inl rfl) ?_ g
  show e_newa t pc lv (.int n :: st) h = _
  unfold e_newa
  dsimp only
  have hn : ¬ n < 0 := fun z => by
    have := Int32.lt_iff_toInt_lt.mp z
    have h00 : (0 : Int32).toInt = 0 := rfl
    omega
  rw [if_pos ⟨hk, hn, by show n.toInt.toNat ≤ 1000000; omega⟩]
  rfl
theorem hN_pr {idx nest c k o x : Nat} (a : m_at i pc = some (.putfield idx, 3)) (hf : m_fl i idx = some (nest, c, k)) (hk : (h_k h o).1 = c + 1) (hc : c < 10 ∧ k < m_nf c ∧ (m_ty c k).1 = 2 ∧ ((m_ty c k).2 = true → nest = 0 ∧ m_kind i = 2 ∧ m_ownL.getD i 0 = m_ow i ∧ m_cnm c = (m_m i).2.1.cls)) (hp : pc + 3 = pc') (g : HJ i pc' lv st (h_sr h o k x) Q) : HJ i pc lv (.ref x :: .ref o :: st) h Q := by
  subst hp
  refine HJ.ex a (Or.inl rfl) ?_ g
  show e_put i idx pc lv (.ref x :: .ref o :: st) h = _
  unfold e_put
  rw [hf]
  dsimp only
  rw [if_pos ⟨hk, hc⟩]
  rfl
end
end
section
-- CHOOSE, THE FEWEST
section
variable {lv : List (Nat × Value)} {Q : Option Value → MH → Prop} {W : List (Nat × Nat)} {ρ : Nat → Nat} {m : Nat} {A : Nat → Nat} {h0 h : MH} {F : Nat → Int} {V : Nat → Nat → Int} {G : Nat → Nat → Int64}
def w_ch : List (Nat × Nat) := [(25, 0), (25, 3), (26, 1002), (27, 1001), (1000, 1002)]
theorem c_ch85 (ht : TH c_sp ρ h) (hm : ρ m = 25) (e0 : m_lk lv 0 = some (.ref m)) (g : ∀ (h' : MH) (V' : Nat → Nat → Int), MX 25 [(26, 1001)] ρ m (h_r h m) h h' (fun K => (h_i h m K).toInt) V' (fun K j => h_l h (h_r h m K) j) → Q none h') : HJ 158 85 lv [] h Q :=
  s_ch85 (MX.start (W := [(26, 1001)]) ht hm) e0 (fun x q => c_fillT (MX.start (W := [(26, 1001)]) ht hm) (by decide +kernel) (fun h' V' M' => s_ch93 (g h' V' M')))
theorem l_ch7 {p : Int64} (hw : d_sub [(27, 1001), (25, 3)] W = true) (g : ∀ (lv : List (Nat × Value)) (h : MH) (F : Nat → Int) (V : Nat → Nat → Int), MX 25 W ρ m A h0 h F V G → m_lk lv 0 = some (.ref m) → HJ 158 59 lv [] h Q) : ∀ (d v : Nat) (lv : List (Nat × Value)) (h : MH) (F : Nat → Int) (V : Nat → Nat → Int) (xv : Int32), v + d = 41 → MX 25 W ρ m A h0 h F V G → xv.toInt = (v : Int) → m_lk lv 0 = some (.ref m) → m_lk lv 1 = some (.long p) → m_lk lv 3 = some (.int xv) → HJ 158 7 lv [] h Q := by
  intro d
  induction d with
  | zero =>
    intro v lv h F V xv hd M qv e0 e1 e3
    exact s_ch7 M e0 e1 e3 qv (fun _ => g lv h F V M e0) (fun _ _ _ _ => g lv h F V M e0) (fun c _ _ _ => by omega)
  | succ d ih =>
    intro v lv h F V xv hd M qv e0 e1 e3
    have b := M.fi (by decide) (k := 3) (lo := 0) (hi := 12) rfl rfl rfl
    exact s_ch7 M e0 e1 e3 qv (fun _ => g lv h F V M e0) (fun _ _ _ _ => g lv h F V M e0) (fun c _ _ c19 => c_bit (fun y => s_ch27 M e0 e1 e3 qv (by omega) (by omega) (by omega) (by omega) hw (fun x2 q2 lv2 d0 d1 d3 _ => ih (v + 1) lv2 h F V x2 (by omega) M (by omega) d0 d1 d3) (fun h4 V4 _ h8 F8 _ x9 q9 lv9 M8 d0 d1 d3 _ _ _ => ih (v + 1) lv9 h8 F8 V4 x9 (by omega) M8 (by omega) d0 d1 d3)))
theorem z_pn {x : Int} {n : Nat} (e : x = (2 : Int) ^ n) : x.toNat = 2 ^ n := by
  have h3 : (((2 : Nat) ^ n : Nat) : Int) = (2 : Int) ^ n := Int.natCast_pow 2 n
  rw [e, ← h3]
  exact Int.toNat_natCast _
theorem c_choose {p : Int64} (ht : TH c_sp ρ h) (hm : ρ m = 25) (t1 : t_nd ρ h) (t2 : t_rm ρ h) (g : ∀ (ρ' A' : Nat → Nat) (h1 h' : MH) (F' : Nat → Int) (V' : Nat → Nat → Int) (G' : Nat → Nat → Int64), FQ ρ ρ' w_ch h h1 → TH c_sp ρ' h1 → MX 25 [(26, 1001)] ρ' m A' h1 h' F' V' G' → t_nd ρ' h1 → t_rm ρ' h1 → (2 : Int) ^ (F' 3).toNat ≤ ((h_k h1 (A' 0)).2 : Int) → Q none h') : HJ 158 0 (lv_args 0 [.ref m, .long p]) [] h Q := by
  refine s_ch0 (MX.start (W := [(25, 3), (27, 1001)]) ht hm) rfl rfl (by decide +kernel) (fun h2 F2 f2 x3 q3 lv4 M2 d0 d1 d3 => l_ch7 (by decide +kernel) (fun lv h5 F V M e0 => ?_) 41 0 lv4 h2 F2 _ x3 rfl M2 q3 d0 d1 d3)
  have bF := M.fi (by decide) (k := 3) (lo := 0) (hi := 12) rfl rfl rfl
  have eA : h_r h5 m 0 = h_r h m 0 := (M.2.2 0 (by decide +kernel)).1
  have eL : (h_k h5 (h_r h m 0)).2 = (h_k h (h_r h m 0)).2 := M.len (K := 0) (by decide) (by decide +kernel)
  have eF : (h_i h5 m 3).toInt = F 3 := M.2.1 3
  have FF : FQ ρ ρ [(25, 3), (27, 1001)] h h5 := M.1.2.2.fq
  have n1 : t_nd ρ h5 := c_PTx 1 ρ ρ _ h h5 ht FF (by decide +kernel) t1
  have n2 : t_rm ρ h5 := c_PTx 2 ρ ρ _ h h5 ht FF (by decide +kernel) t2
  have pw := z_pow (n := (F 3).toNat)
  have pl : (2 : Int) ^ (F 3).toNat ≤ (2 : Int) ^ 12 := z_powL (by omega)
  refine s_ch59 M e0 (fun z1 a1 b1 c1 a3 b3 c70 => ?_) (fun z1 a1 b1 c1 a3 b3 c70 => ?_)
  · refine c_ch85 M.1.1 hm e0 (fun h' V' M' => g ρ _ h5 h' _ V' _ (FF.mono (by decide +kernel)) M.1.1 M' n1 n2 ?_)
    show (2 : Int) ^ ((h_i h5 m 3).toInt).toNat ≤ ((h_k h5 (h_r h5 m 0)).2 : Int)
    rw [eA, eL, eF]
    omega
  · refine s_ch73 M e0 (fun x3 q3 a2 b2 => ?_)
    have hs : x3.toInt.toNat = 2 ^ (F 3).toNat := z_pn q3
    have ml : m < 16 + h_n h5 := (M.1.1.2 m (by rw [hm]; decide)).1
    have l16 : 16 < 16 + h_n h5 := n2.1.1.1
    have mS : m = r_S h5 := n2.1.2.2.2.2.2.2 m hm
    refine hI_newa (t := .int) rfl (by decide) (by omega) (by omega) rfl ?_
    have mk : (h_k (h_new h5 20 x3.toInt.toNat x3.toInt.toNat) m).1 = 6 := by
      rw [nw_k (by omega)]
      exact (t_spec M.1.1 (by decide) (rfl : c_sp[25]? = some _) hm).1
    refine hI_pr (o := m) rfl rfl (by decide +kernel) mk rfl ?_
    have T6 : TH c_sp (m_u ρ (16 + h_n h5) 26) (h_new h5 20 x3.toInt.toNat x3.toInt.toNat) := th_new (R := 26) (rs := ((20, (1, 4096)), (true, (true, [.inl (-2147483648, 2147483647)])))) M.1.1 (by decide) rfl ⟨by show 1 ≤ _; omega, by show _ ≤ 4096; omega⟩ (by decide)
    have Q6 : FQ ρ (m_u ρ (16 + h_n h5) 26) [(26, 1002), (1000, 1002)] h5 (h_new h5 20 x3.toInt.toNat x3.toInt.toNat) := fq_new M.1.1
    have hm1 : m_u ρ (16 + h_n h5) 26 m = 25 := by rw [m_uN _ _ _ _ (by omega)]; exact hm
    have T7 := s_srT (k := 0) (x := 16 + h_n h5) T6 (rfl : c_sp[25]? = some _) hm1 rfl (Or.inr ⟨by omega, by decide, m_uE _ _ _⟩)
    have Q7 : FQ (m_u ρ (16 + h_n h5) 26) (m_u ρ (16 + h_n h5) 26) [(25, 0)] (h_new h5 20 x3.toInt.toNat x3.toInt.toNat) (h_sr (h_new h5 20 x3.toInt.toNat x3.toInt.toNat) m 0 (16 + h_n h5)) := (FS.ofFR (s_srF hm1 (Or.inl (List.mem_singleton.mpr rfl)))).fq
    have Q8 : FQ ρ (m_u ρ (16 + h_n h5) 26) [(25, 0), (26, 1002), (1000, 1002)] h5 (h_sr (h_new h5 20 x3.toInt.toNat x3.toInt.toNat) m 0 (16 + h_n h5)) := (Q6.mono (by decide +kernel)).trans (Q7.mono (by decide +kernel))
    show HJ 158 85 lv [] (h_sr (h_new h5 20 x3.toInt.toNat x3.toInt.toNat) m 0 (16 + h_n h5)) Q
    generalize hh7 : h_sr (h_new h5 20 x3.toInt.toNat x3.toInt.toNat) m 0 (16 + h_n h5) = h7 at T7 Q7 Q8 ⊢
    have r0 : h_r h7 m 0 = 16 + h_n h5 := by
      rw [← hh7, s_srR, if_pos ⟨rfl, rfl⟩]
    have k0 : (h_k h7 (16 + h_n h5)).2 = x3.toInt.toNat := by
      rw [← hh7]
      show (h_k (h_new h5 20 x3.toInt.toNat x3.toInt.toNat) (16 + h_n h5)).2 = _
      rw [z_newk]
    have i3 : (h_i h7 m 3).toInt = F 3 := by
      rw [← hh7]
      show (h_i (h_new h5 20 x3.toInt.toNat x3.toInt.toNat) m 3).toInt = _
      rw [nw_i (by omega)]
      exact eF
    have eS7 : r_S h7 = m := by
      rw [mS]
      unfold r_S
      rw [← hh7, s_srR, if_neg (fun z => by have := z.2; omega), nw_r (by omega)]
    have en : h_n h7 = h_n h5 + 1 := by rw [← hh7]; rfl
    have ez : h_z h7 = h_z h5 + 2 ^ (F 3).toNat := by
      rw [← hs, ← hh7]
      rfl
    have rT5 : r_T h5 = (h_k h5 (h_r h5 m 0)).2 := by
      unfold r_T
      rw [← mS]
    have rT7 : r_T h7 = 2 ^ (F 3).toNat := by
      unfold r_T
      rw [eS7, r0, k0, hs]
    have h3 : (((2 : Nat) ^ (F 3).toNat : Nat) : Int) = (2 : Int) ^ (F 3).toNat := Int.natCast_pow 2 _
    rw [eA, eL] at rT5
    have n1' : t_nd (m_u ρ (16 + h_n h5) 26) h7 := c_PTx 1 _ _ _ h5 h7 M.1.1 Q8 (by decide +kernel) n1
    have n2' : t_rm (m_u ρ (16 + h_n h5) 26) h7 := rm_tab M.1.1 Q8 (by decide +kernel) en ez (by rw [← mS, r0, en]; omega) rT7 (by rw [rT5]; omega) (by rw [rT5]; omega) n2
    refine c_ch85 T7 hm1 e0 (fun h' V' M' => g _ _ h7 h' _ V' _ ((FF.mono (by decide +kernel)).trans (Q8.mono (by decide +kernel))) T7 M' n1' n2' ?_)
    show (2 : Int) ^ ((h_i h7 m 3).toInt).toNat ≤ ((h_k h7 (h_r h7 m 0)).2 : Int)
    rw [i3, r0, k0]
    omega
theorem l_fk8 {nd : Nat} {p : Int64} {T : Int} (hnd : ρ nd = 39) (t1 : ∀ (h : MH) (V : Nat → Nat → Int), MX 25 W ρ m A h0 h F V G → t_nd ρ h) (hw : d_sub [(26, 1001)] W = true) (hl : ((h_k h0 (A 0)).2 : Int) = T) (tl : (2 : Int) ^ (F 3).toNat ≤ T) (g : ∀ (lv : List (Nat × Value)) (h : MH) (V : Nat → Nat → Int), MX 25 W ρ m A h0 h F V G → m_lk lv 0 = some (.ref m) → HJ 157 51 lv [] h Q) : ∀ (d i : Nat) (lv : List (Nat × Value)) (h : MH) (V : Nat → Nat → Int) (xi : Int32), i + d = 15120 → MX 25 W ρ m A h0 h F V G → xi.toInt = (i : Int) → m_lk lv 0 = some (.ref m) → m_lk lv 1 = some (.ref nd) → m_lk lv 2 = some (.long p) → m_lk lv 4 = some (.int xi) → HJ 157 8 lv [] h Q := by
  intro d
  induction d with
  | zero =>
    intro i lv h V xi hd M qi e0 e1 e2 e4
    exact s_fk8 M e0 e1 hnd e2 e4 qi (fun _ _ _ _ => g lv h V M e0) (by intros; omega)
  | succ d ih =>
    intro i lv h V xi hd M qi e0 e1 e2 e4
    exact s_fk8 M e0 e1 hnd e2 e4 qi (fun _ _ _ _ => g lv h V M e0) (fun z _ _ c => c_hold99 M.1.1 hnd (t1 h V M) (fun y => s_fk24 M e0 e1 hnd e2 e4 qi (c_packed M (fun x b0 b1 => s_fk27 M e0 e1 hnd e2 e4 qi rfl b0 (by omega) (by omega) (by omega) hl hw
      (fun x2 q2 lv2 d0 d1 d2 d4 _ => ih (i + 1) lv2 h V x2 (by omega) M (by omega) d0 d1 d2 d4)
      (fun z3 _ _ z5 _ _ h6 V6 x7 q7 lv7 M6 d0 d1 d2 d4 _ => ih (i + 1) lv7 h6 V6 x7 (by omega) M6 (by omega) d0 d1 d2 d4)))))
theorem l_fk72 {T : Int} {a : Int} {xa : Int32} (M : MX 25 W ρ m A h0 h F V G) (hl : ((h_k h0 (A 0)).2 : Int) = T) (tl : (2 : Int) ^ (F 3).toNat ≤ T) (qa : xa.toInt = a) (a1 : a ≤ 4096) (ak : a < (2 : Int) ^ (F 3).toNat) (g : ∀ y : Int64, Q (some (.long y)) h) : ∀ (d j : Nat) (lv : List (Nat × Value)) (xb xj : Int32), j + d = 4096 → xj.toInt = (j : Int) → m_lk lv 0 = some (.ref m) → m_lk lv 4 = some (.int xa) → m_lk lv 5 = some (.int xb) → m_lk lv 6 = some (.int xj) → HJ 157 72 lv [] h Q := by
  have b := M.fi (by decide) (k := 3) (lo := 0) (hi := 12) rfl rfl rfl
  have fin : ∀ (lv : List (Nat × Value)) (xb : Int32), m_lk lv 0 = some (.ref m) → m_lk lv 5 = some (.int xb) → HJ 157 115 lv [] h Q := fun lv xb e0 e5 => s_fk115 M e0 e5 rfl (c_unp M (fun y => s_fk121 (g y)))
  intro d
  induction d with
  | zero =>
    intro j lv xb xj hd qj e0 e4 e5 e6
    exact s_fk72 M e0 e4 qa e5 rfl e6 qj (by omega) a1 (by omega) ak tl hl (fun _ => fin lv xb e0 e5) (by intros; omega) (by intros; omega)
  | succ d ih =>
    intro j lv xb xj hd qj e0 e4 e5 e6
    exact s_fk72 M e0 e4 qa e5 rfl e6 qj (by omega) a1 (by omega) ak tl hl (fun _ => fin lv xb e0 e5) (fun z2 _ _ x3 q3 lv3 d0 d4 d5 d6 _ _ => ih (j + 1) lv3 xb x3 (by omega) (by omega) d0 d4 d5 d6)
      (fun z2 _ _ _ _ => c_ib (fun y => s_fk97 M e0 e4 qa e5 rfl e6 qj (y := y.toInt) rfl (c_ib (fun y2 => s_fk102 M e0 e4 qa e5 rfl e6 qj rfl (z := y2.toInt) rfl (by omega) (by omega)
        (fun x2 q2 lv2 d0 d4 d5 d6 _ => ih (j + 1) lv2 xb x2 (by omega) (by omega) d0 d4 d5 d6)
        (fun x2 q2 lv2 d0 d4 d5 d6 _ => ih (j + 1) lv2 xj x2 (by omega) (by omega) d0 d4 d5 d6)))))
theorem l_fewK {ρ' A' : Nat → Nat} {h1 h2 : MH} {T : Int} (ht1 : TH c_sp ρ' h1) (n1 : t_nd ρ' h1) (n2 : t_rm ρ' h1) (hT : ((h_k h1 (A' 0)).2 : Int) = T) (tl : (2 : Int) ^ (F 3).toNat ≤ T) (M : MX 25 [(26, 1001)] ρ' m A' h1 h2 F V G) : (∀ (h : MH) (V : Nat → Nat → Int), MX 25 [(26, 1001)] ρ' m A' h1 h F V G → t_nd ρ' h ∧ t_rm ρ' h) ∧ (0 ≤ F 3 ∧ F 3 ≤ 12) ∧ T ≤ 4096 ∧ (2 : Int) ^ (F 3).toNat ≤ 4096 ∧ (1 : Int) ≤ (2 : Int) ^ (F 3).toNat := by
  have bF := M.fi (by decide) (k := 3) (lo := 0) (hi := 12) rfl rfl rfl
  have pl : (2 : Int) ^ (F 3).toNat ≤ (2 : Int) ^ 12 := z_powL (by omega)
  have a0 := MX.ar M (by decide) (K := 0) (by decide +kernel)
  have a1 : ρ' (A' 0) = 26 := a0.1
  have l1 := (t_spec M.1.1 (by decide) (rfl : c_sp[26]? = some _) a1).2.1.2
  have l2 := M.len (K := 0) (by decide) (by decide +kernel)
  have l1 : (h_k h2 (A' 0)).2 ≤ 4096 := l1
  exact ⟨fun h V M3 => ⟨c_PTx 1 ρ' ρ' [(26, 1001)] h1 h ht1 M3.1.2.2.fq (by decide +kernel) n1, c_PTx 2 ρ' ρ' [(26, 1001)] h1 h ht1 M3.1.2.2.fq (by decide +kernel) n2⟩, bF, by omega, by omega, z_pow⟩
theorem c_fewK {nd : Nat} {p : Int64} (ht : TH c_sp ρ h) (hm : ρ m = 25) (hnd : ρ nd = 39) (t1 : t_nd ρ h) (t2 : t_rm ρ h) (e0 : m_lk lv 0 = some (.ref m)) (e1 : m_lk lv 1 = some (.ref nd)) (e2 : m_lk lv 2 = some (.long p)) (g : ∀ (ρ' : Nat → Nat) (h1 h' : MH) (y : Int64), FQ ρ ρ' w_ch h h1 → FS ρ' [(26, 1001)] h1 h' → TH c_sp ρ' h' → t_nd ρ' h' → t_rm ρ' h' → Q (some (.long y)) h') : HJ 157 0 lv [] h Q := by
  refine s_fk0 (MX.start (W := []) ht hm) e0 e1 hnd e2 (c_choose ht hm t1 t2 (fun ρ' A' h1 h2 F V G f ht1 M n1 n2 tl => ?_))
  have hnd' : ρ' nd = 39 := (f.2.1 nd (by rw [hnd]; decide)).trans hnd
  have hw : d_sub [(26, 1001)] [(26, 1001)] = true := by decide +kernel
  obtain ⟨K1, ⟨f0, f12⟩, T1, P1, P0⟩ := l_fewK ht1 n1 n2 rfl tl M
  refine s_fk5 M e0 e1 hnd' e2 (fun x1 q1 lv2 d0 d1 d2 d4 => l_fk8 hnd' (fun h V M3 => (K1 h V M3).1) hw rfl tl (fun lv3 h3 V3 M3 c0 => ?_) 15120 0 lv2 h2 V x1 rfl M q1 d0 d1 d2 d4)
  refine s_fk51 M3 c0 (c_sumB M3 hw rfl tl T1 (fun h4 V4 M4 => s_fk55 M4 c0 P1 P0 (fun x5 q5 x8 q8 lv9 k0 k4 k5 k6 _ _ => ?_)))
  exact l_fk72 M4 rfl tl q5 (by omega) (by omega) (fun y => g ρ' h1 h4 y f M4.1.2.2 M4.1.1 (K1 h4 V4 M4).1 (K1 h4 V4 M4).2) 4096 0 lv9 x5 x8 rfl q8 k0 k4 k5 k6
theorem l_gv8 {nd : Nat} {p : Int64} {T : Int} {xn : Int32} (hnd : ρ nd = 39) (t1 : ∀ (h : MH) (V : Nat → Nat → Int), MX 25 W ρ m A h0 h F V G → t_nd ρ h) (hw : d_sub [(26, 1001)] W = true) (hl : ((h_k h0 (A 0)).2 : Int) = T) (tl : (2 : Int) ^ (F 3).toNat ≤ T) (g : ∀ (lv : List (Nat × Value)) (h : MH) (V : Nat → Nat → Int), MX 25 W ρ m A h0 h F V G → m_lk lv 0 = some (.ref m) → m_lk lv 4 = some (.int xn) → HJ 163 59 lv [] h Q) : ∀ (d i : Nat) (lv : List (Nat × Value)) (h : MH) (V : Nat → Nat → Int) (xi : Int32), i + d = 15120 → MX 25 W ρ m A h0 h F V G → xi.toInt = (i : Int) → m_lk lv 0 = some (.ref m) → m_lk lv 1 = some (.ref nd) → m_lk lv 2 = some (.long p) → m_lk lv 4 = some (.int xn) → m_lk lv 5 = some (.int xi) → HJ 163 8 lv [] h Q := by
  intro d
  induction d with
  | zero =>
    intro i lv h V xi hd M qi e0 e1 e2 e4 e5
    exact s_gv8 M e0 e1 hnd e2 e4 rfl e5 qi (fun _ _ _ _ => g lv h V M e0 e4) (by intros; omega)
  | succ d ih =>
    intro i lv h V xi hd M qi e0 e1 e2 e4 e5
    exact s_gv8 M e0 e1 hnd e2 e4 rfl e5 qi (fun _ _ _ _ => g lv h V M e0 e4) (fun z _ _ c => c_hold99 M.1.1 hnd (t1 h V M) (fun y => s_gv23 M e0 e1 hnd e2 e4 rfl e5 qi (by omega) (by omega)
      (fun x2 q2 lv2 d0 d1 d2 d4 d5 _ => ih (i + 1) lv2 h V x2 (by omega) M (by omega) d0 d1 d2 d4 d5)
      (fun lv1 d0 d1 d2 d4 d5 _ => c_packed M (fun x b0 b1 => s_gv48 M d0 d1 hnd d2 d4 rfl d5 qi rfl b0 (by omega) (by omega) (by omega) hl hw
        (fun z1 _ _ z3 _ _ h4 V4 x5 q5 lv5 M4 k0 k1 k2 k4 k5 => ih (i + 1) lv5 h4 V4 x5 (by omega) M4 (by omega) k0 k1 k2 k4 k5)))))
theorem l_gv69 {T : Int} {xn : Int32} (M : MX 25 W ρ m A h0 h F V G) (hl : ((h_k h0 (A 0)).2 : Int) = T) (tl : (2 : Int) ^ (F 3).toNat ≤ T) (k1 : (2 : Int) ^ (F 3).toNat ≤ 4096) (g : ∀ y : Int64, Q (some (.long y)) h) : ∀ (d j : Nat) (lv : List (Nat × Value)) (xb xj : Int32), j + d = 4096 → xj.toInt = (j : Int) → m_lk lv 0 = some (.ref m) → m_lk lv 4 = some (.int xn) → m_lk lv 5 = some (.int xb) → m_lk lv 6 = some (.int xj) → HJ 163 69 lv [] h Q := by
  have fin : ∀ (lv : List (Nat × Value)) (xb : Int32), m_lk lv 0 = some (.ref m) → m_lk lv 5 = some (.int xb) → HJ 163 121 lv [] h Q := fun lv xb e0 e5 => s_gv121 M e0 e5 rfl (fun _ => c_unp M (fun y => s_gv139 (g y))) (fun _ => g _)
  intro d
  induction d with
  | zero =>
    intro j lv xb xj hd qj e0 e4 e5 e6
    exact s_gv69 M e0 e4 rfl e5 rfl e6 qj (by omega) k1 tl hl (fun _ _ _ => fin lv xb e0 e5) (by intros; omega) (by intros; omega) (by intros; omega)
  | succ d ih =>
    intro j lv xb xj hd qj e0 e4 e5 e6
    exact s_gv69 M e0 e4 rfl e5 rfl e6 qj (by omega) k1 tl hl (fun _ _ _ => fin lv xb e0 e5) (fun z4 _ _ x3 q3 lv3 d0 d4 d5 d6 _ _ _ _ => ih (j + 1) lv3 xb x3 (by omega) (by omega) d0 d4 d5 d6)
      (fun z4 _ _ x3 q3 lv3 d0 d4 d5 d6 _ _ _ _ _ => ih (j + 1) lv3 xj x3 (by omega) (by omega) d0 d4 d5 d6)
      (fun z4 _ _ _ _ _ _ _ => c_ib (fun y => s_gv103 M e0 e4 rfl e5 rfl e6 qj (y := y.toInt) rfl (c_ib (fun y2 => s_gv108 M e0 e4 rfl e5 rfl e6 qj rfl (z := y2.toInt) rfl (by omega) (by omega)
        (fun x2 q2 lv2 d0 d4 d5 d6 _ => ih (j + 1) lv2 xb x2 (by omega) (by omega) d0 d4 d5 d6)
        (fun x2 q2 lv2 d0 d4 d5 d6 _ => ih (j + 1) lv2 xj x2 (by omega) (by omega) d0 d4 d5 d6)))))
theorem c_fewG {nd : Nat} {p : Int64} {xn : Int32} (ht : TH c_sp ρ h) (hm : ρ m = 25) (hnd : ρ nd = 39) (t1 : t_nd ρ h) (t2 : t_rm ρ h) (e0 : m_lk lv 0 = some (.ref m)) (e1 : m_lk lv 1 = some (.ref nd)) (e2 : m_lk lv 2 = some (.long p)) (e4 : m_lk lv 4 = some (.int xn)) (g : ∀ (ρ' : Nat → Nat) (h1 h' : MH) (y : Int64), FQ ρ ρ' w_ch h h1 → FS ρ' [(26, 1001)] h1 h' → TH c_sp ρ' h' → t_nd ρ' h' → t_rm ρ' h' → Q (some (.long y)) h') : HJ 163 0 lv [] h Q := by
  refine s_gv0 (MX.start (W := []) ht hm) e0 e1 hnd e2 (c_choose ht hm t1 t2 (fun ρ' A' h1 h2 F V G f ht1 M n1 n2 tl => ?_))
  have hnd' : ρ' nd = 39 := (f.2.1 nd (by rw [hnd]; decide)).trans hnd
  have hw : d_sub [(26, 1001)] [(26, 1001)] = true := by decide +kernel
  obtain ⟨K1, ⟨f0, f12⟩, T1, P1, P0⟩ := l_fewK ht1 n1 n2 rfl tl M
  refine s_gv5 M e0 e1 hnd' e2 e4 rfl (fun x1 q1 lv2 d0 d1 d2 d4 d5 => l_gv8 hnd' (fun h V M3 => (K1 h V M3).1) hw rfl tl (fun lv3 h3 V3 M3 c0 c4 => ?_) 15120 0 lv2 h2 V x1 rfl M q1 d0 d1 d2 d4 d5)
  refine s_gv59 M3 c0 c4 rfl (c_sumB M3 hw rfl tl T1 (fun h4 V4 M4 => s_gv63 M4 c0 c4 rfl (fun x1 q1 x3 q3 lv4 k0 k4 k5 k6 => ?_)))
  exact l_gv69 M4 rfl tl P1 (fun y => g ρ' h1 h4 y f M4.1.2.2 M4.1.1 (K1 h4 V4 M4).1 (K1 h4 V4 M4).2) 4096 0 lv4 x1 x3 rfl q3 k0 k4 k5 k6
end
end
section
-- A NODE MORE
section
variable {i pc pc' : Nat} {lv : List (Nat × Value)} {st : List Value} {h : MH} {Q : Option Value → MH → Prop}
theorem hI_min {idx nest : Nat} {x y : Int32} (a : m_at i pc = some (.invokestatic idx, 3)) (hm : m_ml i idx = some (nest, 13)) (hc : nest = 0 ∧ 1 ≤ m_fr i ∧ m_cat st + 13 ≤ m_lo i) (hp : pc + 3 = pc') (g : HJ i pc' lv (.int (if y < x then y else x) :: st) h Q) : HJ i pc lv (.int y :: .int x :: st) h Q := by
  subst hp
  refine HJ.ex a (Or.inl rfl) ?_ g
  show e_call 0 i idx pc lv (.int y :: .int x :: st) h = _
  unfold e_call
  rw [hm]
  dsimp only
  rw [if_neg (by decide), if_neg (by decide), if_pos (show (13 : Nat) = m_jmin ∨ (13 : Nat) = m_jmax from Or.inl rfl), if_pos ⟨rfl, hc⟩, if_pos (show (13 : Nat) = m_jmin from rfl)]
  rfl
theorem hI_cp {idx nest a0 a1 : Nat} {sp dp n : Int32} {h' : MH} (a : m_at i pc = some (.invokestatic idx, 3)) (hm : m_ml i idx = some (nest, 901)) (hc : 16 ≤ a0 ∧ 16 ≤ a1 ∧ ¬ sp < 0 ∧ ¬ dp < 0 ∧ ¬ n < 0 ∧ sp.toNatClampNeg + n.toNatClampNeg ≤ (h_k h a0).2 ∧ dp.toNatClampNeg + n.toNatClampNeg ≤ (h_k h a1).2 ∧ 1 ≤ m_fr i ∧ m_cat st + 18 ≤ m_lo i ∧ m_cat st ≤ 8) (hh : ((h_k h a0).1 = 20 ∧ (h_k h a1).1 = 20 ∧ h' = h_cpi h a0 a1 sp.toNatClampNeg dp.toNatClampNeg n.toNatClampNeg) ∨ ((h_k h a0).1 = 25 ∧ (h_k h a1).1 = 25 ∧ h' = h_cpl h a0 a1 sp.toNatClampNeg dp.toNatClampNeg n.toNatClampNeg)) (hp : pc + 3 = pc') (g : HJ i pc' lv st h' Q) : HJ i pc lv (.int n :: .int dp :: .ref a1 :: .int sp :: .ref a0 :: st) h Q := by
  subst hp
  refine HJ.ex a (Or.inl rfl) ?_ g
  show e_call 0 i idx pc lv (.int n :: .int dp :: .ref a1 :: .int sp :: .ref a0 :: st) h = _
  unfold e_call
  rw [hm]
  dsimp only
  rw [if_neg (by decide), if_pos rfl, if_pos rfl]
  unfold e_cp
  dsimp only
  rw [if_pos hc]
  rcases hh with ⟨k0, k1, e⟩ | ⟨k0, k1, e⟩
  · rw [if_pos (Or.inl ⟨k0, k1⟩), e]
    rfl
  · rw [if_neg (fun z => by rcases z with z | z <;> omega), if_pos ⟨k0, k1⟩, e]
    rfl
end
section
variable {i pc pc' : Nat} {lv : List (Nat × Value)} {st : List Value} {Q : Option Value → MH → Prop} {R : Nat} {W : List (Nat × Nat)} {ρ : Nat → Nat} {m : Nat} {A : Nat → Nat} {h0 h : MH} {F : Nat → Int} {V : Nat → Nat → Int} {G : Nat → Nat → Int64}
theorem hM_lsv {K R2 L H : Nat} {rs2 : RS} {j : Int32} {x : Int64} {zj T : Int} (M : MX R W ρ m A h0 h F V G) (hR : R ≠ 0) (ok : rg_okb R = true) (hr : rg_a R K = R2) (h2 : R2 ≠ 0) (hs2 : c_sp[R2]? = some rs2) (hk : rs2.1 = (25, (L, H))) (hmd : rs2.2.1 = true) (hw : d_sub [(R2, 1001)] W = true) (hl : ((h_k h0 (A K)).2 : Int) = T) (a : m_at i pc = some (.lastore, 1)) (hj : j.toInt = zj) (b0 : 0 ≤ zj) (b1 : zj < T) (hp : pc + 1 = pc') (g : ∀ (h' : MH) (G' : Nat → Nat → Int64), MX R W ρ m A h0 h' F V G' → HJ i pc' lv st h' Q) : HJ i pc lv (.long x :: .int j :: .ref (A K) :: st) h Q := by
  have hK : rg_a R K ≠ 0 := by rw [hr]; exact h2
  have a1 := (M.ar hR hK).1
  have a2 := a1
  rw [hr] at a1
  have c := t_spec M.1.1 h2 hs2 a1
  have c0 := c.1
  rw [hk] at c0
  have e9 := M.len hR hK
  refine hI_ls_ a (c.2.2.1 hmd) c0 (by omega) (by rw [e9]; omega) hp ?_
  refine g _ (fun K' j' => h_l (h_sl h (A K) j.toInt.toNat x) (A K') j') ⟨⟨sl_T M.1.1, M.1.2.1, M.1.2.2.trans (FS.mono hw (FS.ofFR (sl_F a1 (Or.inr (List.mem_singleton.mpr rfl)))))⟩, M.2.1, fun K' hK' => ⟨(M.2.2 K' hK').1, fun j' => ⟨((M.2.2 K' hK').2 j').1, rfl⟩⟩⟩
end
theorem ok_48 : rg_okb 48 = true := by decide +kernel
section
variable {lv : List (Nat × Value)} {Q : Option Value → MH → Prop} {W : List (Nat × Nat)} {ρ : Nat → Nat} {m : Nat} {A : Nat → Nat} {h0 h : MH} {F : Nat → Int} {V : Nat → Nat → Int} {G : Nat → Nat → Int64}
theorem s_rc0 {l f t : Int}  {lx0 : Int32} (e0 : m_lk lv 0 = some (.int lx0)) (lq0 : lx0.toInt = l) {lx1 : Int32} (e1 : m_lk lv 1 = some (.int lx1)) (lq1 : lx1.toInt = f) {lx2 : Int32} (e2 : m_lk lv 2 = some (.int lx2)) (lq2 : lx2.toInt = t) 
    (g0 : f ≤ t → f ≥ 0 → t ≤ l → Q none h)
    (g1 : f ≤ t → f ≥ 0 → t > l → HJ 38 64 lv [] h Q)
    (g2 : f ≤ t → f < 0 → HJ 38 50 lv [] h Q)
    (g3 : f > t → HJ 38 5 lv [] h Q)
    : HJ 38 0 lv [] h Q := by
  refine hI_il (k := 1) rfl e1 rfl ?_ -- 0
  refine hI_il (k := 2) rfl e2 rfl ?_ -- 1
  refine hM_cle (off := 44) (t := 46) rfl lq1 lq2 (by decide) rfl (fun c2 => ?_) (fun c2 => ?_) -- 2
  · refine hI_il (k := 1) rfl e1 rfl ?_ -- 46
    refine hM_zge (off := 12) (t := 59) rfl lq1 (by decide) rfl (fun c47 => ?_) (fun c47 => ?_) -- 47
    · refine hI_il (k := 2) rfl e2 rfl ?_ -- 59
      refine hI_il (k := 0) rfl e0 rfl ?_ -- 60
      refine hM_cle (off := 12) (t := 73) rfl lq2 lq0 (by decide) rfl (fun c61 => ?_) (fun c61 => ?_) -- 61
      · refine hI_rv rfl rfl ?_
        exact g0 c2 c47 c61
      · exact g1 c2 c47 c61
    · exact g2 c2 c47
  · exact g3 c2
theorem s_fr0 {f t z : Int} (M : MX 48 W ρ m A h0 h F V G) (e0 : m_lk lv 0 = some (.ref (A 0))) {lx1 : Int32} (e1 : m_lk lv 1 = some (.int lx1)) (lq1 : lx1.toInt = f) {lx2 : Int32} (e2 : m_lk lv 2 = some (.int lx2)) (lq2 : lx2.toInt = t) {lx3 : Int32} (e3 : m_lk lv 3 = some (.int lx3)) (lq3 : lx3.toInt = z) 
    (g0 : ∀ x1 : Int32, ∀ z1 : Int, x1.toInt = z1 → 448 ≤ z1 → z1 ≤ 224000 → z1 = ((h_k h0 (A 0)).2 : Int) → HJ 38 0 (lv_args 0 [.int x1, .int lx1, .int lx2]) [] h (fun v h' => HJ 37 7 lv (v.toList ++ []) h' Q))
    : HJ 37 0 lv [] h Q := by
  refine hI_al (k := 0) rfl e0 rfl ?_ -- 0
  refine hM_al M (by decide) (K := 0) (R2 := 40) (L := 448) (H := 224000) rfl (by decide) rfl rfl (by decide) rfl rfl (fun x1 z1 q1 a1 b1 c1 => ?_) -- 1
  refine hI_il (k := 1) rfl e1 rfl ?_ -- 2
  refine hI_il (k := 2) rfl e2 rfl ?_ -- 3
  refine hM_is0 (as := [.int x1, .int lx1, .int lx2]) (r := []) rfl rfl (by decide +kernel) rfl rfl rfl rfl rfl ?_ -- 4
  exact g0 x1 z1 q1 a1 b1 c1
theorem s_fr7 {f t z : Int} (M : MX 48 W ρ m A h0 h F V G) (e0 : m_lk lv 0 = some (.ref (A 0))) {lx1 : Int32} (e1 : m_lk lv 1 = some (.int lx1)) (lq1 : lx1.toInt = f) {lx2 : Int32} (e2 : m_lk lv 2 = some (.int lx2)) (lq2 : lx2.toInt = t) {lx3 : Int32} (e3 : m_lk lv 3 = some (.int lx3)) (lq3 : lx3.toInt = z) 
    (g0 : ∀ lv1 : List (Nat × Value), m_lk lv1 0 = some (.ref (A 0)) → m_lk lv1 1 = some (.int lx1) → m_lk lv1 2 = some (.int lx2) → m_lk lv1 3 = some (.int lx3) → m_lk lv1 4 = some (.int lx1) → HJ 37 10 lv1 [] h Q)
    : HJ 37 7 lv [] h Q := by
  refine hI_il (k := 1) rfl e1 rfl ?_ -- 7
  refine hM_si2 (k := 4) rfl (by decide +kernel) rfl (fun lv1 e1_4 u1 => ?_) -- 8
  have e1_0 := u1 0 _ (by decide) (Or.inl rfl) e0
  have e1_1 := u1 1 _ (by decide) (Or.inl rfl) e1
  have e1_2 := u1 2 _ (by decide) (Or.inl rfl) e2
  have e1_3 := u1 3 _ (by decide) (Or.inl rfl) e3
  exact g0 lv1 e1_0 e1_1 e1_2 e1_3 e1_4
theorem s_fr10 {t z i T : Int} (M : MX 48 W ρ m A h0 h F V G) (e0 : m_lk lv 0 = some (.ref (A 0))) {lx2 : Int32} (e2 : m_lk lv 2 = some (.int lx2)) (lq2 : lx2.toInt = t) {lx3 : Int32} (e3 : m_lk lv 3 = some (.int lx3)) (lq3 : lx3.toInt = z) {lx4 : Int32} (e4 : m_lk lv 4 = some (.int lx4)) (lq4 : lx4.toInt = i) (i0 : 0 ≤ i) (t1 : t ≤ T) (t2 : T ≤ 224000)(hl0 : ((h_k h0 (A 0)).2 : Int) = T)(hw : d_sub [(40, 1001)] W = true)
    (g0 : i ≥ t → Q none h)
    (g1 : ∀ h1 : MH, ∀ V1 : Nat → Nat → Int, ∀ x2 : Int32, x2.toInt = i + 1 → ∀ lv2 : List (Nat × Value), MX 48 W ρ m A h0 h1 F V1 G → m_lk lv2 0 = some (.ref (A 0)) → m_lk lv2 2 = some (.int lx2) → m_lk lv2 3 = some (.int lx3) → m_lk lv2 4 = some (.int x2) → i < t → HJ 37 10 lv2 [] h1 Q)
    : HJ 37 10 lv [] h Q := by
  refine hI_il2 (k := 4) rfl e4 rfl ?_ -- 10
  refine hI_il (k := 2) rfl e2 rfl ?_ -- 12
  refine hM_cge (off := 14) (t := 27) rfl lq4 lq2 (by decide) rfl (fun c13 => ?_) (fun c13 => ?_) -- 13
  · refine hI_rv rfl rfl ?_
    exact g0 c13
  · refine hI_al (k := 0) rfl e0 rfl ?_ -- 16
    refine hI_il2 (k := 4) rfl e4 rfl ?_ -- 17
    refine hI_il (k := 3) rfl e3 rfl ?_ -- 19
    refine hM_isv M (by decide) ok_48 (K := 0) (R2 := 40) (L := 448) (H := 224000) rfl (by decide) rfl rfl rfl (fun _ => rfl) (d_subm hw (by decide +kernel)) hl0 rfl lq4 (by omega) (by omega) rfl (fun h1 V1 M1 => ?_) -- 20
    refine hM_inc (k := 4) (z := 1) rfl e4 lq4 (by decide) (by omega) (by omega) (by decide +kernel) rfl (fun lv2 x2 q2 e2_4 u2 => ?_) -- 21
    have e2_0 := u2 0 _ (by decide) (Or.inl rfl) e0
    have e2_2 := u2 2 _ (by decide) (Or.inl rfl) e2
    have e2_3 := u2 3 _ (by decide) (Or.inl rfl) e3
    refine hI_go (pc' := 10) (off := (-14)) rfl (by decide) ?_ -- 24
    exact g1 h1 V1 x2 q2 lv2 M1 e2_0 e2_2 e2_3 e2_4 c13
theorem s_mk0 {w r : Int} (M : MX 48 W ρ m A h0 h F V G) (e0 : m_lk lv 0 = some (.ref m)) {lx1 : Int32} (e1 : m_lk lv 1 = some (.int lx1)) (lq1 : lx1.toInt = w) {lx2 : Int32} (e2 : m_lk lv 2 = some (.int lx2)) (lq2 : lx2.toInt = r) 
    (g0 : ∀ z2 : Int, 64 ≤ z2 → z2 ≤ 32000 → z2 = ((h_k h0 (A 1)).2 : Int) → 0 ≤ F 5 → F 5 ≤ 16000 → F 5 < z2 → HJ 61 48 lv [] h Q)
    (g1 : ∀ z2 : Int, 64 ≤ z2 → z2 ≤ 32000 → z2 = ((h_k h0 (A 1)).2 : Int) → 0 ≤ F 5 → F 5 ≤ 16000 → F 5 ≥ z2 → HJ 61 12 lv [] h Q)
    : HJ 61 0 lv [] h Q := by
  refine hI_al (k := 0) rfl e0 rfl ?_ -- 0
  refine hM_gi M (by decide) rfl rfl rfl (k := 5) (c := 2) (lo := 0) (hi := 16000) rfl rfl rfl rfl rfl (fun x1 q1 a1 b1 => ?_) -- 1
  refine hI_al (k := 0) rfl e0 rfl ?_ -- 4
  refine hM_ga M (by decide) rfl rfl (k := 1) (c := 2) rfl rfl rfl (by decide +kernel) rfl ?_ -- 5
  refine hM_al M (by decide) (K := 1) (R2 := 41) (L := 64) (H := 32000) rfl (by decide) rfl rfl (by decide) rfl rfl (fun x2 z2 q2 a2 b2 c2 => ?_) -- 8
  refine hM_clt (off := 39) (t := 48) rfl q1 q2 (by decide) rfl (fun c9 => ?_) (fun c9 => ?_) -- 9
  · exact g0 z2 a2 b2 c2 a1 b1 c9
  · exact g1 z2 a2 b2 c2 a1 b1 c9
theorem s_mk12 {w r : Int} (M : MX 48 W ρ m A h0 h F V G) (e0 : m_lk lv 0 = some (.ref m)) {lx1 : Int32} (e1 : m_lk lv 1 = some (.int lx1)) (lq1 : lx1.toInt = w) {lx2 : Int32} (e2 : m_lk lv 2 = some (.int lx2)) (lq2 : lx2.toInt = r) 
    (g0 : ∀ z1 : Int, 448 ≤ z1 → z1 ≤ 224000 → z1 = ((h_k h0 (A 0)).2 : Int) → ∀ x3 : Int32, x3.toInt = z1 * 2 → HJ 62 0 (lv_args 0 [.ref (A 0), .int x3]) [] h (fun v h' => HJ 61 27 lv (v.toList ++ [.ref m]) h' Q))
    : HJ 61 12 lv [] h Q := by
  refine hI_al (k := 0) rfl e0 rfl ?_ -- 12
  refine hI_al (k := 0) rfl e0 rfl ?_ -- 13
  refine hM_ga M (by decide) rfl rfl (k := 0) (c := 2) rfl rfl rfl (by decide +kernel) rfl ?_ -- 14
  refine hI_al (k := 0) rfl e0 rfl ?_ -- 17
  refine hM_ga M (by decide) rfl rfl (k := 0) (c := 2) rfl rfl rfl (by decide +kernel) rfl ?_ -- 18
  refine hM_al M (by decide) (K := 0) (R2 := 40) (L := 448) (H := 224000) rfl (by decide) rfl rfl (by decide) rfl rfl (fun x1 z1 q1 a1 b1 c1 => ?_) -- 21
  refine hM_ic (n := 2) rfl (by decide) rfl (fun x2 q2 => ?_) -- 22
  refine hM_mul rfl q1 q2 (by omega) (by omega) rfl (fun x3 q3 => ?_) -- 23
  refine hM_is0 (as := [.ref (A 0), .int x3]) (r := [.ref m]) rfl rfl (by decide +kernel) rfl rfl rfl rfl rfl ?_ -- 24
  exact g0 z1 a1 b1 c1 x3 q3
theorem s_mk30 {w r : Int} (M : MX 48 W ρ m A h0 h F V G) (e0 : m_lk lv 0 = some (.ref m)) {lx1 : Int32} (e1 : m_lk lv 1 = some (.int lx1)) (lq1 : lx1.toInt = w) {lx2 : Int32} (e2 : m_lk lv 2 = some (.int lx2)) (lq2 : lx2.toInt = r) 
    (g0 : ∀ z1 : Int, 64 ≤ z1 → z1 ≤ 32000 → z1 = ((h_k h0 (A 1)).2 : Int) → ∀ x3 : Int32, x3.toInt = z1 * 2 → HJ 63 0 (lv_args 0 [.ref (A 1), .int x3]) [] h (fun v h' => HJ 61 45 lv (v.toList ++ [.ref m]) h' Q))
    : HJ 61 30 lv [] h Q := by
  refine hI_al (k := 0) rfl e0 rfl ?_ -- 30
  refine hI_al (k := 0) rfl e0 rfl ?_ -- 31
  refine hM_ga M (by decide) rfl rfl (k := 1) (c := 2) rfl rfl rfl (by decide +kernel) rfl ?_ -- 32
  refine hI_al (k := 0) rfl e0 rfl ?_ -- 35
  refine hM_ga M (by decide) rfl rfl (k := 1) (c := 2) rfl rfl rfl (by decide +kernel) rfl ?_ -- 36
  refine hM_al M (by decide) (K := 1) (R2 := 41) (L := 64) (H := 32000) rfl (by decide) rfl rfl (by decide) rfl rfl (fun x1 z1 q1 a1 b1 c1 => ?_) -- 39
  refine hM_ic (n := 2) rfl (by decide) rfl (fun x2 q2 => ?_) -- 40
  refine hM_mul rfl q1 q2 (by omega) (by omega) rfl (fun x3 q3 => ?_) -- 41
  refine hM_is0 (as := [.ref (A 1), .int x3]) (r := [.ref m]) rfl rfl (by decide +kernel) rfl rfl rfl rfl rfl ?_ -- 42
  exact g0 z1 a1 b1 c1 x3 q3
theorem s_mk48 {w r : Int} (M : MX 48 W ρ m A h0 h F V G) (e0 : m_lk lv 0 = some (.ref m)) {lx1 : Int32} (e1 : m_lk lv 1 = some (.int lx1)) (lq1 : lx1.toInt = w) {lx2 : Int32} (e2 : m_lk lv 2 = some (.int lx2)) (lq2 : lx2.toInt = r) (m2 : F 5 ≤ 15999)
    (g0 : ∀ x1 : Int32, x1.toInt = F 5 → ∀ x5 : Int32, x5.toInt = (F 5) + 1 → ∀ lv2 : List (Nat × Value), m_lk lv2 0 = some (.ref m) → m_lk lv2 1 = some (.int lx1) → m_lk lv2 2 = some (.int lx2) → m_lk lv2 3 = some (.int x1) → 0 ≤ F 5 → F 5 ≤ 16000 → HJ 61 60 lv2 [.int x5, .ref m] h Q)
    : HJ 61 48 lv [] h Q := by
  refine hI_al (k := 0) rfl e0 rfl ?_ -- 48
  refine hM_gi M (by decide) rfl rfl rfl (k := 5) (c := 2) (lo := 0) (hi := 16000) rfl rfl rfl rfl rfl (fun x1 q1 a1 b1 => ?_) -- 49
  refine hM_si (k := 3) rfl (by decide +kernel) rfl (fun lv2 e2_3 u2 => ?_) -- 52
  have e2_0 := u2 0 _ (by decide) (Or.inl rfl) e0
  have e2_1 := u2 1 _ (by decide) (Or.inl rfl) e1
  have e2_2 := u2 2 _ (by decide) (Or.inl rfl) e2
  refine hI_al (k := 0) rfl e2_0 rfl ?_ -- 53
  refine hI_dup rfl rfl rfl ?_ -- 54
  refine hM_gi M (by decide) rfl rfl rfl (k := 5) (c := 2) (lo := 0) (hi := 16000) rfl rfl rfl rfl rfl (fun x3 q3 a3 b3 => ?_) -- 55
  refine hM_ic (n := 1) rfl (by decide) rfl (fun x4 q4 => ?_) -- 58
  refine hM_add rfl q3 q4 (by omega) (by omega) rfl (fun x5 q5 => ?_) -- 59
  exact g0 x1 q1 x5 q5 lv2 e2_0 e2_1 e2_2 e2_3 a1 b1
theorem s_mk63 {w r n T T1 : Int} (M : MX 48 W ρ m A h0 h F V G) (e0 : m_lk lv 0 = some (.ref m)) {lx1 : Int32} (e1 : m_lk lv 1 = some (.int lx1)) (lq1 : lx1.toInt = w) {lx2 : Int32} (e2 : m_lk lv 2 = some (.int lx2)) (lq2 : lx2.toInt = r) {lx3 : Int32} (e3 : m_lk lv 3 = some (.int lx3)) (lq3 : lx3.toInt = n) (n0 : 0 ≤ n) (m0 : 7 * n + 7 ≤ T) (m1 : n < T1) (m2 : n ≤ 15999)(hl0 : ((h_k h0 (A 0)).2 : Int) = T)(hl1 : ((h_k h0 (A 1)).2 : Int) = T1)(hw : d_sub [(41, 1001), (40, 1001)] W = true)
    (g0 : ∀ h1 : MH, ∀ V1 : Nat → Nat → Int64, ∀ x3 : Int32, x3.toInt = n * 7 → ∀ h7 : MH, ∀ V7 : Nat → Nat → Int, ∀ h10 : MH, ∀ V10 : Nat → Nat → Int, ∀ x12 : Int32, x12.toInt = (n * 7) + 2 → ∀ x14 : Int32, x14.toInt = (n * 7) + 7 → ∀ x15 : Int32, x15.toInt = (-1) → ∀ lv4 : List (Nat × Value), MX 48 W ρ m A h0 h10 F V10 V1 → m_lk lv4 0 = some (.ref m) → m_lk lv4 1 = some (.int lx1) → m_lk lv4 2 = some (.int lx2) → m_lk lv4 3 = some (.int lx3) → m_lk lv4 4 = some (.int x3) → HJ 37 0 (lv_args 0 [.ref (A 0), .int x12, .int x14, .int x15]) [] h10 (fun v h' => HJ 61 113 lv4 (v.toList ++ []) h' Q))
    : HJ 61 63 lv [] h Q := by
  refine hI_al (k := 0) rfl e0 rfl ?_ -- 63
  refine hM_ga M (by decide) rfl rfl (k := 1) (c := 2) rfl rfl rfl (by decide +kernel) rfl ?_ -- 64
  refine hI_il (k := 3) rfl e3 rfl ?_ -- 67
  refine hI_lc (n := 0) rfl rfl ?_ -- 68
  refine hM_lsv M (by decide) ok_48 (K := 1) (R2 := 41) (L := 64) (H := 32000) rfl (by decide) rfl rfl rfl (d_subm hw (by decide +kernel)) hl1 rfl lq3 (by omega) (by omega) rfl (fun h1 V1 M1 => ?_) -- 69
  refine hI_il (k := 3) rfl e3 rfl ?_ -- 70
  refine hM_bp (n := 7) rfl (by decide) rfl (fun x2 q2 => ?_) -- 71
  refine hM_mul rfl lq3 q2 (by omega) (by omega) rfl (fun x3 q3 => ?_) -- 73
  refine hM_si2 (k := 4) rfl (by decide +kernel) rfl (fun lv4 e4_4 u4 => ?_) -- 74
  have e4_0 := u4 0 _ (by decide) (Or.inl rfl) e0
  have e4_1 := u4 1 _ (by decide) (Or.inl rfl) e1
  have e4_2 := u4 2 _ (by decide) (Or.inl rfl) e2
  have e4_3 := u4 3 _ (by decide) (Or.inl rfl) e3
  refine hI_al (k := 0) rfl e4_0 rfl ?_ -- 76
  refine hM_ga M1 (by decide) rfl rfl (k := 0) (c := 2) rfl rfl rfl (by decide +kernel) rfl ?_ -- 77
  refine hI_il2 (k := 4) rfl e4_4 rfl ?_ -- 80
  refine hM_ic (n := 0) rfl (by decide) rfl (fun x5 q5 => ?_) -- 82
  refine hM_add rfl q3 q5 (by omega) (by omega) rfl (fun x6 q6 => ?_) -- 83
  refine hI_il (k := 1) rfl e4_1 rfl ?_ -- 84
  refine hM_isv M1 (by decide) ok_48 (K := 0) (R2 := 40) (L := 448) (H := 224000) rfl (by decide) rfl rfl rfl (fun _ => rfl) (d_subm hw (by decide +kernel)) hl0 rfl q6 (by omega) (by omega) rfl (fun h7 V7 M7 => ?_) -- 85
  refine hI_al (k := 0) rfl e4_0 rfl ?_ -- 86
  refine hM_ga M7 (by decide) rfl rfl (k := 0) (c := 2) rfl rfl rfl (by decide +kernel) rfl ?_ -- 87
  refine hI_il2 (k := 4) rfl e4_4 rfl ?_ -- 90
  refine hM_ic (n := 1) rfl (by decide) rfl (fun x8 q8 => ?_) -- 92
  refine hM_add rfl q3 q8 (by omega) (by omega) rfl (fun x9 q9 => ?_) -- 93
  refine hI_il (k := 2) rfl e4_2 rfl ?_ -- 94
  refine hM_isv M7 (by decide) ok_48 (K := 0) (R2 := 40) (L := 448) (H := 224000) rfl (by decide) rfl rfl rfl (fun _ => rfl) (d_subm hw (by decide +kernel)) hl0 rfl q9 (by omega) (by omega) rfl (fun h10 V10 M10 => ?_) -- 95
  refine hI_al (k := 0) rfl e4_0 rfl ?_ -- 96
  refine hM_ga M10 (by decide) rfl rfl (k := 0) (c := 2) rfl rfl rfl (by decide +kernel) rfl ?_ -- 97
  refine hI_il2 (k := 4) rfl e4_4 rfl ?_ -- 100
  refine hM_ic (n := 2) rfl (by decide) rfl (fun x11 q11 => ?_) -- 102
  refine hM_add rfl q3 q11 (by omega) (by omega) rfl (fun x12 q12 => ?_) -- 103
  refine hI_il2 (k := 4) rfl e4_4 rfl ?_ -- 104
  refine hM_bp (n := 7) rfl (by decide) rfl (fun x13 q13 => ?_) -- 106
  refine hM_add rfl q3 q13 (by omega) (by omega) rfl (fun x14 q14 => ?_) -- 108
  refine hM_ic (n := (-1)) rfl (by decide) rfl (fun x15 q15 => ?_) -- 109
  refine hM_is0 (as := [.ref (A 0), .int x12, .int x14, .int x15]) (r := []) rfl rfl (by decide +kernel) rfl rfl rfl rfl rfl ?_ -- 110
  exact g0 h1 V1 x3 q3 h7 V7 h10 V10 x12 q12 x14 q14 x15 q15 lv4 M10 e4_0 e4_1 e4_2 e4_3 e4_4
theorem s_mk113 {n : Int}  {lx3 : Int32} (e3 : m_lk lv 3 = some (.int lx3)) (lq3 : lx3.toInt = n) 
    (g0 : Q (some (.int lx3)) h)
    : HJ 61 113 lv [] h Q := by
  refine hI_il (k := 3) rfl e3 rfl ?_ -- 113
  refine hI_ri rfl rfl ?_ -- 114
  exact g0 
theorem c_rc {xl xf xt : Int32} (f0 : 0 ≤ xf.toInt) (f1 : xf.toInt ≤ xt.toInt) (f2 : xt.toInt ≤ xl.toInt) (g : Q none h) : HJ 38 0 (lv_args 0 [.int xl, .int xf, .int xt]) [] h Q :=
  s_rc0 rfl rfl rfl rfl rfl rfl (fun _ _ _ => g) (fun _ _ _ => by omega) (fun _ _ => by omega) (fun _ => by omega)
theorem l_flr {T : Int} {xt xz : Int32} (hw : d_sub [(40, 1001)] W = true) (hl : ((h_k h0 (A 0)).2 : Int) = T) (t1 : xt.toInt ≤ T) (t2 : T ≤ 224000) (g : ∀ (h : MH) (V : Nat → Nat → Int), MX 48 W ρ m A h0 h F V G → Q none h) : ∀ (d i : Nat) (lv : List (Nat × Value)) (h : MH) (V : Nat → Nat → Int) (xi : Int32), i + d = 224000 → MX 48 W ρ m A h0 h F V G → xi.toInt = (i : Int) → m_lk lv 0 = some (.ref (A 0)) → m_lk lv 2 = some (.int xt) → m_lk lv 3 = some (.int xz) → m_lk lv 4 = some (.int xi) → HJ 37 10 lv [] h Q := by
  intro d
  induction d with
  | zero =>
    intro i lv h V xi hd M qi e0 e2 e3 e4
    exact s_fr10 M e0 e2 rfl e3 rfl e4 qi (by omega) t1 t2 hl hw (fun _ => g h V M) (by intros; omega)
  | succ d ih =>
    intro i lv h V xi hd M qi e0 e2 e3 e4
    exact s_fr10 M e0 e2 rfl e3 rfl e4 qi (by omega) t1 t2 hl hw (fun _ => g h V M) (fun h1 V1 x2 q2 lv2 M1 d0 d2 d3 d4 _ => ih (i + 1) lv2 h1 V1 x2 (by omega) M1 (by omega) d0 d2 d3 d4)
theorem c_fr {T : Int} {xf xt xz : Int32} (M : MX 48 W ρ m A h0 h F V G) (hw : d_sub [(40, 1001)] W = true) (hl : ((h_k h0 (A 0)).2 : Int) = T) (f0 : 0 ≤ xf.toInt) (f1 : xf.toInt ≤ xt.toInt) (t1 : xt.toInt ≤ T) (t2 : T ≤ 224000) (g : ∀ (h : MH) (V : Nat → Nat → Int), MX 48 W ρ m A h0 h F V G → Q none h) : HJ 37 0 (lv_args 0 [.ref (A 0), .int xf, .int xt, .int xz]) [] h Q :=
  s_fr0 M rfl rfl rfl rfl rfl rfl rfl (fun x1 z1 q1 _ _ c1 => c_rc f0 f1 (by omega) (s_fr7 M rfl rfl rfl rfl rfl rfl rfl (fun lv1 d0 d1 d2 d3 d4 => l_flr hw hl t1 t2 g (224000 - xf.toInt.toNat) xf.toInt.toNat lv1 h V xf (by omega) M (by omega) d0 d2 d3 d4)))
theorem c_copyI {o : Nat} {xn : Int32} (ht : TH c_sp ρ h) (ho : ρ o = 40) (qn : xn.toInt = 2 * ((h_k h o).2 : Int)) (l1 : (h_k h o).2 ≤ 112000) (g : ∀ h' : MH, TH c_sp (m_u ρ (16 + h_n h) 40) h' → FQ ρ (m_u ρ (16 + h_n h) 40) [(40, 1002), (1000, 1002)] h h' → h_n h' = h_n h + 1 → h_z h' = h_z h + 2 * (h_k h o).2 → (h_k h' (16 + h_n h)).2 = 2 * (h_k h o).2 → Q (some (.ref (16 + h_n h))) h') : HJ 62 0 (lv_args 0 [.ref o, .int xn]) [] h Q := by
  have c := t_spec ht (by decide) (rfl : c_sp[40]? = some _) ho
  have kc : (h_k h o).1 = 20 := c.1
  have l0 : 448 ≤ (h_k h o).2 := c.2.1.1
  have o16 : 16 ≤ o := c.2.2.1 rfl
  have ol : o < 16 + h_n h := (ht.2 o (by rw [ho]; decide)).1
  have eL : (Int32.ofNat (h_k h o).2).toInt = ((h_k h o).2 : Int) := by
    rw [Int32.toInt_ofNat_of_lt]
    omega
  have hn : xn.toInt.toNat = 2 * (h_k h o).2 := by omega
  refine hI_il (k := 1) rfl rfl rfl ?_
  refine hI_al (k := 0) rfl rfl rfl ?_
  refine hI_len rfl (by rw [kc]; decide) rfl ?_
  refine hM_cne (t := 14) rfl qn eL (by decide) rfl (fun _ => ?_) (fun c => by omega)
  refine hI_il (k := 1) rfl rfl rfl ?_
  refine hI_newa (t := .int) rfl (by decide) (by omega) (by omega) rfl ?_
  rw [hn]
  have ek : h_k (h_new h 20 (2 * (h_k h o).2) (2 * (h_k h o).2)) o = h_k h o := nw_k (by omega)
  have T6 : TH c_sp (m_u ρ (16 + h_n h) 40) (h_new h 20 (2 * (h_k h o).2) (2 * (h_k h o).2)) := th_new (R := 40) (rs := ((20, (448, 224000)), (true, (true, [.inl (-2147483648, 2147483647)])))) ht (by decide) rfl ⟨by show 448 ≤ _; omega, by show _ ≤ 224000; omega⟩ (by decide)
  have Q6 : FQ ρ (m_u ρ (16 + h_n h) 40) [(40, 1002), (1000, 1002)] h (h_new h 20 (2 * (h_k h o).2) (2 * (h_k h o).2)) := fq_new ht
  refine hI_as (k := 2) rfl (by decide +kernel) rfl ?_
  refine hI_al (k := 0) (x := o) rfl rfl rfl ?_
  refine hI_ic (n := 0) rfl rfl ?_
  refine hI_al (k := 2) (x := 16 + h_n h) rfl rfl rfl ?_
  refine hI_ic (n := 0) rfl rfl ?_
  refine hI_al (k := 0) (x := o) rfl rfl rfl ?_
  refine hI_len rfl ⟨by show 20 ≤ (h_k (h_new h 20 (2 * (h_k h o).2) (2 * (h_k h o).2)) o).1; rw [ek]; omega, by show (h_k (h_new h 20 (2 * (h_k h o).2) (2 * (h_k h o).2)) o).1 < 34; rw [ek]; omega⟩ rfl ?_
  refine hI_il (k := 1) (x := xn) rfl rfl rfl ?_
  refine hI_min rfl rfl ⟨rfl, by decide +kernel, by show 4 + 13 ≤ m_lo 62; decide +kernel⟩ rfl ?_
  have ew : (if xn < Int32.ofNat (h_k (h_new h 20 (2 * (h_k h o).2) (2 * (h_k h o).2)) o).2 then xn else Int32.ofNat (h_k (h_new h 20 (2 * (h_k h o).2) (2 * (h_k h o).2)) o).2) = Int32.ofNat (h_k h o).2 := by
    rw [ek]
    exact if_neg (fun z => by
      have := Int32.lt_iff_toInt_lt.mp z
      omega)
  show HJ 62 28 _ (.int (if xn < Int32.ofNat (h_k (h_new h 20 (2 * (h_k h o).2) (2 * (h_k h o).2)) o).2 then xn else Int32.ofNat (h_k (h_new h 20 (2 * (h_k h o).2) (2 * (h_k h o).2)) o).2) :: _) (h_new h 20 (2 * (h_k h o).2) (2 * (h_k h o).2)) Q
  rw [ew]
  have eN : (Int32.ofNat (h_k h o).2).toNatClampNeg = (h_k h o).2 := by
    show (Int32.ofNat (h_k h o).2).toInt.toNat = _
    omega
  have kN : h_k (h_new h 20 (2 * (h_k h o).2) (2 * (h_k h o).2)) (16 + h_n h) = (20, 2 * (h_k h o).2) := z_newk
  refine hI_cp (h' := h_cpi (h_new h 20 (2 * (h_k h o).2) (2 * (h_k h o).2)) o (16 + h_n h) 0 0 (h_k h o).2) rfl rfl ⟨o16, by omega, by decide, by decide, fun z => ?_, ?_, ?_, by decide +kernel, by decide +kernel, by decide +kernel⟩ (Or.inl ⟨by rw [ek, kc], by rw [kN], by rw [eN]; rfl⟩) rfl ?_
  · have := Int32.lt_iff_toInt_lt.mp z
    have h00 : (0 : Int32).toInt = 0 := rfl
    omega
  · rw [eN, ek]
    show 0 + (h_k h o).2 ≤ _
    omega
  · rw [eN, kN]
    show 0 + (h_k h o).2 ≤ 2 * (h_k h o).2
    omega
  · refine hI_al (k := 2) (x := 16 + h_n h) rfl rfl rfl ?_
    refine hI_ra rfl rfl (g _ ?_ ?_ rfl rfl (by show (h_k (h_new h 20 (2 * (h_k h o).2) (2 * (h_k h o).2)) (16 + h_n h)).2 = _; rw [kN]))
    · exact s_cpT (R0 := 40) (R1 := 40) T6 (by decide) rfl rfl (by rw [m_uN _ _ _ _ (by omega)]; exact ho) (m_uE _ _ _) rfl rfl rfl rfl (by decide) (by rw [ek]; omega)
    · refine ⟨Q6.1, Q6.2.1, Q6.2.2.1, fun a ha => ⟨(Q6.2.2.2 a ha).1, fun k hk => ?_⟩⟩
      have := (Q6.2.2.2 a ha).2 k hk
      refine ⟨?_, this.2⟩
      rw [s_cpI, if_neg (fun z => by have := z.1; omega)]
      exact this.1
theorem c_copyL {o : Nat} {xn : Int32} (ht : TH c_sp ρ h) (ho : ρ o = 41) (qn : xn.toInt = 2 * ((h_k h o).2 : Int)) (l1 : (h_k h o).2 ≤ 16000) (g : ∀ h' : MH, TH c_sp (m_u ρ (16 + h_n h) 41) h' → FQ ρ (m_u ρ (16 + h_n h) 41) [(41, 1002), (1000, 1002)] h h' → h_n h' = h_n h + 1 → h_z h' = h_z h + 2 * (h_k h o).2 → (h_k h' (16 + h_n h)).2 = 2 * (h_k h o).2 → Q (some (.ref (16 + h_n h))) h') : HJ 63 0 (lv_args 0 [.ref o, .int xn]) [] h Q := by
  have c := t_spec ht (by decide) (rfl : c_sp[41]? = some _) ho
  have kc : (h_k h o).1 = 25 := c.1
  have l0 : 64 ≤ (h_k h o).2 := c.2.1.1
  have o16 : 16 ≤ o := c.2.2.1 rfl
  have ol : o < 16 + h_n h := (ht.2 o (by rw [ho]; decide)).1
  have eL : (Int32.ofNat (h_k h o).2).toInt = ((h_k h o).2 : Int) := by
    rw [Int32.toInt_ofNat_of_lt]
    omega
  have hn : xn.toInt.toNat = 2 * (h_k h o).2 := by omega
  refine hI_il (k := 1) rfl rfl rfl ?_
  refine hI_al (k := 0) rfl rfl rfl ?_
  refine hI_len rfl (by rw [kc]; decide) rfl ?_
  refine hM_cne (t := 14) rfl qn eL (by decide) rfl (fun _ => ?_) (fun c => by omega)
  refine hI_il (k := 1) rfl rfl rfl ?_
  refine hI_newa (t := .long) rfl (by decide) (by omega) (by omega) rfl ?_
  rw [hn]
  have ek : h_k (h_new h 25 (2 * (h_k h o).2) (2 * (h_k h o).2)) o = h_k h o := nw_k (by omega)
  have T6 : TH c_sp (m_u ρ (16 + h_n h) 41) (h_new h 25 (2 * (h_k h o).2) (2 * (h_k h o).2)) := th_new (R := 41) (rs := ((25, (64, 32000)), (true, (true, [.inr (.inl ())])))) ht (by decide) rfl ⟨by show 64 ≤ _; omega, by show _ ≤ 32000; omega⟩ (by decide)
  have Q6 : FQ ρ (m_u ρ (16 + h_n h) 41) [(41, 1002), (1000, 1002)] h (h_new h 25 (2 * (h_k h o).2) (2 * (h_k h o).2)) := fq_new ht
  refine hI_as (k := 2) rfl (by decide +kernel) rfl ?_
  refine hI_al (k := 0) (x := o) rfl rfl rfl ?_
  refine hI_ic (n := 0) rfl rfl ?_
  refine hI_al (k := 2) (x := 16 + h_n h) rfl rfl rfl ?_
  refine hI_ic (n := 0) rfl rfl ?_
  refine hI_al (k := 0) (x := o) rfl rfl rfl ?_
  refine hI_len rfl ⟨by show 20 ≤ (h_k (h_new h 25 (2 * (h_k h o).2) (2 * (h_k h o).2)) o).1; rw [ek]; omega, by show (h_k (h_new h 25 (2 * (h_k h o).2) (2 * (h_k h o).2)) o).1 < 34; rw [ek]; omega⟩ rfl ?_
  refine hI_il (k := 1) (x := xn) rfl rfl rfl ?_
  refine hI_min rfl rfl ⟨rfl, by decide +kernel, by show 4 + 13 ≤ m_lo 63; decide +kernel⟩ rfl ?_
  have ew : (if xn < Int32.ofNat (h_k (h_new h 25 (2 * (h_k h o).2) (2 * (h_k h o).2)) o).2 then xn else Int32.ofNat (h_k (h_new h 25 (2 * (h_k h o).2) (2 * (h_k h o).2)) o).2) = Int32.ofNat (h_k h o).2 := by
    rw [ek]
    exact if_neg (fun z => by
      have := Int32.lt_iff_toInt_lt.mp z
      omega)
  show HJ 63 28 _ (.int (if xn < Int32.ofNat (h_k (h_new h 25 (2 * (h_k h o).2) (2 * (h_k h o).2)) o).2 then xn else Int32.ofNat (h_k (h_new h 25 (2 * (h_k h o).2) (2 * (h_k h o).2)) o).2) :: _) (h_new h 25 (2 * (h_k h o).2) (2 * (h_k h o).2)) Q
  rw [ew]
  have eN : (Int32.ofNat (h_k h o).2).toNatClampNeg = (h_k h o).2 := by
    show (Int32.ofNat (h_k h o).2).toInt.toNat = _
    omega
  have kN : h_k (h_new h 25 (2 * (h_k h o).2) (2 * (h_k h o).2)) (16 + h_n h) = (25, 2 * (h_k h o).2) := z_newk
  refine hI_cp (h' := h_cpl (h_new h 25 (2 * (h_k h o).2) (2 * (h_k h o).2)) o (16 + h_n h) 0 0 (h_k h o).2) rfl rfl ⟨o16, by omega, by decide, by decide, fun z => ?_, ?_, ?_, by decide +kernel, by decide +kernel, by decide +kernel⟩ (Or.inr ⟨by rw [ek, kc], by rw [kN], by rw [eN]; rfl⟩) rfl ?_
  · have := Int32.lt_iff_toInt_lt.mp z
    have h00 : (0 : Int32).toInt = 0 := rfl
    omega
  · rw [eN, ek]
    show 0 + (h_k h o).2 ≤ _
    omega
  · rw [eN, kN]
    show 0 + (h_k h o).2 ≤ 2 * (h_k h o).2
    omega
  · refine hI_al (k := 2) (x := 16 + h_n h) rfl rfl rfl ?_
    refine hI_ra rfl rfl (g _ ?_ ?_ rfl rfl (by show (h_k (h_new h 25 (2 * (h_k h o).2) (2 * (h_k h o).2)) (16 + h_n h)).2 = _; rw [kN]))
    · exact T6
    · refine ⟨Q6.1, Q6.2.1, Q6.2.2.1, fun a ha => ⟨(Q6.2.2.2 a ha).1, fun k hk => ?_⟩⟩
      have := (Q6.2.2.2 a ha).2 k hk
      exact ⟨this.1, (congrFun (m_uN (h_new h 25 (2 * (h_k h o).2) (2 * (h_k h o).2)).2.2.2.1 (16 + h_n h) _ a (by omega)) k).trans this.2.1, this.2.2⟩
end
end
section
-- THE ROOM, WHERE ROWS GROW
def dp_g : List (Nat × Nat) := [(0, 1001), (0, 1002), (6, 0), (6, 1), (6, 2), (6, 7), (6, 1002), (25, 0), (25, 1002), (9, 1001), (8, 1001), (29, 0), (47, 0), (39, 1002), (48, 1002)]
theorem rm_grow {ρ ρ' : Nat → Nat} {W : List (Nat × Nat)} {h h' : MH} (ht : TH c_sp ρ h) (f : FQ ρ ρ' W h h') (hn : d_no dp_g W = true) {n L : Nat} (hm : ρ n = 39 ∨ ρ n = 48) (hL : (h_k h (h_r h n 1)).2 = L) (en : h_n h' = h_n h + 2) (ez : h_z h' = h_z h + 16 * L) (hr : h_r h' n 1 < 16 + h_n h') (hL' : (h_k h' (h_r h' n 1)).2 = 2 * L) (l0 : 64 ≤ L) (oth : ∀ a, a ≠ n → a < 16 + h_n h → (ρ a = 39 ∨ ρ a = 48 ∨ ρ a = 0) → h_r h' a 1 = h_r h a 1) (k : t_rm ρ h) : t_rm ρ' h' := by
  obtain ⟨⟨a1, a2, a3, a4, a5⟩, b, c, d, e⟩ := k
  have eP : r_P h' = r_P h := rm_rD f (by decide) hn a1.1 (R := 6) (by decide) (by decide) a1.2
  have eI : r_I h' = r_I h := rm_rD f (by decide) hn a1.1 (R := 6) (by decide) (by decide) a1.2
  have eS : r_S h' = r_S h := rm_rD f (by decide) hn a1.1 (R := 6) (by decide) (by decide) a1.2
  have eT0 : h_r h' (r_S h') 0 = h_r h (r_S h) 0 := by
    rw [eS]
    exact rm_rD f (by decide) hn a4.1 (R := 25) (by decide) (by decide) a4.2
  have eT : r_T h' = r_T h := by
    unfold r_T
    rw [eT0, (f.2.2.2 _ a5.1).1]
  have esl : ∀ k, k < 4 → r_sl h' k = r_sl h k := fun k hk => by
    unfold r_sl
    rw [eP]
    exact rm_eD f (by decide) hn a2.1 (R := 9) (by decide) (by omega) a2.2
  have eim : ∀ k, k < 4 → r_im h' k = r_im h k := fun k hk => by
    unfold r_im
    rw [eI]
    exact rm_eD f (by decide) hn a3.1 (R := 8) (by decide) (by omega) a3.2
  have eno : ∀ k, k < 4 → r_sl h k ≠ 0 → r_no h' k = r_no h k := fun k hk hs => by
    rcases b k hk with z | ⟨z1, z2, z3⟩
    · exact absurd z hs
    · unfold r_no
      rw [esl k hk]
      rcases z1.2 with q | q | q
      · exact rm_rD f (by decide) hn z1.1 (R := 29) (by decide) (by decide) (Or.inl q)
      · exact rm_rD f (by decide) hn z1.1 (R := 47) (by decide) (by decide) (Or.inl q)
      · exact rm_rD f (by decide) hn z1.1 (R := 29) (by decide) (by decide) (Or.inr q)
  have eho : ∀ k, k < 4 → r_sl h k ≠ 0 → r_ho h' k < 16 + h_n h' ∧ (r_no h k = n → r_L h' k = 2 * L ∧ r_L h k = L) ∧ (r_no h k ≠ n → r_L h' k = r_L h k) := fun k hk hs => by
    rcases b k hk with z | ⟨z1, z2, z3⟩
    · exact absurd z hs
    · by_cases e9 : r_no h k = n
      · have e8 : r_ho h' k = h_r h' n 1 := by
          unfold r_ho
          rw [eno k hk hs, e9]
        refine ⟨by rw [e8]; exact hr, fun _ => ⟨?_, ?_⟩, fun z => absurd e9 z⟩
        · unfold r_L
          rw [e8]
          exact hL'
        · unfold r_L r_ho
          rw [e9]
          exact hL
      · have e8 : r_ho h' k = r_ho h k := by
          unfold r_ho
          rw [eno k hk hs]
          exact oth _ e9 z2.1 z2.2
        refine ⟨by rw [e8]; omega, fun z => absurd z e9, fun _ => ?_⟩
        unfold r_L
        rw [e8, (f.2.2.2 _ z3).1]
  have epn : ∀ k, k < 4 → r_pn h k ≤ r_pn h' k ∧ r_pz h k ≤ r_pz h' k ∧ (r_sl h k ≠ 0 → r_no h k = n → r_pn h k + 64 ≤ r_pn h' k ∧ r_pz h k + 16 * L ≤ r_pz h' k) := fun k hk => by
    unfold r_pn r_pz
    rw [esl k hk]
    by_cases hs : r_sl h k = 0
    · rw [if_pos hs, if_pos hs, if_pos hs, if_pos hs]
      exact ⟨Nat.le_refl _, Nat.le_refl _, fun z => absurd hs z⟩
    · rw [if_neg hs, if_neg hs, if_neg hs, if_neg hs]
      obtain ⟨-, q1, q2⟩ := eho k hk hs
      by_cases e9 : r_no h k = n
      · obtain ⟨q3, q4⟩ := q1 e9
        rw [q3, q4]
        exact ⟨by omega, by omega, fun _ _ => ⟨by omega, by omega⟩⟩
      · rw [q2 e9]
        exact ⟨Nat.le_refl _, Nat.le_refl _, fun _ z => absurd z e9⟩
  have eqn : ∀ k, k < 4 → r_qn h' k = r_qn h k ∧ r_qz h' k = r_qz h k := fun k hk => by
    unfold r_qn r_qz
    rw [eim k hk]
    exact ⟨rfl, rfl⟩
  have hin : ∀ {a R : Nat}, r_iu ρ h a R → r_iu ρ' h' a R := fun {a R} q => ⟨by have := q.1; omega, by rw [f.same q.1]; exact q.2⟩
  have hin2 : ∀ {a R R2 : Nat}, r_iu2 ρ h a R R2 → r_iu2 ρ' h' a R R2 := fun {a R R2} q => ⟨by have := q.1; omega, by rw [f.same q.1]; exact q.2⟩
  refine ⟨⟨hin a1, by rw [eP]; exact hin a2, by rw [eI]; exact hin a3, by rw [eS]; exact hin a4, by rw [eT0]; have := a5.1; omega, fun a ha => a5.2.1 a (fq_m f ht hn (by decide) (show (6, 1002) ∈ dp_g by decide) ha).1, fun a ha => by rw [eS]; exact a5.2.2 a (fq_m f ht hn (by decide) (show (25, 1002) ∈ dp_g by decide) ha).1⟩, fun k hk => ?_, fun a ha => ?_, ?_, ?_⟩
  · by_cases hs : r_sl h k = 0
    · exact Or.inl ((esl k hk).trans hs)
    · rcases b k hk with z | ⟨z1, z2, z3⟩
      · exact absurd z hs
      · refine Or.inr ⟨by rw [esl k hk]; exact hin2 z1, by rw [eno k hk hs]; exact hin2 z2, ?_⟩
        exact (eho k hk hs).1
  · have ha2 : ρ a = 39 ∨ ρ a = 48 := by
      rcases ha with q | q
      · exact Or.inl (fq_m f ht hn (by decide) (show (39, 1002) ∈ dp_g by decide) q).1
      · exact Or.inr (fq_m f ht hn (by decide) (show (48, 1002) ∈ dp_g by decide) q).1
    obtain ⟨k, hk, hs, e9⟩ := c a ha2
    exact ⟨k, hk, by rw [esl k hk]; exact hs, by rw [eno k hk hs]; exact e9⟩
  · rw [en, (eqn 0 (by decide)).1, (eqn 1 (by decide)).1, (eqn 2 (by decide)).1, eT]
    obtain ⟨k0, j1, j2, j3⟩ := c n hm
    have p0 := epn 0 (by decide)
    have p1 := epn 1 (by decide)
    have p2 := epn 2 (by decide)
    have p3 := epn 3 (by decide)
    have p9 := (epn k0 j1).2.2 j2 j3.symm
    match k0, j1 with
    | 0, _ => omega
    | 1, _ => omega
    | 2, _ => omega
    | 3, _ => omega
  · rw [ez, (eqn 0 (by decide)).2, (eqn 1 (by decide)).2, (eqn 2 (by decide)).2, eT]
    obtain ⟨k0, j1, j2, j3⟩ := c n hm
    have p0 := epn 0 (by decide)
    have p1 := epn 1 (by decide)
    have p2 := epn 2 (by decide)
    have p3 := epn 3 (by decide)
    have p9 := (epn k0 j1).2.2 j2 j3.symm
    match k0, j1 with
    | 0, _ => omega
    | 1, _ => omega
    | 2, _ => omega
    | 3, _ => omega
end
section
-- MAKE A NODE
def w_mk : List (Nat × Nat) := [(40, 1001), (40, 1002), (41, 1001), (41, 1002), (48, 0), (48, 1), (48, 5), (1000, 1002)]
section
variable {lv : List (Nat × Value)} {Q : Option Value → MH → Prop} {W : List (Nat × Nat)} {ρ : Nat → Nat} {m : Nat} {A : Nat → Nat} {h0 h : MH} {F : Nat → Int} {V : Nat → Nat → Int} {G : Nat → Nat → Int64}
theorem c_mk48 {xw xr : Int32} (ht : TH c_sp ρ h) (hm : ρ m = 48) (n1 : t_nd ρ h) (n2 : t_rm ρ h) (cap : (h_i h m 5).toInt < ((h_k h (h_r h m 1)).2 : Int)) (m1 : (h_i h m 5).toInt ≤ 15999) (e0 : m_lk lv 0 = some (.ref m)) (e1 : m_lk lv 1 = some (.int xw)) (e2 : m_lk lv 2 = some (.int xr)) (g : ∀ (x : Int32) (h6 h' : MH), FS ρ [(48, 5)] h h6 → FS ρ [(40, 1001), (41, 1001)] h6 h' → TH c_sp ρ h' → t_nd ρ h' → t_rm ρ h' → x.toInt = (h_i h m 5).toInt → (h_i h' m 5).toInt = (h_i h m 5).toInt + 1 → Q (some (.int x)) h') : HJ 61 48 lv [] h Q := by
  have M0 := MX.start (W := []) ht hm
  have b5 : 0 ≤ (h_i h m 5).toInt ∧ (h_i h m 5).toInt ≤ 16000 := M0.fi (by decide) (k := 5) (lo := 0) (hi := 16000) rfl rfl rfl
  refine s_mk48 M0 e0 e1 rfl e2 rfl m1 (fun x1 q1 x5 q5 lv2 d0 d1 d2 d3 _ _ => ?_)
  have q1 : x1.toInt = (h_i h m 5).toInt := q1
  have q5 : x5.toInt = (h_i h m 5).toInt + 1 := q5
  have mk : (h_k h m).1 = 3 := (t_spec ht (by decide) (rfl : c_sp[48]? = some _) hm).1
  refine hI_pi (o := m) rfl rfl (by decide +kernel) mk rfl ?_
  have T6 : TH c_sp ρ (h_si h m 5 x5) := s_siT (k := 5) ht (by decide) (rfl : c_sp[48]? = some _) hm rfl (by show 0 ≤ x5.toInt; omega) (by show x5.toInt ≤ 16000; omega)
  have Q6 : FS ρ [(48, 5)] h (h_si h m 5 x5) := FS.ofFR (s_siF hm (Or.inl (List.mem_singleton.mpr rfl)))
  have N6 : t_nd ρ (h_si h m 5 x5) := fun a ha => by
    obtain ⟨k1, k2⟩ := n1 a ha
    refine ⟨k1, ?_⟩
    rw [s_siI]
    by_cases e : a = m
    · rw [if_pos ⟨e, rfl⟩]
      subst e
      show x5.toInt ≤ ((h_k h (h_r h a 1)).2 : Int)
      omega
    · rw [if_neg (fun z => e z.1)]
      exact k2
  have R6 : t_rm ρ (h_si h m 5 x5) := c_PTx 2 ρ ρ [(48, 5)] h _ ht Q6.fq (by decide +kernel) n2
  have i6 : (h_i (h_si h m 5 x5) m 5).toInt = x5.toInt := by rw [s_siI, if_pos ⟨rfl, rfl⟩]
  obtain ⟨k1, k2⟩ := N6 m (Or.inr hm)
  rw [i6] at k2
  generalize h_si h m 5 x5 = h6 at T6 Q6 N6 R6 i6 k1 k2 ⊢
  have M6 := MX.start (W := [(40, 1001), (41, 1001)]) T6 hm
  have a0 := (M6.ar (by decide) (K := 0) (by decide +kernel)).1
  have l0 : (h_k h6 (h_r h6 m 0)).2 ≤ 224000 := (t_spec T6 (by decide) (rfl : c_sp[40]? = some _) a0).2.1.2
  refine s_mk63 (n := (h_i h m 5).toInt) (T := ((h_k h6 (h_r h6 m 0)).2 : Int)) (T1 := ((h_k h6 (h_r h6 m 1)).2 : Int)) M6 d0 d1 rfl d2 rfl d3 q1 b5.1 (by omega) (by omega) m1 rfl rfl (by decide +kernel) (fun h1 V1 x3 q3 h7 V7 h10 V10 x12 q12 x14 q14 x15 q15 lv4 M10 c0 c1 c2 c3 c4 => ?_)
  refine c_fr M10 (by decide +kernel) rfl (by omega) (by omega) (by omega) (by omega) (fun h' V' M' => s_mk113 c3 q1 (g x1 h6 h' Q6 M'.1.2.2 M'.1.1 (c_PTx 1 ρ ρ _ h6 h' T6 M'.1.2.2.fq (by decide +kernel) N6) (c_PTx 2 ρ ρ _ h6 h' T6 M'.1.2.2.fq (by decide +kernel) R6) q1 ?_))
  have e9 : (h_i h' m 5).toInt = (h_i h6 m 5).toInt := M'.2.1 5
  omega
theorem fq_pt {ρ ρ1 : Nat → Nat} {R a k : Nat} {h h' : MH} (f : FQ ρ ρ1 [(R, 1002), (1000, 1002)] h h') (ha : a < 16 + h_n h) (hk : k < 1000) : h_k h' a = h_k h a ∧ h_i h' a k = h_i h a k ∧ h_r h' a k = h_r h a k := by
  have := f.2.2.2 a ha
  have w : ¬ t_W [(R, 1002), (1000, 1002)] (ρ a) k := by
    intro z
    rcases z with z | z
    · simp at z
      omega
    · simp at z
  exact ⟨this.1, (this.2 k w).1, (this.2 k w).2.2⟩
theorem c_makeNode {xw xr : Int32} (ht : TH c_sp ρ h) (hm : ρ m = 48) (n1 : t_nd ρ h) (n2 : t_rm ρ h) (m1 : (h_i h m 5).toInt ≤ 15999) (e0 : m_lk lv 0 = some (.ref m)) (e1 : m_lk lv 1 = some (.int xw)) (e2 : m_lk lv 2 = some (.int xr)) (g : ∀ (ρ' : Nat → Nat) (x : Int32) (h' : MH), FQ ρ ρ' w_mk h h' → TH c_sp ρ' h' → t_nd ρ' h' → t_rm ρ' h' → x.toInt = (h_i h m 5).toInt → (h_i h' m 5).toInt = (h_i h m 5).toInt + 1 → Q (some (.int x)) h') : HJ 61 0 lv [] h Q := by
  have M0 := MX.start (W := []) ht hm
  have b5 : 0 ≤ (h_i h m 5).toInt ∧ (h_i h m 5).toInt ≤ 16000 := M0.fi (by decide) (k := 5) (lo := 0) (hi := 16000) rfl rfl rfl
  obtain ⟨k1, k2⟩ := n1 m (Or.inr hm)
  have a0 : ρ (h_r h m 0) = 40 := (M0.ar (by decide) (K := 0) (by decide +kernel)).1
  have a1 : ρ (h_r h m 1) = 41 := (M0.ar (by decide) (K := 1) (by decide +kernel)).1
  have ml : m < 16 + h_n h := (ht.2 m (by rw [hm]; decide)).1
  have l0 : (h_r h m 0) < 16 + h_n h := (ht.2 _ (by rw [a0]; decide)).1
  have l1 : (h_r h m 1) < 16 + h_n h := (ht.2 _ (by rw [a1]; decide)).1
  have mk : (h_k h m).1 = 3 := (t_spec ht (by decide) (rfl : c_sp[48]? = some _) hm).1
  have L64 : 64 ≤ (h_k h (h_r h m 1)).2 := (t_spec ht (by decide) (rfl : c_sp[41]? = some _) a1).2.1.1
  refine s_mk0 M0 e0 e1 rfl e2 rfl (fun z2 a2 b2 c2 _ _ c9 => ?_) (fun z2 a2 b2 c2 _ _ c9 => ?_)
  · have c9 : (h_i h m 5).toInt < z2 := c9
    exact c_mk48 ht hm n1 n2 (by omega) m1 e0 e1 e2 (fun x h6 h' f1 f2 t k1 k2 q1 q2 => g ρ x h' ((f1.fq.mono (by decide +kernel)).trans (f2.fq.mono (by decide +kernel))) t k1 k2 q1 q2)
  · have c9 : (h_i h m 5).toInt ≥ z2 := c9
    refine s_mk12 M0 e0 e1 rfl e2 rfl (fun z1 a3 b3 c1 x3 q3 => c_copyI ht a0 (by omega) (by omega) (fun h1 T1 F1 en1 ez1 el1 => ?_))
    have f1 := @fq_pt _ _ _ m 0 _ _ F1 ml (by decide)
    have mk1 : (h_k h1 m).1 = 3 := by rw [f1.1]; exact mk
    show HJ 61 27 lv [.ref (16 + h_n h), .ref m] h1 Q
    refine hI_pr (o := m) rfl rfl (by decide +kernel) mk1 rfl ?_
    have hm1 : m_u ρ (16 + h_n h) 40 m = 48 := by rw [m_uN _ _ _ _ (by omega)]; exact hm
    have T2 := s_srT (k := 0) (x := 16 + h_n h) T1 (rfl : c_sp[48]? = some _) hm1 rfl (Or.inr ⟨by omega, by decide, m_uE _ _ _⟩)
    have Q2 : FQ (m_u ρ (16 + h_n h) 40) (m_u ρ (16 + h_n h) 40) [(48, 0)] h1 (h_sr h1 m 0 (16 + h_n h)) := (FS.ofFR (s_srF hm1 (Or.inl (List.mem_singleton.mpr rfl)))).fq
    have r1 : h_r (h_sr h1 m 0 (16 + h_n h)) m 1 = h_r h m 1 := by
      rw [s_srR, if_neg (fun z => by have := z.2; omega)]
      exact (@fq_pt _ _ _ m 1 _ _ F1 ml (by decide)).2.2
    have ho : m_u ρ (16 + h_n h) 40 (h_r (h_sr h1 m 0 (16 + h_n h)) m 1) = 41 := by
      rw [r1, m_uN _ _ _ _ (by omega)]
      exact a1
    have kl : (h_k (h_sr h1 m 0 (16 + h_n h)) (h_r (h_sr h1 m 0 (16 + h_n h)) m 1)).2 = (h_k h (h_r h m 1)).2 := by
      rw [r1]
      show (h_k h1 (h_r h m 1)).2 = _
      rw [(@fq_pt _ _ _ _ 0 _ _ F1 l1 (by decide)).1]
    refine s_mk30 (MX.start (W := []) T2 hm1) e0 e1 rfl e2 rfl (fun z4 a4 b4 c4 x4 q4 => c_copyL T2 ho (by omega) (by omega) (fun h3 T3 F3 en3 ez3 el3 => ?_))
    have en2 : h_n (h_sr h1 m 0 (16 + h_n h)) = h_n h + 1 := en1
    generalize hh2 : h_sr h1 m 0 (16 + h_n h) = h2 at T2 Q2 r1 ho kl T3 F3 en3 ez3 el3 en2 ⊢
    have s2k : ∀ a, h_k h2 a = h_k h1 a := fun a => by rw [← hh2]; rfl
    have s2i : ∀ a j, h_i h2 a j = h_i h1 a j := fun a j => by rw [← hh2]; rfl
    have s2z : h_z h2 = h_z h1 := by rw [← hh2]; rfl
    have s2r : ∀ a j, ¬ (a = m ∧ j = 0) → h_r h2 a j = h_r h1 a j := fun a j hn => by rw [← hh2, s_srR, if_neg hn]
    have s20 : h_r h2 m 0 = 16 + h_n h := by rw [← hh2, s_srR, if_pos ⟨rfl, rfl⟩]
    have f3 := @fq_pt _ _ _ m 0 _ _ F3 (by omega) (by decide)
    have mk3 : (h_k h3 m).1 = 3 := by rw [f3.1, s2k]; exact mk1
    show HJ 61 45 lv [.ref (16 + h_n h2), .ref m] h3 Q
    refine hI_pr (o := m) rfl rfl (by decide +kernel) mk3 rfl ?_
    have hm2 : m_u (m_u ρ (16 + h_n h) 40) (16 + h_n h2) 41 m = 48 := by rw [m_uN _ _ _ _ (by omega)]; exact hm1
    have T4 := s_srT (k := 1) (x := 16 + h_n h2) T3 (rfl : c_sp[48]? = some _) hm2 rfl (Or.inr ⟨by omega, by decide, m_uE _ _ _⟩)
    have Q4 : FQ (m_u (m_u ρ (16 + h_n h) 40) (16 + h_n h2) 41) (m_u (m_u ρ (16 + h_n h) 40) (16 + h_n h2) 41) [(48, 1)] h3 (h_sr h3 m 1 (16 + h_n h2)) := (FS.ofFR (s_srF hm2 (Or.inl (List.mem_singleton.mpr rfl)))).fq
    generalize hh4 : h_sr h3 m 1 (16 + h_n h2) = h4 at T4 Q4 ⊢
    have s4k : ∀ a, h_k h4 a = h_k h3 a := fun a => by rw [← hh4]; rfl
    have s4i : ∀ a j, h_i h4 a j = h_i h3 a j := fun a j => by rw [← hh4]; rfl
    have s4z : h_z h4 = h_z h3 := by rw [← hh4]; rfl
    have s4n : h_n h4 = h_n h3 := by rw [← hh4]; rfl
    have s4r : ∀ a j, ¬ (a = m ∧ j = 1) → h_r h4 a j = h_r h3 a j := fun a j hn => by rw [← hh4, s_srR, if_neg hn]
    have s41 : h_r h4 m 1 = 16 + h_n h2 := by rw [← hh4, s_srR, if_pos ⟨rfl, rfl⟩]
    have pk : ∀ a, a < 16 + h_n h → h_k h4 a = h_k h a := fun a ha => by
      rw [s4k, (@fq_pt _ _ _ a 0 _ _ F3 (by omega) (by decide)).1, s2k, (@fq_pt _ _ _ a 0 _ _ F1 ha (by decide)).1]
    have pi : ∀ a, a < 16 + h_n h → h_i h4 a 5 = h_i h a 5 := fun a ha => by
      rw [s4i, (@fq_pt _ _ _ a 5 _ _ F3 (by omega) (by decide)).2.1, s2i, (@fq_pt _ _ _ a 5 _ _ F1 ha (by decide)).2.1]
    have pr : ∀ a j, a < 16 + h_n h → a ≠ m → j < 1000 → h_r h4 a j = h_r h a j := fun a j ha hn hj => by
      rw [s4r a j (fun z => hn z.1), (@fq_pt _ _ _ a j _ _ F3 (by omega) hj).2.2, s2r a j (fun z => hn z.1), (@fq_pt _ _ _ a j _ _ F1 ha hj).2.2]
    have r40 : h_r h4 m 0 = 16 + h_n h := by
      rw [s4r m 0 (fun z => by have := z.2; omega), (@fq_pt _ _ _ m 0 _ _ F3 (by omega) (by decide)).2.2, s20]
    have kN : (h_k h4 (16 + h_n h)).2 = 2 * (h_k h (h_r h m 0)).2 := by
      rw [s4k, (@fq_pt _ _ _ (16 + h_n h) 0 _ _ F3 (by omega) (by decide)).1, s2k]
      exact el1
    have kN2 : (h_k h4 (16 + h_n h2)).2 = 2 * (h_k h (h_r h m 1)).2 := by
      rw [s4k, el3, kl]
    have i5 := pi m ml
    have n4 : t_nd (m_u (m_u ρ (16 + h_n h) 40) (16 + h_n h2) 41) h4 := fun a ha => by
      have x2 : a ≠ 16 + h_n h2 := fun z => by rw [z, m_uE] at ha; rcases ha with e | e <;> cases e
      rw [m_uN _ _ _ _ x2] at ha
      have x1 : a ≠ 16 + h_n h := fun z => by rw [z, m_uE] at ha; rcases ha with e | e <;> cases e
      rw [m_uN _ _ _ _ x1] at ha
      have al : a < 16 + h_n h := (ht.2 a (by rcases ha with e | e <;> (rw [e]; decide))).1
      obtain ⟨y1, y2⟩ := n1 a ha
      by_cases e : a = m
      · subst e
        rw [s41, r40, kN, kN2, i5]
        omega
      · have w1 : h_r h a 1 < 16 + h_n h ∧ h_r h a 0 < 16 + h_n h := by
          rcases ha with q | q
          · have u1 := (th_rf ht (R := 39) (by decide) rfl q (k := 1) rfl (fun z => by cases z)).2
            have u0 := (th_rf ht (R := 39) (by decide) rfl q (k := 0) rfl (fun z => by cases z)).2
            exact ⟨(ht.2 _ (by rw [u1]; decide)).1, (ht.2 _ (by rw [u0]; decide)).1⟩
          · have u1 := (th_rf ht (R := 48) (by decide) rfl q (k := 1) rfl (fun z => by cases z)).2
            have u0 := (th_rf ht (R := 48) (by decide) rfl q (k := 0) rfl (fun z => by cases z)).2
            exact ⟨(ht.2 _ (by rw [u1]; decide)).1, (ht.2 _ (by rw [u0]; decide)).1⟩
        rw [pr a 1 al e (by decide), pr a 0 al e (by decide), pk _ w1.1, pk _ w1.2, pi a al]
        exact ⟨y1, y2⟩
    have F4 : FQ ρ (m_u (m_u ρ (16 + h_n h) 40) (16 + h_n h2) 41) [(40, 1002), (41, 1002), (48, 0), (48, 1), (1000, 1002)] h h4 := (((F1.mono (by decide +kernel)).trans (Q2.mono (by decide +kernel))).trans (F3.mono (by decide +kernel))).trans (Q4.mono (by decide +kernel))
    have R4 : t_rm (m_u (m_u ρ (16 + h_n h) 40) (16 + h_n h2) 41) h4 := rm_grow (n := m) (L := (h_k h (h_r h m 1)).2) ht F4 (by decide +kernel) (Or.inr hm) rfl (by omega) (by rw [kl] at ez3; omega) (by rw [s41]; omega) (by rw [s41, kN2]) L64 (fun a hn ha _ => pr a 1 ha hn (by decide)) n2
    refine c_mk48 T4 hm2 n4 R4 (by rw [s41, kN2, i5]; omega) (by rw [i5]; exact m1) e0 e1 e2 (fun x h6 h' f1 f2 t k1 k2 q1 q2 => g _ x h' (((F4.mono (by decide +kernel)).trans (f1.fq.mono (by decide +kernel))).trans (f2.fq.mono (by decide +kernel))) t k1 k2 (by rw [q1, i5]) (by rw [q2, i5]))
end
end
section
-- WHAT IS MADE, ONE CELL BEHIND THE OTHER: kind, length; reference fields (to which cell), int fields written (2000 ..)
abbrev NC : Type := (Nat × Nat) × List (Nat × Nat)
def nc_r (b : Nat) (c : NC) (k : Nat) : Nat := match m_lk c.2 k with
  | some q => b + q
  | none => 0
def NCok (b : Nat) (h : MH) (a : Nat) (c : NC) : Prop := h_k h a = c.1 ∧ ∀ k, k < 1000 → ((m_lk c.2 (2000 + k)).isSome = true ∨ h_i h a k = 0) ∧ (c.1.1 < 20 ∨ 30 ≤ c.1.1 → h_r h a k = nc_r b c k)
def SX (h0 h : MH) (D : List NC) (Z : Nat) : Prop := (h_n h = h_n h0 + D.length ∧ h_z h = h_z h0 + Z) ∧ (∀ a, a < 16 + h_n h0 → h_k h a = h_k h0 a ∧ ∀ k, h_i h a k = h_i h0 a k ∧ h_l h a k = h_l h0 a k ∧ h_r h a k = h_r h0 a k) ∧ ∀ j c, D[j]? = some c → NCok (16 + h_n h0) h (16 + h_n h0 + j) c
section
variable {h0 h : MH} {D : List NC} {Z : Nat}
theorem sx_start : SX h h [] 0 := ⟨⟨rfl, rfl⟩, fun _ _ => ⟨rfl, fun _ => ⟨rfl, rfl, rfl⟩⟩, fun j c e => by cases e⟩
theorem sx_new {k len sz : Nat} (S : SX h0 h D Z) : SX h0 (h_new h k len sz) (D ++ [((k, len), [])]) (Z + sz) := by
  obtain ⟨⟨a1, a2⟩, a3, a4⟩ := S
  have e9 : (D ++ [((k, len), ([] : List (Nat × Nat)))]).length = D.length + 1 := List.length_append
  refine ⟨⟨?_, ?_⟩, fun a ha => ?_, fun j c e => ?_⟩
  · rw [e9]
    show h_n h + 1 = _
    omega
  · show h_z h + sz = _
    omega
  · obtain ⟨b1, b2⟩ := a3 a ha
    exact ⟨(nw_k (by omega)).trans b1, fun q => ⟨(nw_i (by omega) q).trans (b2 q).1, (nw_l (by omega) q).trans (b2 q).2.1, (nw_r (by omega) q).trans (b2 q).2.2⟩⟩
  · by_cases hj : j < D.length
    · rw [List.getElem?_append_left hj] at e
      obtain ⟨b1, b2⟩ := a4 j c e
      exact ⟨(nw_k (by omega)).trans b1, fun q hq => ⟨(b2 q hq).1.imp id (fun z => (nw_i (by omega) q).trans z), fun z => (nw_r (by omega) q).trans ((b2 q hq).2 z)⟩⟩
    · have hj2 : j = D.length := by
        have := (List.getElem?_eq_some_iff.mp e).1
        omega
      subst hj2
      rw [List.getElem?_append_right (Nat.le_refl _), Nat.sub_self] at e
      cases (Option.some.inj e)
      have ea : 16 + h_n h0 + D.length = 16 + h_n h := by omega
      rw [ea]
      exact ⟨z_newk, fun q _ => ⟨Or.inr (by rw [z_newi]), fun _ => by rw [z_newr]; rfl⟩⟩
theorem sx_lt {j : Nat} {c : NC} (S : SX h0 h D Z) (e : D[j]? = some c) : j < D.length := (List.getElem?_eq_some_iff.mp e).1
theorem sx_pr {j k q : Nat} {c : NC} (S : SX h0 h D Z) (e : D[j]? = some c) (hk : k < 1000) : SX h0 (h_sr h (16 + h_n h0 + j) k (16 + h_n h0 + q)) (D.set j (c.1, (k, q) :: c.2)) Z := by
  have hj := sx_lt S e
  obtain ⟨⟨a1, a2⟩, a3, a4⟩ := S
  refine ⟨⟨by rw [List.length_set]; exact a1, a2⟩, fun a ha => ?_, fun j2 c2 e2 => ?_⟩
  · obtain ⟨b1, b2⟩ := a3 a ha
    exact ⟨b1, fun p => ⟨(b2 p).1, (b2 p).2.1, by rw [s_srR, if_neg (fun z => by have := z.1; omega)]; exact (b2 p).2.2⟩⟩
  · by_cases ej : j2 = j
    · subst ej
      rw [List.getElem?_set_self hj] at e2
      cases (Option.some.inj e2)
      obtain ⟨b1, b2⟩ := a4 j2 c e
      refine ⟨b1, fun p hp => ⟨?_, fun z => ?_⟩⟩
      · rcases (b2 p hp).1 with w | w
        · left
          rw [m_lkc, if_neg (by show k ≠ 2000 + p; omega)]
          exact w
        · exact Or.inr w
      · unfold nc_r
        dsimp only
        rw [s_srR, m_lkc]
        by_cases ek : p = k
        · subst ek
          rw [if_pos ⟨rfl, rfl⟩, if_pos rfl]
        · rw [if_neg (fun z => ek z.2), if_neg (fun z => ek z.symm)]
          exact (b2 p hp).2 z
    · rw [List.getElem?_set_ne (fun z => ej z.symm)] at e2
      obtain ⟨b1, b2⟩ := a4 j2 c2 e2
      exact ⟨b1, fun p hp => ⟨(b2 p hp).1, fun z => by rw [s_srR, if_neg (fun z => by have := z.1; omega)]; exact (b2 p hp).2 z⟩⟩
theorem sx_pi {j k : Nat} {x : Int32} {c : NC} (S : SX h0 h D Z) (e : D[j]? = some c) : SX h0 (h_si h (16 + h_n h0 + j) k x) (D.set j (c.1, (2000 + k, 0) :: c.2)) Z := by
  have hj := sx_lt S e
  obtain ⟨⟨a1, a2⟩, a3, a4⟩ := S
  refine ⟨⟨by rw [List.length_set]; exact a1, a2⟩, fun a ha => ?_, fun j2 c2 e2 => ?_⟩
  · obtain ⟨b1, b2⟩ := a3 a ha
    exact ⟨b1, fun p => ⟨by rw [s_siI, if_neg (fun z => by have := z.1; omega)]; exact (b2 p).1, (b2 p).2.1, (b2 p).2.2⟩⟩
  · by_cases ej : j2 = j
    · subst ej
      rw [List.getElem?_set_self hj] at e2
      cases (Option.some.inj e2)
      obtain ⟨b1, b2⟩ := a4 j2 c e
      refine ⟨b1, fun p hp => ⟨?_, fun z => ?_⟩⟩
      · by_cases ek : p = k
        · subst ek
          left
          rw [m_lkc, if_pos rfl]
          rfl
        · rcases (b2 p hp).1 with w | w
          · left
            rw [m_lkc, if_neg (by show 2000 + k ≠ 2000 + p; omega)]
            exact w
          · right
            rw [s_siI, if_neg (fun z => ek z.2)]
            exact w
      · unfold nc_r
        dsimp only
        rw [m_lkc, if_neg (by show 2000 + k ≠ p; omega)]
        exact (b2 p hp).2 z
    · rw [List.getElem?_set_ne (fun z => ej z.symm)] at e2
      obtain ⟨b1, b2⟩ := a4 j2 c2 e2
      exact ⟨b1, fun p hp => ⟨(b2 p hp).1.imp id (fun w => by rw [s_siI, if_neg (fun z => by have := z.1; omega)]; exact w), (b2 p hp).2⟩⟩
end
section
variable {i pc pc' : Nat} {lv : List (Nat × Value)} {st : List Value} {h0 h : MH} {D : List NC} {Z : Nat} {Q : Option Value → MH → Prop}
theorem hS_new {idx c j : Nat} (S : SX h0 h D Z) (a : m_at i pc = some (.new idx, 3)) (hc : m_cc i idx = some c) (h10 : c < 10) (hj : D.length = j) (hp : pc + 3 = pc') (g : ∀ h', SX h0 h' (D ++ [((c + 1, m_nf c), [])]) (Z + m_nf c) → HJ i pc' lv (.ref (16 + h_n h0 + j) :: st) h' Q) : HJ i pc lv st h Q := by
  have e1 : 16 + h_n h0 + j = 16 + h_n h := by have := S.1.1; omega
  have g := g _ (sx_new S)
  rw [e1] at g
  subst hp
  refine HJ.ex a (Or.inl rfl) ?_ g
  show e_new i idx pc lv st h = _
  unfold e_new
  rw [hc]
  dsimp only
  rw [if_pos h10]
  rfl
theorem hS_newa {t : ArrayType} {x : Int32} {n j : Nat} (S : SX h0 h D Z) (a : m_at i pc = some (.newarray t, 2)) (hk : m_ak t ≠ 0) (hx : x.toInt = (n : Int)) (hn : n ≤ 1000000) (hj : D.length = j) (hp : pc + 2 = pc') (g : ∀ h', SX h0 h' (D ++ [((m_ak t, n), [])]) (Z + n) → HJ i pc' lv (.ref (16 + h_n h0 + j) :: st) h' Q) : HJ i pc lv (.int x :: st) h Q := by
  have e1 : 16 + h_n h0 + j = 16 + h_n h := by have := S.1.1; omega
  have g := g _ (sx_new S)
  rw [e1] at g
  refine hI_newa a hk (by omega) (by omega) hp ?_
  rw [show x.toInt.toNat = n by omega]
  exact g
theorem hS_pr {idx nest c k j q : Nat} {e : NC} (S : SX h0 h D Z) (a : m_at i pc = some (.putfield idx, 3)) (hf : m_fl i idx = some (nest, c, k)) (hc : c < 10 ∧ k < m_nf c ∧ (m_ty c k).1 = 2 ∧ ((m_ty c k).2 = true → nest = 0 ∧ m_kind i = 2 ∧ m_ownL.getD i 0 = m_ow i ∧ m_cnm c = (m_m i).2.1.cls)) (hk : k < 1000) (hD : D[j]? = some e) (he : e.1.1 = c + 1) (hp : pc + 3 = pc') (g : ∀ h', SX h0 h' (D.set j (e.1, (k, q) :: e.2)) Z → HJ i pc' lv st h' Q) : HJ i pc lv (.ref (16 + h_n h0 + q) :: .ref (16 + h_n h0 + j) :: st) h Q := by
  refine hI_pr a hf hc ?_ hp (g _ (sx_pr S hD hk))
  rw [(S.2.2 j e hD).1]
  exact he
theorem hS_pi {idx nest c k j : Nat} {x : Int32} {e : NC} (S : SX h0 h D Z) (a : m_at i pc = some (.putfield idx, 3)) (hf : m_fl i idx = some (nest, c, k)) (hc : c < 10 ∧ k < m_nf c ∧ m_ty c k = (0, false)) (hD : D[j]? = some e) (he : e.1.1 = c + 1) (hp : pc + 3 = pc') (g : ∀ h', SX h0 h' (D.set j (e.1, (2000 + k, 0) :: e.2)) Z → HJ i pc' lv st h' Q) : HJ i pc lv (.int x :: .ref (16 + h_n h0 + j) :: st) h Q := by
  refine hI_pi a hf hc ?_ hp (g _ (sx_pi S hD))
  rw [(S.2.2 j e hD).1]
  exact he
theorem hS_gr {idx nest c k j q : Nat} {e : NC} (S : SX h0 h D Z) (a : m_at i pc = some (.getfield idx, 3)) (hf : m_fl i idx = some (nest, c, k)) (hty : (m_ty c k).1 = 2) (hk : k < 1000) (hD : D[j]? = some e) (he : e.1.1 = c + 1) (hc : c < 10) (hq : m_lk e.2 k = some q) (hp : pc + 3 = pc') (g : HJ i pc' lv (.ref (16 + h_n h0 + q) :: st) h Q) : HJ i pc lv (.ref (16 + h_n h0 + j) :: st) h Q := by
  obtain ⟨b1, b2⟩ := S.2.2 j e hD
  refine hI_gr a hf hty (by rw [b1]; exact he) hp ?_
  rw [(b2 k hk).2 (Or.inl (by rw [he]; omega))]
  unfold nc_r
  rw [hq]
  exact g
theorem hS_obj {idx nest j : Nat} (a : m_at i pc = some (.invokespecial idx, 3)) (hm : m_ml i idx = some (nest, 900)) (hc : 1 ≤ m_fr i ∧ m_cat st + 12 ≤ m_lo i ∧ m_cat st ≤ 8) (hp : pc + 3 = pc') (g : HJ i pc' lv st h Q) : HJ i pc lv (.ref (16 + h_n h0 + j) :: st) h Q := by
  subst hp
  refine HJ.ex a (Or.inl rfl) ?_ g
  show e_call 2 i idx pc lv (.ref (16 + h_n h0 + j) :: st) h = _
  unfold e_call
  rw [hm]
  dsimp only
  rw [if_pos rfl, if_pos ⟨rfl, by show 16 ≤ 16 + h_n h0 + j; omega, hc⟩]
  rfl
theorem hS_call {idx nest j q : Nat} {e : NC} (S : SX h0 h D Z) (a : m_at i pc = some (.invokespecial idx, 3)) (hm : m_ml i idx = some (nest, j)) (hok : k_ok 2 i j = true) (hD : D[q]? = some e) (he : 0 < e.1.1 ∧ e.1.1 < 11) (hcl : m_cnm (e.1.1 - 1) = (m_m j).2.1.cls) (hns : ¬ (m_m j).2.1.cls = "java/lang/String") (hna : m_na j = 0) (hc : m_cat st ≤ 8) (hca : 1 ≤ m_lc j) (hp : pc + 3 = pc') (g : HJ j 0 (lv_args 0 [.ref (16 + h_n h0 + q)]) [] h (fun v h' => HJ i pc' lv (v.toList ++ st) h' Q)) : HJ i pc lv (.ref (16 + h_n h0 + q) :: st) h Q := by
  subst hp
  obtain ⟨⟨k1, k2, k3, k4⟩, k5⟩ := of_decide_eq_true hok
  refine HJ.call (j := j) (as := [.ref (16 + h_n h0 + q)]) (rr := st) (pc' := pc + 3) ((m_stx a (Or.inl rfl)).trans ?_) hca g
  show e_call 2 i idx pc lv _ h = _
  unfold e_call
  rw [hm]
  dsimp only
  rw [if_neg k1, if_neg k2, if_neg k3, if_neg k4, if_pos k5, if_neg (by decide), hna]
  dsimp only [List.drop, List.take]
  have b1 := (S.2.2 q e hD).1
  rw [if_pos]
  · rfl
  · refine ⟨by rw [List.length_cons]; omega, hc, ?_⟩
    rw [if_neg hns, b1]
    exact ⟨hcl, by show 16 ≤ 16 + h_n h0 + q; omega, he⟩
end
end
section
-- WHAT IS MADE, TYPED AT ONCE
def nx_rho (b : Nat) (Rs : List Nat) (ρ : Nat → Nat) (a : Nat) : Nat := if a < b then ρ a else Rs.getD (a - b) 0
def nx_ft (Rs : List Nat) (c : NC) (k : Nat) (ft : FT) : Bool := match ft with
  | .inl p => (decide (p.1 ≤ 0 ∧ 0 ≤ p.2) && !(m_lk c.2 (2000 + k)).isSome) || decide (p.1 ≤ -2147483648 ∧ 2147483647 ≤ p.2)
  | .inr (.inl _) => true
  | .inr (.inr q) => decide (c.1.1 < 20 ∨ 30 ≤ c.1.1) && (match m_lk c.2 k with
    | some j => !(Nat.beq q.1 0) && Nat.beq (Rs.getD j 0) q.1
    | none => !q.2)
def nx_cell (Rs : List Nat) (c : NC) (R : Nat) : Bool := match c_sp[R]? with
  | none => false
  | some rs => Nat.beq c.1.1 rs.1.1 && (Nat.ble rs.1.2.1 c.1.2 && (Nat.ble c.1.2 rs.1.2.2 && (Nat.ble c.1.2 1000 && (Nat.ble rs.2.2.2.length 1000 && (match rs.2.2.1 with
    | true => (List.range c.1.2).all (fun k => match rs.2.2.2[0]? with
      | some ft => nx_ft Rs c k ft
      | none => true)
    | false => (List.range rs.2.2.2.length).all (fun k => match rs.2.2.2[k]? with
      | some ft => nx_ft Rs c k ft
      | none => true))))))
def nx_all (D : List NC) (Rs : List Nat) : Bool := Nat.beq Rs.length D.length && (List.range D.length).all (fun j => match D[j]? with
  | some c => Nat.beq (Rs.getD j 0) 0 || nx_cell Rs c (Rs.getD j 0)
  | none => false)
def nx_W (Rs : List Nat) (W : List (Nat × Nat)) : Bool := Rs.all (fun R => Nat.beq R 0 || W.contains (R, 1002)) && W.contains (1000, 1002)
section
variable {ρ : Nat → Nat} {h0 h : MH} {D : List NC} {Z : Nat} {Rs : List Nat}
theorem nx_old {b a : Nat} (ha : a < b) : nx_rho b Rs ρ a = ρ a := if_pos ha
theorem nx_new {b j : Nat} : nx_rho b Rs ρ (b + j) = Rs.getD j 0 := by
  unfold nx_rho
  rw [if_neg (by omega), Nat.add_sub_cancel_left]
theorem sx_FQ {W : List (Nat × Nat)} (ht : TH c_sp ρ h0) (S : SX h0 h D Z) (hw : nx_W Rs W = true) : FQ ρ (nx_rho (16 + h_n h0) Rs ρ) W h0 h := by
  unfold nx_W at hw
  rw [Bool.and_eq_true] at hw
  refine ⟨⟨by have := S.1.1; omega, fun z => absurd (List.contains_iff_mem.mp hw.2) z⟩, fun a ha => nx_old (ht.2 a ha).1, fun a a0 a1 => ?_, fun a ha => ⟨(S.2.1 a ha).1, fun k _ => (S.2.1 a ha).2 k⟩⟩
  by_cases hl : a < 16 + h_n h0
  · rw [nx_old hl] at a1
    exact absurd a0 a1
  · obtain ⟨j, rfl⟩ : ∃ j, a = 16 + h_n h0 + j := ⟨a - (16 + h_n h0), by omega⟩
    rw [nx_new] at a1 ⊢
    refine ⟨by omega, ?_⟩
    have hm : Rs.getD j 0 ∈ Rs := by
      rw [List.getD_eq_getElem?_getD] at a1 ⊢
      cases hq : Rs[j]? with
      | none => rw [hq] at a1; exact absurd rfl a1
      | some x => exact List.mem_of_getElem? hq
    have := List.all_eq_true.mp hw.1 _ hm
    rw [Bool.or_eq_true] at this
    rcases this with z | z
    · exact absurd (Nat.eq_of_beq_eq_true z) a1
    · exact List.contains_iff_mem.mp z
theorem nx_ftS {j k : Nat} {c : NC} {ft : FT} (hj : NCok (16 + h_n h0) h (16 + h_n h0 + j) c) (hk : k < 1000) (e : nx_ft Rs c k ft = true) : t_ft (nx_rho (16 + h_n h0) Rs ρ) ft h (16 + h_n h0 + j) k := by
  obtain ⟨c1, c2⟩ := hj
  obtain ⟨d1, d2⟩ := c2 k hk
  match ft, e with
  | .inl p, e =>
    show p.1 ≤ (h_i h _ k).toInt ∧ (h_i h _ k).toInt ≤ p.2
    have e : ((decide (p.1 ≤ 0 ∧ 0 ≤ p.2) && !(m_lk c.2 (2000 + k)).isSome) || decide (p.1 ≤ -2147483648 ∧ 2147483647 ≤ p.2)) = true := e
    rw [Bool.or_eq_true, Bool.and_eq_true] at e
    rcases e with ⟨e1, e2⟩ | e1
    · rcases d1 with z | z
      · rw [z] at e2
        cases e2
      · rw [z]
        exact of_decide_eq_true e1
    · have e1 := of_decide_eq_true e1
      have := g_iT (h_i h (16 + h_n h0 + j) k)
      have t1 : -2147483648 ≤ (h_i h (16 + h_n h0 + j) k).toInt ∧ (h_i h (16 + h_n h0 + j) k).toInt ≤ 2147483647 := this
      omega
  | .inr (.inl _), _ => trivial
  | .inr (.inr q), e =>
    have e : (decide (c.1.1 < 20 ∨ 30 ≤ c.1.1) && (match m_lk c.2 k with
      | some j => !(Nat.beq q.1 0) && Nat.beq (Rs.getD j 0) q.1
      | none => !q.2)) = true := e
    rw [Bool.and_eq_true] at e
    obtain ⟨e1, e2⟩ := e
    show t_rf _ q.1 q.2 (h_r h _ k)
    rw [d2 (of_decide_eq_true e1)]
    unfold nc_r
    split at e2
    · next j2 hj2 =>
      try rw [hj2]
      rw [Bool.and_eq_true] at e2
      have e3 := Nat.eq_of_beq_eq_true e2.2
      refine Or.inr ⟨by show 16 + h_n h0 + j2 ≠ 0; omega, fun z => ?_, ?_⟩
      · rw [z] at e2
        have := e2.1
        cases this
      · show nx_rho _ Rs ρ (16 + h_n h0 + j2) = q.1
        rw [nx_new]
        exact e3
    · next hj2 =>
      try rw [hj2]
      refine Or.inl ⟨rfl, ?_⟩
      cases hq : q.2 with
      | false => rfl
      | true => rw [hq] at e2; cases e2
theorem sx_TH (ht : TH c_sp ρ h0) (S : SX h0 h D Z) (hx : nx_all D Rs = true) : TH c_sp (nx_rho (16 + h_n h0) Rs ρ) h := by
  have fq : FQ ρ (nx_rho (16 + h_n h0) Rs ρ) ((1000, 1002) :: Rs.map (fun R => (R, 1002))) h0 h := sx_FQ ht S (by
    unfold nx_W
    rw [Bool.and_eq_true]
    refine ⟨List.all_eq_true.mpr (fun R hR => ?_), List.contains_iff_mem.mpr List.mem_cons_self⟩
    rw [Bool.or_eq_true]
    exact Or.inr (List.contains_iff_mem.mpr (List.mem_cons_of_mem _ (List.mem_map.mpr ⟨R, hR, rfl⟩))))
  unfold nx_all at hx
  rw [Bool.and_eq_true] at hx
  have hlen := Nat.eq_of_beq_eq_true hx.1
  refine ⟨by rw [nx_old (by omega)]; exact ht.1, fun a ha => ?_⟩
  by_cases hl : a < 16 + h_n h0
  · rw [nx_old hl] at ha ⊢
    obtain ⟨-, rs2, s2, c1, c2, c3, c4⟩ := ht.2 a ha
    obtain ⟨b1, b2⟩ := S.2.1 a hl
    refine ⟨by have := S.1.1; omega, rs2, s2, by rw [b1]; exact c1, by rw [b1]; exact c2, c3, fun k ft hk hb => ?_⟩
    have := c4 k ft hk (fun z => by have := hb z; rw [b1] at this; exact this)
    match ft, this with
    | .inl p, this =>
      show p.1 ≤ (h_i h a k).toInt ∧ (h_i h a k).toInt ≤ p.2
      rw [(b2 k).1]
      exact this
    | .inr (.inl _), _ => trivial
    | .inr (.inr q), this =>
      show t_rf _ q.1 q.2 (h_r h a k)
      rw [(b2 k).2.2]
      exact x_rf fq this
  · obtain ⟨j, rfl⟩ : ∃ j, a = 16 + h_n h0 + j := ⟨a - (16 + h_n h0), by omega⟩
    rw [nx_new] at ha ⊢
    have hj : j < D.length := by
      rw [List.getD_eq_getElem?_getD] at ha
      cases hq : Rs[j]? with
      | none => rw [hq] at ha; exact absurd rfl ha
      | some x =>
        have := (List.getElem?_eq_some_iff.mp hq).1
        omega
    have hc := List.all_eq_true.mp hx.2 j (List.mem_range.mpr hj)
    split at hc
    · next c hD =>
      rw [Bool.or_eq_true] at hc
      rcases hc with z | hc
      · exact absurd (Nat.eq_of_beq_eq_true z) ha
      · unfold nx_cell at hc
        split at hc
        · cases hc
        · next rs hs =>
          rw [Bool.and_eq_true, Bool.and_eq_true, Bool.and_eq_true, Bool.and_eq_true, Bool.and_eq_true] at hc
          obtain ⟨k1, k2, k3, k4, k5, k6⟩ := hc
          have n1 := S.2.2 j c hD
          have k1 := Nat.eq_of_beq_eq_true k1
          have k2 := Nat.le_of_ble_eq_true k2
          have k3 := Nat.le_of_ble_eq_true k3
          have k4 := Nat.le_of_ble_eq_true k4
          have k5 := Nat.le_of_ble_eq_true k5
          refine ⟨by have := S.1.1; omega, rs, hs, by rw [n1.1]; exact k1, by rw [n1.1]; exact ⟨k2, k3⟩, fun _ => by omega, fun k ft hk hb => ?_⟩
          unfold r_ft at hk
          split at k6
          · next ht2 =>
            rw [ht2] at hk
            have hk : rs.2.2.2[0]? = some ft := hk
            have hb := hb ht2
            rw [n1.1] at hb
            have := List.all_eq_true.mp k6 k (List.mem_range.mpr hb)
            rw [hk] at this
            exact nx_ftS n1 (by omega) this
          · next ht2 =>
            rw [ht2] at hk
            have hk : rs.2.2.2[k]? = some ft := hk
            have hb := (List.getElem?_eq_some_iff.mp hk).1
            have := List.all_eq_true.mp k6 k (List.mem_range.mpr hb)
            rw [hk] at this
            exact nx_ftS n1 (by omega) this
    · cases hc
end
-- a table of rows
theorem nx_gk (h : MH) (n k a : Nat) : h_k (h_grid h n k) a = if a = 16 + h.1.1 then (33, n) else if 16 + h.1.1 < a ∧ a ≤ 16 + h.1.1 + n then (20, k) else h_k h a := rfl
theorem nx_gi (h : MH) (n k a j : Nat) : h_i (h_grid h n k) a j = if 16 + h.1.1 ≤ a ∧ a ≤ 16 + h.1.1 + n then 0 else h_i h a j := by
  show (if 16 + h.1.1 ≤ a ∧ a ≤ 16 + h.1.1 + n then (fun _ => (0 : Int32)) else h.2.2.1 a) j = _
  split <;> rfl
theorem nx_gr (h : MH) (n k a j : Nat) : h_r (h_grid h n k) a j = if a = 16 + h.1.1 then (if j < n then 16 + h.1.1 + 1 + j else 0) else h_r h a j := by
  show m_u h.2.2.2.2 (16 + h.1.1) (fun i => if i < n then 16 + h.1.1 + 1 + i else 0) a j = _
  by_cases e : a = 16 + h.1.1
  · rw [e, m_uE, if_pos rfl]
  · rw [m_uN _ _ _ _ e, if_neg e]
    rfl
def nx_gl (d n : Nat) : List (Nat × Nat) := (List.range n).map (fun i => (i, d + 1 + i))
theorem nx_glL {d : Nat} : ∀ {n j : Nat}, j < 1000 → m_lk (nx_gl d n) j = if j < n then some (d + 1 + j) else none
  | 0, j, _ => by
    rw [if_neg (by omega)]
    rfl
  | n + 1, j, hj => by
    have e : nx_gl d (n + 1) = nx_gl d n ++ [(n, d + 1 + n)] := by
      unfold nx_gl
      rw [List.range_succ, List.map_append]
      rfl
    rw [e]
    have ih := nx_glL (d := d) (n := n) (j := j) hj
    unfold m_lk at ih ⊢
    rw [List.find?_append]
    by_cases h1 : j < n
    · rw [if_pos h1] at ih
      rw [if_pos (by omega)]
      cases hq : (nx_gl d n).find? (fun e => e.1 == j) with
      | none => rw [hq] at ih; cases ih
      | some x => rw [hq] at ih; exact ih
    · rw [if_neg h1] at ih
      cases hq : (nx_gl d n).find? (fun e => e.1 == j) with
      | some x => rw [hq] at ih; cases ih
      | none =>
        by_cases h2 : j = n
        · subst h2
          rw [if_pos (by omega)]
          simp
        · rw [if_neg (by omega)]
          have : ¬ n = j := fun z => h2 z.symm
          simp [this]
theorem nx_gl2 {d n k : Nat} (hk : n ≤ 1000) : m_lk (nx_gl d n) (2000 + k) = none := by
  unfold m_lk
  rw [List.find?_eq_none.mpr]
  · rfl
  · intro x hx
    unfold nx_gl at hx
    obtain ⟨i, hi, rfl⟩ := List.mem_map.mp hx
    have := List.mem_range.mp hi
    simp
    omega
theorem sx_grid {h0 h : MH} {D : List NC} {Z n k : Nat} (S : SX h0 h D Z) (hn : n ≤ 1000) : SX h0 (h_grid h n k) (D ++ (((33, n), nx_gl D.length n) :: List.replicate n ((20, k), []))) (Z + (n + n * k)) := by
  obtain ⟨⟨a1, a2⟩, a3, a4⟩ := S
  have en : h.1.1 = h_n h0 + D.length := a1
  refine ⟨⟨?_, ?_⟩, fun a ha => ?_, fun j c e => ?_⟩
  · rw [List.length_append, List.length_cons, List.length_replicate]
    show h.1.1 + (1 + n) = _
    omega
  · show h_z h + (n + n * k) = _
    omega
  · obtain ⟨b1, b2⟩ := a3 a ha
    refine ⟨by rw [nx_gk, if_neg (by omega), if_neg (by omega)]; exact b1, fun q => ⟨by rw [nx_gi, if_neg (by omega)]; exact (b2 q).1, (b2 q).2.1, by rw [nx_gr, if_neg (by omega)]; exact (b2 q).2.2⟩⟩
  · by_cases hj : j < D.length
    · rw [List.getElem?_append_left hj] at e
      obtain ⟨b1, b2⟩ := a4 j c e
      exact ⟨by rw [nx_gk, if_neg (by omega), if_neg (by omega)]; exact b1, fun q hq => ⟨(b2 q hq).1.imp id (fun z => by rw [nx_gi, if_neg (by omega)]; exact z), fun z => by rw [nx_gr, if_neg (by omega)]; exact (b2 q hq).2 z⟩⟩
    · rw [List.getElem?_append_right (by omega)] at e
      by_cases h1 : j = D.length
      · subst h1
        rw [Nat.sub_self] at e
        cases (Option.some.inj e)
        refine ⟨by rw [nx_gk, if_pos (by omega)], fun q hq => ⟨Or.inr (by rw [nx_gi, if_pos (by omega)]), fun _ => ?_⟩⟩
        unfold nc_r
        dsimp only
        rw [nx_gr, if_pos (by omega), nx_glL hq]
        by_cases h2 : q < n
        · rw [if_pos h2, if_pos h2]
          dsimp only
          omega
        · rw [if_neg h2, if_neg h2]
      · obtain ⟨p, rfl⟩ : ∃ p, j = D.length + (p + 1) := ⟨j - D.length - 1, by omega⟩
        rw [Nat.add_sub_cancel_left, List.getElem?_cons_succ] at e
        have hp := (List.getElem?_eq_some_iff.mp e).1
        rw [List.length_replicate] at hp
        rw [List.getElem?_replicate, if_pos hp] at e
        cases (Option.some.inj e)
        refine ⟨by rw [nx_gk, if_neg (by omega), if_pos (by omega)], fun q hq => ⟨Or.inr (by rw [nx_gi, if_pos (by omega)]), fun z => ?_⟩⟩
        have z : (20 : Nat) < 20 ∨ 30 ≤ (20 : Nat) := z
        omega
theorem hS_grid {i pc pc' : Nat} {lv : List (Nat × Value)} {st : List Value} {h0 h : MH} {D : List NC} {Z : Nat} {Q : Option Value → MH → Prop} {idx d : Nat} {x y : Int32} {n k j : Nat} (S : SX h0 h D Z) (a : m_at i pc = some (.multianewarray idx d, 4)) (hd : d = 2) (hc : m_cc i idx = some 33) (hx : x.toInt = (n : Int)) (hy : y.toInt = (k : Int)) (hn : n ≤ 1000) (hk : k ≤ 1000) (hj : D.length = j) (hp : pc + 4 = pc') (g : ∀ h', SX h0 h' (D ++ (((33, n), nx_gl D.length n) :: List.replicate n ((20, k), []))) (Z + (n + n * k)) → HJ i pc' lv (.ref (16 + h_n h0 + j) :: st) h' Q) : HJ i pc lv (.int y :: .int x :: st) h Q := by
  have e1 : 16 + h_n h0 + j = 16 + h_n h := by have := S.1.1; omega
  have g := g _ (sx_grid S hn)
  rw [e1] at g
  subst hp hd
  refine HJ.ex a (Or.inl rfl) ?_ g
  show (if 2 = 2 then e_grid i idx pc lv (.int y :: .int x :: st) h else none) = _
  rw [if_pos rfl]
  unfold e_grid
  rw [hc]
  have h00 : (0 : Int32).toInt = 0 := rfl
  have e3 : x.toNatClampNeg = n := by show x.toInt.toNat = n; omega
  have e4 : y.toNatClampNeg = k := by show y.toInt.toNat = k; omega
  show (if ¬ x < 0 ∧ ¬ y < 0 ∧ x.toNatClampNeg ≤ 1000000 ∧ y.toNatClampNeg ≤ 1000000 then _ else _) = _
  rw [if_pos ⟨fun z => by have := Int32.lt_iff_toInt_lt.mp z; omega, fun z => by have := Int32.lt_iff_toInt_lt.mp z; omega, by omega, by omega⟩, e3, e4]
  rfl
-- rows of references
theorem hS_anew {i pc pc' : Nat} {lv : List (Nat × Value)} {st : List Value} {h0 h : MH} {D : List NC} {Z : Nat} {Q : Option Value → MH → Prop} {idx c n j : Nat} {x : Int32} (S : SX h0 h D Z) (a : m_at i pc = some (.anewarray idx, 3)) (hc : m_cc i idx = some c) (hk : m_ek c ≠ 0) (hx : x.toInt = (n : Int)) (hn : n ≤ 1000000) (hj : D.length = j) (hp : pc + 3 = pc') (g : ∀ h', SX h0 h' (D ++ [((m_ek c, n), [])]) (Z + n) → HJ i pc' lv (.ref (16 + h_n h0 + j) :: st) h' Q) : HJ i pc lv (.int x :: st) h Q := by
  have e1 : 16 + h_n h0 + j = 16 + h_n h := by have := S.1.1; omega
  have g := g _ (sx_new S)
  rw [e1] at g
  subst hp
  refine HJ.ex a (Or.inl rfl) ?_ g
  show e_anew i idx pc lv (.int x :: st) h = _
  unfold e_anew
  rw [hc]
  have h00 : (0 : Int32).toInt = 0 := rfl
  have e3 : x.toNatClampNeg = n := by show x.toInt.toNat = n; omega
  show (if m_ek c ≠ 0 ∧ ¬ x < 0 ∧ x.toNatClampNeg ≤ 1000000 then _ else _) = _
  rw [if_pos ⟨hk, fun z => by have := Int32.lt_iff_toInt_lt.mp z; omega, by omega⟩, e3]
  rfl
theorem hS_aast {i pc pc' : Nat} {lv : List (Nat × Value)} {st : List Value} {h0 h : MH} {D : List NC} {Z : Nat} {Q : Option Value → MH → Prop} {n j q : Nat} {x : Int32} {e e2 : NC} (S : SX h0 h D Z) (a : m_at i pc = some (.aastore, 1)) (hx : x.toInt = (n : Int)) (hD : D[j]? = some e) (hD2 : D[q]? = some e2) (hk : 30 ≤ e.1.1 ∧ e.1.1 < 33 ∧ n < e.1.2 ∧ n < 1000) (he : e2.1.1 = m_el e.1.1) (hp : pc + 1 = pc') (g : ∀ h', SX h0 h' (D.set j (e.1, (n, q) :: e.2)) Z → HJ i pc' lv st h' Q) : HJ i pc lv (.ref (16 + h_n h0 + q) :: .int x :: .ref (16 + h_n h0 + j) :: st) h Q := by
  have g := g _ (sx_pr (k := n) S hD hk.2.2.2)
  have k1 := (S.2.2 j e hD).1
  have k2 := (S.2.2 q e2 hD2).1
  subst hp
  refine HJ.ex a (Or.inl rfl) ?_ g
  show (if 16 ≤ 16 + h_n h0 + j ∧ (30 ≤ (h_k h (16 + h_n h0 + j)).1 ∧ (h_k h (16 + h_n h0 + j)).1 < 33) ∧ m_in x (h_k h (16 + h_n h0 + j)).2 = true ∧ 16 ≤ 16 + h_n h0 + q ∧ (h_k h (16 + h_n h0 + q)).1 = m_el (h_k h (16 + h_n h0 + j)).1 then _ else none) = _
  have e3 : x.toNatClampNeg = n := by show x.toInt.toNat = n; omega
  rw [k1, k2, if_pos ⟨by omega, ⟨hk.1, hk.2.1⟩, m_inZ (by omega) (by omega), by omega, he⟩, e3]
  rfl
end
section
-- CONSTRUCTORS, RUN
theorem sx_eq {h0 h : MH} {D D2 : List NC} {Z Z2 : Nat} (S : SX h0 h D Z) (e : decide (D = D2 ∧ Z = Z2) = true) : SX h0 h D2 Z2 := by
  obtain ⟨e1, e2⟩ := of_decide_eq_true e
  rw [← e1, ← e2]
  exact S
def past_D : List NC := [((4, 14), [(10, 69), (9, 68), (8, 67), (7, 66), (6, 65), (5, 64), (4, 63), (3, 62), (2, 20), (1, 15), (0, 1)]), ((3, 7), [(4, 6), (3, 5), (2, 4), (1, 3), (0, 2)]), ((20, 448), []), ((25, 64), []), ((20, 6), []), ((20, 6), []), ((8, 10), [(7, 14), (6, 13), (5, 12), (4, 11), (3, 10), (2, 9), (1, 8), (0, 7)]), ((20, 63), []), ((20, 63), []), ((20, 63), []), ((20, 63), []), ((20, 63), []), ((20, 63), []), ((20, 63), []), ((22, 63), []), ((2, 4), [(3, 19), (2, 18), (1, 17), (0, 16)]), ((20, 41), []), ((20, 41), []), ((25, 41), []), ((25, 41), []), ((33, 41), nx_gl 20 41), ((20, 6), []), ((20, 6), []), ((20, 6), []), ((20, 6), []), ((20, 6), []), ((20, 6), []), ((20, 6), []), ((20, 6), []), ((20, 6), []), ((20, 6), []), ((20, 6), []), ((20, 6), []), ((20, 6), []), ((20, 6), []), ((20, 6), []), ((20, 6), []), ((20, 6), []), ((20, 6), []), ((20, 6), []), ((20, 6), []), ((20, 6), []), ((20, 6), []), ((20, 6), []), ((20, 6), []), ((20, 6), []), ((20, 6), []), ((20, 6), []), ((20, 6), []), ((20, 6), []), ((20, 6), []), ((20, 6), []), ((20, 6), []), ((20, 6), []), ((20, 6), []), ((20, 6), []), ((20, 6), []), ((20, 6), []), ((20, 6), []), ((20, 6), []), ((20, 6), []), ((20, 6), []), ((20, 41), []), ((20, 40), []), ((20, 40), []), ((20, 40), []), ((20, 6), []), ((20, 6), []), ((20, 5), []), ((20, 5), [])]
def past_R : List Nat := [29, 39, 40, 41, 35, 38, 16, 17, 18, 21, 19, 23, 20, 22, 24, 42, 43, 44, 45, 46, 30, 35, 35, 35, 35, 35, 35, 35, 35, 35, 35, 35, 35, 35, 35, 35, 35, 35, 35, 35, 35, 35, 35, 35, 35, 35, 35, 35, 35, 35, 35, 35, 35, 35, 35, 35, 35, 35, 35, 35, 35, 35, 31, 32, 33, 34, 35, 35, 36, 37]
def past_Z : Nat := 1697
theorem past_T : nx_all past_D past_R = true := by decide +kernel
theorem c_past {h0 h : MH} {Q : Option Value → MH → Prop} (S : SX h0 h [((4, 14), [])] 14) (g : ∀ h', SX h0 h' past_D past_Z → Q none h') : HJ 42 0 (lv_args 0 [.ref (16 + h_n h0 + 0)]) [] h Q := by
  refine hI_al (k := 0) rfl rfl rfl ?_ -- 42.0
  refine hS_obj (j := 0) rfl rfl ⟨by decide +kernel, by show 0 + 12 ≤ _; decide +kernel, by show 0 ≤ 8; decide⟩ rfl ?_ -- 42.1
  refine hI_al (k := 0) rfl rfl rfl ?_ -- 42.4
  refine hS_new (c := 2) (j := 1) S rfl rfl (by decide) rfl rfl (fun h1 S1 => ?_) -- 42.5
  refine hI_dup rfl rfl rfl ?_ -- 42.8
  refine hS_call (j := 43) (q := 1) S1 rfl rfl (by decide +kernel) rfl (by decide) rfl (by decide +kernel) rfl (by show 2 ≤ 8; decide) (by decide +kernel) rfl ?_ -- 42.9
  refine hI_al (k := 0) rfl rfl rfl ?_ -- 43.0
  refine hS_obj (j := 1) rfl rfl ⟨by decide +kernel, by show 0 + 12 ≤ _; decide +kernel, by show 0 ≤ 8; decide⟩ rfl ?_ -- 43.1
  refine hI_al (k := 0) rfl rfl rfl ?_ -- 43.4
  refine hM_sp (n := 448) rfl (by decide) rfl (fun x2 q2 => ?_) -- 43.5
  refine hS_newa (t := .int) (n := 448) (j := 2) S1 rfl (by decide) q2 (by decide) rfl rfl (fun h3 S3 => ?_) -- 43.8
  refine hS_pr (c := 2) (k := 0) (j := 1) (q := 2) S3 rfl rfl (by decide +kernel) (by decide) rfl rfl rfl (fun h4 S4 => ?_) -- 43.10
  refine hI_al (k := 0) rfl rfl rfl ?_ -- 43.13
  refine hM_bp (n := 64) rfl (by decide) rfl (fun x5 q5 => ?_) -- 43.14
  refine hS_newa (t := .long) (n := 64) (j := 3) S4 rfl (by decide) q5 (by decide) rfl rfl (fun h6 S6 => ?_) -- 43.16
  refine hS_pr (c := 2) (k := 1) (j := 1) (q := 3) S6 rfl rfl (by decide +kernel) (by decide) rfl rfl rfl (fun h7 S7 => ?_) -- 43.18
  refine hI_al (k := 0) rfl rfl rfl ?_ -- 43.21
  refine hM_bp (n := 6) rfl (by decide) rfl (fun x8 q8 => ?_) -- 43.22
  refine hS_newa (t := .int) (n := 6) (j := 4) S7 rfl (by decide) q8 (by decide) rfl rfl (fun h9 S9 => ?_) -- 43.24
  refine hS_pr (c := 2) (k := 2) (j := 1) (q := 4) S9 rfl rfl (by decide +kernel) (by decide) rfl rfl rfl (fun h10 S10 => ?_) -- 43.26
  refine hI_al (k := 0) rfl rfl rfl ?_ -- 43.29
  refine hM_bp (n := 6) rfl (by decide) rfl (fun x11 q11 => ?_) -- 43.30
  refine hS_newa (t := .int) (n := 6) (j := 5) S10 rfl (by decide) q11 (by decide) rfl rfl (fun h12 S12 => ?_) -- 43.32
  refine hS_pr (c := 2) (k := 3) (j := 1) (q := 5) S12 rfl rfl (by decide +kernel) (by decide) rfl rfl rfl (fun h13 S13 => ?_) -- 43.34
  refine hI_al (k := 0) rfl rfl rfl ?_ -- 43.37
  refine hS_new (c := 7) (j := 6) S13 rfl rfl (by decide) rfl rfl (fun h14 S14 => ?_) -- 43.38
  refine hI_dup rfl rfl rfl ?_ -- 43.41
  refine hS_call (j := 5) (q := 6) S14 rfl rfl (by decide +kernel) rfl (by decide) rfl (by decide +kernel) rfl (by show 2 ≤ 8; decide) (by decide +kernel) rfl ?_ -- 43.42
  refine hI_al (k := 0) rfl rfl rfl ?_ -- 5.0
  refine hS_obj (j := 6) rfl rfl ⟨by decide +kernel, by show 0 + 12 ≤ _; decide +kernel, by show 0 ≤ 8; decide⟩ rfl ?_ -- 5.1
  refine hI_al (k := 0) rfl rfl rfl ?_ -- 5.4
  refine hM_bp (n := 63) rfl (by decide) rfl (fun x15 q15 => ?_) -- 5.5
  refine hS_newa (t := .int) (n := 63) (j := 7) S14 rfl (by decide) q15 (by decide) rfl rfl (fun h16 S16 => ?_) -- 5.7
  refine hS_pr (c := 7) (k := 0) (j := 6) (q := 7) S16 rfl rfl (by decide +kernel) (by decide) rfl rfl rfl (fun h17 S17 => ?_) -- 5.9
  refine hI_al (k := 0) rfl rfl rfl ?_ -- 5.12
  refine hM_bp (n := 63) rfl (by decide) rfl (fun x18 q18 => ?_) -- 5.13
  refine hS_newa (t := .int) (n := 63) (j := 8) S17 rfl (by decide) q18 (by decide) rfl rfl (fun h19 S19 => ?_) -- 5.15
  refine hS_pr (c := 7) (k := 1) (j := 6) (q := 8) S19 rfl rfl (by decide +kernel) (by decide) rfl rfl rfl (fun h20 S20 => ?_) -- 5.17
  refine hI_al (k := 0) rfl rfl rfl ?_ -- 5.20
  refine hM_bp (n := 63) rfl (by decide) rfl (fun x21 q21 => ?_) -- 5.21
  refine hS_newa (t := .int) (n := 63) (j := 9) S20 rfl (by decide) q21 (by decide) rfl rfl (fun h22 S22 => ?_) -- 5.23
  refine hS_pr (c := 7) (k := 2) (j := 6) (q := 9) S22 rfl rfl (by decide +kernel) (by decide) rfl rfl rfl (fun h23 S23 => ?_) -- 5.25
  refine hI_al (k := 0) rfl rfl rfl ?_ -- 5.28
  refine hM_bp (n := 63) rfl (by decide) rfl (fun x24 q24 => ?_) -- 5.29
  refine hS_newa (t := .int) (n := 63) (j := 10) S23 rfl (by decide) q24 (by decide) rfl rfl (fun h25 S25 => ?_) -- 5.31
  refine hS_pr (c := 7) (k := 3) (j := 6) (q := 10) S25 rfl rfl (by decide +kernel) (by decide) rfl rfl rfl (fun h26 S26 => ?_) -- 5.33
  refine hI_al (k := 0) rfl rfl rfl ?_ -- 5.36
  refine hM_bp (n := 63) rfl (by decide) rfl (fun x27 q27 => ?_) -- 5.37
  refine hS_newa (t := .int) (n := 63) (j := 11) S26 rfl (by decide) q27 (by decide) rfl rfl (fun h28 S28 => ?_) -- 5.39
  refine hS_pr (c := 7) (k := 4) (j := 6) (q := 11) S28 rfl rfl (by decide +kernel) (by decide) rfl rfl rfl (fun h29 S29 => ?_) -- 5.41
  refine hI_al (k := 0) rfl rfl rfl ?_ -- 5.44
  refine hM_bp (n := 63) rfl (by decide) rfl (fun x30 q30 => ?_) -- 5.45
  refine hS_newa (t := .int) (n := 63) (j := 12) S29 rfl (by decide) q30 (by decide) rfl rfl (fun h31 S31 => ?_) -- 5.47
  refine hS_pr (c := 7) (k := 5) (j := 6) (q := 12) S31 rfl rfl (by decide +kernel) (by decide) rfl rfl rfl (fun h32 S32 => ?_) -- 5.49
  refine hI_al (k := 0) rfl rfl rfl ?_ -- 5.52
  refine hM_bp (n := 63) rfl (by decide) rfl (fun x33 q33 => ?_) -- 5.53
  refine hS_newa (t := .int) (n := 63) (j := 13) S32 rfl (by decide) q33 (by decide) rfl rfl (fun h34 S34 => ?_) -- 5.55
  refine hS_pr (c := 7) (k := 6) (j := 6) (q := 13) S34 rfl rfl (by decide +kernel) (by decide) rfl rfl rfl (fun h35 S35 => ?_) -- 5.57
  refine hI_al (k := 0) rfl rfl rfl ?_ -- 5.60
  refine hM_bp (n := 63) rfl (by decide) rfl (fun x36 q36 => ?_) -- 5.61
  refine hS_newa (t := .boolean) (n := 63) (j := 14) S35 rfl (by decide) q36 (by decide) rfl rfl (fun h37 S37 => ?_) -- 5.63
  refine hS_pr (c := 7) (k := 7) (j := 6) (q := 14) S37 rfl rfl (by decide +kernel) (by decide) rfl rfl rfl (fun h38 S38 => ?_) -- 5.65
  refine hI_rv rfl rfl ?_ -- 5.68
  show HJ 43 45 (lv_args 0 [.ref (16 + h_n h0 + 1)]) [.ref (16 + h_n h0 + 6), .ref (16 + h_n h0 + 1)] h38 _
  refine hS_pr (c := 2) (k := 4) (j := 1) (q := 6) S38 rfl rfl (by decide +kernel) (by decide) rfl rfl rfl (fun h39 S39 => ?_) -- 43.45
  refine hI_rv rfl rfl ?_ -- 43.48
  show HJ 42 12 (lv_args 0 [.ref (16 + h_n h0 + 0)]) [.ref (16 + h_n h0 + 1), .ref (16 + h_n h0 + 0)] h39 Q
  refine hS_pr (c := 3) (k := 0) (j := 0) (q := 1) S39 rfl rfl (by decide +kernel) (by decide) rfl rfl rfl (fun h40 S40 => ?_) -- 42.12
  refine hI_al (k := 0) rfl rfl rfl ?_ -- 42.15
  refine hS_new (c := 1) (j := 15) S40 rfl rfl (by decide) rfl rfl (fun h41 S41 => ?_) -- 42.16
  refine hI_dup rfl rfl rfl ?_ -- 42.19
  refine hS_call (j := 44) (q := 15) S41 rfl rfl (by decide +kernel) rfl (by decide) rfl (by decide +kernel) rfl (by show 2 ≤ 8; decide) (by decide +kernel) rfl ?_ -- 42.20
  refine hI_al (k := 0) rfl rfl rfl ?_ -- 44.0
  refine hS_obj (j := 15) rfl rfl ⟨by decide +kernel, by show 0 + 12 ≤ _; decide +kernel, by show 0 ≤ 8; decide⟩ rfl ?_ -- 44.1
  refine hI_al (k := 0) rfl rfl rfl ?_ -- 44.4
  refine hM_bp (n := 41) rfl (by decide) rfl (fun x42 q42 => ?_) -- 44.5
  refine hS_newa (t := .int) (n := 41) (j := 16) S41 rfl (by decide) q42 (by decide) rfl rfl (fun h43 S43 => ?_) -- 44.7
  refine hS_pr (c := 1) (k := 0) (j := 15) (q := 16) S43 rfl rfl (by decide +kernel) (by decide) rfl rfl rfl (fun h44 S44 => ?_) -- 44.9
  refine hI_al (k := 0) rfl rfl rfl ?_ -- 44.12
  refine hM_bp (n := 41) rfl (by decide) rfl (fun x45 q45 => ?_) -- 44.13
  refine hS_newa (t := .int) (n := 41) (j := 17) S44 rfl (by decide) q45 (by decide) rfl rfl (fun h46 S46 => ?_) -- 44.15
  refine hS_pr (c := 1) (k := 1) (j := 15) (q := 17) S46 rfl rfl (by decide +kernel) (by decide) rfl rfl rfl (fun h47 S47 => ?_) -- 44.17
  refine hI_al (k := 0) rfl rfl rfl ?_ -- 44.20
  refine hM_bp (n := 41) rfl (by decide) rfl (fun x48 q48 => ?_) -- 44.21
  refine hS_newa (t := .long) (n := 41) (j := 18) S47 rfl (by decide) q48 (by decide) rfl rfl (fun h49 S49 => ?_) -- 44.23
  refine hS_pr (c := 1) (k := 2) (j := 15) (q := 18) S49 rfl rfl (by decide +kernel) (by decide) rfl rfl rfl (fun h50 S50 => ?_) -- 44.25
  refine hI_al (k := 0) rfl rfl rfl ?_ -- 44.28
  refine hM_bp (n := 41) rfl (by decide) rfl (fun x51 q51 => ?_) -- 44.29
  refine hS_newa (t := .long) (n := 41) (j := 19) S50 rfl (by decide) q51 (by decide) rfl rfl (fun h52 S52 => ?_) -- 44.31
  refine hS_pr (c := 1) (k := 3) (j := 15) (q := 19) S52 rfl rfl (by decide +kernel) (by decide) rfl rfl rfl (fun h53 S53 => ?_) -- 44.33
  refine hI_rv rfl rfl ?_ -- 44.36
  show HJ 42 23 (lv_args 0 [.ref (16 + h_n h0 + 0)]) [.ref (16 + h_n h0 + 15), .ref (16 + h_n h0 + 0)] h53 Q
  refine hS_pr (c := 3) (k := 1) (j := 0) (q := 15) S53 rfl rfl (by decide +kernel) (by decide) rfl rfl rfl (fun h54 S54 => ?_) -- 42.23
  refine hI_al (k := 0) rfl rfl rfl ?_ -- 42.26
  refine hM_bp (n := 41) rfl (by decide) rfl (fun x55 q55 => ?_) -- 42.27
  refine hM_bp (n := 6) rfl (by decide) rfl (fun x56 q56 => ?_) -- 42.29
  refine hS_grid (n := 41) (k := 6) (j := 20) S54 rfl rfl rfl q55 q56 (by decide) (by decide) rfl rfl (fun h57 S57 => ?_) -- 42.31
  refine hS_pr (c := 3) (k := 2) (j := 0) (q := 20) S57 rfl rfl (by decide +kernel) (by decide) rfl rfl rfl (fun h58 S58 => ?_) -- 42.35
  refine hI_al (k := 0) rfl rfl rfl ?_ -- 42.38
  refine hM_bp (n := 41) rfl (by decide) rfl (fun x59 q59 => ?_) -- 42.39
  refine hS_newa (t := .int) (n := 41) (j := 62) S58 rfl (by decide) q59 (by decide) rfl rfl (fun h60 S60 => ?_) -- 42.41
  refine hS_pr (c := 3) (k := 3) (j := 0) (q := 62) S60 rfl rfl (by decide +kernel) (by decide) rfl rfl rfl (fun h61 S61 => ?_) -- 42.43
  refine hI_al (k := 0) rfl rfl rfl ?_ -- 42.46
  refine hM_bp (n := 40) rfl (by decide) rfl (fun x62 q62 => ?_) -- 42.47
  refine hS_newa (t := .int) (n := 40) (j := 63) S61 rfl (by decide) q62 (by decide) rfl rfl (fun h63 S63 => ?_) -- 42.49
  refine hS_pr (c := 3) (k := 4) (j := 0) (q := 63) S63 rfl rfl (by decide +kernel) (by decide) rfl rfl rfl (fun h64 S64 => ?_) -- 42.51
  refine hI_al (k := 0) rfl rfl rfl ?_ -- 42.54
  refine hM_bp (n := 40) rfl (by decide) rfl (fun x65 q65 => ?_) -- 42.55
  refine hS_newa (t := .int) (n := 40) (j := 64) S64 rfl (by decide) q65 (by decide) rfl rfl (fun h66 S66 => ?_) -- 42.57
  refine hS_pr (c := 3) (k := 5) (j := 0) (q := 64) S66 rfl rfl (by decide +kernel) (by decide) rfl rfl rfl (fun h67 S67 => ?_) -- 42.59
  refine hI_al (k := 0) rfl rfl rfl ?_ -- 42.62
  refine hM_bp (n := 40) rfl (by decide) rfl (fun x68 q68 => ?_) -- 42.63
  refine hS_newa (t := .int) (n := 40) (j := 65) S67 rfl (by decide) q68 (by decide) rfl rfl (fun h69 S69 => ?_) -- 42.65
  refine hS_pr (c := 3) (k := 6) (j := 0) (q := 65) S69 rfl rfl (by decide +kernel) (by decide) rfl rfl rfl (fun h70 S70 => ?_) -- 42.67
  refine hI_al (k := 0) rfl rfl rfl ?_ -- 42.70
  refine hM_bp (n := 6) rfl (by decide) rfl (fun x71 q71 => ?_) -- 42.71
  refine hS_newa (t := .int) (n := 6) (j := 66) S70 rfl (by decide) q71 (by decide) rfl rfl (fun h72 S72 => ?_) -- 42.73
  refine hS_pr (c := 3) (k := 7) (j := 0) (q := 66) S72 rfl rfl (by decide +kernel) (by decide) rfl rfl rfl (fun h73 S73 => ?_) -- 42.75
  refine hI_al (k := 0) rfl rfl rfl ?_ -- 42.78
  refine hM_bp (n := 6) rfl (by decide) rfl (fun x74 q74 => ?_) -- 42.79
  refine hS_newa (t := .int) (n := 6) (j := 67) S73 rfl (by decide) q74 (by decide) rfl rfl (fun h75 S75 => ?_) -- 42.81
  refine hS_pr (c := 3) (k := 8) (j := 0) (q := 67) S75 rfl rfl (by decide +kernel) (by decide) rfl rfl rfl (fun h76 S76 => ?_) -- 42.83
  refine hI_al (k := 0) rfl rfl rfl ?_ -- 42.86
  refine hM_ic (n := 5) rfl (by decide) rfl (fun x77 q77 => ?_) -- 42.87
  refine hS_newa (t := .int) (n := 5) (j := 68) S76 rfl (by decide) q77 (by decide) rfl rfl (fun h78 S78 => ?_) -- 42.88
  refine hS_pr (c := 3) (k := 9) (j := 0) (q := 68) S78 rfl rfl (by decide +kernel) (by decide) rfl rfl rfl (fun h79 S79 => ?_) -- 42.90
  refine hI_al (k := 0) rfl rfl rfl ?_ -- 42.93
  refine hM_ic (n := 5) rfl (by decide) rfl (fun x80 q80 => ?_) -- 42.94
  refine hS_newa (t := .int) (n := 5) (j := 69) S79 rfl (by decide) q80 (by decide) rfl rfl (fun h81 S81 => ?_) -- 42.95
  refine hS_pr (c := 3) (k := 10) (j := 0) (q := 69) S81 rfl rfl (by decide +kernel) (by decide) rfl rfl rfl (fun h82 S82 => ?_) -- 42.97
  refine hI_rv rfl rfl ?_ -- 42.100
  exact g h82 (sx_eq S82 (by decide +kernel))
def told_D : List NC := [((7, 6), [(2004, 0), (1, 2), (0, 1)]), ((21, 600), []), ((32, 4), [(3, 12), (2, 9), (1, 6), (0, 3)]), ((1, 3), [(1, 5), (0, 4)]), ((20, 40), []), ((20, 120), []), ((1, 3), [(1, 8), (0, 7)]), ((20, 40), []), ((20, 120), []), ((1, 3), [(1, 11), (0, 10)]), ((20, 40), []), ((20, 120), []), ((1, 3), [(1, 14), (0, 13)]), ((20, 40), []), ((20, 120), [])]
def told_R : List Nat := [97, 99, 98, 100, 101, 102, 100, 101, 102, 100, 101, 102, 100, 101, 102]
def told_Z : Nat := 1262
theorem told_T : nx_all told_D told_R = true := by decide +kernel
theorem c_told {h0 h : MH} {Q : Option Value → MH → Prop} (S : SX h0 h [((7, 6), [])] 6) (g : ∀ h', SX h0 h' told_D told_Z → Q none h') : HJ 2 0 (lv_args 0 [.ref (16 + h_n h0 + 0)]) [] h Q := by
  refine hI_al (k := 0) rfl rfl rfl ?_ -- 2.0
  refine hS_obj (j := 0) rfl rfl ⟨by decide +kernel, by show 0 + 12 ≤ _; decide +kernel, by show 0 ≤ 8; decide⟩ rfl ?_ -- 2.1
  refine hI_al (k := 0) rfl rfl rfl ?_ -- 2.4
  refine hM_sp (n := 600) rfl (by decide) rfl (fun x1 q1 => ?_) -- 2.5
  refine hS_newa (t := .byte) (n := 600) (j := 1) S rfl (by decide) q1 (by decide) rfl rfl (fun h2 S2 => ?_) -- 2.8
  refine hS_pr (c := 6) (k := 0) (j := 0) (q := 1) S2 rfl rfl (by decide +kernel) (by decide) rfl rfl rfl (fun h3 S3 => ?_) -- 2.10
  refine hI_al (k := 0) rfl rfl rfl ?_ -- 2.13
  refine hM_ic (n := 4) rfl (by decide) rfl (fun x4 q4 => ?_) -- 2.14
  refine hS_anew (c := 0) (n := 4) (j := 2) S3 rfl rfl (by decide) q4 (by decide) rfl rfl (fun h5 S5 => ?_) -- 2.15
  refine hS_pr (c := 6) (k := 1) (j := 0) (q := 2) S5 rfl rfl (by decide +kernel) (by decide) rfl rfl rfl (fun h6 S6 => ?_) -- 2.18
  refine hI_al (k := 0) rfl rfl rfl ?_ -- 2.21
  refine hM_ic (n := (-1)) rfl (by decide) rfl (fun x7 q7 => ?_) -- 2.22
  refine hS_pi (c := 6) (k := 4) (j := 0) S6 rfl rfl (by decide +kernel) rfl rfl rfl (fun h8 S8 => ?_) -- 2.23
  refine hM_ic (n := 0) rfl (by decide) rfl (fun x9 q9 => ?_) -- 2.26
  refine hM_si (k := 1) rfl (by decide +kernel) rfl (fun lv10 e10_1 u10 => ?_) -- 2.27
  have e10_0 := u10 0 _ (by decide) (Or.inl rfl) (show m_lk (lv_args 0 [.ref (16 + h_n h0 + 0)]) 0 = some (.ref (16 + h_n h0 + 0)) from rfl)
  refine hI_il (k := 1) rfl e10_1 rfl ?_ -- 2.28
  refine hM_ic (n := 4) rfl (by decide) rfl (fun x11 q11 => ?_) -- 2.29
  refine hM_cge (t := 52) rfl q9 q11 (by decide) rfl (fun c => absurd c (by decide)) (fun _ => ?_) -- 2.30
  refine hI_al (k := 0) rfl e10_0 rfl ?_ -- 2.33
  refine hS_gr (c := 6) (k := 1) (j := 0) (q := 2) S8 rfl rfl rfl (by decide) rfl rfl (by decide) rfl rfl ?_ -- 2.34
  refine hI_il (k := 1) rfl e10_1 rfl ?_ -- 2.37
  refine hS_new (c := 0) (j := 3) S8 rfl rfl (by decide) rfl rfl (fun h12 S12 => ?_) -- 2.38
  refine hI_dup rfl rfl rfl ?_ -- 2.41
  refine hS_call (j := 3) (q := 3) S12 rfl rfl (by decide +kernel) rfl (by decide) rfl (by decide +kernel) rfl (by show 3 ≤ 8; decide) (by decide +kernel) rfl ?_ -- 2.42
  refine hI_al (k := 0) rfl rfl rfl ?_ -- 3.0
  refine hS_obj (j := 3) rfl rfl ⟨by decide +kernel, by show 0 + 12 ≤ _; decide +kernel, by show 0 ≤ 8; decide⟩ rfl ?_ -- 3.1
  refine hI_al (k := 0) rfl rfl rfl ?_ -- 3.4
  refine hM_bp (n := 40) rfl (by decide) rfl (fun x13 q13 => ?_) -- 3.5
  refine hS_newa (t := .int) (n := 40) (j := 4) S12 rfl (by decide) q13 (by decide) rfl rfl (fun h14 S14 => ?_) -- 3.7
  refine hS_pr (c := 0) (k := 0) (j := 3) (q := 4) S14 rfl rfl (by decide +kernel) (by decide) rfl rfl rfl (fun h15 S15 => ?_) -- 3.9
  refine hI_al (k := 0) rfl rfl rfl ?_ -- 3.12
  refine hM_bp (n := 120) rfl (by decide) rfl (fun x16 q16 => ?_) -- 3.13
  refine hS_newa (t := .int) (n := 120) (j := 5) S15 rfl (by decide) q16 (by decide) rfl rfl (fun h17 S17 => ?_) -- 3.15
  refine hS_pr (c := 0) (k := 1) (j := 3) (q := 5) S17 rfl rfl (by decide +kernel) (by decide) rfl rfl rfl (fun h18 S18 => ?_) -- 3.17
  refine hI_rv rfl rfl ?_ -- 3.20
  show HJ 2 45 lv10 [.ref (16 + h_n h0 + 3), .int x9, .ref (16 + h_n h0 + 2)] h18 Q
  refine hS_aast (n := 0) (j := 2) (q := 3) S18 rfl q9 rfl rfl (by decide) rfl rfl (fun h19 S19 => ?_) -- 2.45
  refine hM_inc (k := 1) (z := 1) rfl e10_1 q9 (by decide) (by decide) (by decide) (by decide +kernel) rfl (fun lv20 x20 q20 e20_1 u20 => ?_) -- 2.46
  have q20 : x20.toInt = 1 := q20
  have e20_0 := u20 0 _ (by decide) (Or.inl rfl) e10_0
  refine hI_go (pc' := 28) (off := (-21)) rfl (by decide) ?_ -- 2.49
  refine hI_il (k := 1) rfl e20_1 rfl ?_ -- 2.28
  refine hM_ic (n := 4) rfl (by decide) rfl (fun x21 q21 => ?_) -- 2.29
  refine hM_cge (t := 52) rfl q20 q21 (by decide) rfl (fun c => absurd c (by decide)) (fun _ => ?_) -- 2.30
  refine hI_al (k := 0) rfl e20_0 rfl ?_ -- 2.33
  refine hS_gr (c := 6) (k := 1) (j := 0) (q := 2) S19 rfl rfl rfl (by decide) rfl rfl (by decide) rfl rfl ?_ -- 2.34
  refine hI_il (k := 1) rfl e20_1 rfl ?_ -- 2.37
  refine hS_new (c := 0) (j := 6) S19 rfl rfl (by decide) rfl rfl (fun h22 S22 => ?_) -- 2.38
  refine hI_dup rfl rfl rfl ?_ -- 2.41
  refine hS_call (j := 3) (q := 6) S22 rfl rfl (by decide +kernel) rfl (by decide) rfl (by decide +kernel) rfl (by show 3 ≤ 8; decide) (by decide +kernel) rfl ?_ -- 2.42
  refine hI_al (k := 0) rfl rfl rfl ?_ -- 3.0
  refine hS_obj (j := 6) rfl rfl ⟨by decide +kernel, by show 0 + 12 ≤ _; decide +kernel, by show 0 ≤ 8; decide⟩ rfl ?_ -- 3.1
  refine hI_al (k := 0) rfl rfl rfl ?_ -- 3.4
  refine hM_bp (n := 40) rfl (by decide) rfl (fun x23 q23 => ?_) -- 3.5
  refine hS_newa (t := .int) (n := 40) (j := 7) S22 rfl (by decide) q23 (by decide) rfl rfl (fun h24 S24 => ?_) -- 3.7
  refine hS_pr (c := 0) (k := 0) (j := 6) (q := 7) S24 rfl rfl (by decide +kernel) (by decide) rfl rfl rfl (fun h25 S25 => ?_) -- 3.9
  refine hI_al (k := 0) rfl rfl rfl ?_ -- 3.12
  refine hM_bp (n := 120) rfl (by decide) rfl (fun x26 q26 => ?_) -- 3.13
  refine hS_newa (t := .int) (n := 120) (j := 8) S25 rfl (by decide) q26 (by decide) rfl rfl (fun h27 S27 => ?_) -- 3.15
  refine hS_pr (c := 0) (k := 1) (j := 6) (q := 8) S27 rfl rfl (by decide +kernel) (by decide) rfl rfl rfl (fun h28 S28 => ?_) -- 3.17
  refine hI_rv rfl rfl ?_ -- 3.20
  show HJ 2 45 lv20 [.ref (16 + h_n h0 + 6), .int x20, .ref (16 + h_n h0 + 2)] h28 Q
  refine hS_aast (n := 1) (j := 2) (q := 6) S28 rfl q20 rfl rfl (by decide) rfl rfl (fun h29 S29 => ?_) -- 2.45
  refine hM_inc (k := 1) (z := 1) rfl e20_1 q20 (by decide) (by decide) (by decide) (by decide +kernel) rfl (fun lv30 x30 q30 e30_1 u30 => ?_) -- 2.46
  have q30 : x30.toInt = 2 := q30
  have e30_0 := u30 0 _ (by decide) (Or.inl rfl) e20_0
  refine hI_go (pc' := 28) (off := (-21)) rfl (by decide) ?_ -- 2.49
  refine hI_il (k := 1) rfl e30_1 rfl ?_ -- 2.28
  refine hM_ic (n := 4) rfl (by decide) rfl (fun x31 q31 => ?_) -- 2.29
  refine hM_cge (t := 52) rfl q30 q31 (by decide) rfl (fun c => absurd c (by decide)) (fun _ => ?_) -- 2.30
  refine hI_al (k := 0) rfl e30_0 rfl ?_ -- 2.33
  refine hS_gr (c := 6) (k := 1) (j := 0) (q := 2) S29 rfl rfl rfl (by decide) rfl rfl (by decide) rfl rfl ?_ -- 2.34
  refine hI_il (k := 1) rfl e30_1 rfl ?_ -- 2.37
  refine hS_new (c := 0) (j := 9) S29 rfl rfl (by decide) rfl rfl (fun h32 S32 => ?_) -- 2.38
  refine hI_dup rfl rfl rfl ?_ -- 2.41
  refine hS_call (j := 3) (q := 9) S32 rfl rfl (by decide +kernel) rfl (by decide) rfl (by decide +kernel) rfl (by show 3 ≤ 8; decide) (by decide +kernel) rfl ?_ -- 2.42
  refine hI_al (k := 0) rfl rfl rfl ?_ -- 3.0
  refine hS_obj (j := 9) rfl rfl ⟨by decide +kernel, by show 0 + 12 ≤ _; decide +kernel, by show 0 ≤ 8; decide⟩ rfl ?_ -- 3.1
  refine hI_al (k := 0) rfl rfl rfl ?_ -- 3.4
  refine hM_bp (n := 40) rfl (by decide) rfl (fun x33 q33 => ?_) -- 3.5
  refine hS_newa (t := .int) (n := 40) (j := 10) S32 rfl (by decide) q33 (by decide) rfl rfl (fun h34 S34 => ?_) -- 3.7
  refine hS_pr (c := 0) (k := 0) (j := 9) (q := 10) S34 rfl rfl (by decide +kernel) (by decide) rfl rfl rfl (fun h35 S35 => ?_) -- 3.9
  refine hI_al (k := 0) rfl rfl rfl ?_ -- 3.12
  refine hM_bp (n := 120) rfl (by decide) rfl (fun x36 q36 => ?_) -- 3.13
  refine hS_newa (t := .int) (n := 120) (j := 11) S35 rfl (by decide) q36 (by decide) rfl rfl (fun h37 S37 => ?_) -- 3.15
  refine hS_pr (c := 0) (k := 1) (j := 9) (q := 11) S37 rfl rfl (by decide +kernel) (by decide) rfl rfl rfl (fun h38 S38 => ?_) -- 3.17
  refine hI_rv rfl rfl ?_ -- 3.20
  show HJ 2 45 lv30 [.ref (16 + h_n h0 + 9), .int x30, .ref (16 + h_n h0 + 2)] h38 Q
  refine hS_aast (n := 2) (j := 2) (q := 9) S38 rfl q30 rfl rfl (by decide) rfl rfl (fun h39 S39 => ?_) -- 2.45
  refine hM_inc (k := 1) (z := 1) rfl e30_1 q30 (by decide) (by decide) (by decide) (by decide +kernel) rfl (fun lv40 x40 q40 e40_1 u40 => ?_) -- 2.46
  have q40 : x40.toInt = 3 := q40
  have e40_0 := u40 0 _ (by decide) (Or.inl rfl) e30_0
  refine hI_go (pc' := 28) (off := (-21)) rfl (by decide) ?_ -- 2.49
  refine hI_il (k := 1) rfl e40_1 rfl ?_ -- 2.28
  refine hM_ic (n := 4) rfl (by decide) rfl (fun x41 q41 => ?_) -- 2.29
  refine hM_cge (t := 52) rfl q40 q41 (by decide) rfl (fun c => absurd c (by decide)) (fun _ => ?_) -- 2.30
  refine hI_al (k := 0) rfl e40_0 rfl ?_ -- 2.33
  refine hS_gr (c := 6) (k := 1) (j := 0) (q := 2) S39 rfl rfl rfl (by decide) rfl rfl (by decide) rfl rfl ?_ -- 2.34
  refine hI_il (k := 1) rfl e40_1 rfl ?_ -- 2.37
  refine hS_new (c := 0) (j := 12) S39 rfl rfl (by decide) rfl rfl (fun h42 S42 => ?_) -- 2.38
  refine hI_dup rfl rfl rfl ?_ -- 2.41
  refine hS_call (j := 3) (q := 12) S42 rfl rfl (by decide +kernel) rfl (by decide) rfl (by decide +kernel) rfl (by show 3 ≤ 8; decide) (by decide +kernel) rfl ?_ -- 2.42
  refine hI_al (k := 0) rfl rfl rfl ?_ -- 3.0
  refine hS_obj (j := 12) rfl rfl ⟨by decide +kernel, by show 0 + 12 ≤ _; decide +kernel, by show 0 ≤ 8; decide⟩ rfl ?_ -- 3.1
  refine hI_al (k := 0) rfl rfl rfl ?_ -- 3.4
  refine hM_bp (n := 40) rfl (by decide) rfl (fun x43 q43 => ?_) -- 3.5
  refine hS_newa (t := .int) (n := 40) (j := 13) S42 rfl (by decide) q43 (by decide) rfl rfl (fun h44 S44 => ?_) -- 3.7
  refine hS_pr (c := 0) (k := 0) (j := 12) (q := 13) S44 rfl rfl (by decide +kernel) (by decide) rfl rfl rfl (fun h45 S45 => ?_) -- 3.9
  refine hI_al (k := 0) rfl rfl rfl ?_ -- 3.12
  refine hM_bp (n := 120) rfl (by decide) rfl (fun x46 q46 => ?_) -- 3.13
  refine hS_newa (t := .int) (n := 120) (j := 14) S45 rfl (by decide) q46 (by decide) rfl rfl (fun h47 S47 => ?_) -- 3.15
  refine hS_pr (c := 0) (k := 1) (j := 12) (q := 14) S47 rfl rfl (by decide +kernel) (by decide) rfl rfl rfl (fun h48 S48 => ?_) -- 3.17
  refine hI_rv rfl rfl ?_ -- 3.20
  show HJ 2 45 lv40 [.ref (16 + h_n h0 + 12), .int x40, .ref (16 + h_n h0 + 2)] h48 Q
  refine hS_aast (n := 3) (j := 2) (q := 12) S48 rfl q40 rfl rfl (by decide) rfl rfl (fun h49 S49 => ?_) -- 2.45
  refine hM_inc (k := 1) (z := 1) rfl e40_1 q40 (by decide) (by decide) (by decide) (by decide +kernel) rfl (fun lv50 x50 q50 e50_1 u50 => ?_) -- 2.46
  have q50 : x50.toInt = 4 := q50
  have e50_0 := u50 0 _ (by decide) (Or.inl rfl) e40_0
  refine hI_go (pc' := 28) (off := (-21)) rfl (by decide) ?_ -- 2.49
  refine hI_il (k := 1) rfl e50_1 rfl ?_ -- 2.28
  refine hM_ic (n := 4) rfl (by decide) rfl (fun x51 q51 => ?_) -- 2.29
  refine hM_cge (t := 52) rfl q50 q51 (by decide) rfl (fun _ => ?_) (fun c => absurd c (by decide)) -- 2.30
  refine hI_rv rfl rfl ?_ -- 2.52
  exact g h49 (sx_eq S49 (by decide +kernel))
end
section
-- THE ROOM, ONE PAST MORE
def dp_p : List (Nat × Nat) := [(0, 1001), (0, 1002), (6, 0), (6, 1), (6, 2), (6, 7), (6, 1002), (25, 0), (25, 1002), (8, 1001), (29, 0), (47, 0), (39, 1), (48, 1), (48, 1002)]
theorem rm_past {ρ ρ' : Nat → Nat} {W : List (Nat × Nat)} {h h' : MH} (ht : TH c_sp ρ h) (f : FQ ρ ρ' W h h') (hn : d_no dp_p W = true) {k9 d z P9 N9 : Nat} (hk9 : k9 < 4) (s0 : r_sl h k9 = 0) (en : h_n h' = h_n h + d) (d1 : d ≤ 164) (ez : h_z h' = h_z h + z) (z1 : z ≤ 5024) (es : ∀ k, k < 4 → k ≠ k9 → h_r h' (r_P h) k = h_r h (r_P h) k) (sP : h_r h' (r_P h) k9 = P9) (P0 : P9 ≠ 0) (Pl : P9 < 16 + h_n h') (Pr : ρ' P9 = 29) (sN : h_r h' P9 0 = N9) (Nl : N9 < 16 + h_n h') (Nr : ρ' N9 = 39) (Hl : h_r h' N9 1 < 16 + h_n h') (HL : (h_k h' (h_r h' N9 1)).2 = 64) (only : ∀ a, ρ' a = 39 ∨ ρ' a = 48 → (ρ a = 39 ∨ ρ a = 48) ∨ a = N9) (k : t_rm ρ h) : t_rm ρ' h' := by
  obtain ⟨⟨a1, a2, a3, a4, a5⟩, b, c, d, e⟩ := k
  have eP : r_P h' = r_P h := rm_rD f (by decide) hn a1.1 (R := 6) (by decide) (by decide) a1.2
  have eI : r_I h' = r_I h := rm_rD f (by decide) hn a1.1 (R := 6) (by decide) (by decide) a1.2
  have eS : r_S h' = r_S h := rm_rD f (by decide) hn a1.1 (R := 6) (by decide) (by decide) a1.2
  have eT0 : h_r h' (r_S h') 0 = h_r h (r_S h) 0 := by
    rw [eS]
    exact rm_rD f (by decide) hn a4.1 (R := 25) (by decide) (by decide) a4.2
  have eT : r_T h' = r_T h := by
    unfold r_T
    rw [eT0, (f.2.2.2 _ a5.1).1]
  have eslA : ∀ k, k < 4 → k ≠ k9 → r_sl h' k = r_sl h k := fun k hk hne => by
    unfold r_sl
    rw [eP]
    exact es k hk hne
  have esl : ∀ k, k < 4 → r_sl h k ≠ 0 → r_sl h' k = r_sl h k := fun k hk hs => eslA k hk (fun e => hs (by rw [e]; exact s0))
  have esn : r_sl h' k9 = P9 := by
    unfold r_sl
    rw [eP]
    exact sP
  have eim : ∀ k, k < 4 → r_im h' k = r_im h k := fun k hk => by
    unfold r_im
    rw [eI]
    exact rm_eD f (by decide) hn a3.1 (R := 8) (by decide) (by omega) a3.2
  have eno : ∀ k, k < 4 → r_sl h k ≠ 0 → r_no h' k = r_no h k := fun k hk hs => by
    rcases b k hk with z | ⟨z1, z2, z3⟩
    · exact absurd z hs
    · unfold r_no
      rw [esl k hk hs]
      rcases z1.2 with q | q | q
      · exact rm_rD f (by decide) hn z1.1 (R := 29) (by decide) (by decide) (Or.inl q)
      · exact rm_rD f (by decide) hn z1.1 (R := 47) (by decide) (by decide) (Or.inl q)
      · exact rm_rD f (by decide) hn z1.1 (R := 29) (by decide) (by decide) (Or.inr q)
  have eho : ∀ k, k < 4 → r_sl h k ≠ 0 → r_ho h' k = r_ho h k ∧ r_L h' k = r_L h k := fun k hk hs => by
    rcases b k hk with z | ⟨z1, z2, z3⟩
    · exact absurd z hs
    · have e1 : r_ho h' k = r_ho h k := by
        unfold r_ho
        rw [eno k hk hs]
        rcases z2.2 with q | q | q
        · exact rm_rD f (by decide) hn z2.1 (R := 39) (by decide) (by decide) (Or.inl q)
        · exact rm_rD f (by decide) hn z2.1 (R := 48) (by decide) (by decide) (Or.inl q)
        · exact rm_rD f (by decide) hn z2.1 (R := 39) (by decide) (by decide) (Or.inr q)
      refine ⟨e1, ?_⟩
      unfold r_L
      rw [e1, (f.2.2.2 _ z3).1]
  have epn : ∀ k, k < 4 → k ≠ k9 → r_pn h' k = r_pn h k ∧ r_pz h' k = r_pz h k := fun k hk hne => by
    unfold r_pn r_pz
    rw [eslA k hk hne]
    by_cases hs : r_sl h k = 0
    · rw [if_pos hs, if_pos hs, if_pos hs, if_pos hs]
      exact ⟨rfl, rfl⟩
    · rw [if_neg hs, if_neg hs, if_neg hs, if_neg hs, (eho k hk hs).2]
      exact ⟨rfl, rfl⟩
  have epk : r_pn h k9 = 0 ∧ r_pz h k9 = 0 ∧ r_pn h' k9 = 164 ∧ r_pz h' k9 = 5024 := by
    have hL : r_L h' k9 = 64 := by
      unfold r_L r_ho r_no
      rw [esn, sN]
      exact HL
    unfold r_pn r_pz
    rw [esn, if_pos s0, if_pos s0, if_neg P0, if_neg P0, hL]
    exact ⟨rfl, rfl, rfl, rfl⟩
  have eqn : ∀ k, k < 4 → r_qn h' k = r_qn h k ∧ r_qz h' k = r_qz h k := fun k hk => by
    unfold r_qn r_qz
    rw [eim k hk]
    exact ⟨rfl, rfl⟩
  have hin : ∀ {a R : Nat}, r_iu ρ h a R → r_iu ρ' h' a R := fun {a R} q => ⟨by have := q.1; omega, by rw [f.same q.1]; exact q.2⟩
  have hin2 : ∀ {a R R2 : Nat}, r_iu2 ρ h a R R2 → r_iu2 ρ' h' a R R2 := fun {a R R2} q => ⟨by have := q.1; omega, by rw [f.same q.1]; exact q.2⟩
  refine ⟨⟨hin a1, by rw [eP]; exact hin a2, by rw [eI]; exact hin a3, by rw [eS]; exact hin a4, by rw [eT0]; have := a5.1; omega, fun a ha => a5.2.1 a (fq_m f ht hn (by decide) (show (6, 1002) ∈ dp_p by decide) ha).1, fun a ha => by rw [eS]; exact a5.2.2 a (fq_m f ht hn (by decide) (show (25, 1002) ∈ dp_p by decide) ha).1⟩, fun k hk => ?_, fun a ha => ?_, ?_, ?_⟩
  · by_cases hne : k = k9
    · subst hne
      refine Or.inr ⟨?_, ?_, ?_⟩
      · rw [esn]
        exact ⟨Pl, Or.inl Pr⟩
      · unfold r_no
        rw [esn, sN]
        exact ⟨Nl, Or.inl Nr⟩
      · unfold r_ho r_no
        rw [esn, sN]
        exact Hl
    · by_cases hs : r_sl h k = 0
      · exact Or.inl ((eslA k hk hne).trans hs)
      · rcases b k hk with z | ⟨z1, z2, z3⟩
        · exact absurd z hs
        · refine Or.inr ⟨by rw [esl k hk hs]; exact hin2 z1, by rw [eno k hk hs]; exact hin2 z2, ?_⟩
          rw [(eho k hk hs).1]
          omega
  · rcases only a ha with ha2 | ha2
    · obtain ⟨k, hk, hs, e9⟩ := c a ha2
      exact ⟨k, hk, by rw [esl k hk hs]; exact hs, by rw [eno k hk hs]; exact e9⟩
    · refine ⟨k9, hk9, by rw [esn]; exact P0, ?_⟩
      unfold r_no
      rw [esn, sN]
      exact ha2
  · rw [en, (eqn 0 (by decide)).1, (eqn 1 (by decide)).1, (eqn 2 (by decide)).1, eT]
    have q0 := epn 0 (by decide)
    have q1 := epn 1 (by decide)
    have q2 := epn 2 (by decide)
    have q3 := epn 3 (by decide)
    match k9, hk9 with
    | 0, _ => have := q1 (by decide); have := q2 (by decide); have := q3 (by decide); omega
    | 1, _ => have := q0 (by decide); have := q2 (by decide); have := q3 (by decide); omega
    | 2, _ => have := q0 (by decide); have := q1 (by decide); have := q3 (by decide); omega
    | 3, _ => have := q0 (by decide); have := q1 (by decide); have := q2 (by decide); omega
  · rw [ez, (eqn 0 (by decide)).2, (eqn 1 (by decide)).2, (eqn 2 (by decide)).2, eT]
    have q0 := epn 0 (by decide)
    have q1 := epn 1 (by decide)
    have q2 := epn 2 (by decide)
    have q3 := epn 3 (by decide)
    match k9, hk9 with
    | 0, _ => have := q1 (by decide); have := q2 (by decide); have := q3 (by decide); omega
    | 1, _ => have := q0 (by decide); have := q2 (by decide); have := q3 (by decide); omega
    | 2, _ => have := q0 (by decide); have := q1 (by decide); have := q3 (by decide); omega
    | 3, _ => have := q0 (by decide); have := q1 (by decide); have := q2 (by decide); omega
end
section
-- A PAST FOR A ROW
section
variable {i pc pc' : Nat} {lv : List (Nat × Value)} {st : List Value} {h : MH} {Q : Option Value → MH → Prop}
theorem hI_aa {j : Int32} {o : Nat} (a : m_at i pc = some (.aaload, 1)) (hk : 30 ≤ (h_k h o).1 ∧ (h_k h o).1 < 34) (h0 : 0 ≤ j.toInt) (h1 : j.toInt < (h_k h o).2) (hp : pc + 1 = pc') (g : HJ i pc' lv (.ref (h_r h o j.toInt.toNat) :: st) h Q) : HJ i pc lv (.int j :: .ref o :: st) h Q := by
  subst hp
  refine HJ.ex a (Or.inl rfl) ?_ g
  show (if (30 ≤ (h_k h o).1 ∧ (h_k h o).1 < 34) ∧ m_in j (h_k h o).2 = true then _ else none) = _
  rw [if_pos ⟨hk, m_inZ h0 h1⟩]
  rfl
theorem hI_aast {j : Int32} {o x : Nat} (a : m_at i pc = some (.aastore, 1)) (ho : 16 ≤ o) (hk : 30 ≤ (h_k h o).1 ∧ (h_k h o).1 < 33) (h0 : 0 ≤ j.toInt) (h1 : j.toInt < (h_k h o).2) (hx : 16 ≤ x) (hxk : (h_k h x).1 = m_el (h_k h o).1) (hp : pc + 1 = pc') (g : HJ i pc' lv st (h_sr h o j.toInt.toNat x) Q) : HJ i pc lv (.ref x :: .int j :: .ref o :: st) h Q := by
  subst hp
  refine HJ.ex a (Or.inl rfl) ?_ g
  show (if 16 ≤ o ∧ (30 ≤ (h_k h o).1 ∧ (h_k h o).1 < 33) ∧ m_in j (h_k h o).2 = true ∧ 16 ≤ x ∧ (h_k h x).1 = m_el (h_k h o).1 then _ else none) = _
  rw [if_pos ⟨ho, hk, m_inZ h0 h1, hx, hxk⟩]
  rfl
theorem hI_nn {off : Int} {o t : Nat} (a : m_at i pc = some (.ifnonnull off, 3)) (ht : (pc : Int) + off = (t : Int)) (hp : pc + 3 = pc') (ho : o = 0 ∨ 16 ≤ o) (g1 : o ≠ 0 → HJ i t lv st h Q) (g2 : o = 0 → HJ i pc' lv st h Q) : HJ i pc lv (.ref o :: st) h Q := by
  subst hp
  by_cases e : o = 0
  · refine HJ.ex (pc' := pc + 3) a (Or.inl rfl) ?_ (g2 e)
    show (if o = 0 then m_go (pc + 3) lv st h else if 16 ≤ o then m_tg pc off lv st h else none) = _
    rw [if_pos e]
    rfl
  · refine HJ.ex (pc' := t) a (Or.inl rfl) ?_ (g1 e)
    show (if o = 0 then m_go (pc + 3) lv st h else if 16 ≤ o then m_tg pc off lv st h else none) = _
    rw [if_neg e, if_pos (by omega)]
    unfold m_tg
    rw [ht, if_pos (Int.natCast_nonneg t), Int.toNat_natCast]
end
def w_pf : List (Nat × Nat) := (9, 1001) :: (1000, 1002) :: past_R.map (fun R => (R, 1002))
theorem past_only (j : Nat) (hj : past_R.getD j 0 = 39 ∨ past_R.getD j 0 = 48) : j = 1 := by
  by_cases h : j < 70
  · have := List.all_eq_true.mp (show ((List.range 70).all (fun j => !(Nat.beq (past_R.getD j 0) 39 || Nat.beq (past_R.getD j 0) 48) || Nat.beq j 1)) = true by decide +kernel) j (List.mem_range.mpr h)
    rw [Bool.or_eq_true] at this
    rcases this with z | z
    · rcases hj with e | e <;> (rw [e] at z; cases z)
    · exact Nat.eq_of_beq_eq_true z
  · have e : past_R.getD j 0 = 0 := by
      rw [List.getD_eq_getElem?_getD, List.getElem?_eq_none (show past_R.length ≤ j by have : past_R.length = 70 := rfl; omega)]
      rfl
    rcases hj with q | q <;> (rw [e] at q; cases q)
section
variable {lv : List (Nat × Value)} {Q : Option Value → MH → Prop} {W : List (Nat × Nat)} {ρ : Nat → Nat} {m : Nat} {A : Nat → Nat} {h0 h : MH} {F : Nat → Int} {V : Nat → Nat → Int} {G : Nat → Nat → Int64}
theorem c_pastFor {x1 : Int32} (ht : TH c_sp ρ h) (hm : ρ m = 6) (n1 : t_nd ρ h) (n2 : t_rm ρ h) (e0 : m_lk lv 0 = some (.ref m)) (e1 : m_lk lv 1 = some (.int x1)) (b0 : 0 ≤ x1.toInt) (b3 : x1.toInt ≤ 3) (g : ∀ (ρ' : Nat → Nat) (h' : MH) (p : Nat), FQ ρ ρ' w_pf h h' → TH c_sp ρ' h' → t_nd ρ' h' → t_rm ρ' h' → ρ' p = 29 → p ≠ 0 → Q (some (.ref p)) h') : HJ 41 0 lv [] h Q := by
  have m16 : m = 16 := n2.1.2.2.2.2.2.1 m hm
  subst m16
  have fP : ρ (r_P h) = 9 := (th_rf ht (R := 6) (by decide) rfl hm (k := 2) rfl (fun z => by cases z)).2
  have k16 : (h_k h 16).1 = 9 := (t_spec ht (by decide) (rfl : c_sp[6]? = some _) hm).1
  have cP := t_spec ht (by decide) (rfl : c_sp[9]? = some _) fP
  have kP : (h_k h (r_P h)).1 = 31 := cP.1
  have lP : 4 ≤ (h_k h (r_P h)).2 := cP.2.1.1
  have P16 : 16 ≤ r_P h := cP.2.2.1 rfl
  have Pl : r_P h < 16 + h_n h := (ht.2 _ (by rw [fP]; decide)).1
  have ne16 : (16 : Nat) ≠ r_P h := fun z => by rw [← z, hm] at fP; cases fP
  have el : t_rf ρ 29 false (h_r h (r_P h) x1.toInt.toNat) := cP.2.2.2 x1.toInt.toNat (.inr (.inr (29, false))) rfl (fun _ => by omega)
  have el16 : h_r h (r_P h) x1.toInt.toNat = 0 ∨ 16 ≤ h_r h (r_P h) x1.toInt.toNat := by
    rcases el with q | ⟨-, -, q⟩
    · exact Or.inl q.1
    · exact Or.inr ((t_spec ht (by decide) (rfl : c_sp[29]? = some _) q).2.2.1 rfl)
  refine hI_al (k := 0) rfl e0 rfl ?_
  refine hI_gr rfl rfl rfl k16 rfl ?_
  refine hI_il (k := 1) rfl e1 rfl ?_
  refine hI_aa (o := r_P h) rfl ⟨by rw [kP]; decide, by rw [kP]; decide⟩ b0 (by omega) rfl ?_
  refine hI_nn (t := 22) rfl (by decide) rfl el16 (fun hne => ?_) (fun he => ?_)
  · refine hI_al (k := 0) rfl e0 rfl ?_
    refine hI_gr rfl rfl rfl k16 rfl ?_
    refine hI_il (k := 1) rfl e1 rfl ?_
    refine hI_aa (o := r_P h) rfl ⟨by rw [kP]; decide, by rw [kP]; decide⟩ b0 (by omega) rfl ?_
    refine hI_ra rfl rfl (g ρ h _ (FQ.refl _ _ _) ht n1 n2 ?_ hne)
    rcases el with q | ⟨-, -, q⟩
    · exact absurd q.1 hne
    · exact q
  · refine hI_al (k := 0) rfl e0 rfl ?_
    refine hI_gr rfl rfl rfl k16 rfl ?_
    refine hI_il (k := 1) rfl e1 rfl ?_
    refine hS_new (c := 3) (j := 0) (sx_start (h := h)) rfl rfl (by decide) rfl rfl (fun h1 S1 => ?_)
    have S2 : SX h h1 [((4, 14), [])] 14 := sx_eq S1 (by decide +kernel)
    refine hI_dup rfl rfl rfl ?_
    refine hS_call (j := 42) (q := 0) S2 rfl rfl (by decide +kernel) rfl (by decide) rfl (by decide +kernel) rfl (by show 3 ≤ 8; decide) (by decide +kernel) rfl ?_
    refine c_past S2 (fun h2 S => ?_)
    show HJ 41 21 lv [.ref (16 + h_n h + 0), .int x1, .ref (r_P h)] h2 Q
    have T9 : TH c_sp (nx_rho (16 + h_n h) past_R ρ) h2 := sx_TH ht S past_T
    have Q9 : FQ ρ (nx_rho (16 + h_n h) past_R ρ) w_pf h h2 := sx_FQ ht S (by decide +kernel)
    have fP' : nx_rho (16 + h_n h) past_R ρ (r_P h) = 9 := (nx_old Pl).trans fP
    have c0 := S.2.2 0 _ rfl
    have c1 := S.2.2 1 _ rfl
    have c2 := S.2.2 2 _ rfl
    have c3 := S.2.2 3 _ rfl
    have kP2 : (h_k h2 (r_P h)).1 = 31 ∧ 4 ≤ (h_k h2 (r_P h)).2 := by rw [(S.2.1 _ Pl).1]; exact ⟨kP, lP⟩
    refine hI_aast (o := r_P h) (x := 16 + h_n h + 0) rfl P16 (by rw [kP2.1]; decide) b0 (by have := kP2.2; omega) (by omega) (by rw [c0.1, kP2.1]; rfl) rfl ?_
    have r29 : nx_rho (16 + h_n h) past_R ρ (16 + h_n h + 0) = 29 := nx_new
    have r39 : nx_rho (16 + h_n h) past_R ρ (16 + h_n h + 1) = 39 := nx_new
    have T10 := s_srT (k := x1.toInt.toNat) (x := 16 + h_n h + 0) T9 (rfl : c_sp[9]? = some _) fP' (f := (29, false)) rfl (Or.inr ⟨by omega, by decide, r29⟩)
    have Q10 : FQ (nx_rho (16 + h_n h) past_R ρ) (nx_rho (16 + h_n h) past_R ρ) w_pf h2 (h_sr h2 (r_P h) x1.toInt.toNat (16 + h_n h + 0)) := (FS.ofFR (s_srF fP' (Or.inr List.mem_cons_self))).fq
    generalize hh : h_sr h2 (r_P h) x1.toInt.toNat (16 + h_n h + 0) = h3 at T10 Q10 ⊢
    have s3k : ∀ a, h_k h3 a = h_k h2 a := fun a => by rw [← hh]; rfl
    have s3i : ∀ a j, h_i h3 a j = h_i h2 a j := fun a j => by rw [← hh]; rfl
    have s3n : h_n h3 = h_n h2 := by rw [← hh]; rfl
    have s3z : h_z h3 = h_z h2 := by rw [← hh]; rfl
    have s3r : ∀ a j, ¬ (a = r_P h ∧ j = x1.toInt.toNat) → h_r h3 a j = h_r h2 a j := fun a j hn => by rw [← hh, s_srR, if_neg hn]
    have s30 : h_r h3 (r_P h) x1.toInt.toNat = 16 + h_n h + 0 := by rw [← hh, s_srR, if_pos ⟨rfl, rfl⟩]
    have pk : ∀ a, a < 16 + h_n h → h_k h3 a = h_k h a := fun a ha => (s3k a).trans (S.2.1 a ha).1
    have pi : ∀ a j, a < 16 + h_n h → h_i h3 a j = h_i h a j := fun a j ha => (s3i a j).trans ((S.2.1 a ha).2 j).1
    have pr : ∀ a j, a < 16 + h_n h → ¬ (a = r_P h ∧ j = x1.toInt.toNat) → h_r h3 a j = h_r h a j := fun a j ha hn => (s3r a j hn).trans ((S.2.1 a ha).2 j).2.2
    have q00 : h_r h3 (16 + h_n h + 0) 0 = 16 + h_n h + 1 := (s3r _ _ (fun z => by have := z.1; omega)).trans ((c0.2 0 (by decide)).2 (Or.inl (by decide)))
    have q11 : h_r h3 (16 + h_n h + 1) 1 = 16 + h_n h + 3 := (s3r _ _ (fun z => by have := z.1; omega)).trans ((c1.2 1 (by decide)).2 (Or.inl (by decide)))
    have q10 : h_r h3 (16 + h_n h + 1) 0 = 16 + h_n h + 2 := (s3r _ _ (fun z => by have := z.1; omega)).trans ((c1.2 0 (by decide)).2 (Or.inl (by decide)))
    have i15 : h_i h3 (16 + h_n h + 1) 5 = 0 := (s3i _ _).trans ((c1.2 5 (by decide)).1.resolve_left (by decide))
    have l2 : (h_k h3 (16 + h_n h + 2)).2 = 448 := by rw [s3k, c2.1]
    have l3 : (h_k h3 (16 + h_n h + 3)).2 = 64 := by rw [s3k, c3.1]
    have en : h_n h2 = h_n h + 70 := S.1.1
    have ez : h_z h2 = h_z h + 1697 := S.1.2
    have n4 : t_nd (nx_rho (16 + h_n h) past_R ρ) h3 := fun a ha => by
      by_cases al : a < 16 + h_n h
      · rw [nx_old al] at ha
        obtain ⟨y1, y2⟩ := n1 a ha
        have na : a ≠ r_P h := fun z => by rw [z, fP] at ha; rcases ha with e | e <;> cases e
        have w1 : h_r h a 1 < 16 + h_n h ∧ h_r h a 0 < 16 + h_n h := by
          rcases ha with q | q
          · have u1 := (th_rf ht (R := 39) (by decide) rfl q (k := 1) rfl (fun z => by cases z)).2
            have u0 := (th_rf ht (R := 39) (by decide) rfl q (k := 0) rfl (fun z => by cases z)).2
            exact ⟨(ht.2 _ (by rw [u1]; decide)).1, (ht.2 _ (by rw [u0]; decide)).1⟩
          · have u1 := (th_rf ht (R := 48) (by decide) rfl q (k := 1) rfl (fun z => by cases z)).2
            have u0 := (th_rf ht (R := 48) (by decide) rfl q (k := 0) rfl (fun z => by cases z)).2
            exact ⟨(ht.2 _ (by rw [u1]; decide)).1, (ht.2 _ (by rw [u0]; decide)).1⟩
        rw [pr a 1 al (fun z => na z.1), pr a 0 al (fun z => na z.1), pk _ w1.1, pk _ w1.2, pi a 5 al]
        exact ⟨y1, y2⟩
      · obtain ⟨j, rfl⟩ : ∃ j, a = 16 + h_n h + j := ⟨a - (16 + h_n h), by omega⟩
        rw [nx_new] at ha
        have := past_only j ha
        subst this
        rw [q11, q10, l2, l3, i15]
        decide
    have R4 : t_rm (nx_rho (16 + h_n h) past_R ρ) h3 := rm_past (k9 := x1.toInt.toNat) (d := 70) (z := 1697) (P9 := 16 + h_n h + 0) (N9 := 16 + h_n h + 1) ht (Q9.trans Q10) (by decide +kernel) (by omega) he (by omega) (by omega) (by omega) (by omega) (fun k hk hne => pr _ k Pl (fun z => hne z.2)) s30 (by omega) (by omega) r29 q00 (by omega) r39 (by rw [q11]; omega) (by rw [q11, l3]) (fun a ha => by
      by_cases al : a < 16 + h_n h
      · rw [nx_old al] at ha
        exact Or.inl ha
      · obtain ⟨j, rfl⟩ : ∃ j, a = 16 + h_n h + j := ⟨a - (16 + h_n h), by omega⟩
        rw [nx_new] at ha
        rw [past_only j ha]
        exact Or.inr rfl) n2
    have l16 : 16 < 16 + h_n h := n2.1.1.1
    refine hI_al (k := 0) rfl e0 rfl ?_
    refine hI_gr rfl rfl rfl (by rw [pk 16 l16]; exact k16) rfl ?_
    rw [pr 16 _ l16 (fun z => ne16 z.1)]
    refine hI_il (k := 1) rfl e1 rfl ?_
    refine hI_aa (o := r_P h) rfl (by rw [s3k, kP2.1]; decide) b0 (by rw [s3k]; have := kP2.2; omega) rfl ?_
    rw [s30]
    exact hI_ra rfl rfl (g _ h3 _ (Q9.trans Q10) T10 n4 R4 r29 (by omega))
end
end
section
-- THE ROOM, ONE IMAGE MORE
def dp_i : List (Nat × Nat) := [(0, 1001), (0, 1002), (6, 0), (6, 1), (6, 2), (6, 7), (6, 1002), (25, 0), (25, 1002), (9, 1001), (29, 0), (47, 0), (39, 1), (48, 1), (39, 1002), (48, 1002)]
theorem rm_img {ρ ρ' : Nat → Nat} {W : List (Nat × Nat)} {h h' : MH} (ht : TH c_sp ρ h) (f : FQ ρ ρ' W h h') (hn : d_no dp_i W = true) {k9 d z : Nat} (hk9 : k9 < 3) (s0 : r_im h k9 = 0) (en : h_n h' = h_n h + d) (d1 : d ≤ 20) (ez : h_z h' = h_z h + z) (z1 : z ≤ 1400) (es : ∀ k, k < 4 → k ≠ k9 → h_r h' (r_I h) k = h_r h (r_I h) k) (P0 : h_r h' (r_I h) k9 ≠ 0) (k : t_rm ρ h) : t_rm ρ' h' := by
  obtain ⟨⟨a1, a2, a3, a4, a5⟩, b, c, d, e⟩ := k
  have eP : r_P h' = r_P h := rm_rD f (by decide) hn a1.1 (R := 6) (by decide) (by decide) a1.2
  have eI : r_I h' = r_I h := rm_rD f (by decide) hn a1.1 (R := 6) (by decide) (by decide) a1.2
  have eS : r_S h' = r_S h := rm_rD f (by decide) hn a1.1 (R := 6) (by decide) (by decide) a1.2
  have eT0 : h_r h' (r_S h') 0 = h_r h (r_S h) 0 := by
    rw [eS]
    exact rm_rD f (by decide) hn a4.1 (R := 25) (by decide) (by decide) a4.2
  have eT : r_T h' = r_T h := by
    unfold r_T
    rw [eT0, (f.2.2.2 _ a5.1).1]
  have esl : ∀ k, k < 4 → r_sl h' k = r_sl h k := fun k hk => by
    unfold r_sl
    rw [eP]
    exact rm_eD f (by decide) hn a2.1 (R := 9) (by decide) (by omega) a2.2
  have eim : ∀ k, k < 4 → k ≠ k9 → r_im h' k = r_im h k := fun k hk hne => by
    unfold r_im
    rw [eI]
    exact es k hk hne
  have ein : r_im h' k9 ≠ 0 := by
    unfold r_im
    rw [eI]
    exact P0
  have eno : ∀ k, k < 4 → r_sl h k ≠ 0 → r_no h' k = r_no h k := fun k hk hs => by
    rcases b k hk with z | ⟨z1, z2, z3⟩
    · exact absurd z hs
    · unfold r_no
      rw [esl k hk]
      rcases z1.2 with q | q | q
      · exact rm_rD f (by decide) hn z1.1 (R := 29) (by decide) (by decide) (Or.inl q)
      · exact rm_rD f (by decide) hn z1.1 (R := 47) (by decide) (by decide) (Or.inl q)
      · exact rm_rD f (by decide) hn z1.1 (R := 29) (by decide) (by decide) (Or.inr q)
  have eho : ∀ k, k < 4 → r_sl h k ≠ 0 → r_ho h' k = r_ho h k ∧ r_L h' k = r_L h k := fun k hk hs => by
    rcases b k hk with z | ⟨z1, z2, z3⟩
    · exact absurd z hs
    · have e1 : r_ho h' k = r_ho h k := by
        unfold r_ho
        rw [eno k hk hs]
        rcases z2.2 with q | q | q
        · exact rm_rD f (by decide) hn z2.1 (R := 39) (by decide) (by decide) (Or.inl q)
        · exact rm_rD f (by decide) hn z2.1 (R := 48) (by decide) (by decide) (Or.inl q)
        · exact rm_rD f (by decide) hn z2.1 (R := 39) (by decide) (by decide) (Or.inr q)
      refine ⟨e1, ?_⟩
      unfold r_L
      rw [e1, (f.2.2.2 _ z3).1]
  have epn : ∀ k, k < 4 → r_pn h' k = r_pn h k ∧ r_pz h' k = r_pz h k := fun k hk => by
    unfold r_pn r_pz
    rw [esl k hk]
    by_cases hs : r_sl h k = 0
    · rw [if_pos hs, if_pos hs, if_pos hs, if_pos hs]
      exact ⟨rfl, rfl⟩
    · rw [if_neg hs, if_neg hs, if_neg hs, if_neg hs, (eho k hk hs).2]
      exact ⟨rfl, rfl⟩
  have eqn : ∀ k, k < 4 → k ≠ k9 → r_qn h' k = r_qn h k ∧ r_qz h' k = r_qz h k := fun k hk hne => by
    unfold r_qn r_qz
    rw [eim k hk hne]
    exact ⟨rfl, rfl⟩
  have epk : r_qn h k9 = 0 ∧ r_qz h k9 = 0 ∧ r_qn h' k9 = 20 ∧ r_qz h' k9 = 1400 := by
    unfold r_qn r_qz
    rw [if_pos s0, if_pos s0, if_neg ein, if_neg ein]
    exact ⟨rfl, rfl, rfl, rfl⟩
  have hin : ∀ {a R : Nat}, r_iu ρ h a R → r_iu ρ' h' a R := fun {a R} q => ⟨by have := q.1; omega, by rw [f.same q.1]; exact q.2⟩
  have hin2 : ∀ {a R R2 : Nat}, r_iu2 ρ h a R R2 → r_iu2 ρ' h' a R R2 := fun {a R R2} q => ⟨by have := q.1; omega, by rw [f.same q.1]; exact q.2⟩
  refine ⟨⟨hin a1, by rw [eP]; exact hin a2, by rw [eI]; exact hin a3, by rw [eS]; exact hin a4, by rw [eT0]; have := a5.1; omega, fun a ha => a5.2.1 a (fq_m f ht hn (by decide) (show (6, 1002) ∈ dp_i by decide) ha).1, fun a ha => by rw [eS]; exact a5.2.2 a (fq_m f ht hn (by decide) (show (25, 1002) ∈ dp_i by decide) ha).1⟩, fun k hk => ?_, fun a ha => ?_, ?_, ?_⟩
  · by_cases hs : r_sl h k = 0
    · exact Or.inl ((esl k hk).trans hs)
    · rcases b k hk with z | ⟨z1, z2, z3⟩
      · exact absurd z hs
      · refine Or.inr ⟨by rw [esl k hk]; exact hin2 z1, by rw [eno k hk hs]; exact hin2 z2, ?_⟩
        rw [(eho k hk hs).1]
        omega
  · have ha2 : ρ a = 39 ∨ ρ a = 48 := by
      rcases ha with q | q
      · exact Or.inl (fq_m f ht hn (by decide) (show (39, 1002) ∈ dp_i by decide) q).1
      · exact Or.inr (fq_m f ht hn (by decide) (show (48, 1002) ∈ dp_i by decide) q).1
    obtain ⟨k, hk, hs, e9⟩ := c a ha2
    exact ⟨k, hk, by rw [esl k hk]; exact hs, by rw [eno k hk hs]; exact e9⟩
  · rw [en, (epn 0 (by decide)).1, (epn 1 (by decide)).1, (epn 2 (by decide)).1, (epn 3 (by decide)).1, eT]
    have q0 := eqn 0 (by decide)
    have q1 := eqn 1 (by decide)
    have q2 := eqn 2 (by decide)
    match k9, hk9 with
    | 0, _ => have := q1 (by decide); have := q2 (by decide); omega
    | 1, _ => have := q0 (by decide); have := q2 (by decide); omega
    | 2, _ => have := q0 (by decide); have := q1 (by decide); omega
  · rw [ez, (epn 0 (by decide)).2, (epn 1 (by decide)).2, (epn 2 (by decide)).2, (epn 3 (by decide)).2, eT]
    have q0 := eqn 0 (by decide)
    have q1 := eqn 1 (by decide)
    have q2 := eqn 2 (by decide)
    match k9, hk9 with
    | 0, _ => have := q1 (by decide); have := q2 (by decide); omega
    | 1, _ => have := q0 (by decide); have := q2 (by decide); omega
    | 2, _ => have := q0 (by decide); have := q1 (by decide); omega
def w_ct : List (Nat × Nat) := [(97, 2), (97, 3), (97, 4), (97, 5), (100, 2), (99, 1001), (101, 1001), (102, 1001)]
def w_im : List (Nat × Nat) := (8, 1001) :: (1000, 1002) :: w_ct ++ told_R.map (fun R => (R, 1002))
def nw_im (h h' : MH) (a : Nat) : Prop := 16 + h_n h ≤ h_r h' a 0 ∧ (∀ r, r < 4 → 16 + h_n h ≤ q_ac h' a r ∧ 16 + h_n h ≤ h_r h' (q_ac h' a r) 0 ∧ 16 + h_n h ≤ h_r h' (q_ac h' a r) 1) ∧ ow_ne h' a a
-- the heap ahead of the copy: the image is there, nothing else is changed
def im_b (ρ ρ' : Nat → Nat) (h h' : MH) (k : Nat) : Prop := (FQ ρ ρ' w_im h h' ∧ TH c_sp ρ' h') ∧ ρ' (h_r h' (r_I h) k) = 97 ∧ (h_r h (r_I h) k ≠ 0 → h' = h ∧ ρ' = ρ) ∧ (h_r h (r_I h) k = 0 → 16 + h_n h ≤ h_r h' (r_I h) k) ∧ (∀ a, a < 16 + h_n h → h_k h' a = h_k h a ∧ ∀ j, h_i h' a j = h_i h a j ∧ h_l h' a j = h_l h a j ∧ (¬ (a = r_I h ∧ j = k) → h_r h' a j = h_r h a j)) ∧ (h_r h (r_I h) k = 0 → nw_im h h' (h_r h' (r_I h) k))
section
variable {lv : List (Nat × Value)} {Q : Option Value → MH → Prop} {W : List (Nat × Nat)} {ρ : Nat → Nat} {m : Nat} {A : Nat → Nat} {h0 h : MH} {F : Nat → Int} {V : Nat → Nat → Int} {G : Nat → Nat → Int64}
theorem c_image {x1 : Int32} (Φ : (Nat → Nat) → MH → Nat → Nat → MH → Prop) (ht : TH c_sp ρ h) (hm : ρ m = 6) (n1 : t_nd ρ h) (n2 : t_rm ρ h) (e0 : m_lk lv 0 = some (.ref m)) (e1 : m_lk lv 1 = some (.int x1)) (cp : ∀ (ρ' : Nat → Nat) (h' : MH) (a b : Nat) (Q' : Option Value → MH → Prop), im_b ρ ρ' h h' x1.toInt.toNat → a = h_r h' (r_I h) x1.toInt.toNat → b = h_r h 16 0 → FQ ρ ρ' w_im h h' → TH c_sp ρ' h' → ρ' a = 97 → ρ' b = 7 → (∀ h'', FS ρ' w_ct h' h'' → TH c_sp ρ' h'' → Φ ρ' h' a b h'' → Q' none h'') → HJ 95 0 (lv_args 0 [.ref a, .ref b]) [] h' Q') (g1 : ∀ (ρ' : Nat → Nat) (h' h'' : MH) (x : Int32), 0 ≤ x1.toInt → x1.toInt ≤ 2 → x.toInt = 1 → FQ ρ ρ' w_im h h'' → TH c_sp ρ' h'' → t_nd ρ' h'' → t_rm ρ' h'' → im_b ρ ρ' h h' x1.toInt.toNat → FS ρ' w_ct h' h'' → Φ ρ' h' (h_r h' (r_I h) x1.toInt.toNat) (h_r h 16 0) h'' → Q (some (.int x)) h'') (g0 : ∀ x : Int32, x.toInt = 0 → x1.toInt < 0 ∨ 3 ≤ x1.toInt → Q (some (.int x)) h) : HJ 94 0 lv [] h Q := by
  have m16 : m = 16 := n2.1.2.2.2.2.2.1 m hm
  subst m16
  have fI : ρ (r_I h) = 8 := (th_rf ht (R := 6) (by decide) rfl hm (k := 1) rfl (fun z => by cases z)).2
  have fN : ρ (h_r h 16 0) = 7 := (th_rf ht (R := 6) (by decide) rfl hm (k := 0) rfl (fun z => by cases z)).2
  have k16 : (h_k h 16).1 = 9 := (t_spec ht (by decide) (rfl : c_sp[6]? = some _) hm).1
  have cI := t_spec ht (by decide) (rfl : c_sp[8]? = some _) fI
  have kI : (h_k h (r_I h)).1 = 30 := cI.1
  have lI : 3 ≤ (h_k h (r_I h)).2 := cI.2.1.1
  have I16 : 16 ≤ r_I h := cI.2.2.1 rfl
  have Il : r_I h < 16 + h_n h := (ht.2 _ (by rw [fI]; decide)).1
  have l16 : 16 < 16 + h_n h := n2.1.1.1
  have ne16 : (16 : Nat) ≠ r_I h := fun z => by rw [← z, hm] at fI; cases fI
  have bad : x1.toInt < 0 ∨ 3 ≤ x1.toInt → HJ 94 9 lv [] h Q := fun hb => hM_ic (n := 0) rfl (by decide) rfl (fun x q => hM_rb rfl rfl q (by omega) (by omega) (g0 x q hb))
  refine hI_il (k := 1) rfl e1 rfl ?_
  refine hM_zlt (off := 8) (t := 9) rfl rfl (by decide) rfl (fun c => bad (Or.inl c)) (fun cA => ?_)
  refine hI_il (k := 1) rfl e1 rfl ?_
  refine hM_ic (n := 3) rfl (by decide) rfl (fun x3 q3 => ?_)
  refine hM_clt (off := 5) (t := 11) rfl rfl q3 (by decide) rfl (fun cB => ?_) (fun c => bad (Or.inr (by omega)))
  have b0 : 0 ≤ x1.toInt := by omega
  have b2 : x1.toInt ≤ 2 := by omega
  have fin : ∀ (ρ' : Nat → Nat) (h' : MH), t_nd ρ' h' → t_rm ρ' h' → im_b ρ ρ' h h' x1.toInt.toNat → HJ 94 33 lv [] h' Q := fun ρ' h' n3 n4 I => by
    obtain ⟨⟨f, t⟩, u5, -, -, u6, -⟩ := id I
    have u1 := (u6 16 l16).1
    have u2 := (u6 _ Il).1
    have u3 : h_r h' 16 1 = r_I h := ((u6 16 l16).2 1).2.2 (fun z => ne16 z.1)
    have u4 : h_r h' 16 0 = h_r h 16 0 := ((u6 16 l16).2 0).2.2 (fun z => ne16 z.1)
    refine hI_al (k := 0) rfl e0 rfl ?_
    refine hI_gr rfl rfl rfl (by rw [u1]; exact k16) rfl ?_
    rw [u3]
    refine hI_il (k := 1) rfl e1 rfl ?_
    refine hI_aa (o := r_I h) rfl (by rw [u2, kI]; decide) b0 (by rw [u2]; omega) rfl ?_
    refine hI_al (k := 0) rfl e0 rfl ?_
    refine hI_gr rfl rfl rfl (by rw [u1]; exact k16) rfl ?_
    rw [u4]
    refine hM_iv (MX.start (W := []) t u5) (by decide) rfl rfl (by decide) (as := [.ref (h_r h 16 0)]) (r := []) rfl rfl (by decide +kernel) rfl (by decide +kernel) rfl rfl rfl rfl rfl ?_
    refine cp ρ' h' _ _ _ I rfl rfl f t u5 ((f.2.1 _ (by rw [fN]; decide)).trans fN) (fun h2 fs t2 φ => ?_)
    show HJ 94 46 lv [] h2 Q
    exact hM_ic (n := 1) rfl (by decide) rfl (fun x q => hM_rb rfl rfl q (by omega) (by omega) (g1 ρ' h' h2 x b0 b2 q (f.trans (fs.fq.mono (by decide +kernel))) t2 (c_PTx 1 ρ' ρ' w_ct h' h2 t fs.fq (by decide +kernel) n3) (c_PTx 2 ρ' ρ' w_ct h' h2 t fs.fq (by decide +kernel) n4) I fs φ))
  have el : t_rf ρ 97 false (h_r h (r_I h) x1.toInt.toNat) := cI.2.2.2 x1.toInt.toNat (.inr (.inr (97, false))) rfl (fun _ => by omega)
  have el16 : h_r h (r_I h) x1.toInt.toNat = 0 ∨ 16 ≤ h_r h (r_I h) x1.toInt.toNat := by
    rcases el with q | ⟨-, -, q⟩
    · exact Or.inl q.1
    · exact Or.inr ((t_spec ht (by decide) (rfl : c_sp[97]? = some _) q).2.2.1 rfl)
  refine hI_al (k := 0) rfl e0 rfl ?_
  refine hI_gr rfl rfl rfl k16 rfl ?_
  refine hI_il (k := 1) rfl e1 rfl ?_
  refine hI_aa (o := r_I h) rfl ⟨by rw [kI]; decide, by rw [kI]; decide⟩ b0 (by omega) rfl ?_
  refine hI_nn (t := 33) rfl (by decide) rfl el16 (fun hne => ?_) (fun he => ?_)
  · refine fin ρ h n1 n2 ⟨⟨FQ.refl _ _ _, ht⟩, ?_, fun _ => ⟨rfl, rfl⟩, fun z => absurd z hne, fun a _ => ⟨rfl, fun j => ⟨rfl, rfl, fun _ => rfl⟩⟩, fun z => absurd z hne⟩
    rcases el with q | ⟨-, -, q⟩
    · exact absurd q.1 hne
    · exact q
  · refine hI_al (k := 0) rfl e0 rfl ?_
    refine hI_gr rfl rfl rfl k16 rfl ?_
    refine hI_il (k := 1) rfl e1 rfl ?_
    refine hS_new (c := 6) (j := 0) (sx_start (h := h)) rfl rfl (by decide) rfl rfl (fun h1 S1 => ?_)
    have S2 : SX h h1 [((7, 6), [])] 6 := sx_eq S1 (by decide +kernel)
    refine hI_dup rfl rfl rfl ?_
    refine hS_call (j := 2) (q := 0) S2 rfl rfl (by decide +kernel) rfl (by decide) rfl (by decide +kernel) rfl (by show 3 ≤ 8; decide) (by decide +kernel) rfl ?_
    refine c_told S2 (fun h2 S => ?_)
    show HJ 94 32 lv [.ref (16 + h_n h + 0), .int x1, .ref (r_I h)] h2 Q
    have T9 : TH c_sp (nx_rho (16 + h_n h) told_R ρ) h2 := sx_TH ht S told_T
    have Q9 : FQ ρ (nx_rho (16 + h_n h) told_R ρ) w_im h h2 := sx_FQ ht S (by decide +kernel)
    have fI' : nx_rho (16 + h_n h) told_R ρ (r_I h) = 8 := (nx_old Il).trans fI
    have c0 := S.2.2 0 _ rfl
    have kI2 : (h_k h2 (r_I h)).1 = 30 ∧ 3 ≤ (h_k h2 (r_I h)).2 := by rw [(S.2.1 _ Il).1]; exact ⟨kI, lI⟩
    refine hI_aast (o := r_I h) (x := 16 + h_n h + 0) rfl I16 (by rw [kI2.1]; decide) b0 (by have := kI2.2; omega) (by omega) (by rw [c0.1, kI2.1]; rfl) rfl ?_
    have r7 : nx_rho (16 + h_n h) told_R ρ (16 + h_n h + 0) = 97 := nx_new
    have T10 := s_srT (k := x1.toInt.toNat) (x := 16 + h_n h + 0) T9 (rfl : c_sp[8]? = some _) fI' (f := (97, false)) rfl (Or.inr ⟨by omega, by decide, r7⟩)
    have Q10 : FQ (nx_rho (16 + h_n h) told_R ρ) (nx_rho (16 + h_n h) told_R ρ) w_im h2 (h_sr h2 (r_I h) x1.toInt.toNat (16 + h_n h + 0)) := (FS.ofFR (s_srF fI' (Or.inr List.mem_cons_self))).fq
    generalize hh : h_sr h2 (r_I h) x1.toInt.toNat (16 + h_n h + 0) = h3 at T10 Q10 ⊢
    have s3k : ∀ a, h_k h3 a = h_k h2 a := fun a => by rw [← hh]; rfl
    have s3n : h_n h3 = h_n h2 := by rw [← hh]; rfl
    have s3z : h_z h3 = h_z h2 := by rw [← hh]; rfl
    have s3r : ∀ a j, ¬ (a = r_I h ∧ j = x1.toInt.toNat) → h_r h3 a j = h_r h2 a j := fun a j hn => by rw [← hh, s_srR, if_neg hn]
    have s30 : h_r h3 (r_I h) x1.toInt.toNat = 16 + h_n h + 0 := by rw [← hh, s_srR, if_pos ⟨rfl, rfl⟩]
    have pk : ∀ a, a < 16 + h_n h → h_k h3 a = h_k h a := fun a ha => (s3k a).trans (S.2.1 a ha).1
    have pr : ∀ a j, a < 16 + h_n h → ¬ (a = r_I h ∧ j = x1.toInt.toNat) → h_r h3 a j = h_r h a j := fun a j ha hn => (s3r a j hn).trans ((S.2.1 a ha).2 j).2.2
    have en : h_n h2 = h_n h + told_D.length := S.1.1
    have el0 : told_D.length ≤ 20 := by decide +kernel
    have ez : h_z h2 = h_z h + told_Z := S.1.2
    have ez0 : told_Z ≤ 1400 := by decide +kernel
    have n4 : t_nd (nx_rho (16 + h_n h) told_R ρ) h3 := c_PTx 1 _ _ w_im h h3 ht (Q9.trans Q10) (by decide +kernel) n1
    have R4 : t_rm (nx_rho (16 + h_n h) told_R ρ) h3 := rm_img (k9 := x1.toInt.toNat) (d := told_D.length) (z := told_Z) ht (Q9.trans Q10) (by decide +kernel) (by omega) he (by omega) el0 (by omega) ez0 (fun k hk hne => pr _ k Il (fun z => hne z.2)) (by rw [s30]; omega) n2
    refine fin _ h3 n4 R4 ⟨⟨Q9.trans Q10, T10⟩, by rw [s30]; exact r7, fun z => absurd he z, fun _ => by rw [s30]; exact Nat.le_add_right _ _, fun a ha => ⟨pk a ha, fun j => ⟨?_, ?_, fun hn => pr a j ha hn⟩⟩, fun _ => ?_⟩
    · rw [← hh]
      exact ((S.2.1 a ha).2 j).1
    · rw [← hh]
      exact ((S.2.1 a ha).2 j).2.1
    · rw [s30]
      have hr : ∀ (j k q : Nat) (c : NC), told_D[j]? = some c → k < 1000 → (c.1.1 < 20 ∨ 30 ≤ c.1.1) → m_lk c.2 k = some q → h_r h3 (16 + h_n h + j) k = 16 + h_n h + q := fun j k q c e hk hc hq => by
        rw [s3r _ _ (fun z => by have := z.1; omega), ((S.2.2 j c e).2 k hk).2 hc]
        unfold nc_r
        rw [hq]
      have ac : ∀ r, r < 4 → q_ac h3 (16 + h_n h + 0) r = 16 + h_n h + (3 + 3 * r) ∧ h_r h3 (16 + h_n h + (3 + 3 * r)) 0 = 16 + h_n h + (4 + 3 * r) ∧ h_r h3 (16 + h_n h + (3 + 3 * r)) 1 = 16 + h_n h + (5 + 3 * r) := fun r hr4 => by
        unfold q_ac
        rw [hr 0 1 2 _ rfl (by decide) (Or.inl (by decide)) rfl]
        match r, hr4 with
        | 0, _ => exact ⟨hr 2 0 3 _ rfl (by decide) (Or.inr (by decide)) rfl, hr 3 0 4 _ rfl (by decide) (Or.inl (by decide)) rfl, hr 3 1 5 _ rfl (by decide) (Or.inl (by decide)) rfl⟩
        | 1, _ => exact ⟨hr 2 1 6 _ rfl (by decide) (Or.inr (by decide)) rfl, hr 6 0 7 _ rfl (by decide) (Or.inl (by decide)) rfl, hr 6 1 8 _ rfl (by decide) (Or.inl (by decide)) rfl⟩
        | 2, _ => exact ⟨hr 2 2 9 _ rfl (by decide) (Or.inr (by decide)) rfl, hr 9 0 10 _ rfl (by decide) (Or.inl (by decide)) rfl, hr 9 1 11 _ rfl (by decide) (Or.inl (by decide)) rfl⟩
        | 3, _ => exact ⟨hr 2 3 12 _ rfl (by decide) (Or.inr (by decide)) rfl, hr 12 0 13 _ rfl (by decide) (Or.inl (by decide)) rfl, hr 12 1 14 _ rfl (by decide) (Or.inl (by decide)) rfl⟩
      refine ⟨by rw [hr 0 0 1 _ rfl (by decide) (Or.inl (by decide)) rfl]; omega, fun r hr4 => ?_, fun r s hr4 hs4 hn => ?_⟩
      · obtain ⟨a1, a2, a3⟩ := ac r hr4
        rw [a1, a2, a3]
        omega
      · obtain ⟨a1, a2, a3⟩ := ac r hr4
        obtain ⟨b1, b2, b3⟩ := ac s hs4
        have hrs : r ≠ s := hn.resolve_left (fun z => z rfl)
        rw [a1, b1, a2, b2, a3, b3]
        omega
end
end
section
-- THE REFERENCE'S IMAGES
section
variable {lv : List (Nat × Value)} {Q : Option Value → MH → Prop} {W : List (Nat × Nat)} {ρ : Nat → Nat} {m : Nat} {A : Nat → Nat} {h0 h : MH} {F : Nat → Int} {V : Nat → Nat → Int} {G : Nat → Nat → Int64}
theorem s_mi0 {k : Int} (M : MX 49 W ρ m A h0 h F V G) (e0 : m_lk lv 0 = some (.ref m)) {lx1 : Int32} (e1 : m_lk lv 1 = some (.int lx1)) (lq1 : lx1.toInt = k) (hw : d_sub [(49, 0)] W = true)
    (g0 : ∀ h2 : MH, ∀ F2 : Nat → Int, F2 = m_u F 0 (0) → ∀ x3 : Int32, x3.toInt = 0 → ∀ x4 : Int32, x4.toInt = 2 → MX 49 W ρ m A h0 h2 F2 V G → HJ 186 0 (lv_args 0 [.int lx1, .int x3, .int x4]) [] h2 (fun v h' => HJ 288 11 lv (v.toList ++ []) h' Q))
    : HJ 288 0 lv [] h Q := by
  refine hI_al (k := 0) rfl e0 rfl ?_ -- 0
  refine hM_ic (n := 0) rfl (by decide) rfl (fun x1 q1 => ?_) -- 1
  refine hM_pi M (by decide) ok_49 rfl rfl (k := 0) (c := 9) (lo := (-2147483648)) (hi := 2147483647) rfl rfl ⟨by decide, by decide +kernel, rfl⟩ rfl (d_subm hw (by decide +kernel)) q1 (by omega) (by omega) rfl (fun h2 F2 f2 M2 => ?_) -- 2
  refine hI_il (k := 1) rfl e1 rfl ?_ -- 5
  refine hM_ic (n := 0) rfl (by decide) rfl (fun x3 q3 => ?_) -- 6
  refine hM_ic (n := 2) rfl (by decide) rfl (fun x4 q4 => ?_) -- 7
  refine hM_is0 (as := [.int lx1, .int x3, .int x4]) (r := []) rfl rfl (by decide +kernel) rfl rfl rfl rfl rfl ?_ -- 8
  exact g0 h2 F2 f2 x3 q3 x4 q4 M2
theorem s_mi11 {k z : Int} (M : MX 49 W ρ m A h0 h F V G) (e0 : m_lk lv 0 = some (.ref m)) {lx1 : Int32} (e1 : m_lk lv 1 = some (.int lx1)) (lq1 : lx1.toInt = k) {sx0 : Int32} (sq0 : sx0.toInt = z) 
    (g0 : z ≠ 0 → HJ 288 16 lv [] h Q)
    (g1 : ∀ x1 : Int32, x1.toInt = 0 → z = 0 → Q (some (.int x1)) h)
    : HJ 288 11 lv [.int sx0] h Q := by
  refine hM_zne (off := 5) (t := 16) rfl sq0 (by decide) rfl (fun c11 => ?_) (fun c11 => ?_) -- 11
  · exact g0 c11
  · refine hM_ic (n := 0) rfl (by decide) rfl (fun x1 q1 => ?_) -- 14
    refine hM_rb rfl rfl q1 (by omega) (by omega) ?_ -- 15
    exact g1 x1 q1 c11
theorem s_mi16 {k : Int} (M : MX 49 W ρ m A h0 h F V G) (e0 : m_lk lv 0 = some (.ref m)) {lx1 : Int32} (e1 : m_lk lv 1 = some (.int lx1)) (lq1 : lx1.toInt = k) (k0 : 0 ≤ k) (k1 : k ≤ 2)
    (g0 : ∀ x1 : Int32, x1.toInt = 0 → ∀ x3 : Int32, x3.toInt = k + 1 → HJ 289 0 (lv_args 0 [.ref m, .int x1, .int x3]) [] h (fun v h' => HJ 288 24 lv (v.toList ++ []) h' Q))
    : HJ 288 16 lv [] h Q := by
  refine hI_al (k := 0) rfl e0 rfl ?_ -- 16
  refine hM_ic (n := 0) rfl (by decide) rfl (fun x1 q1 => ?_) -- 17
  refine hI_il (k := 1) rfl e1 rfl ?_ -- 18
  refine hM_ic (n := 1) rfl (by decide) rfl (fun x2 q2 => ?_) -- 19
  refine hM_add rfl lq1 q2 (by omega) (by omega) rfl (fun x3 q3 => ?_) -- 20
  refine hM_iv M (by decide) rfl rfl (by decide) (as := [.int x1, .int x3]) (r := []) rfl rfl (by decide +kernel) rfl (by decide +kernel) rfl rfl rfl rfl rfl ?_ -- 21
  exact g0 x1 q1 x3 q3
theorem s_mi24 {k : Int} (M : MX 49 W ρ m A h0 h F V G) (e0 : m_lk lv 0 = some (.ref m)) {lx1 : Int32} (e1 : m_lk lv 1 = some (.int lx1)) (lq1 : lx1.toInt = k) (k0 : 0 ≤ k) (k1 : k ≤ 2)(hw : d_sub [(96, 1001)] W = true)
    (g0 : ∀ h2 : MH, ∀ V2 : Nat → Nat → Int, V2 = m_u V 67 (m_u (V 67) (k).toNat (1)) → ∀ x3 : Int32, x3.toInt = 1 → MX 49 W ρ m A h0 h2 F V2 G → Q (some (.int x3)) h2)
    : HJ 288 24 lv [] h Q := by
  refine hI_al (k := 0) rfl e0 rfl ?_ -- 24
  refine hM_ga M (by decide) rfl rfl (k := 67) (c := 9) rfl rfl rfl (by decide +kernel) rfl ?_ -- 25
  refine hI_il (k := 1) rfl e1 rfl ?_ -- 28
  refine hM_ic (n := 1) rfl (by decide) rfl (fun x1 q1 => ?_) -- 29
  refine hM_zs M (by decide) ok_49 (K := 67) (R2 := 96) (L := 3) (H := 3) rfl (by decide) rfl rfl rfl (fun _ => rfl) (d_subm hw (by decide +kernel)) rfl lq1 q1 (by omega) (by omega) (by omega) (by omega) rfl (fun h2 V2 f2 M2 => ?_) -- 30
  refine hM_ic (n := 1) rfl (by decide) rfl (fun x3 q3 => ?_) -- 31
  refine hM_rb rfl rfl q3 (by omega) (by omega) ?_ -- 32
  exact g0 h2 V2 f2 x3 q3 M2
theorem s_ma0 {k : Int} (M : MX 49 W ρ m A h0 h F V G) (e0 : m_lk lv 0 = some (.ref m)) {lx1 : Int32} (e1 : m_lk lv 1 = some (.int lx1)) (lq1 : lx1.toInt = k) (hw : d_sub [(49, 0)] W = true)
    (g0 : ∀ h2 : MH, ∀ F2 : Nat → Int, F2 = m_u F 0 (0) → ∀ x3 : Int32, x3.toInt = 0 → ∀ x4 : Int32, x4.toInt = 2 → MX 49 W ρ m A h0 h2 F2 V G → HJ 186 0 (lv_args 0 [.int lx1, .int x3, .int x4]) [] h2 (fun v h' => HJ 291 11 lv (v.toList ++ []) h' Q))
    : HJ 291 0 lv [] h Q := by
  refine hI_al (k := 0) rfl e0 rfl ?_ -- 0
  refine hM_ic (n := 0) rfl (by decide) rfl (fun x1 q1 => ?_) -- 1
  refine hM_pi M (by decide) ok_49 rfl rfl (k := 0) (c := 9) (lo := (-2147483648)) (hi := 2147483647) rfl rfl ⟨by decide, by decide +kernel, rfl⟩ rfl (d_subm hw (by decide +kernel)) q1 (by omega) (by omega) rfl (fun h2 F2 f2 M2 => ?_) -- 2
  refine hI_il (k := 1) rfl e1 rfl ?_ -- 5
  refine hM_ic (n := 0) rfl (by decide) rfl (fun x3 q3 => ?_) -- 6
  refine hM_ic (n := 2) rfl (by decide) rfl (fun x4 q4 => ?_) -- 7
  refine hM_is0 (as := [.int lx1, .int x3, .int x4]) (r := []) rfl rfl (by decide +kernel) rfl rfl rfl rfl rfl ?_ -- 8
  exact g0 h2 F2 f2 x3 q3 x4 q4 M2
theorem s_ma11 {k z : Int} (M : MX 49 W ρ m A h0 h F V G) (e0 : m_lk lv 0 = some (.ref m)) {lx1 : Int32} (e1 : m_lk lv 1 = some (.int lx1)) (lq1 : lx1.toInt = k) {sx0 : Int32} (sq0 : sx0.toInt = z) 
    (g0 : ∀ x1 : Int32, x1.toInt = 0 → z = 0 → Q (some (.int x1)) h)
    (g1 : z ≠ 0 → HJ 291 14 lv [] h Q)
    : HJ 291 11 lv [.int sx0] h Q := by
  refine hM_zeq (off := 12) (t := 23) rfl sq0 (by decide) rfl (fun c11 => ?_) (fun c11 => ?_) -- 11
  · refine hM_ic (n := 0) rfl (by decide) rfl (fun x1 q1 => ?_) -- 23
    refine hM_rb rfl rfl q1 (by omega) (by omega) ?_ -- 24
    exact g0 x1 q1 c11
  · exact g1 c11
theorem s_ma14 {k : Int} (M : MX 49 W ρ m A h0 h F V G) (e0 : m_lk lv 0 = some (.ref m)) {lx1 : Int32} (e1 : m_lk lv 1 = some (.int lx1)) (lq1 : lx1.toInt = k) (k0 : 0 ≤ k) (k1 : k ≤ 2)
    (g0 : ∀ x3 : Int32, x3.toInt = k + 1 → ∀ x4 : Int32, x4.toInt = 0 → V 67 (k).toNat ≠ 0 → HJ 289 0 (lv_args 0 [.ref m, .int x3, .int x4]) [] h (fun v h' => HJ 291 33 lv (v.toList ++ []) h' Q))
    (g1 : ∀ x5 : Int32, x5.toInt = 0 → V 67 (k).toNat = 0 → Q (some (.int x5)) h)
    : HJ 291 14 lv [] h Q := by
  refine hI_al (k := 0) rfl e0 rfl ?_ -- 14
  refine hM_ga M (by decide) rfl rfl (k := 67) (c := 9) rfl rfl rfl (by decide +kernel) rfl ?_ -- 15
  refine hI_il (k := 1) rfl e1 rfl ?_ -- 18
  refine hM_ba M (by decide) (K := 67) (R2 := 96) (L := 3) (H := 3) (lo := (-2147483648)) (hi := 2147483647) rfl (by decide) rfl rfl (Or.inr rfl) (fun _ => rfl) rfl lq1 (by omega) (by omega) rfl (fun x1 q1 a1 b1 => ?_) -- 19
  refine hM_zne (off := 5) (t := 25) rfl q1 (by decide) rfl (fun c20 => ?_) (fun c20 => ?_) -- 20
  · refine hI_al (k := 0) rfl e0 rfl ?_ -- 25
    refine hI_il (k := 1) rfl e1 rfl ?_ -- 26
    refine hM_ic (n := 1) rfl (by decide) rfl (fun x2 q2 => ?_) -- 27
    refine hM_add rfl lq1 q2 (by omega) (by omega) rfl (fun x3 q3 => ?_) -- 28
    refine hM_ic (n := 0) rfl (by decide) rfl (fun x4 q4 => ?_) -- 29
    refine hM_iv M (by decide) rfl rfl (by decide) (as := [.int x3, .int x4]) (r := []) rfl rfl (by decide +kernel) rfl (by decide +kernel) rfl rfl rfl rfl rfl ?_ -- 30
    exact g0 x3 q3 x4 q4 c20
  · refine hM_ic (n := 0) rfl (by decide) rfl (fun x5 q5 => ?_) -- 23
    refine hM_rb rfl rfl q5 (by omega) (by omega) ?_ -- 24
    exact g1 x5 q5 c20
theorem s_ma33   
    (g0 : ∀ x1 : Int32, x1.toInt = 1 → Q (some (.int x1)) h)
    : HJ 291 33 lv [] h Q := by
  refine hM_ic (n := 1) rfl (by decide) rfl (fun x1 q1 => ?_) -- 33
  refine hM_rb rfl rfl q1 (by omega) (by omega) ?_ -- 34
  exact g0 x1 q1
-- how the whole told state is copied: what is asked of it
def ca_ok (W : List (Nat × Nat)) (ρ : Nat → Nat) (m : Nat) (A : Nat → Nat) (h0 : MH) (V : Nat → Nat → Int) (G : Nat → Nat → Int64) (Ψ : Int → Int → MH → (Nat → Nat → Int) → Prop) : Prop := ∀ (h : MH) (F : Nat → Int) (x1 x2 : Int32) (Q' : Option Value → MH → Prop), MX 49 W ρ m A h0 h F V G → 0 ≤ x1.toInt → x1.toInt ≤ 3 → 0 ≤ x2.toInt → x2.toInt ≤ 3 → x1.toInt ≠ x2.toInt → (∀ (h' : MH) (F' : Nat → Int) (V' : Nat → Nat → Int) (G' : Nat → Nat → Int64), MX 49 W ρ m A h0 h' F' V' G' → V' 67 = V 67 → Ψ x1.toInt x2.toInt h' V' → Q' none h') → HJ 289 0 (lv_args 0 [.ref m, .int x1, .int x2]) [] h Q'
theorem c_mimage {Ψ : Int → Int → MH → (Nat → Nat → Int) → Prop} {k : Int} {xk : Int32} (M : MX 49 W ρ m A h0 h F V G) (e0 : m_lk lv 0 = some (.ref m)) (e1 : m_lk lv 1 = some (.int xk)) (qk : xk.toInt = k) (w0 : d_sub [(49, 0)] W = true) (w1 : d_sub [(96, 1001)] W = true) (ca : ca_ok W ρ m A h0 V G Ψ) (g0 : ∀ (x : Int32) (h' : MH) (F' : Nat → Int), x.toInt = 0 → k < 0 ∨ 2 < k → MX 49 W ρ m A h0 h' F' V G → Q (some (.int x)) h') (g1 : ∀ (x : Int32) (h1 h' : MH) (F' : Nat → Int) (V1 : Nat → Nat → Int) (G' : Nat → Nat → Int64), x.toInt = 1 → 0 ≤ k → k ≤ 2 → V1 67 = V 67 → MX 49 W ρ m A h0 h1 F' V1 G' → Ψ 0 (k + 1) h1 V1 → MX 49 W ρ m A h0 h' F' (m_u V1 67 (m_u (V1 67) k.toNat 1)) G' → Q (some (.int x)) h') : HJ 288 0 lv [] h Q :=
  s_mi0 M e0 e1 qk w0 (fun h2 F2 f2 x3 q3 x4 q4 M2 => c_in M2 qk q3 q4 (fun z hz => s_mi11 (z := z.toInt) M2 e0 e1 qk rfl (fun c => by
    have hb : 0 ≤ k ∧ k ≤ 2 := by omega
    refine s_mi16 M2 e0 e1 qk hb.1 hb.2 (fun x1 q1 x5 q5 => ca h2 F2 x1 x5 _ M2 (by omega) (by omega) (by omega) (by omega) (by omega) (fun h6 F6 V6 G6 M6 v6 ψ => ?_))
    rw [q1, q5] at ψ
    exact s_mi24 M6 e0 e1 qk hb.1 hb.2 w1 (fun h7 V7 f7 x7 q7 M7 => by
      rw [f7] at M7
      exact g1 x7 h6 h7 F6 V6 G6 q7 hb.1 hb.2 v6 M6 ψ M7)) (fun x1 q1 c => g0 x1 h2 F2 q1 (by omega) M2)))
theorem c_magain {Ψ : Int → Int → MH → (Nat → Nat → Int) → Prop} {k : Int} {xk : Int32} (M : MX 49 W ρ m A h0 h F V G) (e0 : m_lk lv 0 = some (.ref m)) (e1 : m_lk lv 1 = some (.int xk)) (qk : xk.toInt = k) (w0 : d_sub [(49, 0)] W = true) (ca : ca_ok W ρ m A h0 V G Ψ) (g0 : ∀ (x : Int32) (h' : MH) (F' : Nat → Int), x.toInt = 0 → (k < 0 ∨ 2 < k) ∨ (0 ≤ k ∧ k ≤ 2 ∧ V 67 k.toNat = 0) → MX 49 W ρ m A h0 h' F' V G → Q (some (.int x)) h') (g1 : ∀ (x : Int32) (h' : MH) (F' : Nat → Int) (V' : Nat → Nat → Int) (G' : Nat → Nat → Int64), x.toInt = 1 → 0 ≤ k → k ≤ 2 → V 67 k.toNat ≠ 0 → V' 67 = V 67 → Ψ (k + 1) 0 h' V' → MX 49 W ρ m A h0 h' F' V' G' → Q (some (.int x)) h') : HJ 291 0 lv [] h Q :=
  s_ma0 M e0 e1 qk w0 (fun h2 F2 f2 x3 q3 x4 q4 M2 => c_in M2 qk q3 q4 (fun z hz => s_ma11 (z := z.toInt) M2 e0 e1 qk rfl (fun x1 q1 c => g0 x1 h2 F2 q1 (Or.inl (by omega)) M2) (fun c => by
    have hb : 0 ≤ k ∧ k ≤ 2 := by omega
    refine s_ma14 M2 e0 e1 qk hb.1 hb.2 (fun x3 q3 x4 q4 c20 => ca h2 F2 x3 x4 _ M2 (by omega) (by omega) (by omega) (by omega) (by omega) (fun h6 F6 V6 G6 M6 v6 ψ => ?_)) (fun x5 q5 c20 => g0 x5 h2 F2 q5 (Or.inr ⟨hb.1, hb.2, c20⟩) M2)
    rw [q3, q4] at ψ
    exact s_ma33 (fun x7 q7 => g1 x7 h6 F6 V6 G6 q7 hb.1 hb.2 c20 v6 ψ M6))))
theorem hv_7 (M : MX 49 W ρ m A h0 h F V G) (um : t_um ρ) (rw_ : p_rw (V 6)) : c_PT 7 ρ h := ⟨um, fun m' hm' => by
  rw [um m' m hm' M.1.2.1]
  show p_rw (fun j => (h_i h (h_r h m 6) j).toInt)
  rw [M.v (by decide +kernel)]
  exact rw_⟩
theorem hv_7i (M : MX 49 W ρ m A h0 h F V G) (t : c_PT 7 ρ h) : p_rw (V 6) := by
  have := t.2 m M.1.2.1
  rw [← M.v (K := 6) (by decide +kernel)]
  exact this
-- the images kept, told by the reference's row
theorem hv_10 (M : MX 49 W ρ m A h0 h F V G) (um : t_um ρ) (h16 : ρ 16 = 6) (k : ∀ k, k < 3 → (r_im h k = 0 ↔ V 67 k = 0)) : c_PT 10 ρ h := ⟨h16, um, fun m' hm' j hj => by
  rw [um m' m hm' M.1.2.1, k j hj, ← M.v (K := 67) (by decide +kernel)]
  rfl⟩
theorem hv_10i (M : MX 49 W ρ m A h0 h F V G) (t : c_PT 10 ρ h) : ∀ k, k < 3 → (r_im h k = 0 ↔ V 67 k = 0) := fun k hk => by
  rw [t.2.2 m M.1.2.1 k hk, ← M.v (K := 67) (by decide +kernel)]
  rfl
end
-- THE LAW'S ARGUMENTS: script[i + n]
theorem hL_arg {pc s : Nat} {n : Int} {x : Int32} {lv : List (Nat × Value)} {st : List Value} {h : MH} {Q : Option Value → MH → Prop} {ρ : Nat → Nat} (a1 : m_at 0 pc = some (.aload_n 0, 1)) (a2 : m_at 0 (pc + 1) = some (.iload_n 3, 1)) (a3 : m_at 0 (pc + 2) = some (.iconst n, 1)) (a4 : m_at 0 (pc + 3) = some (.iadd, 1)) (a5 : m_at 0 (pc + 4) = some (.iaload, 1)) (hn : (Int32.ofInt n).toInt = n) (n1 : 1 ≤ n) (n6 : n ≤ 6) (e0 : m_lk lv 0 = some (.ref s)) (e3 : m_lk lv 3 = some (.int x)) (ht : TH c_sp ρ h) (hs : ρ s = 5) (x0 : 0 ≤ x.toInt) (x1 : x.toInt + 7 ≤ ((h_k h s).2 : Int)) (g : HJ 0 (pc + 5) lv (.int (h_i h s (x.toInt + n).toNat) :: st) h Q) : HJ 0 pc lv st h Q := by
  have c := t_spec ht (by decide) (rfl : c_sp[5]? = some _) hs
  have l9 : ((h_k h s).2 : Int) ≤ 448 := by
    have z : (h_k h s).2 ≤ 448 := c.2.1.2
    omega
  refine hI_al (k := 0) a1 e0 rfl ?_
  refine hI_il (k := 3) a2 e3 rfl ?_
  refine hM_ic a3 hn rfl (fun y q => ?_)
  refine hM_add a4 rfl q (by omega) (by omega) rfl (fun w qw => ?_)
  refine hI_ia a5 c.1 (by omega) (by omega) rfl ?_
  rw [qw]
  exact g
-- the state in which a case of the law begins, and the one behind it
def c_lS : AST := (([(3, (0, 512)), (4, (7, 448))], [([(3, 1), (4, (-1))], 7)]), ([((0, (5, 1000)), .inl ([(4, 1)], 0))], ((k_pins 3, List.range 3), (5, ([(0, .inr (.inr (0, (5, true)))), (1, .inr (.inr (1, (6, true)))), (2, .inr (.inr (2, (49, true)))), (3, .inl ([(3, 1)], 0))], [])))))
theorem lc_in {ρ : Nat → Nat} {K : List Int} {KA : List Nat} {lv : List (Nat × Value)} {h : MH} {σ : Nat → Int} {α : Nat → Nat} (hw : TW ρ K KA c_lS lv [] h σ α) : (m_lk lv 0 = some (.ref (α 0)) ∧ ρ (α 0) = 5) ∧ (m_lk lv 1 = some (.ref (α 1)) ∧ ρ (α 1) = 6) ∧ (m_lk lv 2 = some (.ref (α 2)) ∧ ρ (α 2) = 49) ∧ ∃ x : Int32, m_lk lv 3 = some (.int x) ∧ x.toInt = σ 3 ∧ 0 ≤ x.toInt ∧ x.toInt ≤ 512 ∧ x.toInt + 7 ≤ ((h_k h (α 0)).2 : Int) := by
  obtain ⟨w1, w2, w3, w4, w5, w6, -⟩ := hw
  obtain ⟨x, ex, qx⟩ := hv_int w6 (k := 3) (n := 3) (List.mem_of_getElem? (i := 3) rfl)
  have b1 := w1 (3, (0, 512)) (List.mem_of_getElem? (i := 0) rfl)
  have b2 := w2 ([(3, 1), (4, (-1))], 7) (List.mem_of_getElem? (i := 0) rfl)
  have b3 : ((h_k h (α 0)).2 : Int) = le_ev σ ([(4, 1)], 0) := (w3 ((0, (5, 1000)), .inl ([(4, 1)], 0)) (List.mem_of_getElem? (i := 0) rfl)).2
  have b2 : 1 * σ 3 + (-1 * σ 4 + 0) + 7 ≤ 0 := b2
  have b3 : ((h_k h (α 0)).2 : Int) = 1 * σ 4 + 0 + 0 := b3
  dsimp only at b1
  exact ⟨hv_ref w6 (List.mem_of_getElem? (i := 0) rfl), hv_ref w6 (List.mem_of_getElem? (i := 1) rfl), hv_ref w6 (List.mem_of_getElem? (i := 2) rfl), x, ex, qx, by omega, by omega, by omega⟩
theorem lc_out {ρ ρ' : Nat → Nat} {W : List (Nat × Nat)} {K : List Int} {KA : List Nat} {lv : List (Nat × Value)} {h h' : MH} {σ : Nat → Int} {α : Nat → Nat} (hw : TW ρ K KA c_lS lv [] h σ α) (ht : TH c_sp ρ h) (f : FQ ρ ρ' W h h') : TW ρ' K KA c_lS lv [] h' σ α := by
  obtain ⟨w1, w2, w3, w4, w5, w6, w7⟩ := hw
  refine ⟨w1, w2, fun q hq => ?_, w4, w5, x_lv f w6, trivial⟩
  obtain ⟨⟨k1, k2⟩, k3⟩ := w3 q hq
  have hq0 : q = ((0, (5, 1000)), .inl ([(4, 1)], 0)) := List.mem_singleton.mp hq
  subst hq0
  have hl := (ht.2 _ (by rw [k2]; decide : ρ (α 0) ≠ 0)).1
  refine ⟨⟨k1, (f.2.1 _ (by rw [k2]; decide)).trans k2⟩, ?_⟩
  show ((h_k h' (α 0)).2 : Int) = _
  rw [(f.2.2.2 _ hl).1]
  exact k3
end
section
-- ONE IMAGE ALONE: the others out of the way, and back
def rs_r (ρ : Nat → Nat) (a : Nat) : Nat → Nat := fun c => if ρ c = 97 ∧ c ≠ a then 0 else if ρ c = 6 ∨ ρ c = 8 then 0 else ρ c
def rs_ft (t : FT) : Bool := match t with
  | .inr (.inr q) => !(Nat.beq q.1 6 || (Nat.beq q.1 8 || Nat.beq q.1 97))
  | _ => true
theorem rs_all : (List.range c_sp.length).all (fun R => (Nat.beq R 6 || Nat.beq R 8) || (match c_sp[R]? with
  | some rs => rs.2.2.2.all rs_ft
  | none => true)) = true := by decide +kernel
section
variable {ρ : Nat → Nat} {h h' : MH} {a : Nat} {W : List (Nat × Nat)}
theorem rs_le {c : Nat} (e : rs_r ρ a c ≠ 0) : rs_r ρ a c = ρ c ∧ ρ c ≠ 6 ∧ ρ c ≠ 8 := by
  unfold rs_r at e ⊢
  by_cases h1 : ρ c = 97 ∧ c ≠ a
  · rw [if_pos h1] at e
    exact absurd rfl e
  · rw [if_neg h1] at e ⊢
    by_cases h2 : ρ c = 6 ∨ ρ c = 8
    · rw [if_pos h2] at e
      exact absurd rfl e
    · rw [if_neg h2]
      exact ⟨rfl, fun z => h2 (Or.inl z), fun z => h2 (Or.inr z)⟩
theorem rs_o1 {c : Nat} (h1 : ρ c ≠ 97 ∨ c = a) (h2 : ρ c ≠ 6) (h3 : ρ c ≠ 8) : rs_r ρ a c = ρ c := by
  unfold rs_r
  rw [if_neg (fun z => h1.elim (fun q => q z.1) (fun q => z.2 q)), if_neg (fun z => z.elim h2 h3)]
theorem rs_TH (ht : TH c_sp ρ h) : TH c_sp (rs_r ρ a) h := by
  refine ⟨?_, fun c hc => ?_⟩
  · by_cases e : rs_r ρ a 0 = 0
    · exact e
    · rw [(rs_le e).1]
      exact ht.1
  · obtain ⟨e, n1, n2⟩ := rs_le hc
    rw [e]
    have hc0 : ρ c ≠ 0 := by rw [← e]; exact hc
    obtain ⟨l, rs, hs, t1, t2, t3, t4⟩ := ht.2 c hc0
    refine ⟨l, rs, hs, t1, t2, t3, fun k ft hk hl => ?_⟩
    have t := t4 k ft hk hl
    cases ft with
    | inl p => exact t
    | inr q => cases q with
      | inl u => trivial
      | inr q =>
        have hb := List.all_eq_true.mp rs_all (ρ c) (List.mem_range.mpr (List.getElem?_eq_some_iff.mp hs).1)
        rw [Bool.or_eq_true, hs] at hb
        have hf : rs_ft (.inr (.inr q)) = true := by
          rcases hb with hb | hb
          · rw [Bool.or_eq_true] at hb
            rcases hb with hb | hb
            · exact absurd (Nat.eq_of_beq_eq_true hb) n1
            · exact absurd (Nat.eq_of_beq_eq_true hb) n2
          · refine List.all_eq_true.mp hb _ ?_
            unfold r_ft at hk
            split at hk
            · exact List.mem_of_getElem? hk
            · exact List.mem_of_getElem? hk
        have hf : (!(Nat.beq q.1 6 || (Nat.beq q.1 8 || Nat.beq q.1 97))) = true := hf
        have g : ∀ R, q.1 = R → Nat.beq q.1 R = true := fun R e => by rw [e]; exact Nat.beq_refl R
        have m1 : q.1 ≠ 6 := fun z => by rw [g _ z] at hf; cases hf
        have m2 : q.1 ≠ 8 := fun z => by rw [g _ z, Bool.true_or, Bool.or_true] at hf; cases hf
        have m3 : q.1 ≠ 97 := fun z => by rw [g _ z, Bool.or_true, Bool.or_true] at hf; cases hf
        rcases (t : t_rf ρ q.1 q.2 (h_r h c k)) with f | ⟨f1, f2, f3⟩
        · exact Or.inl f
        · refine Or.inr ⟨f1, f2, ?_⟩
          rw [rs_o1 (Or.inl (by rw [f3]; exact m3)) (by rw [f3]; exact m1) (by rw [f3]; exact m2)]
          exact f3
theorem rs_CC (hC : CCok c_CC ρ) : CCok c_CC (rs_r ρ a) := by
  have g : ∀ {R c : Nat}, R ≠ 97 → R ≠ 6 → R ≠ 8 → t_rf ρ R true c → t_rf (rs_r ρ a) R true c := fun {R c} n1 n2 n3 q => by
    rcases q with q | ⟨q1, q2, q3⟩
    · exact absurd q.2 (by decide)
    · exact Or.inr ⟨q1, q2, by rw [rs_o1 (Or.inl (by rw [q3]; exact n1)) (by rw [q3]; exact n2) (by rw [q3]; exact n3)]; exact q3⟩
  exact ⟨g (by decide) (by decide) (by decide) hC.1, fun c h1 h2 => g (by decide) (by decide) (by decide) (hC.2.1 c h1 h2), g (by decide) (by decide) (by decide) hC.2.2⟩
-- and back
theorem rs_back (ht : TH c_sp ρ h) (h0 : W.all (fun q => !(Nat.beq q.1 0)) = true) (f : FS (rs_r ρ a) W h h') (t : TH c_sp (rs_r ρ a) h') : FS ρ W h h' ∧ TH c_sp ρ h' ∧ ∀ c, c < 16 + h_n h → rs_r ρ a c = 0 → ∀ k, h_i h' c k = h_i h c k ∧ h_l h' c k = h_l h c k ∧ h_r h' c k = h_r h c k := by
  have out : ∀ c, c < 16 + h_n h → rs_r ρ a c = 0 → ∀ k, h_i h' c k = h_i h c k ∧ h_l h' c k = h_l h c k ∧ h_r h' c k = h_r h c k := fun c hc e k => (f.2 c hc).2 k (by
    rw [e]
    intro z
    rcases z with z | z
    all_goals
      have z1 := List.all_eq_true.mp h0 _ z
      cases z1)
  refine ⟨⟨f.1, fun c hc => ⟨(f.2 c hc).1, fun k hk => ?_⟩⟩, ⟨ht.1, fun c hc => ?_⟩, out⟩
  · by_cases e : rs_r ρ a c = 0
    · exact out c hc e k
    · exact (f.2 c hc).2 k (by rw [(rs_le e).1]; exact hk)
  · have hn : h_n h' = h_n h := congrArg Prod.fst f.1
    by_cases e : rs_r ρ a c = 0
    · obtain ⟨l, rs, hs, t1, t2, t3, t4⟩ := ht.2 c hc
      refine ⟨by rw [hn]; exact l, rs, hs, by rw [(f.2 c l).1]; exact t1, by rw [(f.2 c l).1]; exact t2, t3, fun k ft hk hl => ?_⟩
      rw [(f.2 c l).1] at hl
      have q := t4 k ft hk hl
      have o := out c l e k
      cases ft with
      | inl p =>
        show p.1 ≤ (h_i h' c k).toInt ∧ (h_i h' c k).toInt ≤ p.2
        rw [o.1]
        exact q
      | inr y => cases y with
        | inl u => trivial
        | inr y =>
          show t_rf ρ y.1 y.2 (h_r h' c k)
          rw [o.2.2]
          exact q
    · obtain ⟨l, rs, hs, t1, t2, t3, t4⟩ := t.2 c e
      rw [(rs_le e).1] at hs
      refine ⟨l, rs, hs, t1, t2, t3, fun k ft hk hl => ?_⟩
      have q := t4 k ft hk hl
      cases ft with
      | inl p => exact q
      | inr y => cases y with
        | inl u => trivial
        | inr y =>
          rcases (q : t_rf (rs_r ρ a) y.1 y.2 (h_r h' c k)) with g | ⟨g1, g2, g3⟩
          · exact Or.inl g
          · have e9 : rs_r ρ a (h_r h' c k) ≠ 0 := by
              rw [g3]
              exact g2
            exact Or.inr ⟨g1, g2, (rs_le e9).1.symm.trans g3⟩
end
end
section
-- THE REFERENCE'S COPIES
def cp_r (n f t : Nat) (a b : Nat → Int) : Prop := (∀ j, j < n → b (n * t + j) = a (n * f + j)) ∧ ∀ j, j < n * t ∨ n * t + n ≤ j → b j = a j
-- a copy on its way: k of n
def cp_w (n f t k : Nat) (a b : Nat → Int) : Prop := (∀ j, j < k → b (n * t + j) = a (n * f + j)) ∧ ∀ j, j < n * t ∨ n * t + k ≤ j → b j = a j
theorem cp_0 {n f t : Nat} {a : Nat → Int} : cp_w n f t 0 a a := ⟨fun j h => by omega, fun _ _ => rfl⟩
theorem cp_n {n f t k : Nat} {a b : Nat → Int} (e : n ≤ k) (e2 : k ≤ n) (c : cp_w n f t k a b) : cp_r n f t a b := by
  have : k = n := by omega
  subst this
  exact c
theorem cp_s {n f t k q p : Nat} {a b : Nat → Int} (c : cp_w n f t k a b) (hk : k < n) (hne : f ≠ t) (hq : q = n * t + k) (hp : p = n * f + k) : cp_w n f t (k + 1) a (m_u b q (b p)) := by
  have hb : b p = a p := c.2 p (by
    subst hp
    rcases Nat.lt_or_gt_of_ne hne with e | e
    · have : n * (f + 1) ≤ n * t := Nat.mul_le_mul_left n e
      rw [Nat.mul_add] at this
      omega
    · have : n * (t + 1) ≤ n * f := Nat.mul_le_mul_left n e
      rw [Nat.mul_add] at this
      omega)
  subst hq hp
  refine ⟨fun j hj => ?_, fun j hj => ?_⟩
  · by_cases e : j = k
    · subst e
      rw [m_uE, hb]
    · rw [m_uN _ _ _ _ (by omega)]
      exact c.1 j (by omega)
  · rw [m_uN _ _ _ _ (by omega)]
    exact c.2 j (by omega)
section
variable {lv : List (Nat × Value)} {Q : Option Value → MH → Prop} {W : List (Nat × Nat)} {ρ : Nat → Nat} {m : Nat} {A : Nat → Nat} {h0 h : MH} {F : Nat → Int} {V : Nat → Nat → Int} {G : Nat → Nat → Int64}
theorem s_cr2_0 {f t : Int} (M : MX 49 W ρ m A h0 h F V G) (e0 : m_lk lv 0 = some (.ref (A 2))) {lx1 : Int32} (e1 : m_lk lv 1 = some (.int lx1)) (lq1 : lx1.toInt = 1) {lx2 : Int32} (e2 : m_lk lv 2 = some (.int lx2)) (lq2 : lx2.toInt = f) {lx3 : Int32} (e3 : m_lk lv 3 = some (.int lx3)) (lq3 : lx3.toInt = t) 
    (g0 : ∀ x1 : Int32, x1.toInt = 0 → ∀ lv2 : List (Nat × Value), m_lk lv2 0 = some (.ref (A 2)) → m_lk lv2 1 = some (.int lx1) → m_lk lv2 2 = some (.int lx2) → m_lk lv2 3 = some (.int lx3) → m_lk lv2 4 = some (.int x1) → HJ 290 3 lv2 [] h Q)
    : HJ 290 0 lv [] h Q := by
  refine hM_ic (n := 0) rfl (by decide) rfl (fun x1 q1 => ?_) -- 0
  refine hM_si2 (k := 4) rfl (by decide +kernel) rfl (fun lv2 e2_4 u2 => ?_) -- 1
  have e2_0 := u2 0 _ (by decide) (Or.inl rfl) e0
  have e2_1 := u2 1 _ (by decide) (Or.inl rfl) e1
  have e2_2 := u2 2 _ (by decide) (Or.inl rfl) e2
  have e2_3 := u2 3 _ (by decide) (Or.inl rfl) e3
  exact g0 x1 q1 lv2 e2_0 e2_1 e2_2 e2_3 e2_4
theorem s_cr2 {f t k : Int} (M : MX 49 W ρ m A h0 h F V G) (e0 : m_lk lv 0 = some (.ref (A 2))) {lx1 : Int32} (e1 : m_lk lv 1 = some (.int lx1)) (lq1 : lx1.toInt = 1) {lx2 : Int32} (e2 : m_lk lv 2 = some (.int lx2)) (lq2 : lx2.toInt = f) {lx3 : Int32} (e3 : m_lk lv 3 = some (.int lx3)) (lq3 : lx3.toInt = t) {lx4 : Int32} (e4 : m_lk lv 4 = some (.int lx4)) (lq4 : lx4.toInt = k) (f0 : 0 ≤ f) (f1 : f ≤ 3) (t0 : 0 ≤ t) (t1 : t ≤ 3) (k0 : 0 ≤ k)(hw : d_sub [(51, 1001)] W = true)
    (g0 : k ≥ 1 → Q none h)
    (g1 : ∀ h6 : MH, ∀ V6 : Nat → Nat → Int, V6 = m_u V 2 (m_u (V 2) ((1 * t) + k).toNat (V 2 ((1 * f) + k).toNat)) → ∀ x7 : Int32, x7.toInt = k + 1 → ∀ lv7 : List (Nat × Value), MX 49 W ρ m A h0 h6 F V6 G → m_lk lv7 0 = some (.ref (A 2)) → m_lk lv7 1 = some (.int lx1) → m_lk lv7 2 = some (.int lx2) → m_lk lv7 3 = some (.int lx3) → m_lk lv7 4 = some (.int x7) → k < 1 → 0 ≤ V 2 ((1 * f) + k).toNat → V 2 ((1 * f) + k).toNat ≤ 600 → HJ 290 3 lv7 [] h6 Q)
    : HJ 290 3 lv [] h Q := by
  refine hI_il2 (k := 4) rfl e4 rfl ?_ -- 3
  refine hI_il (k := 1) rfl e1 rfl ?_ -- 5
  refine hM_cge (off := 25) (t := 31) rfl lq4 lq1 (by decide) rfl (fun c6 => ?_) (fun c6 => ?_) -- 6
  · refine hI_rv rfl rfl ?_
    exact g0 c6
  · refine hI_al (k := 0) rfl e0 rfl ?_ -- 9
    refine hI_il (k := 1) rfl e1 rfl ?_ -- 10
    refine hI_il (k := 3) rfl e3 rfl ?_ -- 11
    refine hM_mul rfl lq1 lq3 (by omega) (by omega) rfl (fun x1 q1 => ?_) -- 12
    refine hI_il2 (k := 4) rfl e4 rfl ?_ -- 13
    refine hM_add rfl q1 lq4 (by omega) (by omega) rfl (fun x2 q2 => ?_) -- 15
    refine hI_al (k := 0) rfl e0 rfl ?_ -- 16
    refine hI_il (k := 1) rfl e1 rfl ?_ -- 17
    refine hI_il (k := 2) rfl e2 rfl ?_ -- 18
    refine hM_mul rfl lq1 lq2 (by omega) (by omega) rfl (fun x3 q3 => ?_) -- 19
    refine hI_il2 (k := 4) rfl e4 rfl ?_ -- 20
    refine hM_add rfl q3 lq4 (by omega) (by omega) rfl (fun x4 q4 => ?_) -- 22
    refine hM_ia M (by decide) (K := 2) (R2 := 51) (L := 4) (H := 4) (lo := 0) (hi := 600) rfl (by decide) rfl rfl (fun _ => rfl) rfl q4 (by omega) (by omega) rfl (fun x5 q5 a5 b5 => ?_) -- 23
    refine hM_is M (by decide) ok_49 (K := 2) (R2 := 51) (L := 4) (H := 4) (lo := 0) (hi := 600) rfl (by decide) rfl rfl rfl (fun _ => rfl) (d_subm hw (by decide +kernel)) rfl q2 q5 (by omega) (by omega) (by omega) (by omega) rfl (fun h6 V6 f6 M6 => ?_) -- 24
    refine hM_inc (k := 4) (z := 1) rfl e4 lq4 (by decide) (by omega) (by omega) (by decide +kernel) rfl (fun lv7 x7 q7 e7_4 u7 => ?_) -- 25
    have e7_0 := u7 0 _ (by decide) (Or.inl rfl) e0
    have e7_1 := u7 1 _ (by decide) (Or.inl rfl) e1
    have e7_2 := u7 2 _ (by decide) (Or.inl rfl) e2
    have e7_3 := u7 3 _ (by decide) (Or.inl rfl) e3
    refine hI_go (pc' := 3) (off := (-25)) rfl (by decide) ?_ -- 28
    exact g1 h6 V6 f6 x7 q7 lv7 M6 e7_0 e7_1 e7_2 e7_3 e7_4 c6 a5 b5
theorem l_cr2 {f t : Nat} {xn xf xt : Int32} {Vs : Nat → Nat → Int} (hw : d_sub [(51, 1001)] W = true) (qn : xn.toInt = 1) (qf : xf.toInt = (f : Int)) (qt : xt.toInt = (t : Int)) (f3 : f ≤ 3) (t3 : t ≤ 3) (ne : f ≠ t) (g : ∀ (h' : MH) (V' : Nat → Nat → Int), MX 49 W ρ m A h0 h' F V' G → cp_r 1 f t (Vs 2) (V' 2) → (∀ K, K ≠ 2 → V' K = Vs K) → Q none h') : ∀ (d k : Nat) (lv : List (Nat × Value)) (h : MH) (V : Nat → Nat → Int) (xk : Int32), k + d = 1 → MX 49 W ρ m A h0 h F V G → cp_w 1 f t k (Vs 2) (V 2) → (∀ K, K ≠ 2 → V K = Vs K) → xk.toInt = (k : Int) → m_lk lv 0 = some (.ref (A 2)) → m_lk lv 1 = some (.int xn) → m_lk lv 2 = some (.int xf) → m_lk lv 3 = some (.int xt) → m_lk lv 4 = some (.int xk) → HJ 290 3 lv [] h Q := by
  intro d
  induction d with
  | zero =>
    intro k lv h V xk hd M c o qk e0 e1 e2 e3 e4
    exact s_cr2 M e0 e1 qn e2 qf e3 qt e4 qk (by omega) (by omega) (by omega) (by omega) (by omega) hw (fun _ => g h V M (cp_n (by omega) (by omega) c) o) (fun h6 V6 f6 x7 q7 lv7 M6 d0 d1 d2 d3 d4 c3 a0 a1 => by omega)
  | succ d ih =>
    intro k lv h V xk hd M c o qk e0 e1 e2 e3 e4
    exact s_cr2 M e0 e1 qn e2 qf e3 qt e4 qk (by omega) (by omega) (by omega) (by omega) (by omega) hw (fun c3 => by omega) (fun h6 V6 f6 x7 q7 lv7 M6 d0 d1 d2 d3 d4 c3 a0 a1 => ih (k + 1) lv7 h6 V6 x7 (by omega) M6 (by rw [f6, m_uE]; exact cp_s c (by omega) ne (by omega) (by omega)) (fun K hK => by rw [f6, m_uN _ _ _ _ hK]; exact o K hK) (by omega) d0 d1 d2 d3 d4)
theorem c_cr2 {f t : Nat} {xn xf xt : Int32} (M : MX 49 W ρ m A h0 h F V G) (hw : d_sub [(51, 1001)] W = true) (qn : xn.toInt = 1) (qf : xf.toInt = (f : Int)) (qt : xt.toInt = (t : Int)) (f3 : f ≤ 3) (t3 : t ≤ 3) (ne : f ≠ t) (g : ∀ (h' : MH) (V' : Nat → Nat → Int), MX 49 W ρ m A h0 h' F V' G → cp_r 1 f t (V 2) (V' 2) → (∀ K, K ≠ 2 → V' K = V K) → Q none h') : HJ 290 0 (lv_args 0 [.ref (A 2), .int xn, .int xf, .int xt]) [] h Q :=
  s_cr2_0 M rfl rfl qn rfl qf rfl qt (fun x1 q1 lv2 e0 e1 e2 e3 e4 => l_cr2 hw qn qf qt f3 t3 ne g 1 0 lv2 h V x1 (by omega) M cp_0 (fun _ _ => rfl) q1 e0 e1 e2 e3 e4)
theorem s_cr3_0 {f t : Int} (M : MX 49 W ρ m A h0 h F V G) (e0 : m_lk lv 0 = some (.ref (A 3))) {lx1 : Int32} (e1 : m_lk lv 1 = some (.int lx1)) (lq1 : lx1.toInt = 1) {lx2 : Int32} (e2 : m_lk lv 2 = some (.int lx2)) (lq2 : lx2.toInt = f) {lx3 : Int32} (e3 : m_lk lv 3 = some (.int lx3)) (lq3 : lx3.toInt = t) 
    (g0 : ∀ x1 : Int32, x1.toInt = 0 → ∀ lv2 : List (Nat × Value), m_lk lv2 0 = some (.ref (A 3)) → m_lk lv2 1 = some (.int lx1) → m_lk lv2 2 = some (.int lx2) → m_lk lv2 3 = some (.int lx3) → m_lk lv2 4 = some (.int x1) → HJ 290 3 lv2 [] h Q)
    : HJ 290 0 lv [] h Q := by
  refine hM_ic (n := 0) rfl (by decide) rfl (fun x1 q1 => ?_) -- 0
  refine hM_si2 (k := 4) rfl (by decide +kernel) rfl (fun lv2 e2_4 u2 => ?_) -- 1
  have e2_0 := u2 0 _ (by decide) (Or.inl rfl) e0
  have e2_1 := u2 1 _ (by decide) (Or.inl rfl) e1
  have e2_2 := u2 2 _ (by decide) (Or.inl rfl) e2
  have e2_3 := u2 3 _ (by decide) (Or.inl rfl) e3
  exact g0 x1 q1 lv2 e2_0 e2_1 e2_2 e2_3 e2_4
theorem s_cr3 {f t k : Int} (M : MX 49 W ρ m A h0 h F V G) (e0 : m_lk lv 0 = some (.ref (A 3))) {lx1 : Int32} (e1 : m_lk lv 1 = some (.int lx1)) (lq1 : lx1.toInt = 1) {lx2 : Int32} (e2 : m_lk lv 2 = some (.int lx2)) (lq2 : lx2.toInt = f) {lx3 : Int32} (e3 : m_lk lv 3 = some (.int lx3)) (lq3 : lx3.toInt = t) {lx4 : Int32} (e4 : m_lk lv 4 = some (.int lx4)) (lq4 : lx4.toInt = k) (f0 : 0 ≤ f) (f1 : f ≤ 3) (t0 : 0 ≤ t) (t1 : t ≤ 3) (k0 : 0 ≤ k)(hw : d_sub [(52, 1001)] W = true)
    (g0 : k ≥ 1 → Q none h)
    (g1 : ∀ h6 : MH, ∀ V6 : Nat → Nat → Int, V6 = m_u V 3 (m_u (V 3) ((1 * t) + k).toNat (V 3 ((1 * f) + k).toNat)) → ∀ x7 : Int32, x7.toInt = k + 1 → ∀ lv7 : List (Nat × Value), MX 49 W ρ m A h0 h6 F V6 G → m_lk lv7 0 = some (.ref (A 3)) → m_lk lv7 1 = some (.int lx1) → m_lk lv7 2 = some (.int lx2) → m_lk lv7 3 = some (.int lx3) → m_lk lv7 4 = some (.int x7) → k < 1 → HJ 290 3 lv7 [] h6 Q)
    : HJ 290 3 lv [] h Q := by
  refine hI_il2 (k := 4) rfl e4 rfl ?_ -- 3
  refine hI_il (k := 1) rfl e1 rfl ?_ -- 5
  refine hM_cge (off := 25) (t := 31) rfl lq4 lq1 (by decide) rfl (fun c6 => ?_) (fun c6 => ?_) -- 6
  · refine hI_rv rfl rfl ?_
    exact g0 c6
  · refine hI_al (k := 0) rfl e0 rfl ?_ -- 9
    refine hI_il (k := 1) rfl e1 rfl ?_ -- 10
    refine hI_il (k := 3) rfl e3 rfl ?_ -- 11
    refine hM_mul rfl lq1 lq3 (by omega) (by omega) rfl (fun x1 q1 => ?_) -- 12
    refine hI_il2 (k := 4) rfl e4 rfl ?_ -- 13
    refine hM_add rfl q1 lq4 (by omega) (by omega) rfl (fun x2 q2 => ?_) -- 15
    refine hI_al (k := 0) rfl e0 rfl ?_ -- 16
    refine hI_il (k := 1) rfl e1 rfl ?_ -- 17
    refine hI_il (k := 2) rfl e2 rfl ?_ -- 18
    refine hM_mul rfl lq1 lq2 (by omega) (by omega) rfl (fun x3 q3 => ?_) -- 19
    refine hI_il2 (k := 4) rfl e4 rfl ?_ -- 20
    refine hM_add rfl q3 lq4 (by omega) (by omega) rfl (fun x4 q4 => ?_) -- 22
    refine hM_ia M (by decide) (K := 3) (R2 := 52) (L := 4) (H := 4) (lo := (-2147483648)) (hi := 2147483647) rfl (by decide) rfl rfl (fun _ => rfl) rfl q4 (by omega) (by omega) rfl (fun x5 q5 a5 b5 => ?_) -- 23
    refine hM_is M (by decide) ok_49 (K := 3) (R2 := 52) (L := 4) (H := 4) (lo := (-2147483648)) (hi := 2147483647) rfl (by decide) rfl rfl rfl (fun _ => rfl) (d_subm hw (by decide +kernel)) rfl q2 q5 (by omega) (by omega) (by omega) (by omega) rfl (fun h6 V6 f6 M6 => ?_) -- 24
    refine hM_inc (k := 4) (z := 1) rfl e4 lq4 (by decide) (by omega) (by omega) (by decide +kernel) rfl (fun lv7 x7 q7 e7_4 u7 => ?_) -- 25
    have e7_0 := u7 0 _ (by decide) (Or.inl rfl) e0
    have e7_1 := u7 1 _ (by decide) (Or.inl rfl) e1
    have e7_2 := u7 2 _ (by decide) (Or.inl rfl) e2
    have e7_3 := u7 3 _ (by decide) (Or.inl rfl) e3
    refine hI_go (pc' := 3) (off := (-25)) rfl (by decide) ?_ -- 28
    exact g1 h6 V6 f6 x7 q7 lv7 M6 e7_0 e7_1 e7_2 e7_3 e7_4 c6
theorem l_cr3 {f t : Nat} {xn xf xt : Int32} {Vs : Nat → Nat → Int} (hw : d_sub [(52, 1001)] W = true) (qn : xn.toInt = 1) (qf : xf.toInt = (f : Int)) (qt : xt.toInt = (t : Int)) (f3 : f ≤ 3) (t3 : t ≤ 3) (ne : f ≠ t) (g : ∀ (h' : MH) (V' : Nat → Nat → Int), MX 49 W ρ m A h0 h' F V' G → cp_r 1 f t (Vs 3) (V' 3) → (∀ K, K ≠ 3 → V' K = Vs K) → Q none h') : ∀ (d k : Nat) (lv : List (Nat × Value)) (h : MH) (V : Nat → Nat → Int) (xk : Int32), k + d = 1 → MX 49 W ρ m A h0 h F V G → cp_w 1 f t k (Vs 3) (V 3) → (∀ K, K ≠ 3 → V K = Vs K) → xk.toInt = (k : Int) → m_lk lv 0 = some (.ref (A 3)) → m_lk lv 1 = some (.int xn) → m_lk lv 2 = some (.int xf) → m_lk lv 3 = some (.int xt) → m_lk lv 4 = some (.int xk) → HJ 290 3 lv [] h Q := by
  intro d
  induction d with
  | zero =>
    intro k lv h V xk hd M c o qk e0 e1 e2 e3 e4
    exact s_cr3 M e0 e1 qn e2 qf e3 qt e4 qk (by omega) (by omega) (by omega) (by omega) (by omega) hw (fun _ => g h V M (cp_n (by omega) (by omega) c) o) (fun h6 V6 f6 x7 q7 lv7 M6 d0 d1 d2 d3 d4 c3 => by omega)
  | succ d ih =>
    intro k lv h V xk hd M c o qk e0 e1 e2 e3 e4
    exact s_cr3 M e0 e1 qn e2 qf e3 qt e4 qk (by omega) (by omega) (by omega) (by omega) (by omega) hw (fun c3 => by omega) (fun h6 V6 f6 x7 q7 lv7 M6 d0 d1 d2 d3 d4 c3 => ih (k + 1) lv7 h6 V6 x7 (by omega) M6 (by rw [f6, m_uE]; exact cp_s c (by omega) ne (by omega) (by omega)) (fun K hK => by rw [f6, m_uN _ _ _ _ hK]; exact o K hK) (by omega) d0 d1 d2 d3 d4)
theorem c_cr3 {f t : Nat} {xn xf xt : Int32} (M : MX 49 W ρ m A h0 h F V G) (hw : d_sub [(52, 1001)] W = true) (qn : xn.toInt = 1) (qf : xf.toInt = (f : Int)) (qt : xt.toInt = (t : Int)) (f3 : f ≤ 3) (t3 : t ≤ 3) (ne : f ≠ t) (g : ∀ (h' : MH) (V' : Nat → Nat → Int), MX 49 W ρ m A h0 h' F V' G → cp_r 1 f t (V 3) (V' 3) → (∀ K, K ≠ 3 → V' K = V K) → Q none h') : HJ 290 0 (lv_args 0 [.ref (A 3), .int xn, .int xf, .int xt]) [] h Q :=
  s_cr3_0 M rfl rfl qn rfl qf rfl qt (fun x1 q1 lv2 e0 e1 e2 e3 e4 => l_cr3 hw qn qf qt f3 t3 ne g 1 0 lv2 h V x1 (by omega) M cp_0 (fun _ _ => rfl) q1 e0 e1 e2 e3 e4)
theorem s_cr4_0 {f t : Int} (M : MX 49 W ρ m A h0 h F V G) (e0 : m_lk lv 0 = some (.ref (A 4))) {lx1 : Int32} (e1 : m_lk lv 1 = some (.int lx1)) (lq1 : lx1.toInt = 1) {lx2 : Int32} (e2 : m_lk lv 2 = some (.int lx2)) (lq2 : lx2.toInt = f) {lx3 : Int32} (e3 : m_lk lv 3 = some (.int lx3)) (lq3 : lx3.toInt = t) 
    (g0 : ∀ x1 : Int32, x1.toInt = 0 → ∀ lv2 : List (Nat × Value), m_lk lv2 0 = some (.ref (A 4)) → m_lk lv2 1 = some (.int lx1) → m_lk lv2 2 = some (.int lx2) → m_lk lv2 3 = some (.int lx3) → m_lk lv2 4 = some (.int x1) → HJ 290 3 lv2 [] h Q)
    : HJ 290 0 lv [] h Q := by
  refine hM_ic (n := 0) rfl (by decide) rfl (fun x1 q1 => ?_) -- 0
  refine hM_si2 (k := 4) rfl (by decide +kernel) rfl (fun lv2 e2_4 u2 => ?_) -- 1
  have e2_0 := u2 0 _ (by decide) (Or.inl rfl) e0
  have e2_1 := u2 1 _ (by decide) (Or.inl rfl) e1
  have e2_2 := u2 2 _ (by decide) (Or.inl rfl) e2
  have e2_3 := u2 3 _ (by decide) (Or.inl rfl) e3
  exact g0 x1 q1 lv2 e2_0 e2_1 e2_2 e2_3 e2_4
theorem s_cr4 {f t k : Int} (M : MX 49 W ρ m A h0 h F V G) (e0 : m_lk lv 0 = some (.ref (A 4))) {lx1 : Int32} (e1 : m_lk lv 1 = some (.int lx1)) (lq1 : lx1.toInt = 1) {lx2 : Int32} (e2 : m_lk lv 2 = some (.int lx2)) (lq2 : lx2.toInt = f) {lx3 : Int32} (e3 : m_lk lv 3 = some (.int lx3)) (lq3 : lx3.toInt = t) {lx4 : Int32} (e4 : m_lk lv 4 = some (.int lx4)) (lq4 : lx4.toInt = k) (f0 : 0 ≤ f) (f1 : f ≤ 3) (t0 : 0 ≤ t) (t1 : t ≤ 3) (k0 : 0 ≤ k)(hw : d_sub [(53, 1001)] W = true)
    (g0 : k ≥ 1 → Q none h)
    (g1 : ∀ h6 : MH, ∀ V6 : Nat → Nat → Int, V6 = m_u V 4 (m_u (V 4) ((1 * t) + k).toNat (V 4 ((1 * f) + k).toNat)) → ∀ x7 : Int32, x7.toInt = k + 1 → ∀ lv7 : List (Nat × Value), MX 49 W ρ m A h0 h6 F V6 G → m_lk lv7 0 = some (.ref (A 4)) → m_lk lv7 1 = some (.int lx1) → m_lk lv7 2 = some (.int lx2) → m_lk lv7 3 = some (.int lx3) → m_lk lv7 4 = some (.int x7) → k < 1 → HJ 290 3 lv7 [] h6 Q)
    : HJ 290 3 lv [] h Q := by
  refine hI_il2 (k := 4) rfl e4 rfl ?_ -- 3
  refine hI_il (k := 1) rfl e1 rfl ?_ -- 5
  refine hM_cge (off := 25) (t := 31) rfl lq4 lq1 (by decide) rfl (fun c6 => ?_) (fun c6 => ?_) -- 6
  · refine hI_rv rfl rfl ?_
    exact g0 c6
  · refine hI_al (k := 0) rfl e0 rfl ?_ -- 9
    refine hI_il (k := 1) rfl e1 rfl ?_ -- 10
    refine hI_il (k := 3) rfl e3 rfl ?_ -- 11
    refine hM_mul rfl lq1 lq3 (by omega) (by omega) rfl (fun x1 q1 => ?_) -- 12
    refine hI_il2 (k := 4) rfl e4 rfl ?_ -- 13
    refine hM_add rfl q1 lq4 (by omega) (by omega) rfl (fun x2 q2 => ?_) -- 15
    refine hI_al (k := 0) rfl e0 rfl ?_ -- 16
    refine hI_il (k := 1) rfl e1 rfl ?_ -- 17
    refine hI_il (k := 2) rfl e2 rfl ?_ -- 18
    refine hM_mul rfl lq1 lq2 (by omega) (by omega) rfl (fun x3 q3 => ?_) -- 19
    refine hI_il2 (k := 4) rfl e4 rfl ?_ -- 20
    refine hM_add rfl q3 lq4 (by omega) (by omega) rfl (fun x4 q4 => ?_) -- 22
    refine hM_ia M (by decide) (K := 4) (R2 := 53) (L := 4) (H := 4) (lo := (-2147483648)) (hi := 2147483647) rfl (by decide) rfl rfl (fun _ => rfl) rfl q4 (by omega) (by omega) rfl (fun x5 q5 a5 b5 => ?_) -- 23
    refine hM_is M (by decide) ok_49 (K := 4) (R2 := 53) (L := 4) (H := 4) (lo := (-2147483648)) (hi := 2147483647) rfl (by decide) rfl rfl rfl (fun _ => rfl) (d_subm hw (by decide +kernel)) rfl q2 q5 (by omega) (by omega) (by omega) (by omega) rfl (fun h6 V6 f6 M6 => ?_) -- 24
    refine hM_inc (k := 4) (z := 1) rfl e4 lq4 (by decide) (by omega) (by omega) (by decide +kernel) rfl (fun lv7 x7 q7 e7_4 u7 => ?_) -- 25
    have e7_0 := u7 0 _ (by decide) (Or.inl rfl) e0
    have e7_1 := u7 1 _ (by decide) (Or.inl rfl) e1
    have e7_2 := u7 2 _ (by decide) (Or.inl rfl) e2
    have e7_3 := u7 3 _ (by decide) (Or.inl rfl) e3
    refine hI_go (pc' := 3) (off := (-25)) rfl (by decide) ?_ -- 28
    exact g1 h6 V6 f6 x7 q7 lv7 M6 e7_0 e7_1 e7_2 e7_3 e7_4 c6
theorem l_cr4 {f t : Nat} {xn xf xt : Int32} {Vs : Nat → Nat → Int} (hw : d_sub [(53, 1001)] W = true) (qn : xn.toInt = 1) (qf : xf.toInt = (f : Int)) (qt : xt.toInt = (t : Int)) (f3 : f ≤ 3) (t3 : t ≤ 3) (ne : f ≠ t) (g : ∀ (h' : MH) (V' : Nat → Nat → Int), MX 49 W ρ m A h0 h' F V' G → cp_r 1 f t (Vs 4) (V' 4) → (∀ K, K ≠ 4 → V' K = Vs K) → Q none h') : ∀ (d k : Nat) (lv : List (Nat × Value)) (h : MH) (V : Nat → Nat → Int) (xk : Int32), k + d = 1 → MX 49 W ρ m A h0 h F V G → cp_w 1 f t k (Vs 4) (V 4) → (∀ K, K ≠ 4 → V K = Vs K) → xk.toInt = (k : Int) → m_lk lv 0 = some (.ref (A 4)) → m_lk lv 1 = some (.int xn) → m_lk lv 2 = some (.int xf) → m_lk lv 3 = some (.int xt) → m_lk lv 4 = some (.int xk) → HJ 290 3 lv [] h Q := by
  intro d
  induction d with
  | zero =>
    intro k lv h V xk hd M c o qk e0 e1 e2 e3 e4
    exact s_cr4 M e0 e1 qn e2 qf e3 qt e4 qk (by omega) (by omega) (by omega) (by omega) (by omega) hw (fun _ => g h V M (cp_n (by omega) (by omega) c) o) (fun h6 V6 f6 x7 q7 lv7 M6 d0 d1 d2 d3 d4 c3 => by omega)
  | succ d ih =>
    intro k lv h V xk hd M c o qk e0 e1 e2 e3 e4
    exact s_cr4 M e0 e1 qn e2 qf e3 qt e4 qk (by omega) (by omega) (by omega) (by omega) (by omega) hw (fun c3 => by omega) (fun h6 V6 f6 x7 q7 lv7 M6 d0 d1 d2 d3 d4 c3 => ih (k + 1) lv7 h6 V6 x7 (by omega) M6 (by rw [f6, m_uE]; exact cp_s c (by omega) ne (by omega) (by omega)) (fun K hK => by rw [f6, m_uN _ _ _ _ hK]; exact o K hK) (by omega) d0 d1 d2 d3 d4)
theorem c_cr4 {f t : Nat} {xn xf xt : Int32} (M : MX 49 W ρ m A h0 h F V G) (hw : d_sub [(53, 1001)] W = true) (qn : xn.toInt = 1) (qf : xf.toInt = (f : Int)) (qt : xt.toInt = (t : Int)) (f3 : f ≤ 3) (t3 : t ≤ 3) (ne : f ≠ t) (g : ∀ (h' : MH) (V' : Nat → Nat → Int), MX 49 W ρ m A h0 h' F V' G → cp_r 1 f t (V 4) (V' 4) → (∀ K, K ≠ 4 → V' K = V K) → Q none h') : HJ 290 0 (lv_args 0 [.ref (A 4), .int xn, .int xf, .int xt]) [] h Q :=
  s_cr4_0 M rfl rfl qn rfl qf rfl qt (fun x1 q1 lv2 e0 e1 e2 e3 e4 => l_cr4 hw qn qf qt f3 t3 ne g 1 0 lv2 h V x1 (by omega) M cp_0 (fun _ _ => rfl) q1 e0 e1 e2 e3 e4)
theorem s_cr5_0 {f t : Int} (M : MX 49 W ρ m A h0 h F V G) (e0 : m_lk lv 0 = some (.ref (A 5))) {lx1 : Int32} (e1 : m_lk lv 1 = some (.int lx1)) (lq1 : lx1.toInt = 1) {lx2 : Int32} (e2 : m_lk lv 2 = some (.int lx2)) (lq2 : lx2.toInt = f) {lx3 : Int32} (e3 : m_lk lv 3 = some (.int lx3)) (lq3 : lx3.toInt = t) 
    (g0 : ∀ x1 : Int32, x1.toInt = 0 → ∀ lv2 : List (Nat × Value), m_lk lv2 0 = some (.ref (A 5)) → m_lk lv2 1 = some (.int lx1) → m_lk lv2 2 = some (.int lx2) → m_lk lv2 3 = some (.int lx3) → m_lk lv2 4 = some (.int x1) → HJ 290 3 lv2 [] h Q)
    : HJ 290 0 lv [] h Q := by
  refine hM_ic (n := 0) rfl (by decide) rfl (fun x1 q1 => ?_) -- 0
  refine hM_si2 (k := 4) rfl (by decide +kernel) rfl (fun lv2 e2_4 u2 => ?_) -- 1
  have e2_0 := u2 0 _ (by decide) (Or.inl rfl) e0
  have e2_1 := u2 1 _ (by decide) (Or.inl rfl) e1
  have e2_2 := u2 2 _ (by decide) (Or.inl rfl) e2
  have e2_3 := u2 3 _ (by decide) (Or.inl rfl) e3
  exact g0 x1 q1 lv2 e2_0 e2_1 e2_2 e2_3 e2_4
theorem s_cr5 {f t k : Int} (M : MX 49 W ρ m A h0 h F V G) (e0 : m_lk lv 0 = some (.ref (A 5))) {lx1 : Int32} (e1 : m_lk lv 1 = some (.int lx1)) (lq1 : lx1.toInt = 1) {lx2 : Int32} (e2 : m_lk lv 2 = some (.int lx2)) (lq2 : lx2.toInt = f) {lx3 : Int32} (e3 : m_lk lv 3 = some (.int lx3)) (lq3 : lx3.toInt = t) {lx4 : Int32} (e4 : m_lk lv 4 = some (.int lx4)) (lq4 : lx4.toInt = k) (f0 : 0 ≤ f) (f1 : f ≤ 3) (t0 : 0 ≤ t) (t1 : t ≤ 3) (k0 : 0 ≤ k)(hw : d_sub [(54, 1001)] W = true)
    (g0 : k ≥ 1 → Q none h)
    (g1 : ∀ h6 : MH, ∀ V6 : Nat → Nat → Int, V6 = m_u V 5 (m_u (V 5) ((1 * t) + k).toNat (V 5 ((1 * f) + k).toNat)) → ∀ x7 : Int32, x7.toInt = k + 1 → ∀ lv7 : List (Nat × Value), MX 49 W ρ m A h0 h6 F V6 G → m_lk lv7 0 = some (.ref (A 5)) → m_lk lv7 1 = some (.int lx1) → m_lk lv7 2 = some (.int lx2) → m_lk lv7 3 = some (.int lx3) → m_lk lv7 4 = some (.int x7) → k < 1 → 0 ≤ V 5 ((1 * f) + k).toNat → V 5 ((1 * f) + k).toNat ≤ 4 → HJ 290 3 lv7 [] h6 Q)
    : HJ 290 3 lv [] h Q := by
  refine hI_il2 (k := 4) rfl e4 rfl ?_ -- 3
  refine hI_il (k := 1) rfl e1 rfl ?_ -- 5
  refine hM_cge (off := 25) (t := 31) rfl lq4 lq1 (by decide) rfl (fun c6 => ?_) (fun c6 => ?_) -- 6
  · refine hI_rv rfl rfl ?_
    exact g0 c6
  · refine hI_al (k := 0) rfl e0 rfl ?_ -- 9
    refine hI_il (k := 1) rfl e1 rfl ?_ -- 10
    refine hI_il (k := 3) rfl e3 rfl ?_ -- 11
    refine hM_mul rfl lq1 lq3 (by omega) (by omega) rfl (fun x1 q1 => ?_) -- 12
    refine hI_il2 (k := 4) rfl e4 rfl ?_ -- 13
    refine hM_add rfl q1 lq4 (by omega) (by omega) rfl (fun x2 q2 => ?_) -- 15
    refine hI_al (k := 0) rfl e0 rfl ?_ -- 16
    refine hI_il (k := 1) rfl e1 rfl ?_ -- 17
    refine hI_il (k := 2) rfl e2 rfl ?_ -- 18
    refine hM_mul rfl lq1 lq2 (by omega) (by omega) rfl (fun x3 q3 => ?_) -- 19
    refine hI_il2 (k := 4) rfl e4 rfl ?_ -- 20
    refine hM_add rfl q3 lq4 (by omega) (by omega) rfl (fun x4 q4 => ?_) -- 22
    refine hM_ia M (by decide) (K := 5) (R2 := 54) (L := 4) (H := 4) (lo := 0) (hi := 4) rfl (by decide) rfl rfl (fun _ => rfl) rfl q4 (by omega) (by omega) rfl (fun x5 q5 a5 b5 => ?_) -- 23
    refine hM_is M (by decide) ok_49 (K := 5) (R2 := 54) (L := 4) (H := 4) (lo := 0) (hi := 4) rfl (by decide) rfl rfl rfl (fun _ => rfl) (d_subm hw (by decide +kernel)) rfl q2 q5 (by omega) (by omega) (by omega) (by omega) rfl (fun h6 V6 f6 M6 => ?_) -- 24
    refine hM_inc (k := 4) (z := 1) rfl e4 lq4 (by decide) (by omega) (by omega) (by decide +kernel) rfl (fun lv7 x7 q7 e7_4 u7 => ?_) -- 25
    have e7_0 := u7 0 _ (by decide) (Or.inl rfl) e0
    have e7_1 := u7 1 _ (by decide) (Or.inl rfl) e1
    have e7_2 := u7 2 _ (by decide) (Or.inl rfl) e2
    have e7_3 := u7 3 _ (by decide) (Or.inl rfl) e3
    refine hI_go (pc' := 3) (off := (-25)) rfl (by decide) ?_ -- 28
    exact g1 h6 V6 f6 x7 q7 lv7 M6 e7_0 e7_1 e7_2 e7_3 e7_4 c6 a5 b5
theorem l_cr5 {f t : Nat} {xn xf xt : Int32} {Vs : Nat → Nat → Int} (hw : d_sub [(54, 1001)] W = true) (qn : xn.toInt = 1) (qf : xf.toInt = (f : Int)) (qt : xt.toInt = (t : Int)) (f3 : f ≤ 3) (t3 : t ≤ 3) (ne : f ≠ t) (g : ∀ (h' : MH) (V' : Nat → Nat → Int), MX 49 W ρ m A h0 h' F V' G → cp_r 1 f t (Vs 5) (V' 5) → (∀ K, K ≠ 5 → V' K = Vs K) → Q none h') : ∀ (d k : Nat) (lv : List (Nat × Value)) (h : MH) (V : Nat → Nat → Int) (xk : Int32), k + d = 1 → MX 49 W ρ m A h0 h F V G → cp_w 1 f t k (Vs 5) (V 5) → (∀ K, K ≠ 5 → V K = Vs K) → xk.toInt = (k : Int) → m_lk lv 0 = some (.ref (A 5)) → m_lk lv 1 = some (.int xn) → m_lk lv 2 = some (.int xf) → m_lk lv 3 = some (.int xt) → m_lk lv 4 = some (.int xk) → HJ 290 3 lv [] h Q := by
  intro d
  induction d with
  | zero =>
    intro k lv h V xk hd M c o qk e0 e1 e2 e3 e4
    exact s_cr5 M e0 e1 qn e2 qf e3 qt e4 qk (by omega) (by omega) (by omega) (by omega) (by omega) hw (fun _ => g h V M (cp_n (by omega) (by omega) c) o) (fun h6 V6 f6 x7 q7 lv7 M6 d0 d1 d2 d3 d4 c3 a0 a1 => by omega)
  | succ d ih =>
    intro k lv h V xk hd M c o qk e0 e1 e2 e3 e4
    exact s_cr5 M e0 e1 qn e2 qf e3 qt e4 qk (by omega) (by omega) (by omega) (by omega) (by omega) hw (fun c3 => by omega) (fun h6 V6 f6 x7 q7 lv7 M6 d0 d1 d2 d3 d4 c3 a0 a1 => ih (k + 1) lv7 h6 V6 x7 (by omega) M6 (by rw [f6, m_uE]; exact cp_s c (by omega) ne (by omega) (by omega)) (fun K hK => by rw [f6, m_uN _ _ _ _ hK]; exact o K hK) (by omega) d0 d1 d2 d3 d4)
theorem c_cr5 {f t : Nat} {xn xf xt : Int32} (M : MX 49 W ρ m A h0 h F V G) (hw : d_sub [(54, 1001)] W = true) (qn : xn.toInt = 1) (qf : xf.toInt = (f : Int)) (qt : xt.toInt = (t : Int)) (f3 : f ≤ 3) (t3 : t ≤ 3) (ne : f ≠ t) (g : ∀ (h' : MH) (V' : Nat → Nat → Int), MX 49 W ρ m A h0 h' F V' G → cp_r 1 f t (V 5) (V' 5) → (∀ K, K ≠ 5 → V' K = V K) → Q none h') : HJ 290 0 (lv_args 0 [.ref (A 5), .int xn, .int xf, .int xt]) [] h Q :=
  s_cr5_0 M rfl rfl qn rfl qf rfl qt (fun x1 q1 lv2 e0 e1 e2 e3 e4 => l_cr5 hw qn qf qt f3 t3 ne g 1 0 lv2 h V x1 (by omega) M cp_0 (fun _ _ => rfl) q1 e0 e1 e2 e3 e4)
theorem s_cr6_0 {f t : Int} (M : MX 49 W ρ m A h0 h F V G) (e0 : m_lk lv 0 = some (.ref (A 6))) {lx1 : Int32} (e1 : m_lk lv 1 = some (.int lx1)) (lq1 : lx1.toInt = 644) {lx2 : Int32} (e2 : m_lk lv 2 = some (.int lx2)) (lq2 : lx2.toInt = f) {lx3 : Int32} (e3 : m_lk lv 3 = some (.int lx3)) (lq3 : lx3.toInt = t) 
    (g0 : ∀ x1 : Int32, x1.toInt = 0 → ∀ lv2 : List (Nat × Value), m_lk lv2 0 = some (.ref (A 6)) → m_lk lv2 1 = some (.int lx1) → m_lk lv2 2 = some (.int lx2) → m_lk lv2 3 = some (.int lx3) → m_lk lv2 4 = some (.int x1) → HJ 290 3 lv2 [] h Q)
    : HJ 290 0 lv [] h Q := by
  refine hM_ic (n := 0) rfl (by decide) rfl (fun x1 q1 => ?_) -- 0
  refine hM_si2 (k := 4) rfl (by decide +kernel) rfl (fun lv2 e2_4 u2 => ?_) -- 1
  have e2_0 := u2 0 _ (by decide) (Or.inl rfl) e0
  have e2_1 := u2 1 _ (by decide) (Or.inl rfl) e1
  have e2_2 := u2 2 _ (by decide) (Or.inl rfl) e2
  have e2_3 := u2 3 _ (by decide) (Or.inl rfl) e3
  exact g0 x1 q1 lv2 e2_0 e2_1 e2_2 e2_3 e2_4
theorem s_cr6 {f t k : Int} (M : MX 49 W ρ m A h0 h F V G) (e0 : m_lk lv 0 = some (.ref (A 6))) {lx1 : Int32} (e1 : m_lk lv 1 = some (.int lx1)) (lq1 : lx1.toInt = 644) {lx2 : Int32} (e2 : m_lk lv 2 = some (.int lx2)) (lq2 : lx2.toInt = f) {lx3 : Int32} (e3 : m_lk lv 3 = some (.int lx3)) (lq3 : lx3.toInt = t) {lx4 : Int32} (e4 : m_lk lv 4 = some (.int lx4)) (lq4 : lx4.toInt = k) (f0 : 0 ≤ f) (f1 : f ≤ 3) (t0 : 0 ≤ t) (t1 : t ≤ 3) (k0 : 0 ≤ k)(hw : d_sub [(55, 1001)] W = true)
    (g0 : k ≥ 644 → Q none h)
    (g1 : ∀ h6 : MH, ∀ V6 : Nat → Nat → Int, V6 = m_u V 6 (m_u (V 6) ((644 * t) + k).toNat (V 6 ((644 * f) + k).toNat)) → ∀ x7 : Int32, x7.toInt = k + 1 → ∀ lv7 : List (Nat × Value), MX 49 W ρ m A h0 h6 F V6 G → m_lk lv7 0 = some (.ref (A 6)) → m_lk lv7 1 = some (.int lx1) → m_lk lv7 2 = some (.int lx2) → m_lk lv7 3 = some (.int lx3) → m_lk lv7 4 = some (.int x7) → k < 644 → HJ 290 3 lv7 [] h6 Q)
    : HJ 290 3 lv [] h Q := by
  refine hI_il2 (k := 4) rfl e4 rfl ?_ -- 3
  refine hI_il (k := 1) rfl e1 rfl ?_ -- 5
  refine hM_cge (off := 25) (t := 31) rfl lq4 lq1 (by decide) rfl (fun c6 => ?_) (fun c6 => ?_) -- 6
  · refine hI_rv rfl rfl ?_
    exact g0 c6
  · refine hI_al (k := 0) rfl e0 rfl ?_ -- 9
    refine hI_il (k := 1) rfl e1 rfl ?_ -- 10
    refine hI_il (k := 3) rfl e3 rfl ?_ -- 11
    refine hM_mul rfl lq1 lq3 (by omega) (by omega) rfl (fun x1 q1 => ?_) -- 12
    refine hI_il2 (k := 4) rfl e4 rfl ?_ -- 13
    refine hM_add rfl q1 lq4 (by omega) (by omega) rfl (fun x2 q2 => ?_) -- 15
    refine hI_al (k := 0) rfl e0 rfl ?_ -- 16
    refine hI_il (k := 1) rfl e1 rfl ?_ -- 17
    refine hI_il (k := 2) rfl e2 rfl ?_ -- 18
    refine hM_mul rfl lq1 lq2 (by omega) (by omega) rfl (fun x3 q3 => ?_) -- 19
    refine hI_il2 (k := 4) rfl e4 rfl ?_ -- 20
    refine hM_add rfl q3 lq4 (by omega) (by omega) rfl (fun x4 q4 => ?_) -- 22
    refine hM_ia M (by decide) (K := 6) (R2 := 55) (L := 2576) (H := 2576) (lo := (-2147483648)) (hi := 2147483647) rfl (by decide) rfl rfl (fun _ => rfl) rfl q4 (by omega) (by omega) rfl (fun x5 q5 a5 b5 => ?_) -- 23
    refine hM_is M (by decide) ok_49 (K := 6) (R2 := 55) (L := 2576) (H := 2576) (lo := (-2147483648)) (hi := 2147483647) rfl (by decide) rfl rfl rfl (fun _ => rfl) (d_subm hw (by decide +kernel)) rfl q2 q5 (by omega) (by omega) (by omega) (by omega) rfl (fun h6 V6 f6 M6 => ?_) -- 24
    refine hM_inc (k := 4) (z := 1) rfl e4 lq4 (by decide) (by omega) (by omega) (by decide +kernel) rfl (fun lv7 x7 q7 e7_4 u7 => ?_) -- 25
    have e7_0 := u7 0 _ (by decide) (Or.inl rfl) e0
    have e7_1 := u7 1 _ (by decide) (Or.inl rfl) e1
    have e7_2 := u7 2 _ (by decide) (Or.inl rfl) e2
    have e7_3 := u7 3 _ (by decide) (Or.inl rfl) e3
    refine hI_go (pc' := 3) (off := (-25)) rfl (by decide) ?_ -- 28
    exact g1 h6 V6 f6 x7 q7 lv7 M6 e7_0 e7_1 e7_2 e7_3 e7_4 c6
theorem l_cr6 {f t : Nat} {xn xf xt : Int32} {Vs : Nat → Nat → Int} (hw : d_sub [(55, 1001)] W = true) (qn : xn.toInt = 644) (qf : xf.toInt = (f : Int)) (qt : xt.toInt = (t : Int)) (f3 : f ≤ 3) (t3 : t ≤ 3) (ne : f ≠ t) (g : ∀ (h' : MH) (V' : Nat → Nat → Int), MX 49 W ρ m A h0 h' F V' G → cp_r 644 f t (Vs 6) (V' 6) → (∀ K, K ≠ 6 → V' K = Vs K) → Q none h') : ∀ (d k : Nat) (lv : List (Nat × Value)) (h : MH) (V : Nat → Nat → Int) (xk : Int32), k + d = 644 → MX 49 W ρ m A h0 h F V G → cp_w 644 f t k (Vs 6) (V 6) → (∀ K, K ≠ 6 → V K = Vs K) → xk.toInt = (k : Int) → m_lk lv 0 = some (.ref (A 6)) → m_lk lv 1 = some (.int xn) → m_lk lv 2 = some (.int xf) → m_lk lv 3 = some (.int xt) → m_lk lv 4 = some (.int xk) → HJ 290 3 lv [] h Q := by
  intro d
  induction d with
  | zero =>
    intro k lv h V xk hd M c o qk e0 e1 e2 e3 e4
    exact s_cr6 M e0 e1 qn e2 qf e3 qt e4 qk (by omega) (by omega) (by omega) (by omega) (by omega) hw (fun _ => g h V M (cp_n (by omega) (by omega) c) o) (fun h6 V6 f6 x7 q7 lv7 M6 d0 d1 d2 d3 d4 c3 => by omega)
  | succ d ih =>
    intro k lv h V xk hd M c o qk e0 e1 e2 e3 e4
    exact s_cr6 M e0 e1 qn e2 qf e3 qt e4 qk (by omega) (by omega) (by omega) (by omega) (by omega) hw (fun c3 => by omega) (fun h6 V6 f6 x7 q7 lv7 M6 d0 d1 d2 d3 d4 c3 => ih (k + 1) lv7 h6 V6 x7 (by omega) M6 (by rw [f6, m_uE]; exact cp_s c (by omega) ne (by omega) (by omega)) (fun K hK => by rw [f6, m_uN _ _ _ _ hK]; exact o K hK) (by omega) d0 d1 d2 d3 d4)
theorem c_cr6 {f t : Nat} {xn xf xt : Int32} (M : MX 49 W ρ m A h0 h F V G) (hw : d_sub [(55, 1001)] W = true) (qn : xn.toInt = 644) (qf : xf.toInt = (f : Int)) (qt : xt.toInt = (t : Int)) (f3 : f ≤ 3) (t3 : t ≤ 3) (ne : f ≠ t) (g : ∀ (h' : MH) (V' : Nat → Nat → Int), MX 49 W ρ m A h0 h' F V' G → cp_r 644 f t (V 6) (V' 6) → (∀ K, K ≠ 6 → V' K = V K) → Q none h') : HJ 290 0 (lv_args 0 [.ref (A 6), .int xn, .int xf, .int xt]) [] h Q :=
  s_cr6_0 M rfl rfl qn rfl qf rfl qt (fun x1 q1 lv2 e0 e1 e2 e3 e4 => l_cr6 hw qn qf qt f3 t3 ne g 644 0 lv2 h V x1 (by omega) M cp_0 (fun _ _ => rfl) q1 e0 e1 e2 e3 e4)
theorem s_ca0 {f t : Int} (M : MX 49 W ρ m A h0 h F V G) (e0 : m_lk lv 0 = some (.ref m)) {lx1 : Int32} (e1 : m_lk lv 1 = some (.int lx1)) (lq1 : lx1.toInt = f) {lx2 : Int32} (e2 : m_lk lv 2 = some (.int lx2)) (lq2 : lx2.toInt = t) 
    (g0 : ∀ x1 : Int32, x1.toInt = 0 → ∀ lv2 : List (Nat × Value), m_lk lv2 0 = some (.ref m) → m_lk lv2 1 = some (.int lx1) → m_lk lv2 2 = some (.int lx2) → m_lk lv2 3 = some (.int x1) → HJ 289 2 lv2 [] h Q)
    : HJ 289 0 lv [] h Q := by
  refine hM_ic (n := 0) rfl (by decide) rfl (fun x1 q1 => ?_) -- 0
  refine hM_si (k := 3) rfl (by decide +kernel) rfl (fun lv2 e2_3 u2 => ?_) -- 1
  have e2_0 := u2 0 _ (by decide) (Or.inl rfl) e0
  have e2_1 := u2 1 _ (by decide) (Or.inl rfl) e1
  have e2_2 := u2 2 _ (by decide) (Or.inl rfl) e2
  exact g0 x1 q1 lv2 e2_0 e2_1 e2_2 e2_3
theorem s_ca2 {f t k : Int} (M : MX 49 W ρ m A h0 h F V G) (e0 : m_lk lv 0 = some (.ref m)) {lx1 : Int32} (e1 : m_lk lv 1 = some (.int lx1)) (lq1 : lx1.toInt = f) {lx2 : Int32} (e2 : m_lk lv 2 = some (.int lx2)) (lq2 : lx2.toInt = t) {lx3 : Int32} (e3 : m_lk lv 3 = some (.int lx3)) (lq3 : lx3.toInt = k) (f0 : 0 ≤ f) (f1 : f ≤ 3) (t0 : 0 ≤ t) (t1 : t ≤ 3) (k0 : 0 ≤ k)(hw : d_sub [(50, 1001)] W = true)
    (g0 : k ≥ 600 → HJ 289 39 lv [] h Q)
    (g1 : ∀ h9 : MH, ∀ V9 : Nat → Nat → Int, V9 = m_u V 1 (m_u (V 1) ((600 * t) + k).toNat (V 1 ((600 * f) + k).toNat)) → ∀ x10 : Int32, x10.toInt = k + 1 → ∀ lv10 : List (Nat × Value), MX 49 W ρ m A h0 h9 F V9 G → m_lk lv10 0 = some (.ref m) → m_lk lv10 1 = some (.int lx1) → m_lk lv10 2 = some (.int lx2) → m_lk lv10 3 = some (.int x10) → k < 600 → (-128) ≤ V 1 ((600 * f) + k).toNat → V 1 ((600 * f) + k).toNat ≤ 127 → HJ 289 2 lv10 [] h9 Q)
    : HJ 289 2 lv [] h Q := by
  refine hI_il (k := 3) rfl e3 rfl ?_ -- 2
  refine hM_sp (n := 600) rfl (by decide) rfl (fun x1 q1 => ?_) -- 3
  refine hM_cge (off := 33) (t := 39) rfl lq3 q1 (by decide) rfl (fun c6 => ?_) (fun c6 => ?_) -- 6
  · exact g0 c6
  · refine hI_al (k := 0) rfl e0 rfl ?_ -- 9
    refine hM_ga M (by decide) rfl rfl (k := 1) (c := 9) rfl rfl rfl (by decide +kernel) rfl ?_ -- 10
    refine hM_sp (n := 600) rfl (by decide) rfl (fun x2 q2 => ?_) -- 13
    refine hI_il (k := 2) rfl e2 rfl ?_ -- 16
    refine hM_mul rfl q2 lq2 (by omega) (by omega) rfl (fun x3 q3 => ?_) -- 17
    refine hI_il (k := 3) rfl e3 rfl ?_ -- 18
    refine hM_add rfl q3 lq3 (by omega) (by omega) rfl (fun x4 q4 => ?_) -- 19
    refine hI_al (k := 0) rfl e0 rfl ?_ -- 20
    refine hM_ga M (by decide) rfl rfl (k := 1) (c := 9) rfl rfl rfl (by decide +kernel) rfl ?_ -- 21
    refine hM_sp (n := 600) rfl (by decide) rfl (fun x5 q5 => ?_) -- 24
    refine hI_il (k := 1) rfl e1 rfl ?_ -- 27
    refine hM_mul rfl q5 lq1 (by omega) (by omega) rfl (fun x6 q6 => ?_) -- 28
    refine hI_il (k := 3) rfl e3 rfl ?_ -- 29
    refine hM_add rfl q6 lq3 (by omega) (by omega) rfl (fun x7 q7 => ?_) -- 30
    refine hM_ba M (by decide) (K := 1) (R2 := 50) (L := 2400) (H := 2400) (lo := (-128)) (hi := 127) rfl (by decide) rfl rfl (Or.inl rfl) (fun _ => rfl) rfl q7 (by omega) (by omega) rfl (fun x8 q8 a8 b8 => ?_) -- 31
    refine hM_bs M (by decide) ok_49 (K := 1) (R2 := 50) (L := 2400) (H := 2400) (lo := (-128)) (hi := 127) rfl (by decide) rfl rfl rfl (fun _ => rfl) (by decide) (by decide) (d_subm hw (by decide +kernel)) rfl q4 q8 (by omega) (by omega) (by omega) (by omega) rfl (fun h9 V9 f9 M9 => ?_) -- 32
    refine hM_inc (k := 3) (z := 1) rfl e3 lq3 (by decide) (by omega) (by omega) (by decide +kernel) rfl (fun lv10 x10 q10 e10_3 u10 => ?_) -- 33
    have e10_0 := u10 0 _ (by decide) (Or.inl rfl) e0
    have e10_1 := u10 1 _ (by decide) (Or.inl rfl) e1
    have e10_2 := u10 2 _ (by decide) (Or.inl rfl) e2
    refine hI_go (pc' := 2) (off := (-34)) rfl (by decide) ?_ -- 36
    exact g1 h9 V9 f9 x10 q10 lv10 M9 e10_0 e10_1 e10_2 e10_3 c6 a8 b8
theorem s_ca39 {f t : Int} (M : MX 49 W ρ m A h0 h F V G) (e0 : m_lk lv 0 = some (.ref m)) {lx1 : Int32} (e1 : m_lk lv 1 = some (.int lx1)) (lq1 : lx1.toInt = f) {lx2 : Int32} (e2 : m_lk lv 2 = some (.int lx2)) (lq2 : lx2.toInt = t) 
    (g0 : ∀ x1 : Int32, x1.toInt = 1 → HJ 290 0 (lv_args 0 [.ref (A 2), .int x1, .int lx1, .int lx2]) [] h (fun v h' => HJ 289 49 lv (v.toList ++ []) h' Q))
    : HJ 289 39 lv [] h Q := by
  refine hI_al (k := 0) rfl e0 rfl ?_ -- 39
  refine hM_ga M (by decide) rfl rfl (k := 2) (c := 9) rfl rfl rfl (by decide +kernel) rfl ?_ -- 40
  refine hM_ic (n := 1) rfl (by decide) rfl (fun x1 q1 => ?_) -- 43
  refine hI_il (k := 1) rfl e1 rfl ?_ -- 44
  refine hI_il (k := 2) rfl e2 rfl ?_ -- 45
  refine hM_is0 (as := [.ref (A 2), .int x1, .int lx1, .int lx2]) (r := []) rfl rfl (by decide +kernel) rfl rfl rfl rfl rfl ?_ -- 46
  exact g0 x1 q1
theorem s_ca49 {f t : Int} (M : MX 49 W ρ m A h0 h F V G) (e0 : m_lk lv 0 = some (.ref m)) {lx1 : Int32} (e1 : m_lk lv 1 = some (.int lx1)) (lq1 : lx1.toInt = f) {lx2 : Int32} (e2 : m_lk lv 2 = some (.int lx2)) (lq2 : lx2.toInt = t) 
    (g0 : ∀ x1 : Int32, x1.toInt = 1 → HJ 290 0 (lv_args 0 [.ref (A 3), .int x1, .int lx1, .int lx2]) [] h (fun v h' => HJ 289 59 lv (v.toList ++ []) h' Q))
    : HJ 289 49 lv [] h Q := by
  refine hI_al (k := 0) rfl e0 rfl ?_ -- 49
  refine hM_ga M (by decide) rfl rfl (k := 3) (c := 9) rfl rfl rfl (by decide +kernel) rfl ?_ -- 50
  refine hM_ic (n := 1) rfl (by decide) rfl (fun x1 q1 => ?_) -- 53
  refine hI_il (k := 1) rfl e1 rfl ?_ -- 54
  refine hI_il (k := 2) rfl e2 rfl ?_ -- 55
  refine hM_is0 (as := [.ref (A 3), .int x1, .int lx1, .int lx2]) (r := []) rfl rfl (by decide +kernel) rfl rfl rfl rfl rfl ?_ -- 56
  exact g0 x1 q1
theorem s_ca59 {f t : Int} (M : MX 49 W ρ m A h0 h F V G) (e0 : m_lk lv 0 = some (.ref m)) {lx1 : Int32} (e1 : m_lk lv 1 = some (.int lx1)) (lq1 : lx1.toInt = f) {lx2 : Int32} (e2 : m_lk lv 2 = some (.int lx2)) (lq2 : lx2.toInt = t) 
    (g0 : ∀ x1 : Int32, x1.toInt = 1 → HJ 290 0 (lv_args 0 [.ref (A 4), .int x1, .int lx1, .int lx2]) [] h (fun v h' => HJ 289 69 lv (v.toList ++ []) h' Q))
    : HJ 289 59 lv [] h Q := by
  refine hI_al (k := 0) rfl e0 rfl ?_ -- 59
  refine hM_ga M (by decide) rfl rfl (k := 4) (c := 9) rfl rfl rfl (by decide +kernel) rfl ?_ -- 60
  refine hM_ic (n := 1) rfl (by decide) rfl (fun x1 q1 => ?_) -- 63
  refine hI_il (k := 1) rfl e1 rfl ?_ -- 64
  refine hI_il (k := 2) rfl e2 rfl ?_ -- 65
  refine hM_is0 (as := [.ref (A 4), .int x1, .int lx1, .int lx2]) (r := []) rfl rfl (by decide +kernel) rfl rfl rfl rfl rfl ?_ -- 66
  exact g0 x1 q1
theorem s_ca69 {f t : Int} (M : MX 49 W ρ m A h0 h F V G) (e0 : m_lk lv 0 = some (.ref m)) {lx1 : Int32} (e1 : m_lk lv 1 = some (.int lx1)) (lq1 : lx1.toInt = f) {lx2 : Int32} (e2 : m_lk lv 2 = some (.int lx2)) (lq2 : lx2.toInt = t) 
    (g0 : ∀ x1 : Int32, x1.toInt = 1 → HJ 290 0 (lv_args 0 [.ref (A 5), .int x1, .int lx1, .int lx2]) [] h (fun v h' => HJ 289 79 lv (v.toList ++ []) h' Q))
    : HJ 289 69 lv [] h Q := by
  refine hI_al (k := 0) rfl e0 rfl ?_ -- 69
  refine hM_ga M (by decide) rfl rfl (k := 5) (c := 9) rfl rfl rfl (by decide +kernel) rfl ?_ -- 70
  refine hM_ic (n := 1) rfl (by decide) rfl (fun x1 q1 => ?_) -- 73
  refine hI_il (k := 1) rfl e1 rfl ?_ -- 74
  refine hI_il (k := 2) rfl e2 rfl ?_ -- 75
  refine hM_is0 (as := [.ref (A 5), .int x1, .int lx1, .int lx2]) (r := []) rfl rfl (by decide +kernel) rfl rfl rfl rfl rfl ?_ -- 76
  exact g0 x1 q1
theorem s_ca79 {f t : Int} (M : MX 49 W ρ m A h0 h F V G) (e0 : m_lk lv 0 = some (.ref m)) {lx1 : Int32} (e1 : m_lk lv 1 = some (.int lx1)) (lq1 : lx1.toInt = f) {lx2 : Int32} (e2 : m_lk lv 2 = some (.int lx2)) (lq2 : lx2.toInt = t) 
    (g0 : ∀ x1 : Int32, x1.toInt = 644 → HJ 290 0 (lv_args 0 [.ref (A 6), .int x1, .int lx1, .int lx2]) [] h (fun v h' => HJ 289 91 lv (v.toList ++ []) h' Q))
    : HJ 289 79 lv [] h Q := by
  refine hI_al (k := 0) rfl e0 rfl ?_ -- 79
  refine hM_ga M (by decide) rfl rfl (k := 6) (c := 9) rfl rfl rfl (by decide +kernel) rfl ?_ -- 80
  refine hM_sp (n := 644) rfl (by decide) rfl (fun x1 q1 => ?_) -- 83
  refine hI_il (k := 1) rfl e1 rfl ?_ -- 86
  refine hI_il (k := 2) rfl e2 rfl ?_ -- 87
  refine hM_is0 (as := [.ref (A 6), .int x1, .int lx1, .int lx2]) (r := []) rfl rfl (by decide +kernel) rfl rfl rfl rfl rfl ?_ -- 88
  exact g0 x1 q1
theorem s_ca91   
    (g0 : Q none h)
    : HJ 289 91 lv [] h Q := by
  refine hI_rv rfl rfl ?_
  exact g0 
def w_cA : List (Nat × Nat) := [(50, 1001), (51, 1001), (52, 1001), (53, 1001), (54, 1001), (55, 1001)]
-- all that is told, from one place to another
def cp_all (f t : Nat) (V V' : Nat → Nat → Int) : Prop := cp_r 600 f t (V 1) (V' 1) ∧ cp_r 1 f t (V 2) (V' 2) ∧ cp_r 1 f t (V 3) (V' 3) ∧ cp_r 1 f t (V 4) (V' 4) ∧ cp_r 1 f t (V 5) (V' 5) ∧ cp_r 644 f t (V 6) (V' 6) ∧ ∀ K, K = 0 ∨ 7 ≤ K → V' K = V K
theorem l_ca {f t : Nat} {xf xt : Int32} {Vs : Nat → Nat → Int} (hw : d_sub [(50, 1001)] W = true) (qf : xf.toInt = (f : Int)) (qt : xt.toInt = (t : Int)) (f3 : f ≤ 3) (t3 : t ≤ 3) (ne : f ≠ t) (g : ∀ (lv : List (Nat × Value)) (h' : MH) (V' : Nat → Nat → Int), MX 49 W ρ m A h0 h' F V' G → m_lk lv 0 = some (.ref m) → m_lk lv 1 = some (.int xf) → m_lk lv 2 = some (.int xt) → cp_r 600 f t (Vs 1) (V' 1) → (∀ K, K ≠ 1 → V' K = Vs K) → HJ 289 39 lv [] h' Q) : ∀ (d k : Nat) (lv : List (Nat × Value)) (h : MH) (V : Nat → Nat → Int) (xk : Int32), k + d = 600 → MX 49 W ρ m A h0 h F V G → cp_w 600 f t k (Vs 1) (V 1) → (∀ K, K ≠ 1 → V K = Vs K) → xk.toInt = (k : Int) → m_lk lv 0 = some (.ref m) → m_lk lv 1 = some (.int xf) → m_lk lv 2 = some (.int xt) → m_lk lv 3 = some (.int xk) → HJ 289 2 lv [] h Q := by
  intro d
  induction d with
  | zero =>
    intro k lv h V xk hd M c o qk e0 e1 e2 e3
    exact s_ca2 M e0 e1 qf e2 qt e3 qk (by omega) (by omega) (by omega) (by omega) (by omega) hw (fun _ => g lv h V M e0 e1 e2 (cp_n (by omega) (by omega) c) o) (fun h6 V6 f6 x7 q7 lv7 M6 d0 d1 d2 d3 c3 _ _ => by omega)
  | succ d ih =>
    intro k lv h V xk hd M c o qk e0 e1 e2 e3
    exact s_ca2 M e0 e1 qf e2 qt e3 qk (by omega) (by omega) (by omega) (by omega) (by omega) hw (fun c3 => by omega) (fun h6 V6 f6 x7 q7 lv7 M6 d0 d1 d2 d3 c3 _ _ => ih (k + 1) lv7 h6 V6 x7 (by omega) M6 (by rw [f6, m_uE]; exact cp_s c (by omega) ne (by omega) (by omega)) (fun K hK => by rw [f6, m_uN _ _ _ _ hK]; exact o K hK) (by omega) d0 d1 d2 d3)
theorem c_copyAll {f t : Nat} {xf xt : Int32} (M : MX 49 W ρ m A h0 h F V G) (hw : d_sub w_cA W = true) (qf : xf.toInt = (f : Int)) (qt : xt.toInt = (t : Int)) (f3 : f ≤ 3) (t3 : t ≤ 3) (ne : f ≠ t) (g : ∀ (h' : MH) (V' : Nat → Nat → Int), MX 49 W ρ m A h0 h' F V' G → cp_all f t V V' → Q none h') : HJ 289 0 (lv_args 0 [.ref m, .int xf, .int xt]) [] h Q :=
  s_ca0 M rfl rfl qf rfl qt (fun x1 q1 lv2 e0 e1 e2 e3 => l_ca (d_subm hw (by decide +kernel)) qf qt f3 t3 ne (fun lv h1 V1 M1 d0 d1 d2 c1 o1 =>
    s_ca39 M1 d0 d1 qf d2 qt (fun y q => c_cr2 M1 (d_subm hw (by decide +kernel)) q qf qt f3 t3 ne (fun h2 V2 M2 c2 o2 =>
    s_ca49 M2 d0 d1 qf d2 qt (fun y q => c_cr3 M2 (d_subm hw (by decide +kernel)) q qf qt f3 t3 ne (fun h3 V3 M3 c3 o3 =>
    s_ca59 M3 d0 d1 qf d2 qt (fun y q => c_cr4 M3 (d_subm hw (by decide +kernel)) q qf qt f3 t3 ne (fun h4 V4 M4 c4 o4 =>
    s_ca69 M4 d0 d1 qf d2 qt (fun y q => c_cr5 M4 (d_subm hw (by decide +kernel)) q qf qt f3 t3 ne (fun h5 V5 M5 c5 o5 =>
    s_ca79 M5 d0 d1 qf d2 qt (fun y q => c_cr6 M5 (d_subm hw (by decide +kernel)) q qf qt f3 t3 ne (fun h6 V6 M6 c6 o6 =>
    s_ca91 (g h6 V6 M6 (by
      refine ⟨?_, ?_, ?_, ?_, ?_, ?_, fun K hK => ?_⟩
      · rw [o6 1 (by decide), o5 1 (by decide), o4 1 (by decide), o3 1 (by decide), o2 1 (by decide)]
        exact c1
      · rw [o6 2 (by decide), o5 2 (by decide), o4 2 (by decide), o3 2 (by decide), ← o1 2 (by decide)]
        exact c2
      · rw [o6 3 (by decide), o5 3 (by decide), o4 3 (by decide), ← o1 3 (by decide), ← o2 3 (by decide)]
        exact c3
      · rw [o6 4 (by decide), o5 4 (by decide), ← o1 4 (by decide), ← o2 4 (by decide), ← o3 4 (by decide)]
        exact c4
      · rw [o6 5 (by decide), ← o1 5 (by decide), ← o2 5 (by decide), ← o3 5 (by decide), ← o4 5 (by decide)]
        exact c5
      · rw [← o1 6 (by decide), ← o2 6 (by decide), ← o3 6 (by decide), ← o4 6 (by decide), ← o5 6 (by decide)]
        exact c6
      · rw [o6 K (by omega), o5 K (by omega), o4 K (by omega), o3 K (by omega), o2 K (by omega), o1 K (by omega)]))))))))))))) 600 0 lv2 h V x1 (by omega) M cp_0 (fun _ _ => rfl) q1 e0 e1 e2 e3)
end
end
