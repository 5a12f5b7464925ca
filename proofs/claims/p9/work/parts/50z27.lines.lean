-- THE CLASS'S LINES
theorem ok_103 : rg_okb 103 = true := by decide +kernel
section
variable {i pc pc' : Nat} {lv : List (Nat × Value)} {st : List Value} {h : MH} {Q : Option Value → MH → Prop}
theorem hI_gs2 {idx : Nat} (a : m_at i pc = some (.getstatic idx, 3)) (hs : m_sf i idx = some 2) (hp : pc + 3 = pc') (g : HJ i pc' lv (.ref 1 :: st) h Q) : HJ i pc lv st h Q := by
  subst hp
  refine HJ.ex a (Or.inl rfl) ?_ g
  show e_gets i idx pc lv st h = _
  unfold e_gets
  rw [hs]
  rfl
theorem hM_lim {j : Int32} {zj : Int} (L : lim_ok h) (a : m_at i pc = some (.iaload, 1)) (hj : j.toInt = zj) (b0 : 0 ≤ zj) (b1 : zj < 18) (hp : pc + 1 = pc') (g : ∀ x : Int32, x.toInt = lm_at zj.toNat → HJ i pc' lv (.int x :: st) h Q) : HJ i pc lv (.int j :: .ref 1 :: st) h Q := by
  refine hI_ia a (by rw [L.1]) (by omega) (by rw [L.1]; show j.toInt < ((18 : Nat) : Int); omega) hp ?_
  rw [hj]
  exact g _ (L.2 _ (by omega))
end
theorem lim_fs {W : List (Nat × Nat)} {ρ : Nat → Nat} {h h' : MH} (hr : ρ 1 = 1) (hn : d_no [(1, 1001), (1, 1002)] W = true) (f : FS ρ W h h') (L : lim_ok h) : lim_ok h' := by
  have e1 := f.2 1 (by omega)
  have w1 : ∀ j, ¬ t_W W (ρ 1) j ∨ j = 1002 := fun j => by
    rw [hr]
    exact d_noE hn (List.mem_of_getElem? (i := 0) rfl)
  exact ⟨by rw [e1.1]; exact L.1, fun j hj => by
    rw [(e1.2 j ((w1 j).resolve_right (by omega))).1]
    exact L.2 j hj⟩
theorem lm_lim {k i : Nat} (hk : k < 6) (hi : i < 3) : (lm_at (3 * k + i) = -1 ∧ (rd_lim (k : Int)).drop i = []) ∨ (lm_at (3 * k + i) ≠ -1 ∧ (rd_lim (k : Int)).drop i = lm_at (3 * k + i) :: (rd_lim (k : Int)).drop (i + 1)) := by
  rcases (show k = 0 ∨ k = 1 ∨ k = 2 ∨ k = 3 ∨ k = 4 ∨ k = 5 by omega) with rfl | rfl | rfl | rfl | rfl | rfl <;> rcases (show i = 0 ∨ i = 1 ∨ i = 2 by omega) with rfl | rfl | rfl <;> first | exact Or.inl ⟨by decide, rfl⟩ | exact Or.inr ⟨by decide, rfl⟩
theorem lm_3 {k : Nat} (hk : k < 6) : (rd_lim (k : Int)).drop 3 = [] := by
  rcases (show k = 0 ∨ k = 1 ∨ k = 2 ∨ k = 3 ∨ k = 4 ∨ k = 5 by omega) with rfl | rfl | rfl | rfl | rfl | rfl <;> rfl
-- what another object's run leaves as it is
def st_b (R : Nat) (W : List (Nat × Nat)) : Bool := W.all (fun q => !(Nat.beq q.1 R) && (List.range 80).all (fun K => !(Nat.beq q.1 (rg_a R K)) || Nat.beq (rg_a R K) 0))
theorem rg_80 {R K : Nat} (h : rg_a R K ≠ 0) : K < 80 := by
  obtain ⟨rs, hs, -⟩ := rg_aS h
  have h1 := rg_len hs h
  have h2 : ∀ rs ∈ c_sp, rs.2.2.2.length ≤ 80 := fun rs hm => of_decide_eq_true (List.all_eq_true.mp (show c_sp.all (fun rs => decide (rs.2.2.2.length ≤ 80)) = true by decide +kernel) rs hm)
  have := h2 rs (List.mem_of_getElem? hs)
  omega
theorem MX.stay {R : Nat} {W W1 : List (Nat × Nat)} {ρ : Nat → Nat} {m : Nat} {A : Nat → Nat} {h0 h h' : MH} {F : Nat → Int} {V : Nat → Nat → Int} {G : Nat → Nat → Int64} (M : MX R W ρ m A h0 h F V G) (hR : R ≠ 0) (ht : TH c_sp ρ h') (f : FS ρ W1 h h') (hs : d_sub W1 W = true) (hn : st_b R W1 = true) : MX R W ρ m A h0 h' F V G := by
  have n1 : W1.all (fun q => !(Nat.beq q.1 R)) = true := List.all_eq_true.mpr (fun q hq => by
    have := List.all_eq_true.mp hn q hq
    rw [Bool.and_eq_true] at this
    exact this.1)
  have n2 : ∀ K, rg_a R K ≠ 0 → W1.all (fun q => !(Nat.beq q.1 (rg_a R K))) = true := fun K hK => List.all_eq_true.mpr (fun q hq => by
    have := List.all_eq_true.mp hn q hq
    rw [Bool.and_eq_true] at this
    have := List.all_eq_true.mp this.2 K (List.mem_range.mpr (rg_80 hK))
    rw [Bool.or_eq_true] at this
    rcases this with z | z
    · exact z
    · exact absurd (Nat.eq_of_beq_eq_true z) hK)
  have hk : mx_keeps R W1 = true := List.all_eq_true.mpr (fun q hq => by
    rw [Bool.or_eq_true]
    exact Or.inl (List.all_eq_true.mp n1 q hq))
  obtain ⟨F', V', G', M', e1, e2⟩ := M.fs hR ht f hs hk
  refine ⟨M'.1, fun K => (M'.2.1 K).trans (e1 K (fun z => t_Wn9 n1 K z)), fun K hK => ⟨(M'.2.2 K hK).1, fun j => ?_⟩⟩
  obtain ⟨v1, v2⟩ := e2 K hK (fun j => t_Wn9 (n2 K hK) j)
  rw [← v1, ← v2]
  exact (M'.2.2 K hK).2 j
section
variable {R : Nat} {W W2 : List (Nat × Nat)} {ρ : Nat → Nat} {m : Nat} {A : Nat → Nat} {h0 h1 h2 : MH} {F1 F2 : Nat → Int} {V1 V2 : Nat → Nat → Int} {G1 G2 : Nat → Nat → Int64}
-- a run further, told from here
theorem MX.re (M : MX R W ρ m A h0 h1 F1 V1 G1) (M2 : MX R W2 ρ m A h1 h2 F2 V2 G2) (hs : d_sub W2 W = true) : MX R W ρ m A h0 h2 F2 V2 G2 := ⟨⟨M2.1.1, M2.1.2.1, M.1.2.2.trans (FS.mono hs M2.1.2.2)⟩, M2.2⟩
theorem MX.lf (M2 : MX R W2 ρ m A h1 h2 F2 V2 G2) (hR : R ≠ 0) {k : Nat} (hn : t_Wb W2 R k = false) : h_l h2 m k = h_l h1 m k := by
  have l := (M2.1.1.2 m (by rw [M2.1.2.1]; exact hR)).1
  have e : h_n h2 = h_n h1 := congrArg Prod.fst M2.1.2.2.1
  exact ((M2.1.2.2.2 m (by omega)).2 k (by rw [M2.1.2.1]; exact x_Wb hn)).2.1
end
section
variable {lv : List (Nat × Value)} {Q : Option Value → MH → Prop} {W : List (Nat × Nat)} {ρ : Nat → Nat} {m : Nat} {A : Nat → Nat} {h0 h : MH} {F : Nat → Int} {V : Nat → Nat → Int} {G : Nat → Nat → Int64}
theorem s_cl (M : MX 103 W ρ m A h0 h F V G) (e0 : m_lk lv 0 = some (.ref m)) (hw : d_sub [(103, 2)] W = true)
    (g0 : ∀ h2 : MH, ∀ F2 : Nat → Int, F2 = m_u F 2 (0) → MX 103 W ρ m A h0 h2 F2 V G → Q none h2)
    : HJ 14 0 lv [] h Q := by
  refine hI_al (k := 0) rfl e0 rfl ?_ -- 0
  refine hM_ic (n := 0) rfl (by decide) rfl (fun x1 q1 => ?_) -- 1
  refine hM_pi M (by decide) ok_103 rfl rfl (k := 2) (c := 0) (lo := 0) (hi := 40) rfl rfl ⟨by decide, by decide +kernel, rfl⟩ rfl (d_subm hw (by decide +kernel)) q1 (by omega) (by omega) rfl (fun h2 F2 f2 M2 => ?_) -- 2
  refine hI_rv rfl rfl ?_
  exact g0 h2 F2 f2 M2
theorem s_be0 {k : Int} (M : MX 103 W ρ m A h0 h F V G) (e0 : m_lk lv 0 = some (.ref m)) {lx1 : Int32} (e1 : m_lk lv 1 = some (.int lx1)) (lq1 : lx1.toInt = k) (hw : d_sub [(104, 1001)] W = true)
    (g0 : 0 ≤ F 2 → F 2 ≤ 40 → F 2 ≥ 40 → Q none h)
    (g1 : ∀ h4 : MH, ∀ V4 : Nat → Nat → Int, V4 = m_u V 0 (m_u (V 0) (F 2).toNat (k)) → ∀ x7 : Int32, x7.toInt = (F 2) * 3 → ∀ x12 : Int32, x12.toInt = ((F 2) * 3) + 3 → ∀ x13 : Int32, x13.toInt = (-1) → MX 103 W ρ m A h0 h4 F V4 G → 0 ≤ F 2 → F 2 ≤ 40 → F 2 < 40 → HJ 37 0 (lv_args 0 [.ref (A 1), .int x7, .int x12, .int x13]) [] h4 (fun v h' => HJ 36 41 lv (v.toList ++ []) h' Q))
    : HJ 36 0 lv [] h Q := by
  have lb1 : -2147483648 ≤ k ∧ k ≤ 2147483647 := by rw [← lq1]; exact g_iT _
  refine hI_al (k := 0) rfl e0 rfl ?_ -- 0
  refine hM_gi M (by decide) rfl rfl rfl (k := 2) (c := 0) (lo := 0) (hi := 40) rfl rfl rfl rfl rfl (fun x1 q1 a1 b1 => ?_) -- 1
  refine hM_bp (n := 40) rfl (by decide) rfl (fun x2 q2 => ?_) -- 4
  refine hM_cge (off := 45) (t := 51) rfl q1 q2 (by decide) rfl (fun c6 => ?_) (fun c6 => ?_) -- 6
  · refine hI_rv rfl rfl ?_
    exact g0 a1 b1 c6
  · refine hI_al (k := 0) rfl e0 rfl ?_ -- 9
    refine hM_ga M (by decide) rfl rfl (k := 0) (c := 0) rfl rfl rfl (by decide +kernel) rfl ?_ -- 10
    refine hI_al (k := 0) rfl e0 rfl ?_ -- 13
    refine hM_gi M (by decide) rfl rfl rfl (k := 2) (c := 0) (lo := 0) (hi := 40) rfl rfl rfl rfl rfl (fun x3 q3 a3 b3 => ?_) -- 14
    refine hI_il (k := 1) rfl e1 rfl ?_ -- 17
    refine hM_is M (by decide) ok_103 (K := 0) (R2 := 104) (L := 40) (H := 40) (lo := (-2147483648)) (hi := 2147483647) rfl (by decide) rfl rfl rfl (fun _ => rfl) (d_subm hw (by decide +kernel)) rfl q3 lq1 (by omega) (by omega) (by omega) (by omega) rfl (fun h4 V4 f4 M4 => ?_) -- 18
    refine hI_al (k := 0) rfl e0 rfl ?_ -- 19
    refine hM_ga M4 (by decide) rfl rfl (k := 1) (c := 0) rfl rfl rfl (by decide +kernel) rfl ?_ -- 20
    refine hI_al (k := 0) rfl e0 rfl ?_ -- 23
    refine hM_gi M4 (by decide) rfl rfl rfl (k := 2) (c := 0) (lo := 0) (hi := 40) rfl rfl rfl rfl rfl (fun x5 q5 a5 b5 => ?_) -- 24
    refine hM_ic (n := 3) rfl (by decide) rfl (fun x6 q6 => ?_) -- 27
    refine hM_mul rfl q5 q6 (by omega) (by omega) rfl (fun x7 q7 => ?_) -- 28
    refine hI_al (k := 0) rfl e0 rfl ?_ -- 29
    refine hM_gi M4 (by decide) rfl rfl rfl (k := 2) (c := 0) (lo := 0) (hi := 40) rfl rfl rfl rfl rfl (fun x8 q8 a8 b8 => ?_) -- 30
    refine hM_ic (n := 3) rfl (by decide) rfl (fun x9 q9 => ?_) -- 33
    refine hM_mul rfl q8 q9 (by omega) (by omega) rfl (fun x10 q10 => ?_) -- 34
    refine hM_ic (n := 3) rfl (by decide) rfl (fun x11 q11 => ?_) -- 35
    refine hM_add rfl q10 q11 (by omega) (by omega) rfl (fun x12 q12 => ?_) -- 36
    refine hM_ic (n := (-1)) rfl (by decide) rfl (fun x13 q13 => ?_) -- 37
    refine hM_is0 (as := [.ref (A 1), .int x7, .int x12, .int x13]) (r := []) rfl rfl (by decide +kernel) rfl rfl rfl rfl rfl ?_ -- 38
    exact g1 h4 V4 f4 x7 q7 x12 q12 x13 q13 M4 a1 b1 c6
theorem s_be41 (M : MX 103 W ρ m A h0 h F V G) (e0 : m_lk lv 0 = some (.ref m)) (z1 : F 2 ≤ 39)(hw : d_sub [(103, 2)] W = true)
    (g0 : ∀ h4 : MH, ∀ F4 : Nat → Int, F4 = m_u F 2 ((F 2) + 1) → MX 103 W ρ m A h0 h4 F4 V G → 0 ≤ F 2 → F 2 ≤ 40 → Q none h4)
    : HJ 36 41 lv [] h Q := by
  refine hI_al (k := 0) rfl e0 rfl ?_ -- 41
  refine hI_dup rfl rfl rfl ?_ -- 42
  refine hM_gi M (by decide) rfl rfl rfl (k := 2) (c := 0) (lo := 0) (hi := 40) rfl rfl rfl rfl rfl (fun x1 q1 a1 b1 => ?_) -- 43
  refine hM_ic (n := 1) rfl (by decide) rfl (fun x2 q2 => ?_) -- 46
  refine hM_add rfl q1 q2 (by omega) (by omega) rfl (fun x3 q3 => ?_) -- 47
  refine hM_pi M (by decide) ok_103 rfl rfl (k := 2) (c := 0) (lo := 0) (hi := 40) rfl rfl ⟨by decide, by decide +kernel, rfl⟩ rfl (d_subm hw (by decide +kernel)) q3 (by omega) (by omega) rfl (fun h4 F4 f4 M4 => ?_) -- 48
  refine hI_rv rfl rfl ?_
  exact g0 h4 F4 f4 M4 a1 b1
theorem s_fl0 {f t z : Int} (M : MX 103 W ρ m A h0 h F V G) (e0 : m_lk lv 0 = some (.ref (A 1))) {lx1 : Int32} (e1 : m_lk lv 1 = some (.int lx1)) (lq1 : lx1.toInt = f) {lx2 : Int32} (e2 : m_lk lv 2 = some (.int lx2)) (lq2 : lx2.toInt = t) {lx3 : Int32} (e3 : m_lk lv 3 = some (.int lx3)) (lq3 : lx3.toInt = z) 
    (g0 : ∀ x1 : Int32, ∀ z1 : Int, x1.toInt = z1 → 120 ≤ z1 → z1 ≤ 120 → z1 = ((h_k h0 (A 1)).2 : Int) → HJ 38 0 (lv_args 0 [.int x1, .int lx1, .int lx2]) [] h (fun v h' => HJ 37 7 lv (v.toList ++ []) h' Q))
    : HJ 37 0 lv [] h Q := by
  refine hI_al (k := 0) rfl e0 rfl ?_ -- 0
  refine hM_al M (by decide) (K := 1) (R2 := 105) (L := 120) (H := 120) rfl (by decide) rfl rfl (by decide) rfl rfl (fun x1 z1 q1 a1 b1 c1 => ?_) -- 1
  refine hI_il (k := 1) rfl e1 rfl ?_ -- 2
  refine hI_il (k := 2) rfl e2 rfl ?_ -- 3
  refine hM_is0 (as := [.int x1, .int lx1, .int lx2]) (r := []) rfl rfl (by decide +kernel) rfl rfl rfl rfl rfl ?_ -- 4
  exact g0 x1 z1 q1 a1 b1 c1
theorem s_fl7 {f t z : Int} (M : MX 103 W ρ m A h0 h F V G) (e0 : m_lk lv 0 = some (.ref (A 1))) {lx1 : Int32} (e1 : m_lk lv 1 = some (.int lx1)) (lq1 : lx1.toInt = f) {lx2 : Int32} (e2 : m_lk lv 2 = some (.int lx2)) (lq2 : lx2.toInt = t) {lx3 : Int32} (e3 : m_lk lv 3 = some (.int lx3)) (lq3 : lx3.toInt = z) 
    (g0 : ∀ lv1 : List (Nat × Value), m_lk lv1 0 = some (.ref (A 1)) → m_lk lv1 1 = some (.int lx1) → m_lk lv1 2 = some (.int lx2) → m_lk lv1 3 = some (.int lx3) → m_lk lv1 4 = some (.int lx1) → HJ 37 10 lv1 [] h Q)
    : HJ 37 7 lv [] h Q := by
  refine hI_il (k := 1) rfl e1 rfl ?_ -- 7
  refine hM_si2 (k := 4) rfl (by decide +kernel) rfl (fun lv1 e1_4 u1 => ?_) -- 8
  have e1_0 := u1 0 _ (by decide) (Or.inl rfl) e0
  have e1_1 := u1 1 _ (by decide) (Or.inl rfl) e1
  have e1_2 := u1 2 _ (by decide) (Or.inl rfl) e2
  have e1_3 := u1 3 _ (by decide) (Or.inl rfl) e3
  exact g0 lv1 e1_0 e1_1 e1_2 e1_3 e1_4
theorem s_fl10 {t z i : Int} (M : MX 103 W ρ m A h0 h F V G) (e0 : m_lk lv 0 = some (.ref (A 1))) {lx2 : Int32} (e2 : m_lk lv 2 = some (.int lx2)) (lq2 : lx2.toInt = t) {lx3 : Int32} (e3 : m_lk lv 3 = some (.int lx3)) (lq3 : lx3.toInt = z) {lx4 : Int32} (e4 : m_lk lv 4 = some (.int lx4)) (lq4 : lx4.toInt = i) (i0 : 0 ≤ i) (t1 : t ≤ 120)(hw : d_sub [(105, 1001)] W = true)
    (g0 : i ≥ t → Q none h)
    (g1 : ∀ h1 : MH, ∀ V1 : Nat → Nat → Int, V1 = m_u V 1 (m_u (V 1) (i).toNat (z)) → ∀ x2 : Int32, x2.toInt = i + 1 → ∀ lv2 : List (Nat × Value), MX 103 W ρ m A h0 h1 F V1 G → m_lk lv2 0 = some (.ref (A 1)) → m_lk lv2 2 = some (.int lx2) → m_lk lv2 3 = some (.int lx3) → m_lk lv2 4 = some (.int x2) → i < t → HJ 37 10 lv2 [] h1 Q)
    : HJ 37 10 lv [] h Q := by
  have lb2 : -2147483648 ≤ t ∧ t ≤ 2147483647 := by rw [← lq2]; exact g_iT _
  have lb3 : -2147483648 ≤ z ∧ z ≤ 2147483647 := by rw [← lq3]; exact g_iT _
  have lb4 : -2147483648 ≤ i ∧ i ≤ 2147483647 := by rw [← lq4]; exact g_iT _
  refine hI_il2 (k := 4) rfl e4 rfl ?_ -- 10
  refine hI_il (k := 2) rfl e2 rfl ?_ -- 12
  refine hM_cge (off := 14) (t := 27) rfl lq4 lq2 (by decide) rfl (fun c13 => ?_) (fun c13 => ?_) -- 13
  · refine hI_rv rfl rfl ?_
    exact g0 c13
  · refine hI_al (k := 0) rfl e0 rfl ?_ -- 16
    refine hI_il2 (k := 4) rfl e4 rfl ?_ -- 17
    refine hI_il (k := 3) rfl e3 rfl ?_ -- 19
    refine hM_is M (by decide) ok_103 (K := 1) (R2 := 105) (L := 120) (H := 120) (lo := (-2147483648)) (hi := 2147483647) rfl (by decide) rfl rfl rfl (fun _ => rfl) (d_subm hw (by decide +kernel)) rfl lq4 lq3 (by omega) (by omega) (by omega) (by omega) rfl (fun h1 V1 f1 M1 => ?_) -- 20
    refine hM_inc (k := 4) (z := 1) rfl e4 lq4 (by decide) (by omega) (by omega) (by decide +kernel) rfl (fun lv2 x2 q2 e2_4 u2 => ?_) -- 21
    have e2_0 := u2 0 _ (by decide) (Or.inl rfl) e0
    have e2_2 := u2 2 _ (by decide) (Or.inl rfl) e2
    have e2_3 := u2 3 _ (by decide) (Or.inl rfl) e3
    refine hI_go (pc' := 10) (off := (-14)) rfl (by decide) ?_ -- 24
    exact g1 h1 V1 f1 x2 q2 lv2 M1 e2_0 e2_2 e2_3 e2_4 c13
theorem s_tl {i v : Int} (M : MX 103 W ρ m A h0 h F V G) (e0 : m_lk lv 0 = some (.ref m)) {lx1 : Int32} (e1 : m_lk lv 1 = some (.int lx1)) (lq1 : lx1.toInt = i) {lx2 : Int32} (e2 : m_lk lv 2 = some (.int lx2)) (lq2 : lx2.toInt = v) (hw : d_sub [(105, 1001)] W = true)
    (g0 : 0 ≤ F 2 → F 2 ≤ 40 → F 2 ≤ 0 → Q none h)
    (g1 : 0 ≤ F 2 → F 2 ≤ 40 → F 2 > 0 → i < 0 → Q none h)
    (g2 : 0 ≤ F 2 → F 2 ≤ 40 → F 2 > 0 → i ≥ 0 → i ≥ 3 → Q none h)
    (g3 : ∀ h9 : MH, ∀ V9 : Nat → Nat → Int, V9 = m_u V 1 (m_u (V 1) ((((F 2) - 1) * 3) + i).toNat (v)) → MX 103 W ρ m A h0 h9 F V9 G → 0 ≤ F 2 → F 2 ≤ 40 → F 2 > 0 → i ≥ 0 → i < 3 → Q none h9)
    : HJ 39 0 lv [] h Q := by
  have lb1 : -2147483648 ≤ i ∧ i ≤ 2147483647 := by rw [← lq1]; exact g_iT _
  have lb2 : -2147483648 ≤ v ∧ v ≤ 2147483647 := by rw [← lq2]; exact g_iT _
  refine hI_al (k := 0) rfl e0 rfl ?_ -- 0
  refine hM_gi M (by decide) rfl rfl rfl (k := 2) (c := 0) (lo := 0) (hi := 40) rfl rfl rfl rfl rfl (fun x1 q1 a1 b1 => ?_) -- 1
  refine hM_zle (off := 28) (t := 32) rfl q1 (by decide) rfl (fun c4 => ?_) (fun c4 => ?_) -- 4
  · refine hI_rv rfl rfl ?_
    exact g0 a1 b1 c4
  · refine hI_il (k := 1) rfl e1 rfl ?_ -- 7
    refine hM_zlt (off := 24) (t := 32) rfl lq1 (by decide) rfl (fun c8 => ?_) (fun c8 => ?_) -- 8
    · refine hI_rv rfl rfl ?_
      exact g1 a1 b1 c4 c8
    · refine hI_il (k := 1) rfl e1 rfl ?_ -- 11
      refine hM_ic (n := 3) rfl (by decide) rfl (fun x2 q2 => ?_) -- 12
      refine hM_cge (off := 19) (t := 32) rfl lq1 q2 (by decide) rfl (fun c13 => ?_) (fun c13 => ?_) -- 13
      · refine hI_rv rfl rfl ?_
        exact g2 a1 b1 c4 c8 c13
      · refine hI_al (k := 0) rfl e0 rfl ?_ -- 16
        refine hM_ga M (by decide) rfl rfl (k := 1) (c := 0) rfl rfl rfl (by decide +kernel) rfl ?_ -- 17
        refine hI_al (k := 0) rfl e0 rfl ?_ -- 20
        refine hM_gi M (by decide) rfl rfl rfl (k := 2) (c := 0) (lo := 0) (hi := 40) rfl rfl rfl rfl rfl (fun x3 q3 a3 b3 => ?_) -- 21
        refine hM_ic (n := 1) rfl (by decide) rfl (fun x4 q4 => ?_) -- 24
        refine hM_sub rfl q3 q4 (by omega) (by omega) rfl (fun x5 q5 => ?_) -- 25
        refine hM_ic (n := 3) rfl (by decide) rfl (fun x6 q6 => ?_) -- 26
        refine hM_mul rfl q5 q6 (by omega) (by omega) rfl (fun x7 q7 => ?_) -- 27
        refine hI_il (k := 1) rfl e1 rfl ?_ -- 28
        refine hM_add rfl q7 lq1 (by omega) (by omega) rfl (fun x8 q8 => ?_) -- 29
        refine hI_il (k := 2) rfl e2 rfl ?_ -- 30
        refine hM_is M (by decide) ok_103 (K := 1) (R2 := 105) (L := 120) (H := 120) (lo := (-2147483648)) (hi := 2147483647) rfl (by decide) rfl rfl rfl (fun _ => rfl) (d_subm hw (by decide +kernel)) rfl q8 lq2 (by omega) (by omega) (by omega) (by omega) rfl (fun h9 V9 f9 M9 => ?_) -- 31
        refine hI_rv rfl rfl ?_
        exact g3 h9 V9 f9 M9 a1 b1 c4 c8 c13
theorem s_rl0 (M : MX 106 W ρ m A h0 h F V G) (e0 : m_lk lv 0 = some (.ref m)) {ac : Nat} (e1 : m_lk lv 1 = some (.ref ac)) (hr_ac : ρ ac = 103) 
    (g0 : HJ 16 0 (lv_args 0 [.ref m]) [] h (fun v h' => HJ 15 4 lv (v.toList ++ []) h' Q))
    : HJ 15 0 lv [] h Q := by
  refine hI_al (k := 0) rfl e0 rfl ?_ -- 0
  refine hM_iv M (by decide) rfl rfl (by decide) (as := []) (r := []) rfl rfl (by decide +kernel) rfl (by decide +kernel) rfl rfl rfl rfl rfl ?_ -- 1
  exact g0 
theorem s_rl4 (M : MX 106 W ρ m A h0 h F V G) (e0 : m_lk lv 0 = some (.ref m)) {ac : Nat} (e1 : m_lk lv 1 = some (.ref ac)) (hr_ac : ρ ac = 103) (b0 : 0 ≤ F 6) (b1 : F 6 ≤ 1000)(hw : d_sub [(106, 6)] W = true)
    (g0 : (-2147483648) ≤ F 4 → F 4 ≤ 2147483647 → F 4 ≠ 0 → F 4 ≠ 1 → HJ 34 0 (lv_args 0 [.ref m]) [] h (fun v h' => HJ 15 33 lv (v.toList ++ []) h' Q))
    (g1 : ∀ x6 : Int32, x6.toInt = F 5 → ∀ x10 : Int32, x10.toInt = 0 → ∀ h15 : MH, ∀ F15 : Nat → Int, F15 = m_u F 6 ((F 6) + 1) → ∀ lv11 : List (Nat × Value), MX 106 W ρ m A h0 h15 F15 V G → m_lk lv11 0 = some (.ref m) → m_lk lv11 1 = some (.ref ac) → m_lk lv11 2 = some (.int x6) → m_lk lv11 3 = some (.int x10) → (-2147483648) ≤ F 4 → F 4 ≤ 2147483647 → F 4 ≠ 0 → F 4 = 1 → (-2147483648) ≤ F 5 → F 5 ≤ 2147483647 → F 5 ≠ (-1) → (-2147483648) ≤ F 6 → F 6 ≤ 2147483647 → F 6 < 40 → HJ 15 64 lv11 [] h15 Q)
    (g2 : ∀ x6 : Int32, x6.toInt = F 5 → ∀ x16 : Int32, x16.toInt = 1 → ∀ h21 : MH, ∀ F21 : Nat → Int, F21 = m_u F 6 ((F 6) + 1) → ∀ lv17 : List (Nat × Value), MX 106 W ρ m A h0 h21 F21 V G → m_lk lv17 0 = some (.ref m) → m_lk lv17 1 = some (.ref ac) → m_lk lv17 2 = some (.int x6) → m_lk lv17 3 = some (.int x16) → (-2147483648) ≤ F 4 → F 4 ≤ 2147483647 → F 4 ≠ 0 → F 4 = 1 → (-2147483648) ≤ F 5 → F 5 ≤ 2147483647 → F 5 ≠ (-1) → (-2147483648) ≤ F 6 → F 6 ≤ 2147483647 → F 6 ≥ 40 → HJ 15 64 lv17 [] h21 Q)
    (g3 : (-2147483648) ≤ F 4 → F 4 ≤ 2147483647 → F 4 ≠ 0 → F 4 = 1 → (-2147483648) ≤ F 5 → F 5 ≤ 2147483647 → F 5 = (-1) → HJ 34 0 (lv_args 0 [.ref m]) [] h (fun v h' => HJ 15 33 lv (v.toList ++ []) h' Q))
    (g4 : ∀ x22 : Int32, x22.toInt = 0 → (-2147483648) ≤ F 4 → F 4 ≤ 2147483647 → F 4 = 0 → Q (some (.int x22)) h)
    : HJ 15 4 lv [] h Q := by
  refine hI_al (k := 0) rfl e0 rfl ?_ -- 4
  refine hM_gi M (by decide) rfl rfl rfl (k := 4) (c := 4) (lo := (-2147483648)) (hi := 2147483647) rfl rfl rfl rfl rfl (fun x1 q1 a1 b1 => ?_) -- 5
  refine hM_zne (off := 5) (t := 13) rfl q1 (by decide) rfl (fun c8 => ?_) (fun c8 => ?_) -- 8
  · refine hI_al (k := 0) rfl e0 rfl ?_ -- 13
    refine hM_gi M (by decide) rfl rfl rfl (k := 4) (c := 4) (lo := (-2147483648)) (hi := 2147483647) rfl rfl rfl rfl rfl (fun x2 q2 a2 b2 => ?_) -- 14
    refine hM_ic (n := 1) rfl (by decide) rfl (fun x3 q3 => ?_) -- 17
    refine hM_cne (off := 11) (t := 29) rfl q2 q3 (by decide) rfl (fun c18 => ?_) (fun c18 => ?_) -- 18
    · refine hI_al (k := 0) rfl e0 rfl ?_ -- 29
      refine hM_iv M (by decide) rfl rfl (by decide) (as := []) (r := []) rfl rfl (by decide +kernel) rfl (by decide +kernel) rfl rfl rfl rfl rfl ?_ -- 30
      exact g0 a1 b1 c8 c18
    · refine hI_al (k := 0) rfl e0 rfl ?_ -- 21
      refine hM_gi M (by decide) rfl rfl rfl (k := 5) (c := 4) (lo := (-2147483648)) (hi := 2147483647) rfl rfl rfl rfl rfl (fun x4 q4 a4 b4 => ?_) -- 22
      refine hM_ic (n := (-1)) rfl (by decide) rfl (fun x5 q5 => ?_) -- 25
      refine hM_cne (off := 8) (t := 34) rfl q4 q5 (by decide) rfl (fun c26 => ?_) (fun c26 => ?_) -- 26
      · refine hI_al (k := 0) rfl e0 rfl ?_ -- 34
        refine hM_gi M (by decide) rfl rfl rfl (k := 5) (c := 4) (lo := (-2147483648)) (hi := 2147483647) rfl rfl rfl rfl rfl (fun x6 q6 a6 b6 => ?_) -- 35
        refine hM_si (k := 2) rfl (by decide +kernel) rfl (fun lv7 e7_2 u7 => ?_) -- 38
        have e7_0 := u7 0 _ (by decide) (Or.inl rfl) e0
        have e7_1 := u7 1 _ (by decide) (Or.inl rfl) e1
        refine hI_al (k := 0) rfl e7_0 rfl ?_ -- 39
        refine hM_gi M (by decide) rfl rfl rfl (k := 6) (c := 4) (lo := (-2147483648)) (hi := 2147483647) rfl rfl rfl rfl rfl (fun x8 q8 a8 b8 => ?_) -- 40
        refine hM_bp (n := 40) rfl (by decide) rfl (fun x9 q9 => ?_) -- 43
        refine hM_clt (off := 7) (t := 52) rfl q8 q9 (by decide) rfl (fun c45 => ?_) (fun c45 => ?_) -- 45
        · refine hM_ic (n := 0) rfl (by decide) rfl (fun x10 q10 => ?_) -- 52
          refine hM_si (k := 3) rfl (by decide +kernel) rfl (fun lv11 e11_3 u11 => ?_) -- 53
          have e11_0 := u11 0 _ (by decide) (Or.inl rfl) e7_0
          have e11_1 := u11 1 _ (by decide) (Or.inl rfl) e7_1
          have e11_2 := u11 2 _ (by decide) (Or.inl rfl) e7_2
          refine hI_al (k := 0) rfl e11_0 rfl ?_ -- 54
          refine hI_dup rfl rfl rfl ?_ -- 55
          refine hM_gi M (by decide) rfl rfl rfl (k := 6) (c := 4) (lo := (-2147483648)) (hi := 2147483647) rfl rfl rfl rfl rfl (fun x12 q12 a12 b12 => ?_) -- 56
          refine hM_ic (n := 1) rfl (by decide) rfl (fun x13 q13 => ?_) -- 59
          refine hM_add rfl q12 q13 (by omega) (by omega) rfl (fun x14 q14 => ?_) -- 60
          refine hM_pi M (by decide) ok_106 rfl rfl (k := 6) (c := 4) (lo := (-2147483648)) (hi := 2147483647) rfl rfl ⟨by decide, by decide +kernel, rfl⟩ rfl (d_subm hw (by decide +kernel)) q14 (by omega) (by omega) rfl (fun h15 F15 f15 M15 => ?_) -- 61
          exact g1 x6 q6 x10 q10 h15 F15 f15 lv11 M15 e11_0 e11_1 e11_2 e11_3 a1 b1 c8 c18 a4 b4 c26 a8 b8 c45
        · refine hM_ic (n := 1) rfl (by decide) rfl (fun x16 q16 => ?_) -- 48
          refine hI_go (pc' := 53) (off := 4) rfl (by decide) ?_ -- 49
          refine hM_si (k := 3) rfl (by decide +kernel) rfl (fun lv17 e17_3 u17 => ?_) -- 53
          have e17_0 := u17 0 _ (by decide) (Or.inl rfl) e7_0
          have e17_1 := u17 1 _ (by decide) (Or.inl rfl) e7_1
          have e17_2 := u17 2 _ (by decide) (Or.inl rfl) e7_2
          refine hI_al (k := 0) rfl e17_0 rfl ?_ -- 54
          refine hI_dup rfl rfl rfl ?_ -- 55
          refine hM_gi M (by decide) rfl rfl rfl (k := 6) (c := 4) (lo := (-2147483648)) (hi := 2147483647) rfl rfl rfl rfl rfl (fun x18 q18 a18 b18 => ?_) -- 56
          refine hM_ic (n := 1) rfl (by decide) rfl (fun x19 q19 => ?_) -- 59
          refine hM_add rfl q18 q19 (by omega) (by omega) rfl (fun x20 q20 => ?_) -- 60
          refine hM_pi M (by decide) ok_106 rfl rfl (k := 6) (c := 4) (lo := (-2147483648)) (hi := 2147483647) rfl rfl ⟨by decide, by decide +kernel, rfl⟩ rfl (d_subm hw (by decide +kernel)) q20 (by omega) (by omega) rfl (fun h21 F21 f21 M21 => ?_) -- 61
          exact g2 x6 q6 x16 q16 h21 F21 f21 lv17 M21 e17_0 e17_1 e17_2 e17_3 a1 b1 c8 c18 a4 b4 c26 a8 b8 c45
      · refine hI_al (k := 0) rfl e0 rfl ?_ -- 29
        refine hM_iv M (by decide) rfl rfl (by decide) (as := []) (r := []) rfl rfl (by decide +kernel) rfl (by decide +kernel) rfl rfl rfl rfl rfl ?_ -- 30
        exact g3 a1 b1 c8 c18 a4 b4 c26
  · refine hM_ic (n := 0) rfl (by decide) rfl (fun x22 q22 => ?_) -- 11
    refine hM_rb rfl rfl q22 (by omega) (by omega) ?_ -- 12
    exact g4 x22 q22 a1 b1 c8
theorem s_rl33 {z : Int}  {sx0 : Int32} (sq0 : sx0.toInt = z) (z0 : 0 ≤ z) (z1 : z ≤ 1)
    (g0 : Q (some (.int sx0)) h)
    : HJ 15 33 lv [.int sx0] h Q := by
  refine hM_rb rfl rfl sq0 (by omega) (by omega) ?_ -- 33
  exact g0 
theorem s_rl64 {k t : Int} (M : MX 106 W ρ m A h0 h F V G) (e0 : m_lk lv 0 = some (.ref m)) {ac : Nat} (e1 : m_lk lv 1 = some (.ref ac)) (hr_ac : ρ ac = 103) {lx2 : Int32} (e2 : m_lk lv 2 = some (.int lx2)) (lq2 : lx2.toInt = k) {lx3 : Int32} (e3 : m_lk lv 3 = some (.int lx3)) (lq3 : lx3.toInt = t) 
    (g0 : t = 0 → HJ 36 0 (lv_args 0 [.ref ac, .int lx2]) [] h (fun v h' => HJ 15 85 lv (v.toList ++ []) h' Q))
    (g1 : ∀ x1 : Int32, x1.toInt = 3 → ∀ x2 : Int32, x2.toInt = F 2 → t ≠ 0 → 0 ≤ F 2 → F 2 ≤ 600 → HJ 35 0 (lv_args 0 [.ref m, .int x1, .int x2]) [] h (fun v h' => HJ 15 77 lv (v.toList ++ []) h' Q))
    : HJ 15 64 lv [] h Q := by
  refine hI_il (k := 3) rfl e3 rfl ?_ -- 64
  refine hM_zeq (off := 15) (t := 80) rfl lq3 (by decide) rfl (fun c65 => ?_) (fun c65 => ?_) -- 65
  · refine hI_al (k := 1) rfl e1 rfl ?_ -- 80
    refine hI_il (k := 2) rfl e2 rfl ?_ -- 81
    refine hM_iv (MX.start (W := W) M.1.1 hr_ac) (by decide) rfl rfl (by decide) (as := [.int lx2]) (r := []) rfl rfl (by decide +kernel) rfl (by decide +kernel) rfl rfl rfl rfl rfl ?_ -- 82
    exact g0 c65
  · refine hI_al (k := 0) rfl e0 rfl ?_ -- 68
    refine hM_ic (n := 3) rfl (by decide) rfl (fun x1 q1 => ?_) -- 69
    refine hI_al (k := 0) rfl e0 rfl ?_ -- 70
    refine hM_gi M (by decide) rfl rfl rfl (k := 2) (c := 4) (lo := 0) (hi := 600) rfl rfl rfl rfl rfl (fun x2 q2 a2 b2 => ?_) -- 71
    refine hM_iv M (by decide) rfl rfl (by decide) (as := [.int x1, .int x2]) (r := []) rfl rfl (by decide +kernel) rfl (by decide +kernel) rfl rfl rfl rfl rfl ?_ -- 74
    exact g1 x1 q1 x2 q2 c65 a2 b2
theorem s_rl77 {k t : Int} (M : MX 106 W ρ m A h0 h F V G) (e0 : m_lk lv 0 = some (.ref m)) {ac : Nat} (e1 : m_lk lv 1 = some (.ref ac)) (hr_ac : ρ ac = 103) {lx2 : Int32} (e2 : m_lk lv 2 = some (.int lx2)) (lq2 : lx2.toInt = k) {lx3 : Int32} (e3 : m_lk lv 3 = some (.int lx3)) (lq3 : lx3.toInt = t) 
    (g0 : HJ 15 85 lv [] h Q)
    : HJ 15 77 lv [] h Q := by
  refine hI_go (pc' := 85) (off := 8) rfl (by decide) ?_ -- 77
  exact g0 
theorem s_rl85 {k t : Int} (M : MX 106 W ρ m A h0 h F V G) (e0 : m_lk lv 0 = some (.ref m)) {ac : Nat} (e1 : m_lk lv 1 = some (.ref ac)) (hr_ac : ρ ac = 103) {lx2 : Int32} (e2 : m_lk lv 2 = some (.int lx2)) (lq2 : lx2.toInt = k) {lx3 : Int32} (e3 : m_lk lv 3 = some (.int lx3)) (lq3 : lx3.toInt = t) 
    (g0 : ∀ x1 : Int32, x1.toInt = 0 → ∀ lv2 : List (Nat × Value), m_lk lv2 0 = some (.ref m) → m_lk lv2 1 = some (.ref ac) → m_lk lv2 2 = some (.int lx2) → m_lk lv2 3 = some (.int lx3) → m_lk lv2 4 = some (.int x1) → HJ 15 88 lv2 [] h Q)
    : HJ 15 85 lv [] h Q := by
  refine hM_ic (n := 0) rfl (by decide) rfl (fun x1 q1 => ?_) -- 85
  refine hM_si2 (k := 4) rfl (by decide +kernel) rfl (fun lv2 e2_4 u2 => ?_) -- 86
  have e2_0 := u2 0 _ (by decide) (Or.inl rfl) e0
  have e2_1 := u2 1 _ (by decide) (Or.inl rfl) e1
  have e2_2 := u2 2 _ (by decide) (Or.inl rfl) e2
  have e2_3 := u2 3 _ (by decide) (Or.inl rfl) e3
  exact g0 x1 q1 lv2 e2_0 e2_1 e2_2 e2_3 e2_4
theorem s_rl88 {k t i : Int} (M : MX 106 W ρ m A h0 h F V G) (e0 : m_lk lv 0 = some (.ref m)) {ac : Nat} (e1 : m_lk lv 1 = some (.ref ac)) (hr_ac : ρ ac = 103) {lx2 : Int32} (e2 : m_lk lv 2 = some (.int lx2)) (lq2 : lx2.toInt = k) {lx3 : Int32} (e3 : m_lk lv 3 = some (.int lx3)) (lq3 : lx3.toInt = t) {lx4 : Int32} (e4 : m_lk lv 4 = some (.int lx4)) (lq4 : lx4.toInt = i) (hlim : lim_ok h) (k0 : 0 ≤ k) (k5 : k ≤ 5) (i0 : 0 ≤ i)
    (g0 : i ≥ 3 → HJ 15 171 lv [] h Q)
    (g1 : i < 3 → lm_at ((k * 3) + i).toNat = (-1) → HJ 15 171 lv [] h Q)
    (g2 : i < 3 → lm_at ((k * 3) + i).toNat ≠ (-1) → HJ 16 0 (lv_args 0 [.ref m]) [] h (fun v h' => HJ 15 112 lv (v.toList ++ []) h' Q))
    : HJ 15 88 lv [] h Q := by
  refine hI_il2 (k := 4) rfl e4 rfl ?_ -- 88
  refine hM_ic (n := 3) rfl (by decide) rfl (fun x1 q1 => ?_) -- 90
  refine hM_cge (off := 80) (t := 171) rfl lq4 q1 (by decide) rfl (fun c91 => ?_) (fun c91 => ?_) -- 91
  · exact g0 c91
  · refine hI_gs2 rfl rfl rfl ?_ -- 94
    refine hI_il (k := 2) rfl e2 rfl ?_ -- 97
    refine hM_ic (n := 3) rfl (by decide) rfl (fun x2 q2 => ?_) -- 98
    refine hM_mul rfl lq2 q2 (by omega) (by omega) rfl (fun x3 q3 => ?_) -- 99
    refine hI_il2 (k := 4) rfl e4 rfl ?_ -- 100
    refine hM_add rfl q3 lq4 (by omega) (by omega) rfl (fun x4 q4 => ?_) -- 102
    refine hM_lim hlim rfl q4 (by omega) (by omega) rfl (fun x5 q5 => ?_) -- 103
    refine hM_ic (n := (-1)) rfl (by decide) rfl (fun x6 q6 => ?_) -- 104
    refine hM_ceq (off := 66) (t := 171) rfl q5 q6 (by decide) rfl (fun c105 => ?_) (fun c105 => ?_) -- 105
    · exact g1 c91 c105
    · refine hI_al (k := 0) rfl e0 rfl ?_ -- 108
      refine hM_iv M (by decide) rfl rfl (by decide) (as := []) (r := []) rfl rfl (by decide +kernel) rfl (by decide +kernel) rfl rfl rfl rfl rfl ?_ -- 109
      exact g2 c91 c105
theorem s_rl112 {k t i : Int} (M : MX 106 W ρ m A h0 h F V G) (e0 : m_lk lv 0 = some (.ref m)) {ac : Nat} (e1 : m_lk lv 1 = some (.ref ac)) (hr_ac : ρ ac = 103) {lx2 : Int32} (e2 : m_lk lv 2 = some (.int lx2)) (lq2 : lx2.toInt = k) {lx3 : Int32} (e3 : m_lk lv 3 = some (.int lx3)) (lq3 : lx3.toInt = t) {lx4 : Int32} (e4 : m_lk lv 4 = some (.int lx4)) (lq4 : lx4.toInt = i) (hlim : lim_ok h) (k0 : 0 ≤ k) (k5 : k ≤ 5) (i0 : 0 ≤ i) (i2 : i ≤ 2)
    (g0 : (-2147483648) ≤ F 4 → F 4 ≤ 2147483647 → F 4 = 2 → (-2147483648) ≤ F 5 → F 5 ≤ 2147483647 → F 5 ≤ lm_at ((k * 3) + i).toNat → HJ 15 151 lv [] h Q)
    (g1 : ∀ x8 : Int32, x8.toInt = 2 → ∀ x9 : Int32, x9.toInt = F 2 → (-2147483648) ≤ F 4 → F 4 ≤ 2147483647 → F 4 = 2 → (-2147483648) ≤ F 5 → F 5 ≤ 2147483647 → F 5 > lm_at ((k * 3) + i).toNat → 0 ≤ F 2 → F 2 ≤ 600 → HJ 35 0 (lv_args 0 [.ref m, .int x8, .int x9]) [] h (fun v h' => HJ 15 151 lv (v.toList ++ []) h' Q))
    (g2 : (-2147483648) ≤ F 4 → F 4 ≤ 2147483647 → F 4 ≠ 2 → HJ 34 0 (lv_args 0 [.ref m]) [] h (fun v h' => HJ 15 124 lv (v.toList ++ []) h' Q))
    : HJ 15 112 lv [] h Q := by
  refine hI_al (k := 0) rfl e0 rfl ?_ -- 112
  refine hM_gi M (by decide) rfl rfl rfl (k := 4) (c := 4) (lo := (-2147483648)) (hi := 2147483647) rfl rfl rfl rfl rfl (fun x1 q1 a1 b1 => ?_) -- 113
  refine hM_ic (n := 2) rfl (by decide) rfl (fun x2 q2 => ?_) -- 116
  refine hM_ceq (off := 8) (t := 125) rfl q1 q2 (by decide) rfl (fun c117 => ?_) (fun c117 => ?_) -- 117
  · refine hI_al (k := 0) rfl e0 rfl ?_ -- 125
    refine hM_gi M (by decide) rfl rfl rfl (k := 5) (c := 4) (lo := (-2147483648)) (hi := 2147483647) rfl rfl rfl rfl rfl (fun x3 q3 a3 b3 => ?_) -- 126
    refine hI_gs2 rfl rfl rfl ?_ -- 129
    refine hI_il (k := 2) rfl e2 rfl ?_ -- 132
    refine hM_ic (n := 3) rfl (by decide) rfl (fun x4 q4 => ?_) -- 133
    refine hM_mul rfl lq2 q4 (by omega) (by omega) rfl (fun x5 q5 => ?_) -- 134
    refine hI_il2 (k := 4) rfl e4 rfl ?_ -- 135
    refine hM_add rfl q5 lq4 (by omega) (by omega) rfl (fun x6 q6 => ?_) -- 137
    refine hM_lim hlim rfl q6 (by omega) (by omega) rfl (fun x7 q7 => ?_) -- 138
    refine hM_cle (off := 12) (t := 151) rfl q3 q7 (by decide) rfl (fun c139 => ?_) (fun c139 => ?_) -- 139
    · exact g0 a1 b1 c117 a3 b3 c139
    · refine hI_al (k := 0) rfl e0 rfl ?_ -- 142
      refine hM_ic (n := 2) rfl (by decide) rfl (fun x8 q8 => ?_) -- 143
      refine hI_al (k := 0) rfl e0 rfl ?_ -- 144
      refine hM_gi M (by decide) rfl rfl rfl (k := 2) (c := 4) (lo := 0) (hi := 600) rfl rfl rfl rfl rfl (fun x9 q9 a9 b9 => ?_) -- 145
      refine hM_iv M (by decide) rfl rfl (by decide) (as := [.int x8, .int x9]) (r := []) rfl rfl (by decide +kernel) rfl (by decide +kernel) rfl rfl rfl rfl rfl ?_ -- 148
      exact g1 x8 q8 x9 q9 a1 b1 c117 a3 b3 c139 a9 b9
  · refine hI_al (k := 0) rfl e0 rfl ?_ -- 120
    refine hM_iv M (by decide) rfl rfl (by decide) (as := []) (r := []) rfl rfl (by decide +kernel) rfl (by decide +kernel) rfl rfl rfl rfl rfl ?_ -- 121
    exact g2 a1 b1 c117
theorem s_rl124 {z : Int}  {sx0 : Int32} (sq0 : sx0.toInt = z) (z0 : 0 ≤ z) (z1 : z ≤ 1)
    (g0 : Q (some (.int sx0)) h)
    : HJ 15 124 lv [.int sx0] h Q := by
  refine hM_rb rfl rfl sq0 (by omega) (by omega) ?_ -- 124
  exact g0 
theorem s_rl151 {k t i : Int} (M : MX 106 W ρ m A h0 h F V G) (e0 : m_lk lv 0 = some (.ref m)) {ac : Nat} (e1 : m_lk lv 1 = some (.ref ac)) (hr_ac : ρ ac = 103) {lx2 : Int32} (e2 : m_lk lv 2 = some (.int lx2)) (lq2 : lx2.toInt = k) {lx3 : Int32} (e3 : m_lk lv 3 = some (.int lx3)) (lq3 : lx3.toInt = t) {lx4 : Int32} (e4 : m_lk lv 4 = some (.int lx4)) (lq4 : lx4.toInt = i) 
    (g0 : t ≠ 0 → HJ 15 165 lv [] h Q)
    (g1 : ∀ x1 : Int32, x1.toInt = F 5 → t = 0 → (-2147483648) ≤ F 5 → F 5 ≤ 2147483647 → HJ 39 0 (lv_args 0 [.ref ac, .int lx4, .int x1]) [] h (fun v h' => HJ 15 165 lv (v.toList ++ []) h' Q))
    : HJ 15 151 lv [] h Q := by
  refine hI_il (k := 3) rfl e3 rfl ?_ -- 151
  refine hM_zne (off := 13) (t := 165) rfl lq3 (by decide) rfl (fun c152 => ?_) (fun c152 => ?_) -- 152
  · exact g0 c152
  · refine hI_al (k := 1) rfl e1 rfl ?_ -- 155
    refine hI_il2 (k := 4) rfl e4 rfl ?_ -- 156
    refine hI_al (k := 0) rfl e0 rfl ?_ -- 158
    refine hM_gi M (by decide) rfl rfl rfl (k := 5) (c := 4) (lo := (-2147483648)) (hi := 2147483647) rfl rfl rfl rfl rfl (fun x1 q1 a1 b1 => ?_) -- 159
    refine hM_iv (MX.start (W := W) M.1.1 hr_ac) (by decide) rfl rfl (by decide) (as := [.int lx4, .int x1]) (r := []) rfl rfl (by decide +kernel) rfl (by decide +kernel) rfl rfl rfl rfl rfl ?_ -- 162
    exact g1 x1 q1 c152 a1 b1
theorem s_rl165 {k t i : Int} (M : MX 106 W ρ m A h0 h F V G) (e0 : m_lk lv 0 = some (.ref m)) {ac : Nat} (e1 : m_lk lv 1 = some (.ref ac)) (hr_ac : ρ ac = 103) {lx2 : Int32} (e2 : m_lk lv 2 = some (.int lx2)) (lq2 : lx2.toInt = k) {lx3 : Int32} (e3 : m_lk lv 3 = some (.int lx3)) (lq3 : lx3.toInt = t) {lx4 : Int32} (e4 : m_lk lv 4 = some (.int lx4)) (lq4 : lx4.toInt = i) (i0 : 0 ≤ i) (i2 : i ≤ 2)
    (g0 : ∀ x1 : Int32, x1.toInt = i + 1 → ∀ lv1 : List (Nat × Value), m_lk lv1 0 = some (.ref m) → m_lk lv1 1 = some (.ref ac) → m_lk lv1 2 = some (.int lx2) → m_lk lv1 3 = some (.int lx3) → m_lk lv1 4 = some (.int x1) → HJ 15 88 lv1 [] h Q)
    : HJ 15 165 lv [] h Q := by
  refine hM_inc (k := 4) (z := 1) rfl e4 lq4 (by decide) (by omega) (by omega) (by decide +kernel) rfl (fun lv1 x1 q1 e1_4 u1 => ?_) -- 165
  have e1_0 := u1 0 _ (by decide) (Or.inl rfl) e0
  have e1_1 := u1 1 _ (by decide) (Or.inl rfl) e1
  have e1_2 := u1 2 _ (by decide) (Or.inl rfl) e2
  have e1_3 := u1 3 _ (by decide) (Or.inl rfl) e3
  refine hI_go (pc' := 88) (off := (-80)) rfl (by decide) ?_ -- 168
  exact g0 x1 q1 lv1 e1_0 e1_1 e1_2 e1_3 e1_4
theorem s_rl171 (M : MX 106 W ρ m A h0 h F V G) (e0 : m_lk lv 0 = some (.ref m)) {ac : Nat} (e1 : m_lk lv 1 = some (.ref ac)) (hr_ac : ρ ac = 103) 
    (g0 : HJ 16 0 (lv_args 0 [.ref m]) [] h (fun v h' => HJ 15 175 lv (v.toList ++ []) h' Q))
    : HJ 15 171 lv [] h Q := by
  refine hI_al (k := 0) rfl e0 rfl ?_ -- 171
  refine hM_iv M (by decide) rfl rfl (by decide) (as := []) (r := []) rfl rfl (by decide +kernel) rfl (by decide +kernel) rfl rfl rfl rfl rfl ?_ -- 172
  exact g0 
theorem s_rl175 (M : MX 106 W ρ m A h0 h F V G) (e0 : m_lk lv 0 = some (.ref m)) {ac : Nat} (e1 : m_lk lv 1 = some (.ref ac)) (hr_ac : ρ ac = 103) 
    (g0 : ∀ x3 : Int32, x3.toInt = 1 → (-2147483648) ≤ F 4 → F 4 ≤ 2147483647 → F 4 = 3 → Q (some (.int x3)) h)
    (g1 : (-2147483648) ≤ F 4 → F 4 ≤ 2147483647 → F 4 ≠ 3 → HJ 34 0 (lv_args 0 [.ref m]) [] h (fun v h' => HJ 15 187 lv (v.toList ++ []) h' Q))
    : HJ 15 175 lv [] h Q := by
  refine hI_al (k := 0) rfl e0 rfl ?_ -- 175
  refine hM_gi M (by decide) rfl rfl rfl (k := 4) (c := 4) (lo := (-2147483648)) (hi := 2147483647) rfl rfl rfl rfl rfl (fun x1 q1 a1 b1 => ?_) -- 176
  refine hM_ic (n := 3) rfl (by decide) rfl (fun x2 q2 => ?_) -- 179
  refine hM_ceq (off := 10) (t := 190) rfl q1 q2 (by decide) rfl (fun c180 => ?_) (fun c180 => ?_) -- 180
  · refine hM_ic (n := 1) rfl (by decide) rfl (fun x3 q3 => ?_) -- 190
    refine hI_go (pc' := 195) (off := 4) rfl (by decide) ?_ -- 191
    refine hM_rb rfl rfl q3 (by omega) (by omega) ?_ -- 195
    exact g0 x3 q3 a1 b1 c180
  · refine hI_al (k := 0) rfl e0 rfl ?_ -- 183
    refine hM_iv M (by decide) rfl rfl (by decide) (as := []) (r := []) rfl rfl (by decide +kernel) rfl (by decide +kernel) rfl rfl rfl rfl rfl ?_ -- 184
    exact g1 a1 b1 c180
theorem s_rl187 {z : Int}  {sx0 : Int32} (sq0 : sx0.toInt = z) 
    (g0 : ∀ x1 : Int32, x1.toInt = 0 → z = 0 → Q (some (.int x1)) h)
    (g1 : ∀ x2 : Int32, x2.toInt = 1 → z ≠ 0 → Q (some (.int x2)) h)
    : HJ 15 187 lv [.int sx0] h Q := by
  refine hM_zeq (off := 7) (t := 194) rfl sq0 (by decide) rfl (fun c187 => ?_) (fun c187 => ?_) -- 187
  · refine hM_ic (n := 0) rfl (by decide) rfl (fun x1 q1 => ?_) -- 194
    refine hM_rb rfl rfl q1 (by omega) (by omega) ?_ -- 195
    exact g0 x1 q1 c187
  · refine hM_ic (n := 1) rfl (by decide) rfl (fun x2 q2 => ?_) -- 190
    refine hI_go (pc' := 195) (off := 4) rfl (by decide) ?_ -- 191
    refine hM_rb rfl rfl q2 (by omega) (by omega) ?_ -- 195
    exact g1 x2 q2 c187
-- an act's numbers, all of them none
theorem l_fl {t : Nat} {z : Int} {xt xz : Int32} {V0 : Nat → Nat → Int} {f : Nat} (hw : d_sub [(105, 1001)] W = true) (qt : xt.toInt = (t : Int)) (t1 : t ≤ 120) (qz : xz.toInt = z) (g : ∀ (h' : MH) (V' : Nat → Nat → Int), MX 103 W ρ m A h0 h' F V' G → (∀ j, V' 1 j = if f ≤ j ∧ j < t then z else V0 1 j) → (∀ K, K ≠ 1 → V' K = V0 K) → Q none h') : ∀ (d i : Nat) (lv : List (Nat × Value)) (h : MH) (V : Nat → Nat → Int) (xi : Int32), i + d = t → f ≤ i → MX 103 W ρ m A h0 h F V G → xi.toInt = (i : Int) → (∀ j, V 1 j = if f ≤ j ∧ j < i then z else V0 1 j) → (∀ K, K ≠ 1 → V K = V0 K) → m_lk lv 0 = some (.ref (A 1)) → m_lk lv 2 = some (.int xt) → m_lk lv 3 = some (.int xz) → m_lk lv 4 = some (.int xi) → HJ 37 10 lv [] h Q := by
  intro d
  induction d with
  | zero =>
    intro i lv h V xi hd hf M qi v o e0 e2 e3 e4
    have : i = t := by omega
    subst this
    exact s_fl10 M e0 e2 qt e3 qz e4 qi (by omega) (by omega) hw (fun _ => g h V M v o) (fun _ _ _ _ _ _ _ _ _ _ _ c => by omega)
  | succ d ih =>
    intro i lv h V xi hd hf M qi v o e0 e2 e3 e4
    refine s_fl10 M e0 e2 qt e3 qz e4 qi (by omega) (by omega) hw (fun c => by omega) (fun h1 V1 f1 x2 q2 lv2 M1 d0 d2 d3 d4 c => ih (i + 1) lv2 h1 V1 x2 (by omega) (by omega) M1 (by omega) (fun j => ?_) (fun K hK => by rw [f1, m_uN _ _ _ _ hK]; exact o K hK) d0 d2 d3 d4)
    have hi : ((i : Nat) : Int).toNat = i := by omega
    rw [f1, m_uE, hi]
    by_cases e : j = i
    · rw [e, m_uE, if_pos (by omega)]
    · rw [m_uN _ _ _ _ e, v j]
      by_cases c1 : f ≤ j ∧ j < i
      · rw [if_pos c1, if_pos (by omega)]
      · rw [if_neg c1, if_neg (by omega)]
def w_ac : List (Nat × Nat) := [(103, 2), (104, 1001), (105, 1001)]
theorem c_begin {g : Nat} {k : Int} {xk : Int32} (M : MX 103 W ρ m A h0 h F V G) (hw : d_sub w_ac W = true) (q2 : F 2 = (g : Int)) (g40 : g < 40) (qk : xk.toInt = k) (gg : ∀ (h' : MH) (F' : Nat → Int) (V' : Nat → Nat → Int), MX 103 W ρ m A h0 h' F' V' G → F' 2 = ((g + 1 : Nat) : Int) → V' 0 = m_u (V 0) g k → (∀ j, V' 1 j = if 3 * g ≤ j ∧ j < 3 * g + 3 then -1 else V 1 j) → Q none h') : HJ 36 0 (lv_args 0 [.ref m, .int xk]) [] h Q := by
  have hg : (F 2).toNat = g := by omega
  refine s_be0 M rfl rfl qk (d_subm hw (by decide +kernel)) (fun _ _ c => by omega) (fun h4 V4 f4 x7 q7 x12 q12 x13 q13 M4 _ _ _ => s_fl0 M4 rfl rfl q7 rfl q12 rfl q13 (fun x1 z1 q1 a1 b1 _ => c_rc (by omega) (by omega) (by omega) (s_fl7 M4 rfl rfl q7 rfl q12 rfl q13 (fun lv1 d0 d1 d2 d3 d4 => ?_))))
  refine l_fl (t := 3 * g + 3) (f := 3 * g) (V0 := V4) (d_subm hw (by decide +kernel)) (by omega) (by omega) q13 (fun h5 V5 M5 v5 o5 => ?_) 3 (3 * g) lv1 h4 V4 x7 (by omega) (Nat.le_refl _) M4 (by omega) (fun j => by rw [if_neg (by omega)]) (fun _ _ => rfl) d0 d2 d3 d4
  refine s_be41 M5 rfl (by omega) (d_subm hw (by decide +kernel)) (fun h6 F6 f6 M6 _ _ => gg h6 F6 V5 M6 (by rw [f6, m_uE]; omega) ?_ (fun j => ?_))
  · rw [o5 0 (by decide), f4, m_uE, hg]
  · rw [v5 j, f4, m_uN _ _ _ _ (by decide)]
theorem c_tell {g i : Nat} {v : Int} {xi xv : Int32} (M : MX 103 W ρ m A h0 h F V G) (hw : d_sub w_ac W = true) (q2 : F 2 = (g : Int)) (g1 : 1 ≤ g) (qi : xi.toInt = (i : Int)) (i3 : i < 3) (qv : xv.toInt = v) (gg : ∀ (h' : MH) (V' : Nat → Nat → Int), MX 103 W ρ m A h0 h' F V' G → V' = m_u V 1 (m_u (V 1) (3 * (g - 1) + i) v) → Q none h') : HJ 39 0 (lv_args 0 [.ref m, .int xi, .int xv]) [] h Q := by
  have hj : ((F 2 - 1) * 3 + (i : Int)).toNat = 3 * (g - 1) + i := by omega
  exact s_tl M rfl rfl qi rfl qv (d_subm hw (by decide +kernel)) (fun _ _ c => by omega) (fun _ _ _ c => by omega) (fun _ _ _ _ c => by omega) (fun h9 V9 f9 M9 _ _ _ _ _ => gg h9 V9 M9 (by rw [hj] at f9; exact f9))
theorem c_gn {s : Nat} (M : MX 106 W ρ m A h0 h F V G) (hw : d_sub [(106, 7), (106, 8)] W = true) (q2 : F 2 = (s : Int)) (g : ∀ (x : Int32) (h' : MH) (F' : Nat → Int), x.toInt = 0 → MX 106 W ρ m A h0 h' F' V G → F' 7 = 1 → F' 8 = (s : Int) → (∀ K, K ≠ 7 → K ≠ 8 → F' K = F K) → Q (some (.int x)) h') : HJ 34 0 (lv_args 0 [.ref m]) [] h Q :=
  s_gn M rfl hw (fun h2 F2 f2 h4 F4 f4 x5 q5 M4 _ _ => g x5 h4 F4 q5 M4 (by rw [f4, m_uN _ _ _ _ (by decide), f2, m_uE]) (by rw [f4, m_uE]; exact q2) (fun K a b => by rw [f4, m_uN _ _ _ _ b, f2, m_uN _ _ _ _ a]))
theorem c_note {w p : Int} {xw xp : Int32} (M : MX 106 W ρ m A h0 h F V G) (hw : d_sub [(106, 7), (106, 8)] W = true) (qw : xw.toInt = w) (qp : xp.toInt = p) (g : ∀ (h' : MH) (F' : Nat → Int), MX 106 W ρ m A h0 h' F' V G → F' 7 = (if F 7 = 0 then w else F 7) → F' 8 = (if F 7 = 0 then p else F 8) → (∀ K, K ≠ 7 → K ≠ 8 → F' K = F K) → Q none h') : HJ 35 0 (lv_args 0 [.ref m, .int xw, .int xp]) [] h Q :=
  s_nto M rfl rfl qw rfl qp (by rw [← qw]; exact g_iT _) (by rw [← qp]; exact g_iT _) hw (fun _ _ c => g h F M (by rw [if_neg c]) (by rw [if_neg c]) (fun _ _ _ => rfl)) (fun h2 F2 f2 h3 F3 f3 M3 _ _ c => g h3 F3 M3 (by rw [f3, m_uN _ _ _ _ (by decide), f2, m_uE, if_pos c]) (by rw [f3, m_uE, if_pos c]) (fun K a b => by rw [f3, m_uN _ _ _ _ b, f2, m_uN _ _ _ _ a]))
end
