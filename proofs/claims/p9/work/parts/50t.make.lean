-- A NODE MORE
section
variable {i pc pc' : Nat} {lv : List (Nat × Value)} {st : List Value} {h : MH} {Q : Option Value → MH → Prop}
theorem hI_min {idx nest : Nat} {x y : Int32} (a : m_at i pc = some (.invokestatic idx, 3)) (hm : m_ml i idx = some (nest, 13)) (hc : nest = 0 ∧ 1 ≤ m_fr i ∧ m_cat st + 13 ≤ m_lo i) (hp : pc + 3 = pc') (g : HJ i pc' lv (.int (if y < x then y else x) :: st) h Q) : HJ i pc lv (.int y :: .int x :: st) h Q := by
  subst hp
  refine HJ.ex a (Or.inl rfl) ?_ g
  show e_call 0 i idx pc lv (.int y :: .int x :: st) h = _
  unfold e_call
  rw [hm]
  dsimp only
  rw [if_neg (by decide), if_neg (by decide), if_pos (show (13 : Nat) = m_jmin ∨ (13 : Nat) = m_jmax from Or.inl rfl), if_pos ⟨rfl, hc⟩, if_pos (show (13 : Nat) = m_jmin from rfl)]
  rfl
theorem hI_cp {idx nest a0 a1 : Nat} {sp dp n : Int32} {h' : MH} (a : m_at i pc = some (.invokestatic idx, 3)) (hm : m_ml i idx = some (nest, 901)) (hc : 16 ≤ a0 ∧ 16 ≤ a1 ∧ ¬ sp < 0 ∧ ¬ dp < 0 ∧ ¬ n < 0 ∧ sp.toNatClampNeg + n.toNatClampNeg ≤ (h_k h a0).2 ∧ dp.toNatClampNeg + n.toNatClampNeg ≤ (h_k h a1).2 ∧ 1 ≤ m_fr i ∧ m_cat st + 18 ≤ m_lo i ∧ m_cat st ≤ 8) (hh : ((h_k h a0).1 = 20 ∧ (h_k h a1).1 = 20 ∧ h' = h_cpi h a0 a1 sp.toNatClampNeg dp.toNatClampNeg n.toNatClampNeg) ∨ ((h_k h a0).1 = 25 ∧ (h_k h a1).1 = 25 ∧ h' = h_cpl h a0 a1 sp.toNatClampNeg dp.toNatClampNeg n.toNatClampNeg)) (hp : pc + 3 = pc') (g : HJ i pc' lv st h' Q) : HJ i pc lv (.int n :: .int dp :: .ref a1 :: .int sp :: .ref a0 :: st) h Q := by
  subst hp
  refine HJ.ex a (Or.inl rfl) ?_ g
  show e_call 0 i idx pc lv (.int n :: .int dp :: .ref a1 :: .int sp :: .ref a0 :: st) h = _
  unfold e_call
  rw [hm]
  dsimp only
  rw [if_neg (by decide), if_pos rfl, if_pos rfl]
  unfold e_cp
  dsimp only
  rw [if_pos hc]
  rcases hh with ⟨k0, k1, e⟩ | ⟨k0, k1, e⟩
  · rw [if_pos (Or.inl ⟨k0, k1⟩), e]
    rfl
  · rw [if_neg (fun z => by rcases z with z | z <;> omega), if_pos ⟨k0, k1⟩, e]
    rfl
end
section
variable {i pc pc' : Nat} {lv : List (Nat × Value)} {st : List Value} {Q : Option Value → MH → Prop} {R : Nat} {W : List (Nat × Nat)} {ρ : Nat → Nat} {m : Nat} {A : Nat → Nat} {h0 h : MH} {F : Nat → Int} {V : Nat → Nat → Int} {G : Nat → Nat → Int64}
theorem hM_lsv {K R2 L H : Nat} {rs2 : RS} {j : Int32} {x : Int64} {zj T : Int} (M : MX R W ρ m A h0 h F V G) (hR : R ≠ 0) (ok : rg_okb R = true) (hr : rg_a R K = R2) (h2 : R2 ≠ 0) (hs2 : c_sp[R2]? = some rs2) (hk : rs2.1 = (25, (L, H))) (hmd : rs2.2.1 = true) (hw : d_sub [(R2, 1001)] W = true) (hl : ((h_k h0 (A K)).2 : Int) = T) (a : m_at i pc = some (.lastore, 1)) (hj : j.toInt = zj) (b0 : 0 ≤ zj) (b1 : zj < T) (hp : pc + 1 = pc') (g : ∀ (h' : MH) (G' : Nat → Nat → Int64), MX R W ρ m A h0 h' F V G' → HJ i pc' lv st h' Q) : HJ i pc lv (.long x :: .int j :: .ref (A K) :: st) h Q := by
  have hK : rg_a R K ≠ 0 := by rw [hr]; exact h2
  have a1 := (M.ar hR hK).1
  have a2 := a1
  rw [hr] at a1
  have c := t_spec M.1.1 h2 hs2 a1
  have c0 := c.1
  rw [hk] at c0
  have e9 := M.len hR hK
  refine hI_ls_ a (c.2.2.1 hmd) c0 (by omega) (by rw [e9]; omega) hp ?_
  refine g _ (fun K' j' => h_l (h_sl h (A K) j.toInt.toNat x) (A K') j') ⟨⟨sl_T M.1.1, M.1.2.1, M.1.2.2.trans (FS.mono hw (FS.ofFR (sl_F a1 (Or.inr (List.mem_singleton.mpr rfl)))))⟩, M.2.1, fun K' hK' => ⟨(M.2.2 K' hK').1, fun j' => ⟨((M.2.2 K' hK').2 j').1, rfl⟩⟩⟩
end
theorem ok_48 : rg_okb 48 = true := by decide +kernel
section
variable {lv : List (Nat × Value)} {Q : Option Value → MH → Prop} {W : List (Nat × Nat)} {ρ : Nat → Nat} {m : Nat} {A : Nat → Nat} {h0 h : MH} {F : Nat → Int} {V : Nat → Nat → Int} {G : Nat → Nat → Int64}
theorem s_rc0 {l f t : Int}  {lx0 : Int32} (e0 : m_lk lv 0 = some (.int lx0)) (lq0 : lx0.toInt = l) {lx1 : Int32} (e1 : m_lk lv 1 = some (.int lx1)) (lq1 : lx1.toInt = f) {lx2 : Int32} (e2 : m_lk lv 2 = some (.int lx2)) (lq2 : lx2.toInt = t) 
    (g0 : f ≤ t → f ≥ 0 → t ≤ l → Q none h)
    (g1 : f ≤ t → f ≥ 0 → t > l → HJ 38 64 lv [] h Q)
    (g2 : f ≤ t → f < 0 → HJ 38 50 lv [] h Q)
    (g3 : f > t → HJ 38 5 lv [] h Q)
    : HJ 38 0 lv [] h Q := by
  refine hI_il (k := 1) rfl e1 rfl ?_ -- 0
  refine hI_il (k := 2) rfl e2 rfl ?_ -- 1
  refine hM_cle (off := 44) (t := 46) rfl lq1 lq2 (by decide) rfl (fun c2 => ?_) (fun c2 => ?_) -- 2
  · refine hI_il (k := 1) rfl e1 rfl ?_ -- 46
    refine hM_zge (off := 12) (t := 59) rfl lq1 (by decide) rfl (fun c47 => ?_) (fun c47 => ?_) -- 47
    · refine hI_il (k := 2) rfl e2 rfl ?_ -- 59
      refine hI_il (k := 0) rfl e0 rfl ?_ -- 60
      refine hM_cle (off := 12) (t := 73) rfl lq2 lq0 (by decide) rfl (fun c61 => ?_) (fun c61 => ?_) -- 61
      · refine hI_rv rfl rfl ?_
        exact g0 c2 c47 c61
      · exact g1 c2 c47 c61
    · exact g2 c2 c47
  · exact g3 c2
theorem s_fr0 {f t z : Int} (M : MX 48 W ρ m A h0 h F V G) (e0 : m_lk lv 0 = some (.ref (A 0))) {lx1 : Int32} (e1 : m_lk lv 1 = some (.int lx1)) (lq1 : lx1.toInt = f) {lx2 : Int32} (e2 : m_lk lv 2 = some (.int lx2)) (lq2 : lx2.toInt = t) {lx3 : Int32} (e3 : m_lk lv 3 = some (.int lx3)) (lq3 : lx3.toInt = z) 
    (g0 : ∀ x1 : Int32, ∀ z1 : Int, x1.toInt = z1 → 448 ≤ z1 → z1 ≤ 224000 → z1 = ((h_k h0 (A 0)).2 : Int) → HJ 38 0 (lv_args 0 [.int x1, .int lx1, .int lx2]) [] h (fun v h' => HJ 37 7 lv (v.toList ++ []) h' Q))
    : HJ 37 0 lv [] h Q := by
  refine hI_al (k := 0) rfl e0 rfl ?_ -- 0
  refine hM_al M (by decide) (K := 0) (R2 := 40) (L := 448) (H := 224000) rfl (by decide) rfl rfl (by decide) rfl rfl (fun x1 z1 q1 a1 b1 c1 => ?_) -- 1
  refine hI_il (k := 1) rfl e1 rfl ?_ -- 2
  refine hI_il (k := 2) rfl e2 rfl ?_ -- 3
  refine hM_is0 (as := [.int x1, .int lx1, .int lx2]) (r := []) rfl rfl (by decide +kernel) rfl rfl rfl rfl rfl ?_ -- 4
  exact g0 x1 z1 q1 a1 b1 c1
theorem s_fr7 {f t z : Int} (M : MX 48 W ρ m A h0 h F V G) (e0 : m_lk lv 0 = some (.ref (A 0))) {lx1 : Int32} (e1 : m_lk lv 1 = some (.int lx1)) (lq1 : lx1.toInt = f) {lx2 : Int32} (e2 : m_lk lv 2 = some (.int lx2)) (lq2 : lx2.toInt = t) {lx3 : Int32} (e3 : m_lk lv 3 = some (.int lx3)) (lq3 : lx3.toInt = z) 
    (g0 : ∀ lv1 : List (Nat × Value), m_lk lv1 0 = some (.ref (A 0)) → m_lk lv1 1 = some (.int lx1) → m_lk lv1 2 = some (.int lx2) → m_lk lv1 3 = some (.int lx3) → m_lk lv1 4 = some (.int lx1) → HJ 37 10 lv1 [] h Q)
    : HJ 37 7 lv [] h Q := by
  refine hI_il (k := 1) rfl e1 rfl ?_ -- 7
  refine hM_si2 (k := 4) rfl (by decide +kernel) rfl (fun lv1 e1_4 u1 => ?_) -- 8
  have e1_0 := u1 0 _ (by decide) (Or.inl rfl) e0
  have e1_1 := u1 1 _ (by decide) (Or.inl rfl) e1
  have e1_2 := u1 2 _ (by decide) (Or.inl rfl) e2
  have e1_3 := u1 3 _ (by decide) (Or.inl rfl) e3
  exact g0 lv1 e1_0 e1_1 e1_2 e1_3 e1_4
theorem s_fr10 {t z i T : Int} (M : MX 48 W ρ m A h0 h F V G) (e0 : m_lk lv 0 = some (.ref (A 0))) {lx2 : Int32} (e2 : m_lk lv 2 = some (.int lx2)) (lq2 : lx2.toInt = t) {lx3 : Int32} (e3 : m_lk lv 3 = some (.int lx3)) (lq3 : lx3.toInt = z) {lx4 : Int32} (e4 : m_lk lv 4 = some (.int lx4)) (lq4 : lx4.toInt = i) (i0 : 0 ≤ i) (t1 : t ≤ T) (t2 : T ≤ 224000)(hl0 : ((h_k h0 (A 0)).2 : Int) = T)(hw : d_sub [(40, 1001)] W = true)
    (g0 : i ≥ t → Q none h)
    (g1 : ∀ h1 : MH, ∀ V1 : Nat → Nat → Int, ∀ x2 : Int32, x2.toInt = i + 1 → ∀ lv2 : List (Nat × Value), MX 48 W ρ m A h0 h1 F V1 G → m_lk lv2 0 = some (.ref (A 0)) → m_lk lv2 2 = some (.int lx2) → m_lk lv2 3 = some (.int lx3) → m_lk lv2 4 = some (.int x2) → i < t → HJ 37 10 lv2 [] h1 Q)
    : HJ 37 10 lv [] h Q := by
  refine hI_il2 (k := 4) rfl e4 rfl ?_ -- 10
  refine hI_il (k := 2) rfl e2 rfl ?_ -- 12
  refine hM_cge (off := 14) (t := 27) rfl lq4 lq2 (by decide) rfl (fun c13 => ?_) (fun c13 => ?_) -- 13
  · refine hI_rv rfl rfl ?_
    exact g0 c13
  · refine hI_al (k := 0) rfl e0 rfl ?_ -- 16
    refine hI_il2 (k := 4) rfl e4 rfl ?_ -- 17
    refine hI_il (k := 3) rfl e3 rfl ?_ -- 19
    refine hM_isv M (by decide) ok_48 (K := 0) (R2 := 40) (L := 448) (H := 224000) rfl (by decide) rfl rfl rfl (fun _ => rfl) (d_subm hw (by decide +kernel)) hl0 rfl lq4 (by omega) (by omega) rfl (fun h1 V1 M1 => ?_) -- 20
    refine hM_inc (k := 4) (z := 1) rfl e4 lq4 (by decide) (by omega) (by omega) (by decide +kernel) rfl (fun lv2 x2 q2 e2_4 u2 => ?_) -- 21
    have e2_0 := u2 0 _ (by decide) (Or.inl rfl) e0
    have e2_2 := u2 2 _ (by decide) (Or.inl rfl) e2
    have e2_3 := u2 3 _ (by decide) (Or.inl rfl) e3
    refine hI_go (pc' := 10) (off := (-14)) rfl (by decide) ?_ -- 24
    exact g1 h1 V1 x2 q2 lv2 M1 e2_0 e2_2 e2_3 e2_4 c13
theorem s_mk0 {w r : Int} (M : MX 48 W ρ m A h0 h F V G) (e0 : m_lk lv 0 = some (.ref m)) {lx1 : Int32} (e1 : m_lk lv 1 = some (.int lx1)) (lq1 : lx1.toInt = w) {lx2 : Int32} (e2 : m_lk lv 2 = some (.int lx2)) (lq2 : lx2.toInt = r) 
    (g0 : ∀ z2 : Int, 64 ≤ z2 → z2 ≤ 32000 → z2 = ((h_k h0 (A 1)).2 : Int) → 0 ≤ F 5 → F 5 ≤ 16000 → F 5 < z2 → HJ 61 48 lv [] h Q)
    (g1 : ∀ z2 : Int, 64 ≤ z2 → z2 ≤ 32000 → z2 = ((h_k h0 (A 1)).2 : Int) → 0 ≤ F 5 → F 5 ≤ 16000 → F 5 ≥ z2 → HJ 61 12 lv [] h Q)
    : HJ 61 0 lv [] h Q := by
  refine hI_al (k := 0) rfl e0 rfl ?_ -- 0
  refine hM_gi M (by decide) rfl rfl rfl (k := 5) (c := 2) (lo := 0) (hi := 16000) rfl rfl rfl rfl rfl (fun x1 q1 a1 b1 => ?_) -- 1
  refine hI_al (k := 0) rfl e0 rfl ?_ -- 4
  refine hM_ga M (by decide) rfl rfl (k := 1) (c := 2) rfl rfl rfl (by decide +kernel) rfl ?_ -- 5
  refine hM_al M (by decide) (K := 1) (R2 := 41) (L := 64) (H := 32000) rfl (by decide) rfl rfl (by decide) rfl rfl (fun x2 z2 q2 a2 b2 c2 => ?_) -- 8
  refine hM_clt (off := 39) (t := 48) rfl q1 q2 (by decide) rfl (fun c9 => ?_) (fun c9 => ?_) -- 9
  · exact g0 z2 a2 b2 c2 a1 b1 c9
  · exact g1 z2 a2 b2 c2 a1 b1 c9
theorem s_mk12 {w r : Int} (M : MX 48 W ρ m A h0 h F V G) (e0 : m_lk lv 0 = some (.ref m)) {lx1 : Int32} (e1 : m_lk lv 1 = some (.int lx1)) (lq1 : lx1.toInt = w) {lx2 : Int32} (e2 : m_lk lv 2 = some (.int lx2)) (lq2 : lx2.toInt = r) 
    (g0 : ∀ z1 : Int, 448 ≤ z1 → z1 ≤ 224000 → z1 = ((h_k h0 (A 0)).2 : Int) → ∀ x3 : Int32, x3.toInt = z1 * 2 → HJ 62 0 (lv_args 0 [.ref (A 0), .int x3]) [] h (fun v h' => HJ 61 27 lv (v.toList ++ [.ref m]) h' Q))
    : HJ 61 12 lv [] h Q := by
  refine hI_al (k := 0) rfl e0 rfl ?_ -- 12
  refine hI_al (k := 0) rfl e0 rfl ?_ -- 13
  refine hM_ga M (by decide) rfl rfl (k := 0) (c := 2) rfl rfl rfl (by decide +kernel) rfl ?_ -- 14
  refine hI_al (k := 0) rfl e0 rfl ?_ -- 17
  refine hM_ga M (by decide) rfl rfl (k := 0) (c := 2) rfl rfl rfl (by decide +kernel) rfl ?_ -- 18
  refine hM_al M (by decide) (K := 0) (R2 := 40) (L := 448) (H := 224000) rfl (by decide) rfl rfl (by decide) rfl rfl (fun x1 z1 q1 a1 b1 c1 => ?_) -- 21
  refine hM_ic (n := 2) rfl (by decide) rfl (fun x2 q2 => ?_) -- 22
  refine hM_mul rfl q1 q2 (by omega) (by omega) rfl (fun x3 q3 => ?_) -- 23
  refine hM_is0 (as := [.ref (A 0), .int x3]) (r := [.ref m]) rfl rfl (by decide +kernel) rfl rfl rfl rfl rfl ?_ -- 24
  exact g0 z1 a1 b1 c1 x3 q3
theorem s_mk30 {w r : Int} (M : MX 48 W ρ m A h0 h F V G) (e0 : m_lk lv 0 = some (.ref m)) {lx1 : Int32} (e1 : m_lk lv 1 = some (.int lx1)) (lq1 : lx1.toInt = w) {lx2 : Int32} (e2 : m_lk lv 2 = some (.int lx2)) (lq2 : lx2.toInt = r) 
    (g0 : ∀ z1 : Int, 64 ≤ z1 → z1 ≤ 32000 → z1 = ((h_k h0 (A 1)).2 : Int) → ∀ x3 : Int32, x3.toInt = z1 * 2 → HJ 63 0 (lv_args 0 [.ref (A 1), .int x3]) [] h (fun v h' => HJ 61 45 lv (v.toList ++ [.ref m]) h' Q))
    : HJ 61 30 lv [] h Q := by
  refine hI_al (k := 0) rfl e0 rfl ?_ -- 30
  refine hI_al (k := 0) rfl e0 rfl ?_ -- 31
  refine hM_ga M (by decide) rfl rfl (k := 1) (c := 2) rfl rfl rfl (by decide +kernel) rfl ?_ -- 32
  refine hI_al (k := 0) rfl e0 rfl ?_ -- 35
  refine hM_ga M (by decide) rfl rfl (k := 1) (c := 2) rfl rfl rfl (by decide +kernel) rfl ?_ -- 36
  refine hM_al M (by decide) (K := 1) (R2 := 41) (L := 64) (H := 32000) rfl (by decide) rfl rfl (by decide) rfl rfl (fun x1 z1 q1 a1 b1 c1 => ?_) -- 39
  refine hM_ic (n := 2) rfl (by decide) rfl (fun x2 q2 => ?_) -- 40
  refine hM_mul rfl q1 q2 (by omega) (by omega) rfl (fun x3 q3 => ?_) -- 41
  refine hM_is0 (as := [.ref (A 1), .int x3]) (r := [.ref m]) rfl rfl (by decide +kernel) rfl rfl rfl rfl rfl ?_ -- 42
  exact g0 z1 a1 b1 c1 x3 q3
theorem s_mk48 {w r : Int} (M : MX 48 W ρ m A h0 h F V G) (e0 : m_lk lv 0 = some (.ref m)) {lx1 : Int32} (e1 : m_lk lv 1 = some (.int lx1)) (lq1 : lx1.toInt = w) {lx2 : Int32} (e2 : m_lk lv 2 = some (.int lx2)) (lq2 : lx2.toInt = r) (m2 : F 5 ≤ 15999)
    (g0 : ∀ x1 : Int32, x1.toInt = F 5 → ∀ x5 : Int32, x5.toInt = (F 5) + 1 → ∀ lv2 : List (Nat × Value), m_lk lv2 0 = some (.ref m) → m_lk lv2 1 = some (.int lx1) → m_lk lv2 2 = some (.int lx2) → m_lk lv2 3 = some (.int x1) → 0 ≤ F 5 → F 5 ≤ 16000 → HJ 61 60 lv2 [.int x5, .ref m] h Q)
    : HJ 61 48 lv [] h Q := by
  refine hI_al (k := 0) rfl e0 rfl ?_ -- 48
  refine hM_gi M (by decide) rfl rfl rfl (k := 5) (c := 2) (lo := 0) (hi := 16000) rfl rfl rfl rfl rfl (fun x1 q1 a1 b1 => ?_) -- 49
  refine hM_si (k := 3) rfl (by decide +kernel) rfl (fun lv2 e2_3 u2 => ?_) -- 52
  have e2_0 := u2 0 _ (by decide) (Or.inl rfl) e0
  have e2_1 := u2 1 _ (by decide) (Or.inl rfl) e1
  have e2_2 := u2 2 _ (by decide) (Or.inl rfl) e2
  refine hI_al (k := 0) rfl e2_0 rfl ?_ -- 53
  refine hI_dup rfl rfl rfl ?_ -- 54
  refine hM_gi M (by decide) rfl rfl rfl (k := 5) (c := 2) (lo := 0) (hi := 16000) rfl rfl rfl rfl rfl (fun x3 q3 a3 b3 => ?_) -- 55
  refine hM_ic (n := 1) rfl (by decide) rfl (fun x4 q4 => ?_) -- 58
  refine hM_add rfl q3 q4 (by omega) (by omega) rfl (fun x5 q5 => ?_) -- 59
  exact g0 x1 q1 x5 q5 lv2 e2_0 e2_1 e2_2 e2_3 a1 b1
theorem s_mk63 {w r n T T1 : Int} (M : MX 48 W ρ m A h0 h F V G) (e0 : m_lk lv 0 = some (.ref m)) {lx1 : Int32} (e1 : m_lk lv 1 = some (.int lx1)) (lq1 : lx1.toInt = w) {lx2 : Int32} (e2 : m_lk lv 2 = some (.int lx2)) (lq2 : lx2.toInt = r) {lx3 : Int32} (e3 : m_lk lv 3 = some (.int lx3)) (lq3 : lx3.toInt = n) (n0 : 0 ≤ n) (m0 : 7 * n + 7 ≤ T) (m1 : n < T1) (m2 : n ≤ 15999)(hl0 : ((h_k h0 (A 0)).2 : Int) = T)(hl1 : ((h_k h0 (A 1)).2 : Int) = T1)(hw : d_sub [(41, 1001), (40, 1001)] W = true)
    (g0 : ∀ h1 : MH, ∀ V1 : Nat → Nat → Int64, ∀ x3 : Int32, x3.toInt = n * 7 → ∀ h7 : MH, ∀ V7 : Nat → Nat → Int, ∀ h10 : MH, ∀ V10 : Nat → Nat → Int, ∀ x12 : Int32, x12.toInt = (n * 7) + 2 → ∀ x14 : Int32, x14.toInt = (n * 7) + 7 → ∀ x15 : Int32, x15.toInt = (-1) → ∀ lv4 : List (Nat × Value), MX 48 W ρ m A h0 h10 F V10 V1 → m_lk lv4 0 = some (.ref m) → m_lk lv4 1 = some (.int lx1) → m_lk lv4 2 = some (.int lx2) → m_lk lv4 3 = some (.int lx3) → m_lk lv4 4 = some (.int x3) → HJ 37 0 (lv_args 0 [.ref (A 0), .int x12, .int x14, .int x15]) [] h10 (fun v h' => HJ 61 113 lv4 (v.toList ++ []) h' Q))
    : HJ 61 63 lv [] h Q := by
  refine hI_al (k := 0) rfl e0 rfl ?_ -- 63
  refine hM_ga M (by decide) rfl rfl (k := 1) (c := 2) rfl rfl rfl (by decide +kernel) rfl ?_ -- 64
  refine hI_il (k := 3) rfl e3 rfl ?_ -- 67
  refine hI_lc (n := 0) rfl rfl ?_ -- 68
  refine hM_lsv M (by decide) ok_48 (K := 1) (R2 := 41) (L := 64) (H := 32000) rfl (by decide) rfl rfl rfl (d_subm hw (by decide +kernel)) hl1 rfl lq3 (by omega) (by omega) rfl (fun h1 V1 M1 => ?_) -- 69
  refine hI_il (k := 3) rfl e3 rfl ?_ -- 70
  refine hM_bp (n := 7) rfl (by decide) rfl (fun x2 q2 => ?_) -- 71
  refine hM_mul rfl lq3 q2 (by omega) (by omega) rfl (fun x3 q3 => ?_) -- 73
  refine hM_si2 (k := 4) rfl (by decide +kernel) rfl (fun lv4 e4_4 u4 => ?_) -- 74
  have e4_0 := u4 0 _ (by decide) (Or.inl rfl) e0
  have e4_1 := u4 1 _ (by decide) (Or.inl rfl) e1
  have e4_2 := u4 2 _ (by decide) (Or.inl rfl) e2
  have e4_3 := u4 3 _ (by decide) (Or.inl rfl) e3
  refine hI_al (k := 0) rfl e4_0 rfl ?_ -- 76
  refine hM_ga M1 (by decide) rfl rfl (k := 0) (c := 2) rfl rfl rfl (by decide +kernel) rfl ?_ -- 77
  refine hI_il2 (k := 4) rfl e4_4 rfl ?_ -- 80
  refine hM_ic (n := 0) rfl (by decide) rfl (fun x5 q5 => ?_) -- 82
  refine hM_add rfl q3 q5 (by omega) (by omega) rfl (fun x6 q6 => ?_) -- 83
  refine hI_il (k := 1) rfl e4_1 rfl ?_ -- 84
  refine hM_isv M1 (by decide) ok_48 (K := 0) (R2 := 40) (L := 448) (H := 224000) rfl (by decide) rfl rfl rfl (fun _ => rfl) (d_subm hw (by decide +kernel)) hl0 rfl q6 (by omega) (by omega) rfl (fun h7 V7 M7 => ?_) -- 85
  refine hI_al (k := 0) rfl e4_0 rfl ?_ -- 86
  refine hM_ga M7 (by decide) rfl rfl (k := 0) (c := 2) rfl rfl rfl (by decide +kernel) rfl ?_ -- 87
  refine hI_il2 (k := 4) rfl e4_4 rfl ?_ -- 90
  refine hM_ic (n := 1) rfl (by decide) rfl (fun x8 q8 => ?_) -- 92
  refine hM_add rfl q3 q8 (by omega) (by omega) rfl (fun x9 q9 => ?_) -- 93
  refine hI_il (k := 2) rfl e4_2 rfl ?_ -- 94
  refine hM_isv M7 (by decide) ok_48 (K := 0) (R2 := 40) (L := 448) (H := 224000) rfl (by decide) rfl rfl rfl (fun _ => rfl) (d_subm hw (by decide +kernel)) hl0 rfl q9 (by omega) (by omega) rfl (fun h10 V10 M10 => ?_) -- 95
  refine hI_al (k := 0) rfl e4_0 rfl ?_ -- 96
  refine hM_ga M10 (by decide) rfl rfl (k := 0) (c := 2) rfl rfl rfl (by decide +kernel) rfl ?_ -- 97
  refine hI_il2 (k := 4) rfl e4_4 rfl ?_ -- 100
  refine hM_ic (n := 2) rfl (by decide) rfl (fun x11 q11 => ?_) -- 102
  refine hM_add rfl q3 q11 (by omega) (by omega) rfl (fun x12 q12 => ?_) -- 103
  refine hI_il2 (k := 4) rfl e4_4 rfl ?_ -- 104
  refine hM_bp (n := 7) rfl (by decide) rfl (fun x13 q13 => ?_) -- 106
  refine hM_add rfl q3 q13 (by omega) (by omega) rfl (fun x14 q14 => ?_) -- 108
  refine hM_ic (n := (-1)) rfl (by decide) rfl (fun x15 q15 => ?_) -- 109
  refine hM_is0 (as := [.ref (A 0), .int x12, .int x14, .int x15]) (r := []) rfl rfl (by decide +kernel) rfl rfl rfl rfl rfl ?_ -- 110
  exact g0 h1 V1 x3 q3 h7 V7 h10 V10 x12 q12 x14 q14 x15 q15 lv4 M10 e4_0 e4_1 e4_2 e4_3 e4_4
theorem s_mk113 {n : Int}  {lx3 : Int32} (e3 : m_lk lv 3 = some (.int lx3)) (lq3 : lx3.toInt = n) 
    (g0 : Q (some (.int lx3)) h)
    : HJ 61 113 lv [] h Q := by
  refine hI_il (k := 3) rfl e3 rfl ?_ -- 113
  refine hI_ri rfl rfl ?_ -- 114
  exact g0 
theorem c_rc {xl xf xt : Int32} (f0 : 0 ≤ xf.toInt) (f1 : xf.toInt ≤ xt.toInt) (f2 : xt.toInt ≤ xl.toInt) (g : Q none h) : HJ 38 0 (lv_args 0 [.int xl, .int xf, .int xt]) [] h Q :=
  s_rc0 rfl rfl rfl rfl rfl rfl (fun _ _ _ => g) (fun _ _ _ => by omega) (fun _ _ => by omega) (fun _ => by omega)
theorem l_flr {T : Int} {xt xz : Int32} (hw : d_sub [(40, 1001)] W = true) (hl : ((h_k h0 (A 0)).2 : Int) = T) (t1 : xt.toInt ≤ T) (t2 : T ≤ 224000) (g : ∀ (h : MH) (V : Nat → Nat → Int), MX 48 W ρ m A h0 h F V G → Q none h) : ∀ (d i : Nat) (lv : List (Nat × Value)) (h : MH) (V : Nat → Nat → Int) (xi : Int32), i + d = 224000 → MX 48 W ρ m A h0 h F V G → xi.toInt = (i : Int) → m_lk lv 0 = some (.ref (A 0)) → m_lk lv 2 = some (.int xt) → m_lk lv 3 = some (.int xz) → m_lk lv 4 = some (.int xi) → HJ 37 10 lv [] h Q := by
  intro d
  induction d with
  | zero =>
    intro i lv h V xi hd M qi e0 e2 e3 e4
    exact s_fr10 M e0 e2 rfl e3 rfl e4 qi (by omega) t1 t2 hl hw (fun _ => g h V M) (by intros; omega)
  | succ d ih =>
    intro i lv h V xi hd M qi e0 e2 e3 e4
    exact s_fr10 M e0 e2 rfl e3 rfl e4 qi (by omega) t1 t2 hl hw (fun _ => g h V M) (fun h1 V1 x2 q2 lv2 M1 d0 d2 d3 d4 _ => ih (i + 1) lv2 h1 V1 x2 (by omega) M1 (by omega) d0 d2 d3 d4)
theorem c_fr {T : Int} {xf xt xz : Int32} (M : MX 48 W ρ m A h0 h F V G) (hw : d_sub [(40, 1001)] W = true) (hl : ((h_k h0 (A 0)).2 : Int) = T) (f0 : 0 ≤ xf.toInt) (f1 : xf.toInt ≤ xt.toInt) (t1 : xt.toInt ≤ T) (t2 : T ≤ 224000) (g : ∀ (h : MH) (V : Nat → Nat → Int), MX 48 W ρ m A h0 h F V G → Q none h) : HJ 37 0 (lv_args 0 [.ref (A 0), .int xf, .int xt, .int xz]) [] h Q :=
  s_fr0 M rfl rfl rfl rfl rfl rfl rfl (fun x1 z1 q1 _ _ c1 => c_rc f0 f1 (by omega) (s_fr7 M rfl rfl rfl rfl rfl rfl rfl (fun lv1 d0 d1 d2 d3 d4 => l_flr hw hl t1 t2 g (224000 - xf.toInt.toNat) xf.toInt.toNat lv1 h V xf (by omega) M (by omega) d0 d2 d3 d4)))
theorem c_copyI {o : Nat} {xn : Int32} (ht : TH c_sp ρ h) (ho : ρ o = 40) (qn : xn.toInt = 2 * ((h_k h o).2 : Int)) (l1 : (h_k h o).2 ≤ 112000) (g : ∀ h' : MH, TH c_sp (m_u ρ (16 + h_n h) 40) h' → FQ ρ (m_u ρ (16 + h_n h) 40) [(40, 1002), (1000, 1002)] h h' → h_n h' = h_n h + 1 → h_z h' = h_z h + 2 * (h_k h o).2 → (h_k h' (16 + h_n h)).2 = 2 * (h_k h o).2 → Q (some (.ref (16 + h_n h))) h') : HJ 62 0 (lv_args 0 [.ref o, .int xn]) [] h Q := by
  have c := t_spec ht (by decide) (rfl : c_sp[40]? = some _) ho
  have kc : (h_k h o).1 = 20 := c.1
  have l0 : 448 ≤ (h_k h o).2 := c.2.1.1
  have o16 : 16 ≤ o := c.2.2.1 rfl
  have ol : o < 16 + h_n h := (ht.2 o (by rw [ho]; decide)).1
  have eL : (Int32.ofNat (h_k h o).2).toInt = ((h_k h o).2 : Int) := by
    rw [Int32.toInt_ofNat_of_lt]
    omega
  have hn : xn.toInt.toNat = 2 * (h_k h o).2 := by omega
  refine hI_il (k := 1) rfl rfl rfl ?_
  refine hI_al (k := 0) rfl rfl rfl ?_
  refine hI_len rfl (by rw [kc]; decide) rfl ?_
  refine hM_cne (t := 14) rfl qn eL (by decide) rfl (fun _ => ?_) (fun c => by omega)
  refine hI_il (k := 1) rfl rfl rfl ?_
  refine hI_newa (t := .int) rfl (by decide) (by omega) (by omega) rfl ?_
  rw [hn]
  have ek : h_k (h_new h 20 (2 * (h_k h o).2) (2 * (h_k h o).2)) o = h_k h o := nw_k (by omega)
  have T6 : TH c_sp (m_u ρ (16 + h_n h) 40) (h_new h 20 (2 * (h_k h o).2) (2 * (h_k h o).2)) := th_new (R := 40) (rs := ((20, (448, 224000)), (true, (true, [.inl (-2147483648, 2147483647)])))) ht (by decide) rfl ⟨by show 448 ≤ _; omega, by show _ ≤ 224000; omega⟩ (by decide)
  have Q6 : FQ ρ (m_u ρ (16 + h_n h) 40) [(40, 1002), (1000, 1002)] h (h_new h 20 (2 * (h_k h o).2) (2 * (h_k h o).2)) := fq_new ht
  refine hI_as (k := 2) rfl (by decide +kernel) rfl ?_
  refine hI_al (k := 0) (x := o) rfl rfl rfl ?_
  refine hI_ic (n := 0) rfl rfl ?_
  refine hI_al (k := 2) (x := 16 + h_n h) rfl rfl rfl ?_
  refine hI_ic (n := 0) rfl rfl ?_
  refine hI_al (k := 0) (x := o) rfl rfl rfl ?_
  refine hI_len rfl ⟨by show 20 ≤ (h_k (h_new h 20 (2 * (h_k h o).2) (2 * (h_k h o).2)) o).1; rw [ek]; omega, by show (h_k (h_new h 20 (2 * (h_k h o).2) (2 * (h_k h o).2)) o).1 < 34; rw [ek]; omega⟩ rfl ?_
  refine hI_il (k := 1) (x := xn) rfl rfl rfl ?_
  refine hI_min rfl rfl ⟨rfl, by decide +kernel, by show 4 + 13 ≤ m_lo 62; decide +kernel⟩ rfl ?_
  have ew : (if xn < Int32.ofNat (h_k (h_new h 20 (2 * (h_k h o).2) (2 * (h_k h o).2)) o).2 then xn else Int32.ofNat (h_k (h_new h 20 (2 * (h_k h o).2) (2 * (h_k h o).2)) o).2) = Int32.ofNat (h_k h o).2 := by
    rw [ek]
    exact if_neg (fun z => by
      have := Int32.lt_iff_toInt_lt.mp z
      omega)
  show HJ 62 28 _ (.int (if xn < Int32.ofNat (h_k (h_new h 20 (2 * (h_k h o).2) (2 * (h_k h o).2)) o).2 then xn else Int32.ofNat (h_k (h_new h 20 (2 * (h_k h o).2) (2 * (h_k h o).2)) o).2) :: _) (h_new h 20 (2 * (h_k h o).2) (2 * (h_k h o).2)) Q
  rw [ew]
  have eN : (Int32.ofNat (h_k h o).2).toNatClampNeg = (h_k h o).2 := by
    show (Int32.ofNat (h_k h o).2).toInt.toNat = _
    omega
  have kN : h_k (h_new h 20 (2 * (h_k h o).2) (2 * (h_k h o).2)) (16 + h_n h) = (20, 2 * (h_k h o).2) := z_newk
  refine hI_cp (h' := h_cpi (h_new h 20 (2 * (h_k h o).2) (2 * (h_k h o).2)) o (16 + h_n h) 0 0 (h_k h o).2) rfl rfl ⟨o16, by omega, by decide, by decide, fun z => ?_, ?_, ?_, by decide +kernel, by decide +kernel, by decide +kernel⟩ (Or.inl ⟨by rw [ek, kc], by rw [kN], by rw [eN]; rfl⟩) rfl ?_
  · have := Int32.lt_iff_toInt_lt.mp z
    have h00 : (0 : Int32).toInt = 0 := rfl
    omega
  · rw [eN, ek]
    show 0 + (h_k h o).2 ≤ _
    omega
  · rw [eN, kN]
    show 0 + (h_k h o).2 ≤ 2 * (h_k h o).2
    omega
  · refine hI_al (k := 2) (x := 16 + h_n h) rfl rfl rfl ?_
    refine hI_ra rfl rfl (g _ ?_ ?_ rfl rfl (by show (h_k (h_new h 20 (2 * (h_k h o).2) (2 * (h_k h o).2)) (16 + h_n h)).2 = _; rw [kN]))
    · exact s_cpT (R0 := 40) (R1 := 40) T6 (by decide) rfl rfl (by rw [m_uN _ _ _ _ (by omega)]; exact ho) (m_uE _ _ _) rfl rfl rfl rfl (by decide) (by rw [ek]; omega)
    · refine ⟨Q6.1, Q6.2.1, Q6.2.2.1, fun a ha => ⟨(Q6.2.2.2 a ha).1, fun k hk => ?_⟩⟩
      have := (Q6.2.2.2 a ha).2 k hk
      refine ⟨?_, this.2⟩
      rw [s_cpI, if_neg (fun z => by have := z.1; omega)]
      exact this.1
theorem c_copyL {o : Nat} {xn : Int32} (ht : TH c_sp ρ h) (ho : ρ o = 41) (qn : xn.toInt = 2 * ((h_k h o).2 : Int)) (l1 : (h_k h o).2 ≤ 16000) (g : ∀ h' : MH, TH c_sp (m_u ρ (16 + h_n h) 41) h' → FQ ρ (m_u ρ (16 + h_n h) 41) [(41, 1002), (1000, 1002)] h h' → h_n h' = h_n h + 1 → h_z h' = h_z h + 2 * (h_k h o).2 → (h_k h' (16 + h_n h)).2 = 2 * (h_k h o).2 → Q (some (.ref (16 + h_n h))) h') : HJ 63 0 (lv_args 0 [.ref o, .int xn]) [] h Q := by
  have c := t_spec ht (by decide) (rfl : c_sp[41]? = some _) ho
  have kc : (h_k h o).1 = 25 := c.1
  have l0 : 64 ≤ (h_k h o).2 := c.2.1.1
  have o16 : 16 ≤ o := c.2.2.1 rfl
  have ol : o < 16 + h_n h := (ht.2 o (by rw [ho]; decide)).1
  have eL : (Int32.ofNat (h_k h o).2).toInt = ((h_k h o).2 : Int) := by
    rw [Int32.toInt_ofNat_of_lt]
    omega
  have hn : xn.toInt.toNat = 2 * (h_k h o).2 := by omega
  refine hI_il (k := 1) rfl rfl rfl ?_
  refine hI_al (k := 0) rfl rfl rfl ?_
  refine hI_len rfl (by rw [kc]; decide) rfl ?_
  refine hM_cne (t := 14) rfl qn eL (by decide) rfl (fun _ => ?_) (fun c => by omega)
  refine hI_il (k := 1) rfl rfl rfl ?_
  refine hI_newa (t := .long) rfl (by decide) (by omega) (by omega) rfl ?_
  rw [hn]
  have ek : h_k (h_new h 25 (2 * (h_k h o).2) (2 * (h_k h o).2)) o = h_k h o := nw_k (by omega)
  have T6 : TH c_sp (m_u ρ (16 + h_n h) 41) (h_new h 25 (2 * (h_k h o).2) (2 * (h_k h o).2)) := th_new (R := 41) (rs := ((25, (64, 32000)), (true, (true, [.inr (.inl ())])))) ht (by decide) rfl ⟨by show 64 ≤ _; omega, by show _ ≤ 32000; omega⟩ (by decide)
  have Q6 : FQ ρ (m_u ρ (16 + h_n h) 41) [(41, 1002), (1000, 1002)] h (h_new h 25 (2 * (h_k h o).2) (2 * (h_k h o).2)) := fq_new ht
  refine hI_as (k := 2) rfl (by decide +kernel) rfl ?_
  refine hI_al (k := 0) (x := o) rfl rfl rfl ?_
  refine hI_ic (n := 0) rfl rfl ?_
  refine hI_al (k := 2) (x := 16 + h_n h) rfl rfl rfl ?_
  refine hI_ic (n := 0) rfl rfl ?_
  refine hI_al (k := 0) (x := o) rfl rfl rfl ?_
  refine hI_len rfl ⟨by show 20 ≤ (h_k (h_new h 25 (2 * (h_k h o).2) (2 * (h_k h o).2)) o).1; rw [ek]; omega, by show (h_k (h_new h 25 (2 * (h_k h o).2) (2 * (h_k h o).2)) o).1 < 34; rw [ek]; omega⟩ rfl ?_
  refine hI_il (k := 1) (x := xn) rfl rfl rfl ?_
  refine hI_min rfl rfl ⟨rfl, by decide +kernel, by show 4 + 13 ≤ m_lo 63; decide +kernel⟩ rfl ?_
  have ew : (if xn < Int32.ofNat (h_k (h_new h 25 (2 * (h_k h o).2) (2 * (h_k h o).2)) o).2 then xn else Int32.ofNat (h_k (h_new h 25 (2 * (h_k h o).2) (2 * (h_k h o).2)) o).2) = Int32.ofNat (h_k h o).2 := by
    rw [ek]
    exact if_neg (fun z => by
      have := Int32.lt_iff_toInt_lt.mp z
      omega)
  show HJ 63 28 _ (.int (if xn < Int32.ofNat (h_k (h_new h 25 (2 * (h_k h o).2) (2 * (h_k h o).2)) o).2 then xn else Int32.ofNat (h_k (h_new h 25 (2 * (h_k h o).2) (2 * (h_k h o).2)) o).2) :: _) (h_new h 25 (2 * (h_k h o).2) (2 * (h_k h o).2)) Q
  rw [ew]
  have eN : (Int32.ofNat (h_k h o).2).toNatClampNeg = (h_k h o).2 := by
    show (Int32.ofNat (h_k h o).2).toInt.toNat = _
    omega
  have kN : h_k (h_new h 25 (2 * (h_k h o).2) (2 * (h_k h o).2)) (16 + h_n h) = (25, 2 * (h_k h o).2) := z_newk
  refine hI_cp (h' := h_cpl (h_new h 25 (2 * (h_k h o).2) (2 * (h_k h o).2)) o (16 + h_n h) 0 0 (h_k h o).2) rfl rfl ⟨o16, by omega, by decide, by decide, fun z => ?_, ?_, ?_, by decide +kernel, by decide +kernel, by decide +kernel⟩ (Or.inr ⟨by rw [ek, kc], by rw [kN], by rw [eN]; rfl⟩) rfl ?_
  · have := Int32.lt_iff_toInt_lt.mp z
    have h00 : (0 : Int32).toInt = 0 := rfl
    omega
  · rw [eN, ek]
    show 0 + (h_k h o).2 ≤ _
    omega
  · rw [eN, kN]
    show 0 + (h_k h o).2 ≤ 2 * (h_k h o).2
    omega
  · refine hI_al (k := 2) (x := 16 + h_n h) rfl rfl rfl ?_
    refine hI_ra rfl rfl (g _ ?_ ?_ rfl rfl (by show (h_k (h_new h 25 (2 * (h_k h o).2) (2 * (h_k h o).2)) (16 + h_n h)).2 = _; rw [kN]))
    · exact T6
    · refine ⟨Q6.1, Q6.2.1, Q6.2.2.1, fun a ha => ⟨(Q6.2.2.2 a ha).1, fun k hk => ?_⟩⟩
      have := (Q6.2.2.2 a ha).2 k hk
      exact ⟨this.1, (congrFun (m_uN (h_new h 25 (2 * (h_k h o).2) (2 * (h_k h o).2)).2.2.2.1 (16 + h_n h) _ a (by omega)) k).trans this.2.1, this.2.2⟩
end
