-- DIFFER
section
variable {lv : List (Nat × Value)} {Q : Option Value → MH → Prop} {W : List (Nat × Nat)} {ρ : Nat → Nat} {m : Nat} {A : Nat → Nat} {h0 h : MH} {F : Nat → Int} {V : Nat → Nat → Int} {G : Nat → Nat → Int64}
theorem s_l20 {r a b : Int} (M : MX 49 W ρ m A h0 h F V G) (e0 : m_lk lv 0 = some (.ref m)) {lx1 : Int32} (e1 : m_lk lv 1 = some (.int lx1)) (lq1 : lx1.toInt = r) {lx2 : Int32} (e2 : m_lk lv 2 = some (.int lx2)) (lq2 : lx2.toInt = a) {lx3 : Int32} (e3 : m_lk lv 3 = some (.int lx3)) (lq3 : lx3.toInt = b) 
    (g0 : HJ 201 0 (lv_args 0 [.ref m, .int lx1]) [] h (fun v h' => HJ 240 5 lv (v.toList ++ []) h' Q))
    : HJ 240 0 lv [] h Q := by
  refine hI_al (k := 0) rfl e0 rfl ?_ -- 0
  refine hI_il (k := 1) rfl e1 rfl ?_ -- 1
  refine hM_iv M (by decide) rfl rfl (by decide) (as := [.int lx1]) (r := []) rfl rfl (by decide +kernel) rfl (by decide +kernel) rfl rfl rfl rfl rfl ?_ -- 2
  exact g0 
theorem s_l25 {r a b z : Int} (M : MX 49 W ρ m A h0 h F V G) (e0 : m_lk lv 0 = some (.ref m)) {lx1 : Int32} (e1 : m_lk lv 1 = some (.int lx1)) (lq1 : lx1.toInt = r) {lx2 : Int32} (e2 : m_lk lv 2 = some (.int lx2)) (lq2 : lx2.toInt = a) {lx3 : Int32} (e3 : m_lk lv 3 = some (.int lx3)) (lq3 : lx3.toInt = b) {sx0 : Int32} (sq0 : sx0.toInt = z) 
    (g0 : ∀ x1 : Int32, x1.toInt = 0 → z = 0 → Q (some (.int x1)) h)
    (g1 : z ≠ 0 → HJ 205 0 (lv_args 0 [.ref m, .int lx2]) [] h (fun v h' => HJ 240 13 lv (v.toList ++ []) h' Q))
    : HJ 240 5 lv [.int sx0] h Q := by
  refine hM_zeq (off := 23) (t := 28) rfl sq0 (by decide) rfl (fun c5 => ?_) (fun c5 => ?_) -- 5
  · refine hM_ic (n := 0) rfl (by decide) rfl (fun x1 q1 => ?_) -- 28
    refine hM_rb rfl rfl q1 (by omega) (by omega) ?_ -- 29
    exact g0 x1 q1 c5
  · refine hI_al (k := 0) rfl e0 rfl ?_ -- 8
    refine hI_il (k := 2) rfl e2 rfl ?_ -- 9
    refine hM_iv M (by decide) rfl rfl (by decide) (as := [.int lx2]) (r := []) rfl rfl (by decide +kernel) rfl (by decide +kernel) rfl rfl rfl rfl rfl ?_ -- 10
    exact g1 c5
theorem s_l213 {r a b z : Int} (M : MX 49 W ρ m A h0 h F V G) (e0 : m_lk lv 0 = some (.ref m)) {lx1 : Int32} (e1 : m_lk lv 1 = some (.int lx1)) (lq1 : lx1.toInt = r) {lx2 : Int32} (e2 : m_lk lv 2 = some (.int lx2)) (lq2 : lx2.toInt = a) {lx3 : Int32} (e3 : m_lk lv 3 = some (.int lx3)) (lq3 : lx3.toInt = b) {sx0 : Int32} (sq0 : sx0.toInt = z) 
    (g0 : ∀ x1 : Int32, x1.toInt = 0 → z = 0 → Q (some (.int x1)) h)
    (g1 : z ≠ 0 → HJ 205 0 (lv_args 0 [.ref m, .int lx3]) [] h (fun v h' => HJ 240 21 lv (v.toList ++ []) h' Q))
    : HJ 240 13 lv [.int sx0] h Q := by
  refine hM_zeq (off := 15) (t := 28) rfl sq0 (by decide) rfl (fun c13 => ?_) (fun c13 => ?_) -- 13
  · refine hM_ic (n := 0) rfl (by decide) rfl (fun x1 q1 => ?_) -- 28
    refine hM_rb rfl rfl q1 (by omega) (by omega) ?_ -- 29
    exact g0 x1 q1 c13
  · refine hI_al (k := 0) rfl e0 rfl ?_ -- 16
    refine hI_il (k := 3) rfl e3 rfl ?_ -- 17
    refine hM_iv M (by decide) rfl rfl (by decide) (as := [.int lx3]) (r := []) rfl rfl (by decide +kernel) rfl (by decide +kernel) rfl rfl rfl rfl rfl ?_ -- 18
    exact g1 c13
theorem s_l221 {z : Int} (M : MX 49 W ρ m A h0 h F V G) {sx0 : Int32} (sq0 : sx0.toInt = z) 
    (g0 : ∀ x1 : Int32, x1.toInt = 0 → z = 0 → Q (some (.int x1)) h)
    (g1 : ∀ x2 : Int32, x2.toInt = 1 → z ≠ 0 → Q (some (.int x2)) h)
    : HJ 240 21 lv [.int sx0] h Q := by
  refine hM_zeq (off := 7) (t := 28) rfl sq0 (by decide) rfl (fun c21 => ?_) (fun c21 => ?_) -- 21
  · refine hM_ic (n := 0) rfl (by decide) rfl (fun x1 q1 => ?_) -- 28
    refine hM_rb rfl rfl q1 (by omega) (by omega) ?_ -- 29
    exact g0 x1 q1 c21
  · refine hM_ic (n := 1) rfl (by decide) rfl (fun x2 q2 => ?_) -- 24
    refine hI_go (pc' := 29) (off := 4) rfl (by decide) ?_ -- 25
    refine hM_rb rfl rfl q2 (by omega) (by omega) ?_ -- 29
    exact g1 x2 q2 c21
theorem c_layTwo {r a b : Int} {xr xa xb : Int32} (M : MX 49 W ρ m A h0 h F V G) (hw : d_sub g_la W = true) (qr : xr.toInt = r) (qa : xa.toInt = a) (qb : xb.toInt = b) (rw_ : p_rw (V 6)) (g : ∀ (x : Int32) (h' : MH) (F' : Nat → Int) (V' : Nat → Nat → Int) (G' : Nat → Nat → Int64), MX 49 W ρ m A h0 h' F' V' G' → (x.toInt = 0 ∨ (x.toInt = 1 ∧ g_ly F' V' 40 ∧ (0 ≤ a ∧ a < F' 35) ∧ (0 ≤ b ∧ b < F' 35))) → Q (some (.int x)) h') : HJ 240 0 (lv_args 0 [.ref m, .int xr, .int xa, .int xb]) [] h Q := by
  refine s_l20 M rfl rfl qr rfl qa rfl qb (c_lay M rfl rfl hw qr rw_ (fun z h2 F2 V2 G2 M2 hz0 => ?_))
  have hz : z.toInt = 0 ∨ (z.toInt = 1 ∧ g_ly F2 V2 40) := hz0.imp (fun q => q.1) (fun q => ⟨q.1, q.2.1⟩)
  refine s_l25 (z := z.toInt) M2 rfl rfl qr rfl qa rfl qb rfl (fun x q _ => g x h2 F2 V2 G2 M2 (Or.inl q)) (fun c5 => ?_)
  obtain ⟨-, I⟩ := hz.resolve_left c5
  refine c_isV M2 qa (fun z2 hz2 => ?_)
  refine s_l213 (z := z2.toInt) M2 rfl rfl qr rfl qa rfl qb rfl (fun x q _ => g x h2 F2 V2 G2 M2 (Or.inl q)) (fun c13 => ?_)
  obtain ⟨-, a0, a1⟩ := hz2.resolve_right (fun y => c13 y.1)
  refine c_isV M2 qb (fun z3 hz3 => ?_)
  refine s_l221 (z := z3.toInt) M2 rfl (fun x q _ => g x h2 F2 V2 G2 M2 (Or.inl q)) (fun x q c21 => g x h2 F2 V2 G2 M2 (Or.inr ⟨q, I, ⟨a0, a1⟩, ?_⟩))
  obtain ⟨-, b0, b1⟩ := hz3.resolve_right (fun y => c21 y.1)
  exact ⟨b0, b1⟩
theorem s_sa0 {v : Int} (M : MX 49 W ρ m A h0 h F V G) (e0 : m_lk lv 0 = some (.ref m)) {lx1 : Int32} (e1 : m_lk lv 1 = some (.int lx1)) (lq1 : lx1.toInt = v) 
    (g0 : HJ 208 0 (lv_args 0 [.ref m, .int lx1]) [] h (fun v h' => HJ 230 5 lv (v.toList ++ []) h' Q))
    : HJ 230 0 lv [] h Q := by
  refine hI_al (k := 0) rfl e0 rfl ?_ -- 0
  refine hI_il (k := 1) rfl e1 rfl ?_ -- 1
  refine hM_iv M (by decide) rfl rfl (by decide) (as := [.int lx1]) (r := []) rfl rfl (by decide +kernel) rfl (by decide +kernel) rfl rfl rfl rfl rfl ?_ -- 2
  exact g0 
theorem s_sa5 (M : MX 49 W ρ m A h0 h F V G) (e0 : m_lk lv 0 = some (.ref m)) 
    (g0 : HJ 219 0 (lv_args 0 [.ref m]) [] h (fun v h' => HJ 230 9 lv (v.toList ++ []) h' Q))
    : HJ 230 5 lv [] h Q := by
  refine hI_al (k := 0) rfl e0 rfl ?_ -- 5
  refine hM_iv M (by decide) rfl rfl (by decide) (as := []) (r := []) rfl rfl (by decide +kernel) rfl (by decide +kernel) rfl rfl rfl rfl rfl ?_ -- 6
  exact g0 
theorem s_sa9 (M : MX 49 W ρ m A h0 h F V G) (e0 : m_lk lv 0 = some (.ref m)) (hw : d_sub [(49, 43)] W = true)
    (g0 : ∀ h2 : MH, ∀ F2 : Nat → Int, F2 = m_u F 43 (0) → ∀ x3 : Int32, x3.toInt = 0 → ∀ lv4 : List (Nat × Value), MX 49 W ρ m A h0 h2 F2 V G → m_lk lv4 0 = some (.ref m) → m_lk lv4 2 = some (.int x3) → HJ 230 16 lv4 [] h2 Q)
    : HJ 230 9 lv [] h Q := by
  refine hI_al (k := 0) rfl e0 rfl ?_ -- 9
  refine hM_ic (n := 0) rfl (by decide) rfl (fun x1 q1 => ?_) -- 10
  refine hM_pi M (by decide) ok_49 rfl rfl (k := 43) (c := 9) (lo := 0) (hi := 63) rfl rfl ⟨by decide, by decide +kernel, rfl⟩ rfl (d_subm hw (by decide +kernel)) q1 (by omega) (by omega) rfl (fun h2 F2 f2 M2 => ?_) -- 11
  refine hM_ic (n := 0) rfl (by decide) rfl (fun x3 q3 => ?_) -- 14
  refine hM_si (k := 2) rfl (by decide +kernel) rfl (fun lv4 e4_2 u4 => ?_) -- 15
  have e4_0 := u4 0 _ (by decide) (Or.inl rfl) e0
  exact g0 h2 F2 f2 x3 q3 lv4 M2 e4_0 e4_2
theorem s_sa16 {i : Int} (M : MX 49 W ρ m A h0 h F V G) (e0 : m_lk lv 0 = some (.ref m)) {lx2 : Int32} (e2 : m_lk lv 2 = some (.int lx2)) (lq2 : lx2.toInt = i) (i0 : 0 ≤ i) (w1 : F 26 ≤ 63)
    (g0 : 0 ≤ F 26 → F 26 ≤ 63 → i ≥ F 26 → Q none h)
    (g1 : ∀ x3 : Int32, x3.toInt = V 20 (V 27 (i).toNat).toNat → ∀ x6 : Int32, x6.toInt = V 21 (V 27 (i).toNat).toNat → ∀ x8 : Int32, x8.toInt = F 43 → ∀ lv9 : List (Nat × Value), m_lk lv9 0 = some (.ref m) → m_lk lv9 2 = some (.int lx2) → m_lk lv9 3 = some (.int x3) → m_lk lv9 4 = some (.int x6) → m_lk lv9 5 = some (.int x8) → 0 ≤ F 26 → F 26 ≤ 63 → i < F 26 → 0 ≤ V 27 (i).toNat → V 27 (i).toNat ≤ 15999 → 0 ≤ F 43 → F 43 ≤ 63 → HJ 230 55 lv9 [] h Q)
    : HJ 230 16 lv [] h Q := by
  refine hI_il (k := 2) rfl e2 rfl ?_ -- 16
  refine hI_al (k := 0) rfl e0 rfl ?_ -- 17
  refine hM_gi M (by decide) rfl rfl rfl (k := 26) (c := 9) (lo := 0) (hi := 63) rfl rfl rfl rfl rfl (fun x1 q1 a1 b1 => ?_) -- 18
  refine hM_cge (off := 151) (t := 172) rfl lq2 q1 (by decide) rfl (fun c21 => ?_) (fun c21 => ?_) -- 21
  · refine hI_rv rfl rfl ?_
    exact g0 a1 b1 c21
  · refine hI_al (k := 0) rfl e0 rfl ?_ -- 24
    refine hM_ga M (by decide) rfl rfl (k := 20) (c := 9) rfl rfl rfl (by decide +kernel) rfl ?_ -- 25
    refine hI_al (k := 0) rfl e0 rfl ?_ -- 28
    refine hM_ga M (by decide) rfl rfl (k := 27) (c := 9) rfl rfl rfl (by decide +kernel) rfl ?_ -- 29
    refine hI_il (k := 2) rfl e2 rfl ?_ -- 32
    refine hM_ia M (by decide) (K := 27) (R2 := 63) (L := 64) (H := 64) (lo := 0) (hi := 15999) rfl (by decide) rfl rfl (fun _ => rfl) rfl lq2 (by omega) (by omega) rfl (fun x2 q2 a2 b2 => ?_) -- 33
    refine hM_ba M (by decide) (K := 20) (R2 := 57) (L := 16000) (H := 16000) (lo := (-2147483648)) (hi := 2147483647) rfl (by decide) rfl rfl (Or.inl rfl) (fun _ => rfl) rfl q2 (by omega) (by omega) rfl (fun x3 q3 a3 b3 => ?_) -- 34
    refine hM_si (k := 3) rfl (by decide +kernel) rfl (fun lv4 e4_3 u4 => ?_) -- 35
    have e4_0 := u4 0 _ (by decide) (Or.inl rfl) e0
    have e4_2 := u4 2 _ (by decide) (Or.inl rfl) e2
    refine hI_al (k := 0) rfl e4_0 rfl ?_ -- 36
    refine hM_ga M (by decide) rfl rfl (k := 21) (c := 9) rfl rfl rfl (by decide +kernel) rfl ?_ -- 37
    refine hI_al (k := 0) rfl e4_0 rfl ?_ -- 40
    refine hM_ga M (by decide) rfl rfl (k := 27) (c := 9) rfl rfl rfl (by decide +kernel) rfl ?_ -- 41
    refine hI_il (k := 2) rfl e4_2 rfl ?_ -- 44
    refine hM_ia M (by decide) (K := 27) (R2 := 63) (L := 64) (H := 64) (lo := 0) (hi := 15999) rfl (by decide) rfl rfl (fun _ => rfl) rfl lq2 (by omega) (by omega) rfl (fun x5 q5 a5 b5 => ?_) -- 45
    refine hM_ba M (by decide) (K := 21) (R2 := 58) (L := 16000) (H := 16000) (lo := (-2147483648)) (hi := 2147483647) rfl (by decide) rfl rfl (Or.inl rfl) (fun _ => rfl) rfl q5 (by omega) (by omega) rfl (fun x6 q6 a6 b6 => ?_) -- 46
    refine hM_si2 (k := 4) rfl (by decide +kernel) rfl (fun lv7 e7_4 u7 => ?_) -- 47
    have e7_0 := u7 0 _ (by decide) (Or.inl rfl) e4_0
    have e7_2 := u7 2 _ (by decide) (Or.inl rfl) e4_2
    have e7_3 := u7 3 _ (by decide) (Or.inl rfl) e4_3
    refine hI_al (k := 0) rfl e7_0 rfl ?_ -- 49
    refine hM_gi M (by decide) rfl rfl rfl (k := 43) (c := 9) (lo := 0) (hi := 63) rfl rfl rfl rfl rfl (fun x8 q8 a8 b8 => ?_) -- 50
    refine hM_si2 (k := 5) rfl (by decide +kernel) rfl (fun lv9 e9_5 u9 => ?_) -- 53
    have e9_0 := u9 0 _ (by decide) (Or.inl rfl) e7_0
    have e9_2 := u9 2 _ (by decide) (Or.inl rfl) e7_2
    have e9_3 := u9 3 _ (by decide) (Or.inl rfl) e7_3
    have e9_4 := u9 4 _ (by decide) (Or.inl rfl) e7_4
    exact g1 x3 q3 x6 q6 x8 q8 lv9 e9_0 e9_2 e9_3 e9_4 e9_5 a1 b1 c21 a2 b2 a8 b8
theorem s_sa55 {i t k j : Int} (M : MX 49 W ρ m A h0 h F V G) (e0 : m_lk lv 0 = some (.ref m)) {lx2 : Int32} (e2 : m_lk lv 2 = some (.int lx2)) (lq2 : lx2.toInt = i) {lx3 : Int32} (e3 : m_lk lv 3 = some (.int lx3)) (lq3 : lx3.toInt = t) {lx4 : Int32} (e4 : m_lk lv 4 = some (.int lx4)) (lq4 : lx4.toInt = k) {lx5 : Int32} (e5 : m_lk lv 5 = some (.int lx5)) (lq5 : lx5.toInt = j) (i0 : 0 ≤ i) (i1 : i ≤ 62) (j0 : 0 ≤ j) (j1 : j ≤ 62) (f0 : 0 ≤ F 43) (f1 : F 43 ≤ 62) (tT : -2147483648 ≤ t ∧ t ≤ 2147483647) (kT : -2147483648 ≤ k ∧ k ≤ 2147483647)(hw : d_sub [(78, 1001), (79, 1001), (49, 43)] W = true)
    (g0 : ∀ h1 : MH, ∀ V1 : Nat → Nat → Int, V1 = m_u V 44 (m_u (V 44) (j).toNat (t)) → ∀ h2 : MH, ∀ V2 : Nat → Nat → Int, V2 = m_u V1 45 (m_u (V1 45) (j).toNat (k)) → ∀ h6 : MH, ∀ F6 : Nat → Int, F6 = m_u F 43 ((F 43) + 1) → ∀ x7 : Int32, x7.toInt = i + 1 → ∀ lv7 : List (Nat × Value), MX 49 W ρ m A h0 h6 F6 V2 G → m_lk lv7 0 = some (.ref m) → m_lk lv7 2 = some (.int x7) → m_lk lv7 3 = some (.int lx3) → m_lk lv7 4 = some (.int lx4) → m_lk lv7 5 = some (.int lx5) → j ≤ 0 → 0 ≤ F 43 → F 43 ≤ 63 → HJ 230 16 lv7 [] h6 Q)
    (g1 : ∀ h14 : MH, ∀ V14 : Nat → Nat → Int, V14 = m_u V 44 (m_u (V 44) (j).toNat (V 44 (j - 1).toNat)) → ∀ h18 : MH, ∀ V18 : Nat → Nat → Int, V18 = m_u V14 45 (m_u (V14 45) (j).toNat (V 45 (j - 1).toNat)) → ∀ x19 : Int32, x19.toInt = j + (-1) → ∀ lv19 : List (Nat × Value), MX 49 W ρ m A h0 h18 F V18 G → m_lk lv19 0 = some (.ref m) → m_lk lv19 2 = some (.int lx2) → m_lk lv19 3 = some (.int lx3) → m_lk lv19 4 = some (.int lx4) → m_lk lv19 5 = some (.int x19) → j > 0 → k < V 45 (j - 1).toNat → HJ 230 55 lv19 [] h18 Q)
    (g2 : ∀ h23 : MH, ∀ V23 : Nat → Nat → Int, V23 = m_u V 44 (m_u (V 44) (j).toNat (t)) → ∀ h24 : MH, ∀ V24 : Nat → Nat → Int, V24 = m_u V23 45 (m_u (V23 45) (j).toNat (k)) → ∀ h28 : MH, ∀ F28 : Nat → Int, F28 = m_u F 43 ((F 43) + 1) → ∀ x29 : Int32, x29.toInt = i + 1 → ∀ lv29 : List (Nat × Value), MX 49 W ρ m A h0 h28 F28 V24 G → m_lk lv29 0 = some (.ref m) → m_lk lv29 2 = some (.int x29) → m_lk lv29 3 = some (.int lx3) → m_lk lv29 4 = some (.int lx4) → m_lk lv29 5 = some (.int lx5) → j > 0 → k ≥ V 45 (j - 1).toNat → k ≠ V 45 (j - 1).toNat → 0 ≤ F 43 → F 43 ≤ 63 → HJ 230 16 lv29 [] h28 Q)
    (g3 : ∀ h33 : MH, ∀ V33 : Nat → Nat → Int, V33 = m_u V 44 (m_u (V 44) (j).toNat (t)) → ∀ h34 : MH, ∀ V34 : Nat → Nat → Int, V34 = m_u V33 45 (m_u (V33 45) (j).toNat (k)) → ∀ h38 : MH, ∀ F38 : Nat → Int, F38 = m_u F 43 ((F 43) + 1) → ∀ x39 : Int32, x39.toInt = i + 1 → ∀ lv39 : List (Nat × Value), MX 49 W ρ m A h0 h38 F38 V34 G → m_lk lv39 0 = some (.ref m) → m_lk lv39 2 = some (.int x39) → m_lk lv39 3 = some (.int lx3) → m_lk lv39 4 = some (.int lx4) → m_lk lv39 5 = some (.int lx5) → j > 0 → k ≥ V 45 (j - 1).toNat → k = V 45 (j - 1).toNat → t ≥ V 44 (j - 1).toNat → 0 ≤ F 43 → F 43 ≤ 63 → HJ 230 16 lv39 [] h38 Q)
    (g4 : ∀ h43 : MH, ∀ V43 : Nat → Nat → Int, V43 = m_u V 44 (m_u (V 44) (j).toNat (V 44 (j - 1).toNat)) → ∀ h47 : MH, ∀ V47 : Nat → Nat → Int, V47 = m_u V43 45 (m_u (V43 45) (j).toNat (V 45 (j - 1).toNat)) → ∀ x48 : Int32, x48.toInt = j + (-1) → ∀ lv48 : List (Nat × Value), MX 49 W ρ m A h0 h47 F V47 G → m_lk lv48 0 = some (.ref m) → m_lk lv48 2 = some (.int lx2) → m_lk lv48 3 = some (.int lx3) → m_lk lv48 4 = some (.int lx4) → m_lk lv48 5 = some (.int x48) → j > 0 → k ≥ V 45 (j - 1).toNat → k = V 45 (j - 1).toNat → t < V 44 (j - 1).toNat → HJ 230 55 lv48 [] h47 Q)
    : HJ 230 55 lv [] h Q := by
  refine hI_il2 (k := 5) rfl e5 rfl ?_ -- 55
  refine hM_zle (off := 82) (t := 139) rfl lq5 (by decide) rfl (fun c57 => ?_) (fun c57 => ?_) -- 57
  · refine hI_al (k := 0) rfl e0 rfl ?_ -- 139
    refine hM_ga M (by decide) rfl rfl (k := 44) (c := 9) rfl rfl rfl (by decide +kernel) rfl ?_ -- 140
    refine hI_il2 (k := 5) rfl e5 rfl ?_ -- 143
    refine hI_il (k := 3) rfl e3 rfl ?_ -- 145
    refine hM_is M (by decide) ok_49 (K := 44) (R2 := 78) (L := 64) (H := 64) (lo := (-2147483648)) (hi := 2147483647) rfl (by decide) rfl rfl rfl (fun _ => rfl) (d_subm hw (by decide +kernel)) rfl lq5 lq3 (by omega) (by omega) (by omega) (by omega) rfl (fun h1 V1 f1 M1 => ?_) -- 146
    refine hI_al (k := 0) rfl e0 rfl ?_ -- 147
    refine hM_ga M1 (by decide) rfl rfl (k := 45) (c := 9) rfl rfl rfl (by decide +kernel) rfl ?_ -- 148
    refine hI_il2 (k := 5) rfl e5 rfl ?_ -- 151
    refine hI_il2 (k := 4) rfl e4 rfl ?_ -- 153
    refine hM_is M1 (by decide) ok_49 (K := 45) (R2 := 79) (L := 64) (H := 64) (lo := (-2147483648)) (hi := 2147483647) rfl (by decide) rfl rfl rfl (fun _ => rfl) (d_subm hw (by decide +kernel)) rfl lq5 lq4 (by omega) (by omega) (by omega) (by omega) rfl (fun h2 V2 f2 M2 => ?_) -- 155
    refine hI_al (k := 0) rfl e0 rfl ?_ -- 156
    refine hI_dup rfl rfl rfl ?_ -- 157
    refine hM_gi M2 (by decide) rfl rfl rfl (k := 43) (c := 9) (lo := 0) (hi := 63) rfl rfl rfl rfl rfl (fun x3 q3 a3 b3 => ?_) -- 158
    refine hM_ic (n := 1) rfl (by decide) rfl (fun x4 q4 => ?_) -- 161
    refine hM_add rfl q3 q4 (by omega) (by omega) rfl (fun x5 q5 => ?_) -- 162
    refine hM_pi M2 (by decide) ok_49 rfl rfl (k := 43) (c := 9) (lo := 0) (hi := 63) rfl rfl ⟨by decide, by decide +kernel, rfl⟩ rfl (d_subm hw (by decide +kernel)) q5 (by omega) (by omega) rfl (fun h6 F6 f6 M6 => ?_) -- 163
    refine hM_inc (k := 2) (z := 1) rfl e2 lq2 (by decide) (by omega) (by omega) (by decide +kernel) rfl (fun lv7 x7 q7 e7_2 u7 => ?_) -- 166
    have e7_0 := u7 0 _ (by decide) (Or.inl rfl) e0
    have e7_3 := u7 3 _ (by decide) (Or.inl rfl) e3
    have e7_4 := u7 4 _ (by decide) (Or.inl rfl) e4
    have e7_5 := u7 5 _ (by decide) (Or.inl rfl) e5
    refine hI_go (pc' := 16) (off := (-153)) rfl (by decide) ?_ -- 169
    exact g0 h1 V1 f1 h2 V2 f2 h6 F6 f6 x7 q7 lv7 M6 e7_0 e7_2 e7_3 e7_4 e7_5 c57 a3 b3
  · refine hI_il2 (k := 4) rfl e4 rfl ?_ -- 60
    refine hI_al (k := 0) rfl e0 rfl ?_ -- 62
    refine hM_ga M (by decide) rfl rfl (k := 45) (c := 9) rfl rfl rfl (by decide +kernel) rfl ?_ -- 63
    refine hI_il2 (k := 5) rfl e5 rfl ?_ -- 66
    refine hM_ic (n := 1) rfl (by decide) rfl (fun x8 q8 => ?_) -- 68
    refine hM_sub rfl lq5 q8 (by omega) (by omega) rfl (fun x9 q9 => ?_) -- 69
    refine hM_ia M (by decide) (K := 45) (R2 := 79) (L := 64) (H := 64) (lo := (-2147483648)) (hi := 2147483647) rfl (by decide) rfl rfl (fun _ => rfl) rfl q9 (by omega) (by omega) rfl (fun x10 q10 a10 b10 => ?_) -- 70
    refine hM_clt (off := 30) (t := 101) rfl lq4 q10 (by decide) rfl (fun c71 => ?_) (fun c71 => ?_) -- 71
    · refine hI_al (k := 0) rfl e0 rfl ?_ -- 101
      refine hM_ga M (by decide) rfl rfl (k := 44) (c := 9) rfl rfl rfl (by decide +kernel) rfl ?_ -- 102
      refine hI_il2 (k := 5) rfl e5 rfl ?_ -- 105
      refine hI_al (k := 0) rfl e0 rfl ?_ -- 107
      refine hM_ga M (by decide) rfl rfl (k := 44) (c := 9) rfl rfl rfl (by decide +kernel) rfl ?_ -- 108
      refine hI_il2 (k := 5) rfl e5 rfl ?_ -- 111
      refine hM_ic (n := 1) rfl (by decide) rfl (fun x11 q11 => ?_) -- 113
      refine hM_sub rfl lq5 q11 (by omega) (by omega) rfl (fun x12 q12 => ?_) -- 114
      refine hM_ia M (by decide) (K := 44) (R2 := 78) (L := 64) (H := 64) (lo := (-2147483648)) (hi := 2147483647) rfl (by decide) rfl rfl (fun _ => rfl) rfl q12 (by omega) (by omega) rfl (fun x13 q13 a13 b13 => ?_) -- 115
      refine hM_is M (by decide) ok_49 (K := 44) (R2 := 78) (L := 64) (H := 64) (lo := (-2147483648)) (hi := 2147483647) rfl (by decide) rfl rfl rfl (fun _ => rfl) (d_subm hw (by decide +kernel)) rfl lq5 q13 (by omega) (by omega) (by omega) (by omega) rfl (fun h14 V14 f14 M14 => ?_) -- 116
      refine hI_al (k := 0) rfl e0 rfl ?_ -- 117
      refine hM_ga M14 (by decide) rfl rfl (k := 45) (c := 9) rfl rfl rfl (by decide +kernel) rfl ?_ -- 118
      refine hI_il2 (k := 5) rfl e5 rfl ?_ -- 121
      refine hI_al (k := 0) rfl e0 rfl ?_ -- 123
      refine hM_ga M14 (by decide) rfl rfl (k := 45) (c := 9) rfl rfl rfl (by decide +kernel) rfl ?_ -- 124
      refine hI_il2 (k := 5) rfl e5 rfl ?_ -- 127
      refine hM_ic (n := 1) rfl (by decide) rfl (fun x15 q15 => ?_) -- 129
      refine hM_sub rfl lq5 q15 (by omega) (by omega) rfl (fun x16 q16 => ?_) -- 130
      refine hM_ia M14 (by decide) (K := 45) (R2 := 79) (L := 64) (H := 64) (lo := (-2147483648)) (hi := 2147483647) rfl (by decide) rfl rfl (fun _ => rfl) rfl q16 (by omega) (by omega) rfl (fun x17 q17 a17 b17 => ?_) -- 131
      have q17 : x17.toInt = V 45 (j - 1).toNat := by rw [q17, f14]; rfl
      rw [f14] at a17 b17
      change (-2147483648) ≤ V 45 (j - 1).toNat at a17
      change V 45 (j - 1).toNat ≤ 2147483647 at b17 -- 131
      refine hM_is M14 (by decide) ok_49 (K := 45) (R2 := 79) (L := 64) (H := 64) (lo := (-2147483648)) (hi := 2147483647) rfl (by decide) rfl rfl rfl (fun _ => rfl) (d_subm hw (by decide +kernel)) rfl lq5 q17 (by omega) (by omega) (by omega) (by omega) rfl (fun h18 V18 f18 M18 => ?_) -- 132
      refine hM_inc (k := 5) (z := (-1)) rfl e5 lq5 (by decide) (by omega) (by omega) (by decide +kernel) rfl (fun lv19 x19 q19 e19_5 u19 => ?_) -- 133
      have e19_0 := u19 0 _ (by decide) (Or.inl rfl) e0
      have e19_2 := u19 2 _ (by decide) (Or.inl rfl) e2
      have e19_3 := u19 3 _ (by decide) (Or.inl rfl) e3
      have e19_4 := u19 4 _ (by decide) (Or.inl rfl) e4
      refine hI_go (pc' := 55) (off := (-81)) rfl (by decide) ?_ -- 136
      exact g1 h14 V14 f14 h18 V18 f18 x19 q19 lv19 M18 e19_0 e19_2 e19_3 e19_4 e19_5 c57 c71
    · refine hI_il2 (k := 4) rfl e4 rfl ?_ -- 74
      refine hI_al (k := 0) rfl e0 rfl ?_ -- 76
      refine hM_ga M (by decide) rfl rfl (k := 45) (c := 9) rfl rfl rfl (by decide +kernel) rfl ?_ -- 77
      refine hI_il2 (k := 5) rfl e5 rfl ?_ -- 80
      refine hM_ic (n := 1) rfl (by decide) rfl (fun x20 q20 => ?_) -- 82
      refine hM_sub rfl lq5 q20 (by omega) (by omega) rfl (fun x21 q21 => ?_) -- 83
      refine hM_ia M (by decide) (K := 45) (R2 := 79) (L := 64) (H := 64) (lo := (-2147483648)) (hi := 2147483647) rfl (by decide) rfl rfl (fun _ => rfl) rfl q21 (by omega) (by omega) rfl (fun x22 q22 a22 b22 => ?_) -- 84
      refine hM_cne (off := 54) (t := 139) rfl lq4 q22 (by decide) rfl (fun c85 => ?_) (fun c85 => ?_) -- 85
      · refine hI_al (k := 0) rfl e0 rfl ?_ -- 139
        refine hM_ga M (by decide) rfl rfl (k := 44) (c := 9) rfl rfl rfl (by decide +kernel) rfl ?_ -- 140
        refine hI_il2 (k := 5) rfl e5 rfl ?_ -- 143
        refine hI_il (k := 3) rfl e3 rfl ?_ -- 145
        refine hM_is M (by decide) ok_49 (K := 44) (R2 := 78) (L := 64) (H := 64) (lo := (-2147483648)) (hi := 2147483647) rfl (by decide) rfl rfl rfl (fun _ => rfl) (d_subm hw (by decide +kernel)) rfl lq5 lq3 (by omega) (by omega) (by omega) (by omega) rfl (fun h23 V23 f23 M23 => ?_) -- 146
        refine hI_al (k := 0) rfl e0 rfl ?_ -- 147
        refine hM_ga M23 (by decide) rfl rfl (k := 45) (c := 9) rfl rfl rfl (by decide +kernel) rfl ?_ -- 148
        refine hI_il2 (k := 5) rfl e5 rfl ?_ -- 151
        refine hI_il2 (k := 4) rfl e4 rfl ?_ -- 153
        refine hM_is M23 (by decide) ok_49 (K := 45) (R2 := 79) (L := 64) (H := 64) (lo := (-2147483648)) (hi := 2147483647) rfl (by decide) rfl rfl rfl (fun _ => rfl) (d_subm hw (by decide +kernel)) rfl lq5 lq4 (by omega) (by omega) (by omega) (by omega) rfl (fun h24 V24 f24 M24 => ?_) -- 155
        refine hI_al (k := 0) rfl e0 rfl ?_ -- 156
        refine hI_dup rfl rfl rfl ?_ -- 157
        refine hM_gi M24 (by decide) rfl rfl rfl (k := 43) (c := 9) (lo := 0) (hi := 63) rfl rfl rfl rfl rfl (fun x25 q25 a25 b25 => ?_) -- 158
        refine hM_ic (n := 1) rfl (by decide) rfl (fun x26 q26 => ?_) -- 161
        refine hM_add rfl q25 q26 (by omega) (by omega) rfl (fun x27 q27 => ?_) -- 162
        refine hM_pi M24 (by decide) ok_49 rfl rfl (k := 43) (c := 9) (lo := 0) (hi := 63) rfl rfl ⟨by decide, by decide +kernel, rfl⟩ rfl (d_subm hw (by decide +kernel)) q27 (by omega) (by omega) rfl (fun h28 F28 f28 M28 => ?_) -- 163
        refine hM_inc (k := 2) (z := 1) rfl e2 lq2 (by decide) (by omega) (by omega) (by decide +kernel) rfl (fun lv29 x29 q29 e29_2 u29 => ?_) -- 166
        have e29_0 := u29 0 _ (by decide) (Or.inl rfl) e0
        have e29_3 := u29 3 _ (by decide) (Or.inl rfl) e3
        have e29_4 := u29 4 _ (by decide) (Or.inl rfl) e4
        have e29_5 := u29 5 _ (by decide) (Or.inl rfl) e5
        refine hI_go (pc' := 16) (off := (-153)) rfl (by decide) ?_ -- 169
        exact g2 h23 V23 f23 h24 V24 f24 h28 F28 f28 x29 q29 lv29 M28 e29_0 e29_2 e29_3 e29_4 e29_5 c57 c71 c85 a25 b25
      · refine hI_il (k := 3) rfl e3 rfl ?_ -- 88
        refine hI_al (k := 0) rfl e0 rfl ?_ -- 89
        refine hM_ga M (by decide) rfl rfl (k := 44) (c := 9) rfl rfl rfl (by decide +kernel) rfl ?_ -- 90
        refine hI_il2 (k := 5) rfl e5 rfl ?_ -- 93
        refine hM_ic (n := 1) rfl (by decide) rfl (fun x30 q30 => ?_) -- 95
        refine hM_sub rfl lq5 q30 (by omega) (by omega) rfl (fun x31 q31 => ?_) -- 96
        refine hM_ia M (by decide) (K := 44) (R2 := 78) (L := 64) (H := 64) (lo := (-2147483648)) (hi := 2147483647) rfl (by decide) rfl rfl (fun _ => rfl) rfl q31 (by omega) (by omega) rfl (fun x32 q32 a32 b32 => ?_) -- 97
        refine hM_cge (off := 41) (t := 139) rfl lq3 q32 (by decide) rfl (fun c98 => ?_) (fun c98 => ?_) -- 98
        · refine hI_al (k := 0) rfl e0 rfl ?_ -- 139
          refine hM_ga M (by decide) rfl rfl (k := 44) (c := 9) rfl rfl rfl (by decide +kernel) rfl ?_ -- 140
          refine hI_il2 (k := 5) rfl e5 rfl ?_ -- 143
          refine hI_il (k := 3) rfl e3 rfl ?_ -- 145
          refine hM_is M (by decide) ok_49 (K := 44) (R2 := 78) (L := 64) (H := 64) (lo := (-2147483648)) (hi := 2147483647) rfl (by decide) rfl rfl rfl (fun _ => rfl) (d_subm hw (by decide +kernel)) rfl lq5 lq3 (by omega) (by omega) (by omega) (by omega) rfl (fun h33 V33 f33 M33 => ?_) -- 146
          refine hI_al (k := 0) rfl e0 rfl ?_ -- 147
          refine hM_ga M33 (by decide) rfl rfl (k := 45) (c := 9) rfl rfl rfl (by decide +kernel) rfl ?_ -- 148
          refine hI_il2 (k := 5) rfl e5 rfl ?_ -- 151
          refine hI_il2 (k := 4) rfl e4 rfl ?_ -- 153
          refine hM_is M33 (by decide) ok_49 (K := 45) (R2 := 79) (L := 64) (H := 64) (lo := (-2147483648)) (hi := 2147483647) rfl (by decide) rfl rfl rfl (fun _ => rfl) (d_subm hw (by decide +kernel)) rfl lq5 lq4 (by omega) (by omega) (by omega) (by omega) rfl (fun h34 V34 f34 M34 => ?_) -- 155
          refine hI_al (k := 0) rfl e0 rfl ?_ -- 156
          refine hI_dup rfl rfl rfl ?_ -- 157
          refine hM_gi M34 (by decide) rfl rfl rfl (k := 43) (c := 9) (lo := 0) (hi := 63) rfl rfl rfl rfl rfl (fun x35 q35 a35 b35 => ?_) -- 158
          refine hM_ic (n := 1) rfl (by decide) rfl (fun x36 q36 => ?_) -- 161
          refine hM_add rfl q35 q36 (by omega) (by omega) rfl (fun x37 q37 => ?_) -- 162
          refine hM_pi M34 (by decide) ok_49 rfl rfl (k := 43) (c := 9) (lo := 0) (hi := 63) rfl rfl ⟨by decide, by decide +kernel, rfl⟩ rfl (d_subm hw (by decide +kernel)) q37 (by omega) (by omega) rfl (fun h38 F38 f38 M38 => ?_) -- 163
          refine hM_inc (k := 2) (z := 1) rfl e2 lq2 (by decide) (by omega) (by omega) (by decide +kernel) rfl (fun lv39 x39 q39 e39_2 u39 => ?_) -- 166
          have e39_0 := u39 0 _ (by decide) (Or.inl rfl) e0
          have e39_3 := u39 3 _ (by decide) (Or.inl rfl) e3
          have e39_4 := u39 4 _ (by decide) (Or.inl rfl) e4
          have e39_5 := u39 5 _ (by decide) (Or.inl rfl) e5
          refine hI_go (pc' := 16) (off := (-153)) rfl (by decide) ?_ -- 169
          exact g3 h33 V33 f33 h34 V34 f34 h38 F38 f38 x39 q39 lv39 M38 e39_0 e39_2 e39_3 e39_4 e39_5 c57 c71 c85 c98 a35 b35
        · refine hI_al (k := 0) rfl e0 rfl ?_ -- 101
          refine hM_ga M (by decide) rfl rfl (k := 44) (c := 9) rfl rfl rfl (by decide +kernel) rfl ?_ -- 102
          refine hI_il2 (k := 5) rfl e5 rfl ?_ -- 105
          refine hI_al (k := 0) rfl e0 rfl ?_ -- 107
          refine hM_ga M (by decide) rfl rfl (k := 44) (c := 9) rfl rfl rfl (by decide +kernel) rfl ?_ -- 108
          refine hI_il2 (k := 5) rfl e5 rfl ?_ -- 111
          refine hM_ic (n := 1) rfl (by decide) rfl (fun x40 q40 => ?_) -- 113
          refine hM_sub rfl lq5 q40 (by omega) (by omega) rfl (fun x41 q41 => ?_) -- 114
          refine hM_ia M (by decide) (K := 44) (R2 := 78) (L := 64) (H := 64) (lo := (-2147483648)) (hi := 2147483647) rfl (by decide) rfl rfl (fun _ => rfl) rfl q41 (by omega) (by omega) rfl (fun x42 q42 a42 b42 => ?_) -- 115
          refine hM_is M (by decide) ok_49 (K := 44) (R2 := 78) (L := 64) (H := 64) (lo := (-2147483648)) (hi := 2147483647) rfl (by decide) rfl rfl rfl (fun _ => rfl) (d_subm hw (by decide +kernel)) rfl lq5 q42 (by omega) (by omega) (by omega) (by omega) rfl (fun h43 V43 f43 M43 => ?_) -- 116
          refine hI_al (k := 0) rfl e0 rfl ?_ -- 117
          refine hM_ga M43 (by decide) rfl rfl (k := 45) (c := 9) rfl rfl rfl (by decide +kernel) rfl ?_ -- 118
          refine hI_il2 (k := 5) rfl e5 rfl ?_ -- 121
          refine hI_al (k := 0) rfl e0 rfl ?_ -- 123
          refine hM_ga M43 (by decide) rfl rfl (k := 45) (c := 9) rfl rfl rfl (by decide +kernel) rfl ?_ -- 124
          refine hI_il2 (k := 5) rfl e5 rfl ?_ -- 127
          refine hM_ic (n := 1) rfl (by decide) rfl (fun x44 q44 => ?_) -- 129
          refine hM_sub rfl lq5 q44 (by omega) (by omega) rfl (fun x45 q45 => ?_) -- 130
          refine hM_ia M43 (by decide) (K := 45) (R2 := 79) (L := 64) (H := 64) (lo := (-2147483648)) (hi := 2147483647) rfl (by decide) rfl rfl (fun _ => rfl) rfl q45 (by omega) (by omega) rfl (fun x46 q46 a46 b46 => ?_) -- 131
          have q46 : x46.toInt = V 45 (j - 1).toNat := by rw [q46, f43]; rfl
          rw [f43] at a46 b46
          change (-2147483648) ≤ V 45 (j - 1).toNat at a46
          change V 45 (j - 1).toNat ≤ 2147483647 at b46 -- 131
          refine hM_is M43 (by decide) ok_49 (K := 45) (R2 := 79) (L := 64) (H := 64) (lo := (-2147483648)) (hi := 2147483647) rfl (by decide) rfl rfl rfl (fun _ => rfl) (d_subm hw (by decide +kernel)) rfl lq5 q46 (by omega) (by omega) (by omega) (by omega) rfl (fun h47 V47 f47 M47 => ?_) -- 132
          refine hM_inc (k := 5) (z := (-1)) rfl e5 lq5 (by decide) (by omega) (by omega) (by decide +kernel) rfl (fun lv48 x48 q48 e48_5 u48 => ?_) -- 133
          have e48_0 := u48 0 _ (by decide) (Or.inl rfl) e0
          have e48_2 := u48 2 _ (by decide) (Or.inl rfl) e2
          have e48_3 := u48 3 _ (by decide) (Or.inl rfl) e3
          have e48_4 := u48 4 _ (by decide) (Or.inl rfl) e4
          refine hI_go (pc' := 55) (off := (-81)) rfl (by decide) ?_ -- 136
          exact g4 h43 V43 f43 h47 V47 f47 x48 q48 lv48 M47 e48_0 e48_2 e48_3 e48_4 e48_5 c57 c71 c85 c98
theorem l_sa55 {i : Nat} {w : Nat} {xi xt xk : Int32} {V0 : Nat → Nat → Int} {f43 : Nat} (hw : d_sub [(78, 1001), (79, 1001), (49, 43)] W = true) (fo : F 43 = (f43 : Int)) (f62 : f43 ≤ 62) (i62 : i ≤ 62) (hi : xi.toInt = (i : Int)) (g : ∀ (lv : List (Nat × Value)) (h : MH) (F' : Nat → Int) (V : Nat → Nat → Int) (xi' : Int32), MX 49 W ρ m A h0 h F' V G → F' = m_u F 43 (F 43 + 1) → (∀ K, K ≠ 44 → K ≠ 45 → V K = V0 K) → xi'.toInt = (i : Int) + 1 → m_lk lv 0 = some (.ref m) → m_lk lv 2 = some (.int xi') → HJ 230 16 lv [] h Q) : ∀ (j : Nat) (lv : List (Nat × Value)) (h : MH) (V : Nat → Nat → Int) (xj : Int32), j ≤ 62 → MX 49 W ρ m A h0 h F V G → (∀ K, K ≠ 44 → K ≠ 45 → V K = V0 K) → xj.toInt = (j : Int) → m_lk lv 0 = some (.ref m) → m_lk lv 2 = some (.int xi) → m_lk lv 3 = some (.int xt) → m_lk lv 4 = some (.int xk) → m_lk lv 5 = some (.int xj) → HJ 230 55 lv [] h Q := by
  have tT : -2147483648 ≤ xt.toInt ∧ xt.toInt ≤ 2147483647 := g_iT xt
  have kT : -2147483648 ≤ xk.toInt ∧ xk.toInt ≤ 2147483647 := g_iT xk
  have nx : ∀ {V V1 V2 : Nat → Nat → Int} {a b : Nat → Int}, (∀ K, K ≠ 44 → K ≠ 45 → V K = V0 K) → V1 = m_u V 44 a → V2 = m_u V1 45 b → ∀ K, K ≠ 44 → K ≠ 45 → V2 K = V0 K := fun vo p1 p2 K k1 k2 => by rw [p2, m_uN _ _ _ _ k2, p1, m_uN _ _ _ _ k1, vo K k1 k2]
  intro j
  induction j with
  | zero =>
    intro lv h V xj hj M vo qj e0 e2 e3 e4 e5
    exact s_sa55 M e0 e2 hi e3 rfl e4 rfl e5 qj (by omega) (by omega) (by omega) (by omega) (by omega) (by omega) tT kT hw (fun h1 V1 f1 h2 V2 f2 h6 F6 f6 x7 q7 lv7 M6 d0 d2 d3 d4 d5 _ _ _ => g lv7 h6 F6 V2 x7 M6 f6 (nx vo f1 f2) q7 d0 d2) (fun h14 V14 f14 h18 V18 f18 x19 q19 lv19 M18 _ _ _ _ _ c _ => by omega) (fun h1 V1 f1 h2 V2 f2 h6 F6 f6 x7 q7 lv7 M6 d0 d2 d3 d4 d5 c _ _ _ _ => by omega) (fun h1 V1 f1 h2 V2 f2 h6 F6 f6 x7 q7 lv7 M6 d0 d2 d3 d4 d5 c _ _ _ _ _ => by omega) (fun h14 V14 f14 h18 V18 f18 x19 q19 lv19 M18 _ _ _ _ _ c _ _ _ => by omega)
  | succ j ih =>
    intro lv h V xj hj M vo qj e0 e2 e3 e4 e5
    exact s_sa55 M e0 e2 hi e3 rfl e4 rfl e5 qj (by omega) (by omega) (by omega) (by omega) (by omega) (by omega) tT kT hw (fun h1 V1 f1 h2 V2 f2 h6 F6 f6 x7 q7 lv7 M6 d0 d2 d3 d4 d5 _ _ _ => g lv7 h6 F6 V2 x7 M6 f6 (nx vo f1 f2) q7 d0 d2) (fun h14 V14 f14 h18 V18 f18 x19 q19 lv19 M18 d0 d2 d3 d4 d5 c _ => ih lv19 h18 V18 x19 (by omega) M18 (nx vo f14 f18) (by omega) d0 d2 d3 d4 d5) (fun h1 V1 f1 h2 V2 f2 h6 F6 f6 x7 q7 lv7 M6 d0 d2 d3 d4 d5 c _ _ _ _ => g lv7 h6 F6 V2 x7 M6 f6 (nx vo f1 f2) q7 d0 d2) (fun h1 V1 f1 h2 V2 f2 h6 F6 f6 x7 q7 lv7 M6 d0 d2 d3 d4 d5 c _ _ _ _ _ => g lv7 h6 F6 V2 x7 M6 f6 (nx vo f1 f2) q7 d0 d2) (fun h14 V14 f14 h18 V18 f18 x19 q19 lv19 M18 d0 d2 d3 d4 d5 c _ _ _ => ih lv19 h18 V18 x19 (by omega) M18 (nx vo f14 f18) (by omega) d0 d2 d3 d4 d5)
theorem l_sa16 {w : Nat} {F0 : Nat → Int} {V0 : Nat → Nat → Int} (hw : d_sub [(78, 1001), (79, 1001), (49, 43)] W = true) (w63 : w ≤ 63) (g : ∀ (h' : MH) (F' : Nat → Int) (V' : Nat → Nat → Int), MX 49 W ρ m A h0 h' F' V' G → F' 43 = (w : Int) → (∀ K, K ≠ 43 → F' K = F0 K) → (∀ K, K ≠ 44 → K ≠ 45 → V' K = V0 K) → Q none h') : ∀ (d i : Nat) (lv : List (Nat × Value)) (h : MH) (F : Nat → Int) (V : Nat → Nat → Int) (xi : Int32), i + d = w → MX 49 W ρ m A h0 h F V G → F 26 = (w : Int) → F 43 = (i : Int) → (∀ K, K ≠ 43 → F K = F0 K) → (∀ K, K ≠ 44 → K ≠ 45 → V K = V0 K) → xi.toInt = (i : Int) → m_lk lv 0 = some (.ref m) → m_lk lv 2 = some (.int xi) → HJ 230 16 lv [] h Q := by
  intro d
  induction d with
  | zero =>
    intro i lv h F V xi hd M fw f43 fo vo hi e0 e2
    have iw : i = w := by omega
    subst iw
    exact s_sa16 M e0 e2 hi (by omega) (by omega) (fun _ _ _ => g h F V M f43 fo vo) (fun x3 q3 x6 q6 x8 q8 lv9 _ _ _ _ _ _ _ c _ _ _ _ => by omega)
  | succ d ih =>
    intro i lv h F V xi hd M fw f43 fo vo hi e0 e2
    refine s_sa16 M e0 e2 hi (by omega) (by omega) (fun _ _ _ => by omega) (fun x3 q3 x6 q6 x8 q8 lv9 d0 d2 d3 d4 d5 _ _ c _ _ _ _ => ?_)
    exact l_sa55 (i := i) (w := w) (V0 := V0) (f43 := i) hw f43 (by omega) (by omega) hi (fun lv7 h6 F6 V2 x7 M6 f6 vo2 q7 b0 b2 => ih (i + 1) lv7 h6 F6 V2 x7 (by omega) M6 (by rw [f6, m_uN _ _ _ _ (by decide)]; exact fw) (by rw [f6, m_uE]; omega) (fun K hK => by rw [f6, m_uN _ _ _ _ hK, fo K hK]) vo2 (by omega) b0 b2) i lv9 h V x8 (by omega) M vo (by omega) d0 d2 d3 d4 d5
def g_so : List (Nat × Nat) := g_wk ++ [(61, 1001), (78, 1001), (79, 1001), (49, 43)]
theorem c_sortAll {v : Nat} {xv : Int32} (M : MX 49 W ρ m A h0 h F V G) (hw : d_sub g_so W = true) (qv : xv.toInt = (v : Int)) (v40 : v ≤ 40) (vs : (v : Int) < F 35) (n1 : F 17 ≤ 16000) (sh : p_sh (F 17) (V 22) (V 23)) (ro : p_ro (F 17) (F 35) (V 22) (V 36)) (g : ∀ (h' : MH) (F' : Nat → Int) (V' : Nat → Nat → Int), MX 49 W ρ m A h0 h' F' V' G → F' 43 = (p_wv (V 36) v : Int) → (∀ K, K ≠ 26 → K ≠ 43 → F' K = F K) → (∀ K, K < 24 ∨ (31 < K ∧ K ≠ 44 ∧ K ≠ 45) → V' K = V K) → Q none h') : HJ 230 0 (lv_args 0 [.ref m, .int xv]) [] h Q := by
  have w1 : d_sub [(61, 1001)] W = true := d_subm hw (by decide +kernel)
  have w2 : d_sub g_wk W = true := d_subm hw (by decide +kernel)
  have w3 : d_sub [(78, 1001), (79, 1001), (49, 43)] W = true := d_subm hw (by decide +kernel)
  have w4 : d_sub [(49, 43)] W = true := d_subm hw (by decide +kernel)
  refine s_sa0 M rfl rfl qv (c_hand (v := v) M qv v40 w1 (fun h2 V2 M2 k1 k2 => ?_))
  refine s_sa5 M2 rfl ?_
  refine c_walkAll M2 rfl w2 (by rw [k2 22 (by decide), k2 23 (by decide)]; exact sh) (fun r h6 => ?_) n1 (fun h3 F3 V3 M3 J fw X _ => ?_)
  · rw [k2 22 (by decide), k1 r h6]
    exact ro v r vs h6
  · have e : p_ws (V2 24) 6 = p_wv (V 36) v := p_wsC (fun r h6 => k1 r h6)
    have wl := p_wvL (V 36) v
    rw [e] at fw
    refine s_sa9 M3 rfl w4 (fun h4 F4 f4 x3 q3 lv4 M4 e0 e2 => ?_)
    refine l_sa16 (w := p_wv (V 36) v) (F0 := F3) (V0 := V3) w3 (by omega) (fun h5 F5 V5 M5 f43 fo vo => g h5 F5 V5 M5 f43 (fun K k3 k4 => (fo K k4).trans (J.1 K k3)) (fun K hK => by rw [vo K (by omega) (by omega), J.2 K (by omega), k2 K (by omega)])) (p_wv (V 36) v) 0 lv4 h4 F4 V3 x3 (by omega) M4 (by rw [f4, m_uN _ _ _ _ (by decide)]; exact fw) (by rw [f4, m_uE]; rfl) (fun K hK => by rw [f4, m_uN _ _ _ _ hK]) (fun _ _ _ => rfl) q3 e0 e2
theorem s_ht0 (M : MX 49 W ρ m A h0 h F V G) (e0 : m_lk lv 0 = some (.ref m)) 
    (g0 : ∀ x1 : Int32, x1.toInt = 0 → ∀ lv2 : List (Nat × Value), m_lk lv2 0 = some (.ref m) → m_lk lv2 1 = some (.int x1) → HJ 254 2 lv2 [] h Q)
    : HJ 254 0 lv [] h Q := by
  refine hM_ic (n := 0) rfl (by decide) rfl (fun x1 q1 => ?_) -- 0
  refine hM_si (k := 1) rfl (by decide +kernel) rfl (fun lv2 e2_1 u2 => ?_) -- 1
  have e2_0 := u2 0 _ (by decide) (Or.inl rfl) e0
  exact g0 x1 q1 lv2 e2_0 e2_1
theorem s_ht2 {k : Int} (M : MX 49 W ρ m A h0 h F V G) (e0 : m_lk lv 0 = some (.ref m)) {lx1 : Int32} (e1 : m_lk lv 1 = some (.int lx1)) (lq1 : lx1.toInt = k) 
    (g0 : ∀ x2 : Int32, x2.toInt = 0 → 0 ≤ F 43 → F 43 ≤ 63 → k ≥ F 43 → Q (some (.int x2)) h)
    (g1 : ∀ x3 : Int32, x3.toInt = 0 → ∀ lv4 : List (Nat × Value), m_lk lv4 0 = some (.ref m) → m_lk lv4 1 = some (.int lx1) → m_lk lv4 2 = some (.int x3) → 0 ≤ F 43 → F 43 ≤ 63 → k < F 43 → HJ 254 12 lv4 [] h Q)
    : HJ 254 2 lv [] h Q := by
  refine hI_il (k := 1) rfl e1 rfl ?_ -- 2
  refine hI_al (k := 0) rfl e0 rfl ?_ -- 3
  refine hM_gi M (by decide) rfl rfl rfl (k := 43) (c := 9) (lo := 0) (hi := 63) rfl rfl rfl rfl rfl (fun x1 q1 a1 b1 => ?_) -- 4
  refine hM_cge (off := 39) (t := 46) rfl lq1 q1 (by decide) rfl (fun c7 => ?_) (fun c7 => ?_) -- 7
  · refine hM_ic (n := 0) rfl (by decide) rfl (fun x2 q2 => ?_) -- 46
    refine hM_rb rfl rfl q2 (by omega) (by omega) ?_ -- 47
    exact g0 x2 q2 a1 b1 c7
  · refine hM_ic (n := 0) rfl (by decide) rfl (fun x3 q3 => ?_) -- 10
    refine hM_si (k := 2) rfl (by decide +kernel) rfl (fun lv4 e4_2 u4 => ?_) -- 11
    have e4_0 := u4 0 _ (by decide) (Or.inl rfl) e0
    have e4_1 := u4 1 _ (by decide) (Or.inl rfl) e1
    exact g1 x3 q3 lv4 e4_0 e4_1 e4_2 a1 b1 c7
theorem s_ht12 {k i : Int} (M : MX 49 W ρ m A h0 h F V G) (e0 : m_lk lv 0 = some (.ref m)) {lx1 : Int32} (e1 : m_lk lv 1 = some (.int lx1)) (lq1 : lx1.toInt = k) {lx2 : Int32} (e2 : m_lk lv 2 = some (.int lx2)) (lq2 : lx2.toInt = i) (k0 : 0 ≤ k) (k1 : k ≤ 62) (i0 : 0 ≤ i)
    (g0 : ∀ x1 : Int32, x1.toInt = k + 1 → ∀ lv1 : List (Nat × Value), m_lk lv1 0 = some (.ref m) → m_lk lv1 1 = some (.int x1) → m_lk lv1 2 = some (.int lx2) → i ≥ k → HJ 254 2 lv1 [] h Q)
    (g1 : ∀ x4 : Int32, x4.toInt = i + 1 → ∀ lv4 : List (Nat × Value), m_lk lv4 0 = some (.ref m) → m_lk lv4 1 = some (.int lx1) → m_lk lv4 2 = some (.int x4) → i < k → V 44 (i).toNat ≠ V 44 (k).toNat → HJ 254 12 lv4 [] h Q)
    (g2 : ∀ x5 : Int32, x5.toInt = 1 → i < k → V 44 (i).toNat = V 44 (k).toNat → Q (some (.int x5)) h)
    : HJ 254 12 lv [] h Q := by
  refine hI_il (k := 2) rfl e2 rfl ?_ -- 12
  refine hI_il (k := 1) rfl e1 rfl ?_ -- 13
  refine hM_cge (off := 26) (t := 40) rfl lq2 lq1 (by decide) rfl (fun c14 => ?_) (fun c14 => ?_) -- 14
  · refine hM_inc (k := 1) (z := 1) rfl e1 lq1 (by decide) (by omega) (by omega) (by decide +kernel) rfl (fun lv1 x1 q1 e1_1 u1 => ?_) -- 40
    have e1_0 := u1 0 _ (by decide) (Or.inl rfl) e0
    have e1_2 := u1 2 _ (by decide) (Or.inl rfl) e2
    refine hI_go (pc' := 2) (off := (-41)) rfl (by decide) ?_ -- 43
    exact g0 x1 q1 lv1 e1_0 e1_1 e1_2 c14
  · refine hI_al (k := 0) rfl e0 rfl ?_ -- 17
    refine hM_ga M (by decide) rfl rfl (k := 44) (c := 9) rfl rfl rfl (by decide +kernel) rfl ?_ -- 18
    refine hI_il (k := 2) rfl e2 rfl ?_ -- 21
    refine hM_ia M (by decide) (K := 44) (R2 := 78) (L := 64) (H := 64) (lo := (-2147483648)) (hi := 2147483647) rfl (by decide) rfl rfl (fun _ => rfl) rfl lq2 (by omega) (by omega) rfl (fun x2 q2 a2 b2 => ?_) -- 22
    refine hI_al (k := 0) rfl e0 rfl ?_ -- 23
    refine hM_ga M (by decide) rfl rfl (k := 44) (c := 9) rfl rfl rfl (by decide +kernel) rfl ?_ -- 24
    refine hI_il (k := 1) rfl e1 rfl ?_ -- 27
    refine hM_ia M (by decide) (K := 44) (R2 := 78) (L := 64) (H := 64) (lo := (-2147483648)) (hi := 2147483647) rfl (by decide) rfl rfl (fun _ => rfl) rfl lq1 (by omega) (by omega) rfl (fun x3 q3 a3 b3 => ?_) -- 28
    refine hM_cne (off := 5) (t := 34) rfl q2 q3 (by decide) rfl (fun c29 => ?_) (fun c29 => ?_) -- 29
    · refine hM_inc (k := 2) (z := 1) rfl e2 lq2 (by decide) (by omega) (by omega) (by decide +kernel) rfl (fun lv4 x4 q4 e4_2 u4 => ?_) -- 34
      have e4_0 := u4 0 _ (by decide) (Or.inl rfl) e0
      have e4_1 := u4 1 _ (by decide) (Or.inl rfl) e1
      refine hI_go (pc' := 12) (off := (-25)) rfl (by decide) ?_ -- 37
      exact g1 x4 q4 lv4 e4_0 e4_1 e4_2 c14 c29
    · refine hM_ic (n := 1) rfl (by decide) rfl (fun x5 q5 => ?_) -- 32
      refine hM_rb rfl rfl q5 (by omega) (by omega) ?_ -- 33
      exact g2 x5 q5 c14 c29
theorem c_hasTwice (M : MX 49 W ρ m A h0 h F V G) (g : ∀ z : Int32, Q (some (.int z)) h) : HJ 254 0 (lv_args 0 [.ref m]) [] h Q := by
  have b := M.fi (by decide) (k := 43) (lo := 0) (hi := 63) rfl rfl rfl
  have out : ∀ (d k : Nat) (lv : List (Nat × Value)) (xk : Int32), k + d = 63 → xk.toInt = (k : Int) → m_lk lv 0 = some (.ref m) → m_lk lv 1 = some (.int xk) → HJ 254 2 lv [] h Q := by
    intro d
    induction d with
    | zero =>
      intro k lv xk hd hk e0 e1
      exact s_ht2 M e0 e1 hk (fun z _ _ _ _ => g z) (fun x3 q3 lv4 _ _ _ _ _ c => by omega)
    | succ d ih =>
      intro k lv xk hd hk e0 e1
      have inn : ∀ (d i : Nat) (lv : List (Nat × Value)) (xi : Int32), i + d = k → xi.toInt = (i : Int) → m_lk lv 0 = some (.ref m) → m_lk lv 1 = some (.int xk) → m_lk lv 2 = some (.int xi) → HJ 254 12 lv [] h Q := by
        intro d2
        induction d2 with
        | zero =>
          intro i lv xi hd2 hi e0 e1 e2
          exact s_ht12 M e0 e1 hk e2 hi (by omega) (by omega) (by omega) (fun x1 q1 lv1 d0 d1 _ _ => ih (k + 1) lv1 x1 (by omega) (by omega) d0 d1) (fun x4 q4 lv4 _ _ _ c _ => by omega) (fun z _ _ _ => g z)
        | succ d2 ih2 =>
          intro i lv xi hd2 hi e0 e1 e2
          exact s_ht12 M e0 e1 hk e2 hi (by omega) (by omega) (by omega) (fun x1 q1 lv1 d0 d1 _ _ => ih (k + 1) lv1 x1 (by omega) (by omega) d0 d1) (fun x4 q4 lv4 d0 d1 d2 _ _ => ih2 (i + 1) lv4 x4 (by omega) (by omega) d0 d1 d2) (fun z _ _ _ => g z)
      exact s_ht2 M e0 e1 hk (fun z _ _ _ _ => g z) (fun x3 q3 lv4 d0 d1 d2 _ _ _ => inn k 0 lv4 x3 (by omega) q3 d0 d1 d2)
  exact s_ht0 M rfl (fun x1 q1 lv2 e0 e1 => out 63 0 lv2 x1 rfl q1 e0 e1)
theorem s_df0 {r a b : Int} (M : MX 49 W ρ m A h0 h F V G) (e0 : m_lk lv 0 = some (.ref m)) {lx1 : Int32} (e1 : m_lk lv 1 = some (.int lx1)) (lq1 : lx1.toInt = r) {lx2 : Int32} (e2 : m_lk lv 2 = some (.int lx2)) (lq2 : lx2.toInt = a) {lx3 : Int32} (e3 : m_lk lv 3 = some (.int lx3)) (lq3 : lx3.toInt = b) (hw : d_sub [(49, 0)] W = true)
    (g0 : ∀ h2 : MH, ∀ F2 : Nat → Int, F2 = m_u F 0 (0) → MX 49 W ρ m A h0 h2 F2 V G → HJ 240 0 (lv_args 0 [.ref m, .int lx1, .int lx2, .int lx3]) [] h2 (fun v h' => HJ 253 12 lv (v.toList ++ []) h' Q))
    : HJ 253 0 lv [] h Q := by
  refine hI_al (k := 0) rfl e0 rfl ?_ -- 0
  refine hM_ic (n := 0) rfl (by decide) rfl (fun x1 q1 => ?_) -- 1
  refine hM_pi M (by decide) ok_49 rfl rfl (k := 0) (c := 9) (lo := (-2147483648)) (hi := 2147483647) rfl rfl ⟨by decide, by decide +kernel, rfl⟩ rfl (d_subm hw (by decide +kernel)) q1 (by omega) (by omega) rfl (fun h2 F2 f2 M2 => ?_) -- 2
  refine hI_al (k := 0) rfl e0 rfl ?_ -- 5
  refine hI_il (k := 1) rfl e1 rfl ?_ -- 6
  refine hI_il (k := 2) rfl e2 rfl ?_ -- 7
  refine hI_il (k := 3) rfl e3 rfl ?_ -- 8
  refine hM_iv M2 (by decide) rfl rfl (by decide) (as := [.int lx1, .int lx2, .int lx3]) (r := []) rfl rfl (by decide +kernel) rfl (by decide +kernel) rfl rfl rfl rfl rfl ?_ -- 9
  exact g0 h2 F2 f2 M2
theorem s_df12 {r a b z : Int} (M : MX 49 W ρ m A h0 h F V G) (e0 : m_lk lv 0 = some (.ref m)) {lx1 : Int32} (e1 : m_lk lv 1 = some (.int lx1)) (lq1 : lx1.toInt = r) {lx2 : Int32} (e2 : m_lk lv 2 = some (.int lx2)) (lq2 : lx2.toInt = a) {lx3 : Int32} (e3 : m_lk lv 3 = some (.int lx3)) (lq3 : lx3.toInt = b) {sx0 : Int32} (sq0 : sx0.toInt = z) 
    (g0 : ∀ x1 : Int32, x1.toInt = (-1) → z = 0 → Q (some (.int x1)) h)
    (g1 : z ≠ 0 → HJ 207 0 (lv_args 0 [.ref m, .int lx2]) [] h (fun v h' => HJ 253 20 lv (v.toList ++ []) h' Q))
    : HJ 253 12 lv [.int sx0] h Q := by
  refine hM_zeq (off := 23) (t := 35) rfl sq0 (by decide) rfl (fun c12 => ?_) (fun c12 => ?_) -- 12
  · refine hM_ic (n := (-1)) rfl (by decide) rfl (fun x1 q1 => ?_) -- 35
    refine hI_ri rfl rfl ?_ -- 36
    exact g0 x1 q1 c12
  · refine hI_al (k := 0) rfl e0 rfl ?_ -- 15
    refine hI_il (k := 2) rfl e2 rfl ?_ -- 16
    refine hM_iv M (by decide) rfl rfl (by decide) (as := [.int lx2]) (r := []) rfl rfl (by decide +kernel) rfl (by decide +kernel) rfl rfl rfl rfl rfl ?_ -- 17
    exact g1 c12
theorem s_df20 {r a b y : Int} (M : MX 49 W ρ m A h0 h F V G) (e0 : m_lk lv 0 = some (.ref m)) {lx1 : Int32} (e1 : m_lk lv 1 = some (.int lx1)) (lq1 : lx1.toInt = r) {lx2 : Int32} (e2 : m_lk lv 2 = some (.int lx2)) (lq2 : lx2.toInt = a) {lx3 : Int32} (e3 : m_lk lv 3 = some (.int lx3)) (lq3 : lx3.toInt = b) {sx0 : Int32} (sq0 : sx0.toInt = y) 
    (g0 : ∀ x2 : Int32, x2.toInt = (-1) → y > 6 → Q (some (.int x2)) h)
    (g1 : y ≤ 6 → HJ 207 0 (lv_args 0 [.ref m, .int lx3]) [] h (fun v h' => HJ 253 30 lv (v.toList ++ []) h' Q))
    : HJ 253 20 lv [.int sx0] h Q := by
  refine hM_bp (n := 6) rfl (by decide) rfl (fun x1 q1 => ?_) -- 20
  refine hM_cgt (off := 13) (t := 35) rfl sq0 q1 (by decide) rfl (fun c22 => ?_) (fun c22 => ?_) -- 22
  · refine hM_ic (n := (-1)) rfl (by decide) rfl (fun x2 q2 => ?_) -- 35
    refine hI_ri rfl rfl ?_ -- 36
    exact g0 x2 q2 c22
  · refine hI_al (k := 0) rfl e0 rfl ?_ -- 25
    refine hI_il (k := 3) rfl e3 rfl ?_ -- 26
    refine hM_iv M (by decide) rfl rfl (by decide) (as := [.int lx3]) (r := []) rfl rfl (by decide +kernel) rfl (by decide +kernel) rfl rfl rfl rfl rfl ?_ -- 27
    exact g1 c22
theorem s_df30 {r a b y : Int} (M : MX 49 W ρ m A h0 h F V G) (e0 : m_lk lv 0 = some (.ref m)) {lx1 : Int32} (e1 : m_lk lv 1 = some (.int lx1)) (lq1 : lx1.toInt = r) {lx2 : Int32} (e2 : m_lk lv 2 = some (.int lx2)) (lq2 : lx2.toInt = a) {lx3 : Int32} (e3 : m_lk lv 3 = some (.int lx3)) (lq3 : lx3.toInt = b) {sx0 : Int32} (sq0 : sx0.toInt = y) 
    (g0 : y ≤ 6 → HJ 230 0 (lv_args 0 [.ref m, .int lx2]) [] h (fun v h' => HJ 253 42 lv (v.toList ++ []) h' Q))
    (g1 : ∀ x2 : Int32, x2.toInt = (-1) → y > 6 → Q (some (.int x2)) h)
    : HJ 253 30 lv [.int sx0] h Q := by
  refine hM_bp (n := 6) rfl (by decide) rfl (fun x1 q1 => ?_) -- 30
  refine hM_cle (off := 5) (t := 37) rfl sq0 q1 (by decide) rfl (fun c32 => ?_) (fun c32 => ?_) -- 32
  · refine hI_al (k := 0) rfl e0 rfl ?_ -- 37
    refine hI_il (k := 2) rfl e2 rfl ?_ -- 38
    refine hM_iv M (by decide) rfl rfl (by decide) (as := [.int lx2]) (r := []) rfl rfl (by decide +kernel) rfl (by decide +kernel) rfl rfl rfl rfl rfl ?_ -- 39
    exact g0 c32
  · refine hM_ic (n := (-1)) rfl (by decide) rfl (fun x2 q2 => ?_) -- 35
    refine hI_ri rfl rfl ?_ -- 36
    exact g1 x2 q2 c32
theorem s_df42 {r a b : Int} (M : MX 49 W ρ m A h0 h F V G) (e0 : m_lk lv 0 = some (.ref m)) {lx1 : Int32} (e1 : m_lk lv 1 = some (.int lx1)) (lq1 : lx1.toInt = r) {lx2 : Int32} (e2 : m_lk lv 2 = some (.int lx2)) (lq2 : lx2.toInt = a) {lx3 : Int32} (e3 : m_lk lv 3 = some (.int lx3)) (lq3 : lx3.toInt = b) 
    (g0 : HJ 254 0 (lv_args 0 [.ref m]) [] h (fun v h' => HJ 253 46 lv (v.toList ++ []) h' Q))
    : HJ 253 42 lv [] h Q := by
  refine hI_al (k := 0) rfl e0 rfl ?_ -- 42
  refine hM_iv M (by decide) rfl rfl (by decide) (as := []) (r := []) rfl rfl (by decide +kernel) rfl (by decide +kernel) rfl rfl rfl rfl rfl ?_ -- 43
  exact g0 
theorem s_df46 {r a b z : Int} (M : MX 49 W ρ m A h0 h F V G) (e0 : m_lk lv 0 = some (.ref m)) {lx1 : Int32} (e1 : m_lk lv 1 = some (.int lx1)) (lq1 : lx1.toInt = r) {lx2 : Int32} (e2 : m_lk lv 2 = some (.int lx2)) (lq2 : lx2.toInt = a) {lx3 : Int32} (e3 : m_lk lv 3 = some (.int lx3)) (lq3 : lx3.toInt = b) {sx0 : Int32} (sq0 : sx0.toInt = z) (o0 : 0 ≤ F 43) (o1 : F 43 ≤ 6)(hw : d_sub [(49, 51)] W = true)
    (g0 : ∀ h2 : MH, ∀ F2 : Nat → Int, F2 = m_u F 51 (F 43) → ∀ x3 : Int32, x3.toInt = 0 → ∀ lv4 : List (Nat × Value), MX 49 W ρ m A h0 h2 F2 V G → m_lk lv4 0 = some (.ref m) → m_lk lv4 1 = some (.int lx1) → m_lk lv4 2 = some (.int lx2) → m_lk lv4 3 = some (.int lx3) → m_lk lv4 4 = some (.int x3) → z = 0 → 0 ≤ F 43 → F 43 ≤ 63 → HJ 253 62 lv4 [] h2 Q)
    (g1 : ∀ x5 : Int32, x5.toInt = (-1) → z ≠ 0 → Q (some (.int x5)) h)
    : HJ 253 46 lv [.int sx0] h Q := by
  refine hM_zeq (off := 5) (t := 51) rfl sq0 (by decide) rfl (fun c46 => ?_) (fun c46 => ?_) -- 46
  · refine hI_al (k := 0) rfl e0 rfl ?_ -- 51
    refine hI_al (k := 0) rfl e0 rfl ?_ -- 52
    refine hM_gi M (by decide) rfl rfl rfl (k := 43) (c := 9) (lo := 0) (hi := 63) rfl rfl rfl rfl rfl (fun x1 q1 a1 b1 => ?_) -- 53
    refine hM_pi M (by decide) ok_49 rfl rfl (k := 51) (c := 9) (lo := 0) (hi := 6) rfl rfl ⟨by decide, by decide +kernel, rfl⟩ rfl (d_subm hw (by decide +kernel)) q1 (by omega) (by omega) rfl (fun h2 F2 f2 M2 => ?_) -- 56
    refine hM_ic (n := 0) rfl (by decide) rfl (fun x3 q3 => ?_) -- 59
    refine hM_si2 (k := 4) rfl (by decide +kernel) rfl (fun lv4 e4_4 u4 => ?_) -- 60
    have e4_0 := u4 0 _ (by decide) (Or.inl rfl) e0
    have e4_1 := u4 1 _ (by decide) (Or.inl rfl) e1
    have e4_2 := u4 2 _ (by decide) (Or.inl rfl) e2
    have e4_3 := u4 3 _ (by decide) (Or.inl rfl) e3
    exact g0 h2 F2 f2 x3 q3 lv4 M2 e4_0 e4_1 e4_2 e4_3 e4_4 c46 a1 b1
  · refine hM_ic (n := (-1)) rfl (by decide) rfl (fun x5 q5 => ?_) -- 49
    refine hI_ri rfl rfl ?_ -- 50
    exact g1 x5 q5 c46
theorem s_df62 {b i : Int} (M : MX 49 W ρ m A h0 h F V G) (e0 : m_lk lv 0 = some (.ref m)) {lx3 : Int32} (e3 : m_lk lv 3 = some (.int lx3)) (lq3 : lx3.toInt = b) {lx4 : Int32} (e4 : m_lk lv 4 = some (.int lx4)) (lq4 : lx4.toInt = i) (i0 : 0 ≤ i) (a1 : F 51 ≤ 6)(hw : d_sub [(83, 1001), (84, 1001), (85, 1001)] W = true)
    (g0 : 0 ≤ F 51 → F 51 ≤ 6 → i ≥ F 51 → HJ 230 0 (lv_args 0 [.ref m, .int lx3]) [] h (fun v h' => HJ 253 118 lv (v.toList ++ []) h' Q))
    (g1 : ∀ h3 : MH, ∀ V3 : Nat → Nat → Int, V3 = m_u V 52 (m_u (V 52) (i).toNat (V 44 (i).toNat)) → ∀ h5 : MH, ∀ V5 : Nat → Nat → Int, V5 = m_u V3 53 (m_u (V3 53) (i).toNat (V 45 (i).toNat)) → ∀ h7 : MH, ∀ V7 : Nat → Nat → Int, V7 = m_u V5 54 (m_u (V5 54) (i).toNat ((-1))) → ∀ x8 : Int32, x8.toInt = i + 1 → ∀ lv8 : List (Nat × Value), MX 49 W ρ m A h0 h7 F V7 G → m_lk lv8 0 = some (.ref m) → m_lk lv8 3 = some (.int lx3) → m_lk lv8 4 = some (.int x8) → 0 ≤ F 51 → F 51 ≤ 6 → i < F 51 → HJ 253 62 lv8 [] h7 Q)
    : HJ 253 62 lv [] h Q := by
  refine hI_il2 (k := 4) rfl e4 rfl ?_ -- 62
  refine hI_al (k := 0) rfl e0 rfl ?_ -- 64
  refine hM_gi M (by decide) rfl rfl rfl (k := 51) (c := 9) (lo := 0) (hi := 6) rfl rfl rfl rfl rfl (fun x1 q1 a1 b1 => ?_) -- 65
  refine hM_cge (off := 45) (t := 113) rfl lq4 q1 (by decide) rfl (fun c68 => ?_) (fun c68 => ?_) -- 68
  · refine hI_al (k := 0) rfl e0 rfl ?_ -- 113
    refine hI_il (k := 3) rfl e3 rfl ?_ -- 114
    refine hM_iv M (by decide) rfl rfl (by decide) (as := [.int lx3]) (r := []) rfl rfl (by decide +kernel) rfl (by decide +kernel) rfl rfl rfl rfl rfl ?_ -- 115
    exact g0 a1 b1 c68
  · refine hI_al (k := 0) rfl e0 rfl ?_ -- 71
    refine hM_ga M (by decide) rfl rfl (k := 52) (c := 9) rfl rfl rfl (by decide +kernel) rfl ?_ -- 72
    refine hI_il2 (k := 4) rfl e4 rfl ?_ -- 75
    refine hI_al (k := 0) rfl e0 rfl ?_ -- 77
    refine hM_ga M (by decide) rfl rfl (k := 44) (c := 9) rfl rfl rfl (by decide +kernel) rfl ?_ -- 78
    refine hI_il2 (k := 4) rfl e4 rfl ?_ -- 81
    refine hM_ia M (by decide) (K := 44) (R2 := 78) (L := 64) (H := 64) (lo := (-2147483648)) (hi := 2147483647) rfl (by decide) rfl rfl (fun _ => rfl) rfl lq4 (by omega) (by omega) rfl (fun x2 q2 a2 b2 => ?_) -- 83
    refine hM_is M (by decide) ok_49 (K := 52) (R2 := 83) (L := 6) (H := 6) (lo := (-2147483648)) (hi := 2147483647) rfl (by decide) rfl rfl rfl (fun _ => rfl) (d_subm hw (by decide +kernel)) rfl lq4 q2 (by omega) (by omega) (by omega) (by omega) rfl (fun h3 V3 f3 M3 => ?_) -- 84
    refine hI_al (k := 0) rfl e0 rfl ?_ -- 85
    refine hM_ga M3 (by decide) rfl rfl (k := 53) (c := 9) rfl rfl rfl (by decide +kernel) rfl ?_ -- 86
    refine hI_il2 (k := 4) rfl e4 rfl ?_ -- 89
    refine hI_al (k := 0) rfl e0 rfl ?_ -- 91
    refine hM_ga M3 (by decide) rfl rfl (k := 45) (c := 9) rfl rfl rfl (by decide +kernel) rfl ?_ -- 92
    refine hI_il2 (k := 4) rfl e4 rfl ?_ -- 95
    refine hM_ia M3 (by decide) (K := 45) (R2 := 79) (L := 64) (H := 64) (lo := (-2147483648)) (hi := 2147483647) rfl (by decide) rfl rfl (fun _ => rfl) rfl lq4 (by omega) (by omega) rfl (fun x4 q4 a4 b4 => ?_) -- 97
    have q4 : x4.toInt = V 45 (i).toNat := by rw [q4, f3]; rfl
    rw [f3] at a4 b4
    change (-2147483648) ≤ V 45 (i).toNat at a4
    change V 45 (i).toNat ≤ 2147483647 at b4 -- 97
    refine hM_is M3 (by decide) ok_49 (K := 53) (R2 := 84) (L := 6) (H := 6) (lo := (-2147483648)) (hi := 2147483647) rfl (by decide) rfl rfl rfl (fun _ => rfl) (d_subm hw (by decide +kernel)) rfl lq4 q4 (by omega) (by omega) (by omega) (by omega) rfl (fun h5 V5 f5 M5 => ?_) -- 98
    refine hI_al (k := 0) rfl e0 rfl ?_ -- 99
    refine hM_ga M5 (by decide) rfl rfl (k := 54) (c := 9) rfl rfl rfl (by decide +kernel) rfl ?_ -- 100
    refine hI_il2 (k := 4) rfl e4 rfl ?_ -- 103
    refine hM_ic (n := (-1)) rfl (by decide) rfl (fun x6 q6 => ?_) -- 105
    refine hM_is M5 (by decide) ok_49 (K := 54) (R2 := 85) (L := 6) (H := 6) (lo := (-2147483648)) (hi := 2147483647) rfl (by decide) rfl rfl rfl (fun _ => rfl) (d_subm hw (by decide +kernel)) rfl lq4 q6 (by omega) (by omega) (by omega) (by omega) rfl (fun h7 V7 f7 M7 => ?_) -- 106
    refine hM_inc (k := 4) (z := 1) rfl e4 lq4 (by decide) (by omega) (by omega) (by decide +kernel) rfl (fun lv8 x8 q8 e8_4 u8 => ?_) -- 107
    have e8_0 := u8 0 _ (by decide) (Or.inl rfl) e0
    have e8_3 := u8 3 _ (by decide) (Or.inl rfl) e3
    refine hI_go (pc' := 62) (off := (-48)) rfl (by decide) ?_ -- 110
    exact g1 h3 V3 f3 h5 V5 f5 h7 V7 f7 x8 q8 lv8 M7 e8_0 e8_3 e8_4 a1 b1 c68
theorem s_df118 (M : MX 49 W ρ m A h0 h F V G) (e0 : m_lk lv 0 = some (.ref m)) 
    (g0 : HJ 254 0 (lv_args 0 [.ref m]) [] h (fun v h' => HJ 253 122 lv (v.toList ++ []) h' Q))
    : HJ 253 118 lv [] h Q := by
  refine hI_al (k := 0) rfl e0 rfl ?_ -- 118
  refine hM_iv M (by decide) rfl rfl (by decide) (as := []) (r := []) rfl rfl (by decide +kernel) rfl (by decide +kernel) rfl rfl rfl rfl rfl ?_ -- 119
  exact g0 
theorem s_df122 {z : Int} (M : MX 49 W ρ m A h0 h F V G) (e0 : m_lk lv 0 = some (.ref m)) {sx0 : Int32} (sq0 : sx0.toInt = z) 
    (g0 : ∀ x1 : Int32, x1.toInt = F 43 → ∀ x3 : Int32, x3.toInt = 0 → ∀ lv4 : List (Nat × Value), m_lk lv4 0 = some (.ref m) → m_lk lv4 4 = some (.int x1) → m_lk lv4 5 = some (.int x3) → z = 0 → 0 ≤ F 43 → F 43 ≤ 63 → HJ 253 136 lv4 [] h Q)
    (g1 : ∀ x5 : Int32, x5.toInt = (-1) → z ≠ 0 → Q (some (.int x5)) h)
    : HJ 253 122 lv [.int sx0] h Q := by
  refine hM_zeq (off := 5) (t := 127) rfl sq0 (by decide) rfl (fun c122 => ?_) (fun c122 => ?_) -- 122
  · refine hI_al (k := 0) rfl e0 rfl ?_ -- 127
    refine hM_gi M (by decide) rfl rfl rfl (k := 43) (c := 9) (lo := 0) (hi := 63) rfl rfl rfl rfl rfl (fun x1 q1 a1 b1 => ?_) -- 128
    refine hM_si2 (k := 4) rfl (by decide +kernel) rfl (fun lv2 e2_4 u2 => ?_) -- 131
    have e2_0 := u2 0 _ (by decide) (Or.inl rfl) e0
    refine hM_ic (n := 0) rfl (by decide) rfl (fun x3 q3 => ?_) -- 133
    refine hM_si2 (k := 5) rfl (by decide +kernel) rfl (fun lv4 e4_5 u4 => ?_) -- 134
    have e4_0 := u4 0 _ (by decide) (Or.inl rfl) e2_0
    have e4_4 := u4 4 _ (by decide) (Or.inl rfl) e2_4
    exact g0 x1 q1 x3 q3 lv4 e4_0 e4_4 e4_5 c122 a1 b1
  · refine hM_ic (n := (-1)) rfl (by decide) rfl (fun x5 q5 => ?_) -- 125
    refine hI_ri rfl rfl ?_ -- 126
    exact g1 x5 q5 c122
theorem s_df136 {n i : Int} (M : MX 49 W ρ m A h0 h F V G) (e0 : m_lk lv 0 = some (.ref m)) {lx4 : Int32} (e4 : m_lk lv 4 = some (.int lx4)) (lq4 : lx4.toInt = n) {lx5 : Int32} (e5 : m_lk lv 5 = some (.int lx5)) (lq5 : lx5.toInt = i) 
    (g0 : 0 ≤ F 43 → F 43 ≤ 63 → i ≥ F 43 → HJ 255 0 (lv_args 0 [.ref m]) [] h (fun v h' => HJ 253 209 lv (v.toList ++ [.int lx4]) h' Q))
    (g1 : ∀ x2 : Int32, x2.toInt = 0 → ∀ lv3 : List (Nat × Value), m_lk lv3 0 = some (.ref m) → m_lk lv3 4 = some (.int lx4) → m_lk lv3 5 = some (.int lx5) → m_lk lv3 6 = some (.int x2) → 0 ≤ F 43 → F 43 ≤ 63 → i < F 43 → HJ 253 148 lv3 [] h Q)
    : HJ 253 136 lv [] h Q := by
  refine hI_il2 (k := 5) rfl e5 rfl ?_ -- 136
  refine hI_al (k := 0) rfl e0 rfl ?_ -- 138
  refine hM_gi M (by decide) rfl rfl rfl (k := 43) (c := 9) (lo := 0) (hi := 63) rfl rfl rfl rfl rfl (fun x1 q1 a1 b1 => ?_) -- 139
  refine hM_cge (off := 61) (t := 203) rfl lq5 q1 (by decide) rfl (fun c142 => ?_) (fun c142 => ?_) -- 142
  · refine hI_il2 (k := 4) rfl e4 rfl ?_ -- 203
    refine hI_al (k := 0) rfl e0 rfl ?_ -- 205
    refine hM_iv M (by decide) rfl rfl (by decide) (as := []) (r := [.int lx4]) rfl rfl (by decide +kernel) rfl (by decide +kernel) rfl rfl rfl rfl rfl ?_ -- 206
    exact g0 a1 b1 c142
  · refine hM_ic (n := 0) rfl (by decide) rfl (fun x2 q2 => ?_) -- 145
    refine hM_si2 (k := 6) rfl (by decide +kernel) rfl (fun lv3 e3_6 u3 => ?_) -- 146
    have e3_0 := u3 0 _ (by decide) (Or.inl rfl) e0
    have e3_4 := u3 4 _ (by decide) (Or.inl rfl) e4
    have e3_5 := u3 5 _ (by decide) (Or.inl rfl) e5
    exact g1 x2 q2 lv3 e3_0 e3_4 e3_5 e3_6 a1 b1 c142
theorem s_df148 {n i j : Int} (M : MX 49 W ρ m A h0 h F V G) (e0 : m_lk lv 0 = some (.ref m)) {lx4 : Int32} (e4 : m_lk lv 4 = some (.int lx4)) (lq4 : lx4.toInt = n) {lx5 : Int32} (e5 : m_lk lv 5 = some (.int lx5)) (lq5 : lx5.toInt = i) {lx6 : Int32} (e6 : m_lk lv 6 = some (.int lx6)) (lq6 : lx6.toInt = j) (i0 : 0 ≤ i) (i1 : i ≤ 62) (j0 : 0 ≤ j) (a1 : F 51 ≤ 6) (n0 : -2000 ≤ n) (n1 : n ≤ 2147483647)(hw : d_sub [(85, 1001)] W = true)
    (g0 : ∀ x2 : Int32, x2.toInt = i + 1 → ∀ lv2 : List (Nat × Value), m_lk lv2 0 = some (.ref m) → m_lk lv2 4 = some (.int lx4) → m_lk lv2 5 = some (.int x2) → m_lk lv2 6 = some (.int lx6) → 0 ≤ F 51 → F 51 ≤ 6 → j ≥ F 51 → HJ 253 136 lv2 [] h Q)
    (g1 : ∀ x5 : Int32, x5.toInt = j + 1 → ∀ lv5 : List (Nat × Value), m_lk lv5 0 = some (.ref m) → m_lk lv5 4 = some (.int lx4) → m_lk lv5 5 = some (.int lx5) → m_lk lv5 6 = some (.int x5) → 0 ≤ F 51 → F 51 ≤ 6 → j < F 51 → V 52 (j).toNat ≠ V 44 (i).toNat → HJ 253 148 lv5 [] h Q)
    (g2 : ∀ h7 : MH, ∀ V7 : Nat → Nat → Int, V7 = m_u V 54 (m_u (V 54) (j).toNat (V 45 (i).toNat)) → ∀ x8 : Int32, x8.toInt = n + (-1) → ∀ x9 : Int32, x9.toInt = j + 1 → ∀ lv9 : List (Nat × Value), MX 49 W ρ m A h0 h7 F V7 G → m_lk lv9 0 = some (.ref m) → m_lk lv9 4 = some (.int x8) → m_lk lv9 5 = some (.int lx5) → m_lk lv9 6 = some (.int x9) → 0 ≤ F 51 → F 51 ≤ 6 → j < F 51 → V 52 (j).toNat = V 44 (i).toNat → HJ 253 148 lv9 [] h7 Q)
    : HJ 253 148 lv [] h Q := by
  refine hI_il2 (k := 6) rfl e6 rfl ?_ -- 148
  refine hI_al (k := 0) rfl e0 rfl ?_ -- 150
  refine hM_gi M (by decide) rfl rfl rfl (k := 51) (c := 9) (lo := 0) (hi := 6) rfl rfl rfl rfl rfl (fun x1 q1 a1 b1 => ?_) -- 151
  refine hM_cge (off := 43) (t := 197) rfl lq6 q1 (by decide) rfl (fun c154 => ?_) (fun c154 => ?_) -- 154
  · refine hM_inc (k := 5) (z := 1) rfl e5 lq5 (by decide) (by omega) (by omega) (by decide +kernel) rfl (fun lv2 x2 q2 e2_5 u2 => ?_) -- 197
    have e2_0 := u2 0 _ (by decide) (Or.inl rfl) e0
    have e2_4 := u2 4 _ (by decide) (Or.inl rfl) e4
    have e2_6 := u2 6 _ (by decide) (Or.inl rfl) e6
    refine hI_go (pc' := 136) (off := (-64)) rfl (by decide) ?_ -- 200
    exact g0 x2 q2 lv2 e2_0 e2_4 e2_5 e2_6 a1 b1 c154
  · refine hI_al (k := 0) rfl e0 rfl ?_ -- 157
    refine hM_ga M (by decide) rfl rfl (k := 52) (c := 9) rfl rfl rfl (by decide +kernel) rfl ?_ -- 158
    refine hI_il2 (k := 6) rfl e6 rfl ?_ -- 161
    refine hM_ia M (by decide) (K := 52) (R2 := 83) (L := 6) (H := 6) (lo := (-2147483648)) (hi := 2147483647) rfl (by decide) rfl rfl (fun _ => rfl) rfl lq6 (by omega) (by omega) rfl (fun x3 q3 a3 b3 => ?_) -- 163
    refine hI_al (k := 0) rfl e0 rfl ?_ -- 164
    refine hM_ga M (by decide) rfl rfl (k := 44) (c := 9) rfl rfl rfl (by decide +kernel) rfl ?_ -- 165
    refine hI_il2 (k := 5) rfl e5 rfl ?_ -- 168
    refine hM_ia M (by decide) (K := 44) (R2 := 78) (L := 64) (H := 64) (lo := (-2147483648)) (hi := 2147483647) rfl (by decide) rfl rfl (fun _ => rfl) rfl lq5 (by omega) (by omega) rfl (fun x4 q4 a4 b4 => ?_) -- 170
    refine hM_cne (off := 20) (t := 191) rfl q3 q4 (by decide) rfl (fun c171 => ?_) (fun c171 => ?_) -- 171
    · refine hM_inc (k := 6) (z := 1) rfl e6 lq6 (by decide) (by omega) (by omega) (by decide +kernel) rfl (fun lv5 x5 q5 e5_6 u5 => ?_) -- 191
      have e5_0 := u5 0 _ (by decide) (Or.inl rfl) e0
      have e5_4 := u5 4 _ (by decide) (Or.inl rfl) e4
      have e5_5 := u5 5 _ (by decide) (Or.inl rfl) e5
      refine hI_go (pc' := 148) (off := (-46)) rfl (by decide) ?_ -- 194
      exact g1 x5 q5 lv5 e5_0 e5_4 e5_5 e5_6 a1 b1 c154 c171
    · refine hI_al (k := 0) rfl e0 rfl ?_ -- 174
      refine hM_ga M (by decide) rfl rfl (k := 54) (c := 9) rfl rfl rfl (by decide +kernel) rfl ?_ -- 175
      refine hI_il2 (k := 6) rfl e6 rfl ?_ -- 178
      refine hI_al (k := 0) rfl e0 rfl ?_ -- 180
      refine hM_ga M (by decide) rfl rfl (k := 45) (c := 9) rfl rfl rfl (by decide +kernel) rfl ?_ -- 181
      refine hI_il2 (k := 5) rfl e5 rfl ?_ -- 184
      refine hM_ia M (by decide) (K := 45) (R2 := 79) (L := 64) (H := 64) (lo := (-2147483648)) (hi := 2147483647) rfl (by decide) rfl rfl (fun _ => rfl) rfl lq5 (by omega) (by omega) rfl (fun x6 q6 a6 b6 => ?_) -- 186
      refine hM_is M (by decide) ok_49 (K := 54) (R2 := 85) (L := 6) (H := 6) (lo := (-2147483648)) (hi := 2147483647) rfl (by decide) rfl rfl rfl (fun _ => rfl) (d_subm hw (by decide +kernel)) rfl lq6 q6 (by omega) (by omega) (by omega) (by omega) rfl (fun h7 V7 f7 M7 => ?_) -- 187
      refine hM_inc (k := 4) (z := (-1)) rfl e4 lq4 (by decide) (by omega) (by omega) (by decide +kernel) rfl (fun lv8 x8 q8 e8_4 u8 => ?_) -- 188
      have e8_0 := u8 0 _ (by decide) (Or.inl rfl) e0
      have e8_5 := u8 5 _ (by decide) (Or.inl rfl) e5
      have e8_6 := u8 6 _ (by decide) (Or.inl rfl) e6
      refine hM_inc (k := 6) (z := 1) rfl e8_6 lq6 (by decide) (by omega) (by omega) (by decide +kernel) rfl (fun lv9 x9 q9 e9_6 u9 => ?_) -- 191
      have e9_0 := u9 0 _ (by decide) (Or.inl rfl) e8_0
      have e9_5 := u9 5 _ (by decide) (Or.inl rfl) e8_5
      have e9_4 := u9 4 _ (by decide) (Or.inl rfl) e8_4
      refine hI_go (pc' := 148) (off := (-46)) rfl (by decide) ?_ -- 194
      exact g2 h7 V7 f7 x8 q8 x9 q9 lv9 M7 e9_0 e9_4 e9_5 e9_6 a1 b1 c154 c171
theorem s_df209 {n y : Int} (M : MX 49 W ρ m A h0 h F V G) {sx0 : Int32} (sq0 : sx0.toInt = n) {sx1 : Int32} (sq1 : sx1.toInt = y) 
    (g0 : ∀ x1 : Int32, ∀ z1 : Int, x1.toInt = z1 → -2147483648 ≤ z1 → z1 ≤ 2147483647 → Q (some (.int x1)) h)
    : HJ 253 209 lv [.int sx1, .int sx0] h Q := by
  refine hM_addw rfl rfl (fun x1 z1 q1 a1 b1 => ?_) -- 209
  refine hI_ri rfl rfl ?_ -- 210
  exact g0 x1 z1 q1 a1 b1
theorem l_df136 (hw : d_sub [(85, 1001)] W = true) (ws : d_sub g_cts W = true) (g : ∀ (x : Int32) (h' : MH) (F' : Nat → Int) (V' : Nat → Nat → Int), MX 49 W ρ m A h0 h' F' V' G → Q (some (.int x)) h') (a6 : F 51 ≤ 6) : ∀ (d i : Nat) (lv : List (Nat × Value)) (h : MH) (V : Nat → Nat → Int) (xn xi : Int32), i + d = 63 → MX 49 W ρ m A h0 h F V G → -6 * (i : Int) ≤ xn.toInt → xi.toInt = (i : Int) → m_lk lv 0 = some (.ref m) → m_lk lv 4 = some (.int xn) → m_lk lv 5 = some (.int xi) → HJ 253 136 lv [] h Q := by
  have fin : ∀ (lv : List (Nat × Value)) (h : MH) (V : Nat → Nat → Int) (xn : Int32), MX 49 W ρ m A h0 h F V G → HJ 255 0 (lv_args 0 [.ref m]) [] h (fun v h' => HJ 253 209 lv (v.toList ++ [.int xn]) h' Q) := fun lv h V xn M => c_steps M rfl ws (fun x h' F' V' M' => s_df209 (n := xn.toInt) (y := x.toInt) M' rfl rfl (fun x1 z1 q1 a1 b1 => g x1 h' F' V' M'))
  intro d
  induction d with
  | zero =>
    intro i lv h V xn xi hd M hn hi e0 e4 e5
    have b := M.fi (by decide) (k := 43) (lo := 0) (hi := 63) rfl rfl rfl
    exact s_df136 M e0 e4 rfl e5 hi (fun _ _ _ => fin lv h V xn M) (fun x2 q2 lv3 _ _ _ _ _ _ c => by omega)
  | succ d ih =>
    intro i lv h V xn xi hd M hn hi e0 e4 e5
    have inn : ∀ (d j : Nat) (lv : List (Nat × Value)) (h : MH) (V : Nat → Nat → Int) (xn xj : Int32), j + d = 6 → MX 49 W ρ m A h0 h F V G → -6 * (i : Int) - j ≤ xn.toInt → xj.toInt = (j : Int) → m_lk lv 0 = some (.ref m) → m_lk lv 4 = some (.int xn) → m_lk lv 5 = some (.int xi) → m_lk lv 6 = some (.int xj) → HJ 253 148 lv [] h Q := by
      intro d2
      induction d2 with
      | zero =>
        intro j lv h V xn xj hd2 M hn hj e0 e4 e5 e6
        have nT : -2147483648 ≤ xn.toInt ∧ xn.toInt ≤ 2147483647 := g_iT xn
        exact s_df148 M e0 e4 rfl e5 hi e6 hj (by omega) (by omega) (by omega) a6 (by omega) nT.2 hw (fun x2 q2 lv2 d0 d4 d5 _ _ _ _ => ih (i + 1) lv2 h V xn x2 (by omega) M (by omega) (by omega) d0 d4 d5) (fun x5 q5 lv5 _ _ _ _ _ _ c _ => by omega) (fun h7 V7 f7 x8 q8 x9 q9 lv9 M7 _ _ _ _ _ _ c _ => by omega)
      | succ d2 ih2 =>
        intro j lv h V xn xj hd2 M hn hj e0 e4 e5 e6
        have nT : -2147483648 ≤ xn.toInt ∧ xn.toInt ≤ 2147483647 := g_iT xn
        exact s_df148 M e0 e4 rfl e5 hi e6 hj (by omega) (by omega) (by omega) a6 (by omega) nT.2 hw (fun x2 q2 lv2 d0 d4 d5 _ _ _ _ => ih (i + 1) lv2 h V xn x2 (by omega) M (by omega) (by omega) d0 d4 d5) (fun x5 q5 lv5 d0 d4 d5 d6 _ _ _ _ => ih2 (j + 1) lv5 h V xn x5 (by omega) M (by omega) (by omega) d0 d4 d5 d6) (fun h7 V7 f7 x8 q8 x9 q9 lv9 M7 d0 d4 d5 d6 _ _ _ _ => ih2 (j + 1) lv9 h7 V7 x8 x9 (by omega) M7 (by omega) (by omega) d0 d4 d5 d6)
    exact s_df136 M e0 e4 rfl e5 hi (fun _ _ _ => fin lv h V xn M) (fun x2 q2 lv3 d0 d4 d5 d6 _ _ _ => inn 6 0 lv3 h V xn x2 rfl M (by omega) q2 d0 d4 d5 d6)
theorem l_df62 {b : Int} {xb : Int32} {V0 : Nat → Nat → Int} (hw : d_sub [(83, 1001), (84, 1001), (85, 1001)] W = true) (qb : xb.toInt = b) (a6 : F 51 ≤ 6) (g : ∀ (lv : List (Nat × Value)) (h : MH) (V : Nat → Nat → Int), MX 49 W ρ m A h0 h F V G → (∀ K, K < 52 → V K = V0 K) → m_lk lv 0 = some (.ref m) → HJ 230 0 (lv_args 0 [.ref m, .int xb]) [] h (fun v h' => HJ 253 118 lv (v.toList ++ []) h' Q)) : ∀ (d i : Nat) (lv : List (Nat × Value)) (h : MH) (V : Nat → Nat → Int) (xi : Int32), i + d = 6 → MX 49 W ρ m A h0 h F V G → (∀ K, K < 52 → V K = V0 K) → xi.toInt = (i : Int) → m_lk lv 0 = some (.ref m) → m_lk lv 3 = some (.int xb) → m_lk lv 4 = some (.int xi) → HJ 253 62 lv [] h Q := by
  intro d
  induction d with
  | zero =>
    intro i lv h V xi hd M vo hi e0 e3 e4
    exact s_df62 M e0 e3 qb e4 hi (by omega) a6 hw (fun _ _ _ => g lv h V M vo e0) (fun h3 V3 f3 h5 V5 f5 h7 V7 f7 x8 q8 lv8 M7 _ _ _ _ _ c => by omega)
  | succ d ih =>
    intro i lv h V xi hd M vo hi e0 e3 e4
    exact s_df62 M e0 e3 qb e4 hi (by omega) a6 hw (fun _ _ _ => g lv h V M vo e0) (fun h3 V3 f3 h5 V5 f5 h7 V7 f7 x8 q8 lv8 M7 d0 d3 d4 _ _ _ => ih (i + 1) lv8 h7 V7 x8 (by omega) M7 (fun K hK => by rw [f7, m_uN _ _ _ _ (by omega), f5, m_uN _ _ _ _ (by omega), f3, m_uN _ _ _ _ (by omega), vo K hK]) (by omega) d0 d3 d4)
def g_df : List (Nat × Nat) := g_la ++ g_so ++ g_cts ++ [(83, 1001), (84, 1001), (85, 1001), (49, 51), (49, 0)]
theorem c_differ {r a b : Int} {xr xa xb : Int32} (M : MX 49 W ρ m A h0 h F V G) (b0_ : m_lk lv 0 = some (.ref m)) (b1_ : m_lk lv 1 = some (.int xr)) (b2_ : m_lk lv 2 = some (.int xa)) (b3_ : m_lk lv 3 = some (.int xb)) (hw : d_sub g_df W = true) (qr : xr.toInt = r) (qa : xa.toInt = a) (qb : xb.toInt = b) (rw_ : p_rw (V 6)) (g : ∀ (x : Int32) (h' : MH) (F' : Nat → Int) (V' : Nat → Nat → Int) (G' : Nat → Nat → Int64), MX 49 W ρ m A h0 h' F' V' G' → Q (some (.int x)) h') : HJ 253 0 lv [] h Q := by
  have w0 : d_sub [(49, 0)] W = true := d_subm hw (by decide +kernel)
  have w1 : d_sub g_la W = true := d_subm hw (by decide +kernel)
  have w2 : d_sub g_so W = true := d_subm hw (by decide +kernel)
  have w3 : d_sub g_cts W = true := d_subm hw (by decide +kernel)
  have w4 : d_sub [(49, 51)] W = true := d_subm hw (by decide +kernel)
  have w5 : d_sub [(83, 1001), (84, 1001), (85, 1001)] W = true := d_subm hw (by decide +kernel)
  have w6 : d_sub [(85, 1001)] W = true := d_subm hw (by decide +kernel)
  refine s_df0 M b0_ b1_ qr b2_ qa b3_ qb w0 (fun h2 F2 f2 M2 => ?_)
  refine c_layTwo M2 w1 qr qa qb rw_ (fun z h3 F3 V3 G3 M3 hz => ?_)
  refine s_df12 (z := z.toInt) M3 b0_ b1_ qr b2_ qa b3_ qb rfl (fun x _ _ => g x h3 F3 V3 G3 M3) (fun c12 => ?_)
  obtain ⟨-, ⟨⟨i1, i2, i3⟩, i4, i5, i6⟩, ⟨a0, a1⟩, b0, b1⟩ := hz.resolve_left c12
  refine c_sizeAt (v := a.toNat) M3 (by omega) (by omega) (fun y qy => ?_)
  refine s_df20 (y := (p_wv (V3 36) a.toNat : Int)) M3 b0_ b1_ qr b2_ qa b3_ qb qy (fun x _ _ => g x h3 F3 V3 G3 M3) (fun c22 => ?_)
  refine c_sizeAt (v := b.toNat) M3 (by omega) (by omega) (fun y2 qy2 => ?_)
  refine s_df30 (y := (p_wv (V3 36) b.toNat : Int)) M3 b0_ b1_ qr b2_ qa b3_ qb qy2 (fun c32 => ?_) (fun x _ _ => g x h3 F3 V3 G3 M3)
  refine c_sortAll (v := a.toNat) M3 w2 (by omega) (by omega) (by omega) (by omega) i1 i3 (fun h4 F4 V4 M4 f43 fo vo => ?_)
  refine s_df42 M4 b0_ b1_ qr b2_ qa b3_ qb (c_hasTwice M4 (fun z2 => ?_))
  refine s_df46 (z := z2.toInt) M4 b0_ b1_ qr b2_ qa b3_ qb rfl (by omega) (by omega) w4 (fun h5 F5 f5 x3 q3 lv4 M5 e0 e1 e2 e3 e4 _ _ _ => ?_) (fun x _ _ => g x h4 F4 V4 G3 M4)
  have a6 : F5 51 ≤ 6 := by rw [f5, m_uE]; omega
  have k17 : F5 17 = F3 17 := by rw [f5, m_uN _ _ _ _ (by decide), fo 17 (by decide) (by decide)]
  have k35 : F5 35 = F3 35 := by rw [f5, m_uN _ _ _ _ (by decide), fo 35 (by decide) (by decide)]
  refine l_df62 (V0 := V4) w5 qb a6 (fun lv6 h6 V6 M6 vo6 d0 => ?_) 6 0 lv4 h5 V4 x3 rfl M5 (fun _ _ => rfl) q3 e0 e3 e4
  have v22 : V6 22 = V3 22 := by rw [vo6 22 (by decide), vo 22 (by decide)]
  have v23 : V6 23 = V3 23 := by rw [vo6 23 (by decide), vo 23 (by decide)]
  have v36 : V6 36 = V3 36 := by rw [vo6 36 (by decide), vo 36 (by decide)]
  refine c_sortAll (v := b.toNat) M6 w2 (by omega) (by omega) (by omega) (by omega) (by rw [k17, v22, v23]; exact i1) (by rw [k17, k35, v22, v36]; exact i3) (fun h7 F7 V7 M7 f43' fo7 vo7 => ?_)
  refine s_df118 M7 d0 (c_hasTwice M7 (fun z3 => ?_))
  refine s_df122 (z := z3.toInt) M7 d0 rfl (fun x1 q1 x5 q5 lv8 c0 c4 c5 _ _ _ => ?_) (fun x _ _ => g x h7 F7 V7 G3 M7)
  exact l_df136 (F := F7) w6 w3 (fun x h' F' V' M' => g x h' F' V' G3 M') (by rw [fo7 51 (by decide) (by decide)]; exact a6) 63 0 lv8 h7 V7 x1 x5 rfl M7 (by omega) q5 c0 c4 c5
end
