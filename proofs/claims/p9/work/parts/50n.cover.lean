-- COVER, FORGET
section
variable {lv : List (Nat × Value)} {Q : Option Value → MH → Prop} {W : List (Nat × Nat)} {ρ : Nat → Nat} {m : Nat} {A : Nat → Nat} {h0 h : MH} {F : Nat → Int} {V : Nat → Nat → Int} {G : Nat → Nat → Int64}
-- a row laid, its set listed, who holds what: at most 756 nodes
def z_cv (F : Nat → Int) (G : Nat → Nat → Int64) (x : Int64) (n : Nat) : Prop := F 17 = (n : Int) ∧ n ≤ 16000 ∧ z_hc (G 42) x n ≤ 756 ∧ 0 ≤ F 47 ∧ F 47 ≤ 12
theorem z_p2 {F : Nat → Int} (h0 : 0 ≤ F 47) (h1 : F 47 ≤ 12) : 0 ≤ (2 : Int) ^ (F 47).toNat ∧ (2 : Int) ^ (F 47).toNat ≤ 4096 := by
  have key : ∀ k : Fin 13, 0 ≤ (2 : Int) ^ k.val ∧ (2 : Int) ^ k.val ≤ 4096 := by decide
  exact key ⟨(F 47).toNat, by omega⟩
theorem s_co0 {r : Int} (M : MX 49 W ρ m A h0 h F V G) (e0 : m_lk lv 0 = some (.ref m)) {lx1 : Int32} (e1 : m_lk lv 1 = some (.int lx1)) (lq1 : lx1.toInt = r) {lx2 : Int64} (e2 : m_lk lv 2 = some (.long lx2)) (hw : d_sub [(49, 0)] W = true)
    (g0 : ∀ h2 : MH, ∀ F2 : Nat → Int, F2 = m_u F 0 (0) → MX 49 W ρ m A h0 h2 F2 V G → HJ 201 0 (lv_args 0 [.ref m, .int lx1]) [] h2 (fun v h' => HJ 248 10 lv (v.toList ++ []) h' Q))
    : HJ 248 0 lv [] h Q := by
  refine hI_al (k := 0) rfl e0 rfl ?_ -- 0
  refine hM_ic (n := 0) rfl (by decide) rfl (fun x1 q1 => ?_) -- 1
  refine hM_pi M (by decide) ok_49 rfl rfl (k := 0) (c := 9) (lo := (-2147483648)) (hi := 2147483647) rfl rfl ⟨by decide, by decide +kernel, rfl⟩ rfl (d_subm hw (by decide +kernel)) q1 (by omega) (by omega) rfl (fun h2 F2 f2 M2 => ?_) -- 2
  refine hI_al (k := 0) rfl e0 rfl ?_ -- 5
  refine hI_il (k := 1) rfl e1 rfl ?_ -- 6
  refine hM_iv M2 (by decide) rfl rfl (by decide) (as := [.int lx1]) (r := []) rfl rfl (by decide +kernel) rfl (by decide +kernel) rfl rfl rfl rfl rfl ?_ -- 7
  exact g0 h2 F2 f2 M2
theorem s_co10 {r z : Int} (M : MX 49 W ρ m A h0 h F V G) (e0 : m_lk lv 0 = some (.ref m)) {lx1 : Int32} (e1 : m_lk lv 1 = some (.int lx1)) (lq1 : lx1.toInt = r) {lx2 : Int64} (e2 : m_lk lv 2 = some (.long lx2)) {sx0 : Int32} (sq0 : sx0.toInt = z) 
    (g0 : z = 0 → Q (some (.long (-1))) h)
    (g1 : z ≠ 0 → HJ 245 0 (lv_args 0 [.ref m, .long lx2]) [] h (fun v h' => HJ 248 18 lv (v.toList ++ []) h' Q))
    : HJ 248 10 lv [.int sx0] h Q := by
  refine hM_zeq (off := 19) (t := 29) rfl sq0 (by decide) rfl (fun c10 => ?_) (fun c10 => ?_) -- 10
  · refine hM_jc (x := (-1)) rfl rfl rfl ?_ -- 29
    refine hI_rl rfl rfl ?_
    exact g0 c10
  · refine hI_al (k := 0) rfl e0 rfl ?_ -- 13
    refine hI_ll (k := 2) rfl e2 rfl ?_ -- 14
    refine hM_iv M (by decide) rfl rfl (by decide) (as := [.long lx2]) (r := []) rfl rfl (by decide +kernel) rfl (by decide +kernel) rfl rfl rfl rfl rfl ?_ -- 15
    exact g1 c10
theorem s_co18 {r z : Int} (M : MX 49 W ρ m A h0 h F V G) (e0 : m_lk lv 0 = some (.ref m)) {lx1 : Int32} (e1 : m_lk lv 1 = some (.int lx1)) (lq1 : lx1.toInt = r) {lx2 : Int64} (e2 : m_lk lv 2 = some (.long lx2)) {sx0 : Int32} (sq0 : sx0.toInt = z) 
    (g0 : z = 0 → Q (some (.long (-1))) h)
    (g1 : z ≠ 0 → HJ 249 0 (lv_args 0 [.ref m, .long lx2]) [] h (fun v h' => HJ 248 26 lv (v.toList ++ []) h' Q))
    : HJ 248 18 lv [.int sx0] h Q := by
  refine hM_zeq (off := 11) (t := 29) rfl sq0 (by decide) rfl (fun c18 => ?_) (fun c18 => ?_) -- 18
  · refine hM_jc (x := (-1)) rfl rfl rfl ?_ -- 29
    refine hI_rl rfl rfl ?_
    exact g0 c18
  · refine hI_al (k := 0) rfl e0 rfl ?_ -- 21
    refine hI_ll (k := 2) rfl e2 rfl ?_ -- 22
    refine hM_iv M (by decide) rfl rfl (by decide) (as := [.long lx2]) (r := []) rfl rfl (by decide +kernel) rfl (by decide +kernel) rfl rfl rfl rfl rfl ?_ -- 23
    exact g1 c18
theorem s_co26 {r z : Int} (M : MX 49 W ρ m A h0 h F V G) (e0 : m_lk lv 0 = some (.ref m)) {lx1 : Int32} (e1 : m_lk lv 1 = some (.int lx1)) (lq1 : lx1.toInt = r) {lx2 : Int64} (e2 : m_lk lv 2 = some (.long lx2)) {sx0 : Int32} (sq0 : sx0.toInt = z) 
    (g0 : z ≠ 0 → HJ 229 0 (lv_args 0 [.ref m]) [] h (fun v h' => HJ 248 37 lv (v.toList ++ []) h' Q))
    (g1 : z = 0 → Q (some (.long (-1))) h)
    : HJ 248 26 lv [.int sx0] h Q := by
  refine hM_zne (off := 7) (t := 33) rfl sq0 (by decide) rfl (fun c26 => ?_) (fun c26 => ?_) -- 26
  · refine hI_al (k := 0) rfl e0 rfl ?_ -- 33
    refine hM_iv M (by decide) rfl rfl (by decide) (as := []) (r := []) rfl rfl (by decide +kernel) rfl (by decide +kernel) rfl rfl rfl rfl rfl ?_ -- 34
    exact g0 c26
  · refine hM_jc (x := (-1)) rfl rfl rfl ?_ -- 29
    refine hI_rl rfl rfl ?_
    exact g1 c26
theorem s_co37 {r : Int} (M : MX 49 W ρ m A h0 h F V G) (e0 : m_lk lv 0 = some (.ref m)) {lx1 : Int32} (e1 : m_lk lv 1 = some (.int lx1)) (lq1 : lx1.toInt = r) {lx2 : Int64} (e2 : m_lk lv 2 = some (.long lx2)) (hw : d_sub [(49, 49)] W = true)
    (g0 : ∀ h2 : MH, ∀ F2 : Nat → Int, F2 = m_u F 49 (0) → ∀ x3 : Int32, x3.toInt = 0 → ∀ lv4 : List (Nat × Value), MX 49 W ρ m A h0 h2 F2 V G → m_lk lv4 0 = some (.ref m) → m_lk lv4 2 = some (.long lx2) → m_lk lv4 4 = some (.int x3) → HJ 248 45 lv4 [] h2 Q)
    : HJ 248 37 lv [] h Q := by
  refine hI_al (k := 0) rfl e0 rfl ?_ -- 37
  refine hM_ic (n := 0) rfl (by decide) rfl (fun x1 q1 => ?_) -- 38
  refine hM_pi M (by decide) ok_49 rfl rfl (k := 49) (c := 9) (lo := 0) (hi := 1024) rfl rfl ⟨by decide, by decide +kernel, rfl⟩ rfl (d_subm hw (by decide +kernel)) q1 (by omega) (by omega) rfl (fun h2 F2 f2 M2 => ?_) -- 39
  refine hM_ic (n := 0) rfl (by decide) rfl (fun x3 q3 => ?_) -- 42
  refine hM_si2 (k := 4) rfl (by decide +kernel) rfl (fun lv4 e4_4 u4 => ?_) -- 43
  have e4_0 := u4 0 _ (by decide) (Or.inl rfl) e0
  have e4_1 := u4 1 _ (by decide) (Or.inl rfl) e1
  have e4_2 := u4 2 _ (by decide) (Or.inr (by decide)) e2
  exact g0 h2 F2 f2 x3 q3 lv4 M2 e4_0 e4_2 e4_4
theorem s_co45 {k : Int} (M : MX 49 W ρ m A h0 h F V G) (e0 : m_lk lv 0 = some (.ref m)) {lx2 : Int64} (e2 : m_lk lv 2 = some (.long lx2)) {lx4 : Int32} (e4 : m_lk lv 4 = some (.int lx4)) (lq4 : lx4.toInt = k) (k0 : 0 ≤ k) (m1 : F 49 < 1024) (n1 : F 17 ≤ 16000)(hw : d_sub [(82, 1001), (49, 49)] W = true)
    (g0 : ∀ x2 : Int32, x2.toInt = (-1) → ∀ x4 : Int32, x4.toInt = 0 → ∀ lv5 : List (Nat × Value), m_lk lv5 0 = some (.ref m) → m_lk lv5 2 = some (.long lx2) → m_lk lv5 4 = some (.int x2) → m_lk lv5 5 = some (.int x4) → 0 ≤ F 17 → F 17 ≤ 16000 → k ≥ F 17 → HJ 248 106 lv5 [] h Q)
    (g1 : ∀ x8 : Int32, x8.toInt = k + 1 → ∀ lv8 : List (Nat × Value), m_lk lv8 0 = some (.ref m) → m_lk lv8 2 = some (.long lx2) → m_lk lv8 4 = some (.int x8) → 0 ≤ F 17 → F 17 ≤ 16000 → k < F 17 → (lg_cmp ((G 42 (k).toNat) &&& lx2) (Int64.ofNat (0 : Fin 2).val)).toInt = 0 → HJ 248 45 lv8 [] h Q)
    (g2 : ∀ h11 : MH, ∀ G11 : Nat → Nat → Int64, G11 = m_u G 50 (m_u (G 50) (F 49).toNat (G 42 (k).toNat)) → ∀ h15 : MH, ∀ F15 : Nat → Int, F15 = m_u F 49 ((F 49) + 1) → ∀ x16 : Int32, x16.toInt = k + 1 → ∀ lv16 : List (Nat × Value), MX 49 W ρ m A h0 h15 F15 V G11 → m_lk lv16 0 = some (.ref m) → m_lk lv16 2 = some (.long lx2) → m_lk lv16 4 = some (.int x16) → 0 ≤ F 17 → F 17 ≤ 16000 → k < F 17 → (lg_cmp ((G 42 (k).toNat) &&& lx2) (Int64.ofNat (0 : Fin 2).val)).toInt ≠ 0 → 0 ≤ F 49 → F 49 ≤ 1024 → HJ 248 45 lv16 [] h15 Q)
    : HJ 248 45 lv [] h Q := by
  refine hI_il2 (k := 4) rfl e4 rfl ?_ -- 45
  refine hI_al (k := 0) rfl e0 rfl ?_ -- 47
  refine hM_gi M (by decide) rfl rfl rfl (k := 17) (c := 9) (lo := 0) (hi := 16000) rfl rfl rfl rfl rfl (fun x1 q1 a1 b1 => ?_) -- 48
  refine hM_cge (off := 49) (t := 100) rfl lq4 q1 (by decide) rfl (fun c51 => ?_) (fun c51 => ?_) -- 51
  · refine hM_ic (n := (-1)) rfl (by decide) rfl (fun x2 q2 => ?_) -- 100
    refine hM_si2 (k := 4) rfl (by decide +kernel) rfl (fun lv3 e3_4 u3 => ?_) -- 101
    have e3_0 := u3 0 _ (by decide) (Or.inl rfl) e0
    have e3_2 := u3 2 _ (by decide) (Or.inr (by decide)) e2
    refine hM_ic (n := 0) rfl (by decide) rfl (fun x4 q4 => ?_) -- 103
    refine hM_si2 (k := 5) rfl (by decide +kernel) rfl (fun lv5 e5_5 u5 => ?_) -- 104
    have e5_0 := u5 0 _ (by decide) (Or.inl rfl) e3_0
    have e5_2 := u5 2 _ (by decide) (Or.inr (by decide)) e3_2
    have e5_4 := u5 4 _ (by decide) (Or.inl rfl) e3_4
    exact g0 x2 q2 x4 q4 lv5 e5_0 e5_2 e5_4 e5_5 a1 b1 c51
  · refine hI_al (k := 0) rfl e0 rfl ?_ -- 54
    refine hM_ga M (by decide) rfl rfl (k := 42) (c := 9) rfl rfl rfl (by decide +kernel) rfl ?_ -- 55
    refine hI_il2 (k := 4) rfl e4 rfl ?_ -- 58
    refine hM_la M (by decide) (K := 42) (R2 := 77) (L := 16000) (H := 16000) rfl (by decide) rfl rfl rfl lq4 (by omega) (by omega) rfl ?_ -- 60
    refine hI_ll (k := 2) rfl e2 rfl ?_ -- 61
    refine hI_land rfl rfl ?_ -- 62
    refine hI_lc (n := 0) rfl rfl ?_ -- 63
    refine hM_lcmp rfl rfl (fun x7 q7 => ?_) -- 64
    refine hM_zeq (off := 29) (t := 94) rfl q7 (by decide) rfl (fun c65 => ?_) (fun c65 => ?_) -- 65
    · refine hM_inc (k := 4) (z := 1) rfl e4 lq4 (by decide) (by omega) (by omega) (by decide +kernel) rfl (fun lv8 x8 q8 e8_4 u8 => ?_) -- 94
      have e8_0 := u8 0 _ (by decide) (Or.inl rfl) e0
      have e8_2 := u8 2 _ (by decide) (Or.inr (by decide)) e2
      refine hI_go (pc' := 45) (off := (-52)) rfl (by decide) ?_ -- 97
      exact g1 x8 q8 lv8 e8_0 e8_2 e8_4 a1 b1 c51 c65
    · refine hI_al (k := 0) rfl e0 rfl ?_ -- 68
      refine hM_ga M (by decide) rfl rfl (k := 50) (c := 9) rfl rfl rfl (by decide +kernel) rfl ?_ -- 69
      refine hI_al (k := 0) rfl e0 rfl ?_ -- 72
      refine hM_gi M (by decide) rfl rfl rfl (k := 49) (c := 9) (lo := 0) (hi := 1024) rfl rfl rfl rfl rfl (fun x9 q9 a9 b9 => ?_) -- 73
      refine hI_al (k := 0) rfl e0 rfl ?_ -- 76
      refine hM_ga M (by decide) rfl rfl (k := 42) (c := 9) rfl rfl rfl (by decide +kernel) rfl ?_ -- 77
      refine hI_il2 (k := 4) rfl e4 rfl ?_ -- 80
      refine hM_la M (by decide) (K := 42) (R2 := 77) (L := 16000) (H := 16000) rfl (by decide) rfl rfl rfl lq4 (by omega) (by omega) rfl ?_ -- 82
      refine hM_ls M (by decide) ok_49 (K := 50) (R2 := 82) (L := 1024) (H := 1024) rfl (by decide) rfl rfl rfl (d_subm hw (by decide +kernel)) rfl q9 (by omega) (by omega) rfl (fun h11 G11 f11 M11 => ?_) -- 83
      refine hI_al (k := 0) rfl e0 rfl ?_ -- 84
      refine hI_dup rfl rfl rfl ?_ -- 85
      refine hM_gi M11 (by decide) rfl rfl rfl (k := 49) (c := 9) (lo := 0) (hi := 1024) rfl rfl rfl rfl rfl (fun x12 q12 a12 b12 => ?_) -- 86
      refine hM_ic (n := 1) rfl (by decide) rfl (fun x13 q13 => ?_) -- 89
      refine hM_add rfl q12 q13 (by omega) (by omega) rfl (fun x14 q14 => ?_) -- 90
      refine hM_pi M11 (by decide) ok_49 rfl rfl (k := 49) (c := 9) (lo := 0) (hi := 1024) rfl rfl ⟨by decide, by decide +kernel, rfl⟩ rfl (d_subm hw (by decide +kernel)) q14 (by omega) (by omega) rfl (fun h15 F15 f15 M15 => ?_) -- 91
      refine hM_inc (k := 4) (z := 1) rfl e4 lq4 (by decide) (by omega) (by omega) (by decide +kernel) rfl (fun lv16 x16 q16 e16_4 u16 => ?_) -- 94
      have e16_0 := u16 0 _ (by decide) (Or.inl rfl) e0
      have e16_2 := u16 2 _ (by decide) (Or.inr (by decide)) e2
      refine hI_go (pc' := 45) (off := (-52)) rfl (by decide) ?_ -- 97
      exact g2 h11 G11 f11 h15 F15 f15 x16 q16 lv16 M15 e16_0 e16_2 e16_4 a1 b1 c51 c65 a9 b9
theorem s_co106 {b i : Int} (M : MX 49 W ρ m A h0 h F V G) (e0 : m_lk lv 0 = some (.ref m)) {lx4 : Int32} (e4 : m_lk lv 4 = some (.int lx4)) (lq4 : lx4.toInt = b) {lx5 : Int32} (e5 : m_lk lv 5 = some (.int lx5)) (lq5 : lx5.toInt = i) (t0 : 0 ≤ (2 : Int) ^ (F 47).toNat) (t1 : (2 : Int) ^ (F 47).toNat ≤ 4096)
    (g0 : 0 ≤ F 47 → F 47 ≤ 12 → i ≥ (2 : Int) ^ (F 47).toNat → HJ 251 0 (lv_args 0 [.ref m, .int lx4]) [] h (fun v h' => HJ 248 170 lv (v.toList ++ []) h' Q))
    (g1 : 0 ≤ F 47 → F 47 ≤ 12 → i < (2 : Int) ^ (F 47).toNat → b = (-1) → HJ 251 0 (lv_args 0 [.ref m, .int lx5]) [] h (fun v h' => HJ 248 143 lv (v.toList ++ [.ref m]) h' Q))
    (g2 : 0 ≤ F 47 → F 47 ≤ 12 → i < (2 : Int) ^ (F 47).toNat → b ≠ (-1) → HJ 250 0 (lv_args 0 [.int lx5]) [] h (fun v h' => HJ 248 128 lv (v.toList ++ []) h' Q))
    : HJ 248 106 lv [] h Q := by
  refine hI_il2 (k := 5) rfl e5 rfl ?_ -- 106
  refine hM_ic (n := 1) rfl (by decide) rfl (fun x1 q1 => ?_) -- 108
  refine hI_al (k := 0) rfl e0 rfl ?_ -- 109
  refine hM_gi M (by decide) rfl rfl rfl (k := 47) (c := 9) (lo := 0) (hi := 12) rfl rfl rfl rfl rfl (fun x2 q2 a2 b2 => ?_) -- 110
  refine hM_shl rfl q1 q2 (by omega) (by omega) rfl (fun x3 q3 => ?_) -- 113
  refine hM_cge (off := 50) (t := 164) rfl lq5 q3 (by decide) rfl (fun c114 => ?_) (fun c114 => ?_) -- 114
  · refine hI_al (k := 0) rfl e0 rfl ?_ -- 164
    refine hI_il2 (k := 4) rfl e4 rfl ?_ -- 165
    refine hM_iv M (by decide) rfl rfl (by decide) (as := [.int lx4]) (r := []) rfl rfl (by decide +kernel) rfl (by decide +kernel) rfl rfl rfl rfl rfl ?_ -- 167
    exact g0 a2 b2 c114
  · refine hI_il2 (k := 4) rfl e4 rfl ?_ -- 117
    refine hM_ic (n := (-1)) rfl (by decide) rfl (fun x4 q4 => ?_) -- 119
    refine hM_ceq (off := 16) (t := 136) rfl lq4 q4 (by decide) rfl (fun c120 => ?_) (fun c120 => ?_) -- 120
    · refine hI_al (k := 0) rfl e0 rfl ?_ -- 136
      refine hI_al (k := 0) rfl e0 rfl ?_ -- 137
      refine hI_il2 (k := 5) rfl e5 rfl ?_ -- 138
      refine hM_iv M (by decide) rfl rfl (by decide) (as := [.int lx5]) (r := [.ref m]) rfl rfl (by decide +kernel) rfl (by decide +kernel) rfl rfl rfl rfl rfl ?_ -- 140
      exact g1 a2 b2 c114 c120
    · refine hI_il2 (k := 5) rfl e5 rfl ?_ -- 123
      refine hM_is0 (as := [.int lx5]) (r := []) rfl rfl (by decide +kernel) rfl rfl rfl rfl rfl ?_ -- 125
      exact g2 a2 b2 c114 c120
theorem s_co128 {b i y : Int} (M : MX 49 W ρ m A h0 h F V G) (e0 : m_lk lv 0 = some (.ref m)) {lx4 : Int32} (e4 : m_lk lv 4 = some (.int lx4)) (lq4 : lx4.toInt = b) {lx5 : Int32} (e5 : m_lk lv 5 = some (.int lx5)) (lq5 : lx5.toInt = i) {sx0 : Int32} (sq0 : sx0.toInt = y) 
    (g0 : HJ 250 0 (lv_args 0 [.int lx4]) [] h (fun v h' => HJ 248 133 lv (v.toList ++ [.int sx0]) h' Q))
    : HJ 248 128 lv [.int sx0] h Q := by
  refine hI_il2 (k := 4) rfl e4 rfl ?_ -- 128
  refine hM_is0 (as := [.int lx4]) (r := [.int sx0]) rfl rfl (by decide +kernel) rfl rfl rfl rfl rfl ?_ -- 130
  exact g0 
theorem s_co133 {b i y z : Int} (M : MX 49 W ρ m A h0 h F V G) (e0 : m_lk lv 0 = some (.ref m)) {lx4 : Int32} (e4 : m_lk lv 4 = some (.int lx4)) (lq4 : lx4.toInt = b) {lx5 : Int32} (e5 : m_lk lv 5 = some (.int lx5)) (lq5 : lx5.toInt = i) {sx0 : Int32} (sq0 : sx0.toInt = y) {sx1 : Int32} (sq1 : sx1.toInt = z) 
    (g0 : ∀ lv1 : List (Nat × Value), m_lk lv1 0 = some (.ref m) → m_lk lv1 4 = some (.int lx4) → m_lk lv1 5 = some (.int lx5) → y ≥ z → HJ 248 158 lv1 [] h Q)
    (g1 : y < z → HJ 251 0 (lv_args 0 [.ref m, .int lx5]) [] h (fun v h' => HJ 248 143 lv (v.toList ++ [.ref m]) h' Q))
    : HJ 248 133 lv [.int sx1, .int sx0] h Q := by
  refine hM_cge (off := 21) (t := 154) rfl sq0 sq1 (by decide) rfl (fun c133 => ?_) (fun c133 => ?_) -- 133
  · refine hI_il2 (k := 4) rfl e4 rfl ?_ -- 154
    refine hM_si2 (k := 4) rfl (by decide +kernel) rfl (fun lv1 e1_4 u1 => ?_) -- 156
    have e1_0 := u1 0 _ (by decide) (Or.inl rfl) e0
    have e1_5 := u1 5 _ (by decide) (Or.inl rfl) e5
    exact g0 lv1 e1_0 e1_4 e1_5 c133
  · refine hI_al (k := 0) rfl e0 rfl ?_ -- 136
    refine hI_al (k := 0) rfl e0 rfl ?_ -- 137
    refine hI_il2 (k := 5) rfl e5 rfl ?_ -- 138
    refine hM_iv M (by decide) rfl rfl (by decide) (as := [.int lx5]) (r := [.ref m]) rfl rfl (by decide +kernel) rfl (by decide +kernel) rfl rfl rfl rfl rfl ?_ -- 140
    exact g1 c133
theorem s_co143 {b i : Int} (M : MX 49 W ρ m A h0 h F V G) (e0 : m_lk lv 0 = some (.ref m)) {lx4 : Int32} (e4 : m_lk lv 4 = some (.int lx4)) (lq4 : lx4.toInt = b) {lx5 : Int32} (e5 : m_lk lv 5 = some (.int lx5)) (lq5 : lx5.toInt = i) {sx1 : Int64} 
    (g0 : HJ 252 0 (lv_args 0 [.ref m, .long sx1]) [] h (fun v h' => HJ 248 146 lv (v.toList ++ []) h' Q))
    : HJ 248 143 lv [.long sx1, .ref m] h Q := by
  refine hM_iv M (by decide) rfl rfl (by decide) (as := [.long sx1]) (r := []) rfl rfl (by decide +kernel) rfl (by decide +kernel) rfl rfl rfl rfl rfl ?_ -- 143
  exact g0 
theorem s_co146 {b i z : Int} (M : MX 49 W ρ m A h0 h F V G) (e0 : m_lk lv 0 = some (.ref m)) {lx4 : Int32} (e4 : m_lk lv 4 = some (.int lx4)) (lq4 : lx4.toInt = b) {lx5 : Int32} (e5 : m_lk lv 5 = some (.int lx5)) (lq5 : lx5.toInt = i) {sx0 : Int32} (sq0 : sx0.toInt = z) 
    (g0 : ∀ lv1 : List (Nat × Value), m_lk lv1 0 = some (.ref m) → m_lk lv1 4 = some (.int lx4) → m_lk lv1 5 = some (.int lx5) → z = 0 → HJ 248 158 lv1 [] h Q)
    (g1 : ∀ lv2 : List (Nat × Value), m_lk lv2 0 = some (.ref m) → m_lk lv2 4 = some (.int lx5) → m_lk lv2 5 = some (.int lx5) → z ≠ 0 → HJ 248 158 lv2 [] h Q)
    : HJ 248 146 lv [.int sx0] h Q := by
  refine hM_zeq (off := 8) (t := 154) rfl sq0 (by decide) rfl (fun c146 => ?_) (fun c146 => ?_) -- 146
  · refine hI_il2 (k := 4) rfl e4 rfl ?_ -- 154
    refine hM_si2 (k := 4) rfl (by decide +kernel) rfl (fun lv1 e1_4 u1 => ?_) -- 156
    have e1_0 := u1 0 _ (by decide) (Or.inl rfl) e0
    have e1_5 := u1 5 _ (by decide) (Or.inl rfl) e5
    exact g0 lv1 e1_0 e1_4 e1_5 c146
  · refine hI_il2 (k := 5) rfl e5 rfl ?_ -- 149
    refine hI_go (pc' := 156) (off := 5) rfl (by decide) ?_ -- 151
    refine hM_si2 (k := 4) rfl (by decide +kernel) rfl (fun lv2 e2_4 u2 => ?_) -- 156
    have e2_0 := u2 0 _ (by decide) (Or.inl rfl) e0
    have e2_5 := u2 5 _ (by decide) (Or.inl rfl) e5
    exact g1 lv2 e2_0 e2_4 e2_5 c146
theorem s_co158 {b i : Int} (M : MX 49 W ρ m A h0 h F V G) (e0 : m_lk lv 0 = some (.ref m)) {lx4 : Int32} (e4 : m_lk lv 4 = some (.int lx4)) (lq4 : lx4.toInt = b) {lx5 : Int32} (e5 : m_lk lv 5 = some (.int lx5)) (lq5 : lx5.toInt = i) (i0 : 0 ≤ i) (i1 : i ≤ 4096)
    (g0 : ∀ x1 : Int32, x1.toInt = i + 1 → ∀ lv1 : List (Nat × Value), m_lk lv1 0 = some (.ref m) → m_lk lv1 4 = some (.int lx4) → m_lk lv1 5 = some (.int x1) → HJ 248 106 lv1 [] h Q)
    : HJ 248 158 lv [] h Q := by
  refine hM_inc (k := 5) (z := 1) rfl e5 lq5 (by decide) (by omega) (by omega) (by decide +kernel) rfl (fun lv1 x1 q1 e1_5 u1 => ?_) -- 158
  have e1_0 := u1 0 _ (by decide) (Or.inl rfl) e0
  have e1_4 := u1 4 _ (by decide) (Or.inl rfl) e4
  refine hI_go (pc' := 106) (off := (-55)) rfl (by decide) ?_ -- 161
  exact g0 x1 q1 lv1 e1_0 e1_4 e1_5
theorem s_co170 (M : MX 49 W ρ m A h0 h F V G) {sx0 : Int64} 
    (g0 : Q (some (.long sx0)) h)
    : HJ 248 170 lv [.long sx0] h Q := by
  refine hI_rl rfl rfl ?_
  exact g0 
theorem l_co45 {x : Int64} {n : Nat} (hw : d_sub [(82, 1001), (49, 49)] W = true) (g : ∀ (lv : List (Nat × Value)) (h : MH) (F : Nat → Int) (G : Nat → Nat → Int64) (xb xi : Int32), MX 49 W ρ m A h0 h F V G → 0 ≤ F 47 → F 47 ≤ 12 → xi.toInt = 0 → m_lk lv 0 = some (.ref m) → m_lk lv 4 = some (.int xb) → m_lk lv 5 = some (.int xi) → HJ 248 106 lv [] h Q) : ∀ (d k : Nat) (lv : List (Nat × Value)) (h : MH) (F : Nat → Int) (G : Nat → Nat → Int64) (xk : Int32), k + d = n → MX 49 W ρ m A h0 h F V G → z_cv F G x n → F 49 ≤ z_hc (G 42) x k → xk.toInt = (k : Int) → m_lk lv 0 = some (.ref m) → m_lk lv 2 = some (.long x) → m_lk lv 4 = some (.int xk) → HJ 248 45 lv [] h Q := by
  intro d
  induction d with
  | zero =>
    intro k lv h F G xk hd M I c hk e0 e2 e4
    have kn : k = n := by omega
    subst kn
    obtain ⟨i1, i2, i3, i4, i5⟩ := I
    exact s_co45 M e0 e2 e4 hk (by omega) (by omega) (by omega) hw (fun x2 q2 x4 q4 lv5 d0 d2 d4 d5 _ _ _ => g lv5 h F G x2 x4 M i4 i5 q4 d0 d4 d5) (fun x8 q8 lv8 _ _ _ _ _ c _ => by omega) (fun h11 G11 f11 h15 F15 f15 x16 q16 lv16 M15 _ _ _ _ _ c _ _ _ => by omega)
  | succ d ih =>
    intro k lv h F G xk hd M I c hk e0 e2 e4
    have I' := I
    obtain ⟨i1, i2, i3, i4, i5⟩ := I'
    have mono := z_hcM (H := G 42) (x := x) (k := k) (n := n) (by omega)
    refine s_co45 M e0 e2 e4 hk (by omega) (by omega) (by omega) hw (fun x2 q2 x4 q4 lv5 d0 d2 d4 d5 _ _ _ => by omega) (fun x8 q8 lv8 d0 d2 d4 _ _ _ c65 => ?_) (fun h11 G11 f11 h15 F15 f15 x16 q16 lv16 M15 d0 d2 d4 _ _ _ c65 _ _ => ?_)
    · rw [Int.toNat_natCast] at c65
      refine ih (k + 1) lv8 h F G x8 (by omega) M I ?_ (by omega) d0 d2 d4
      have e : G 42 k &&& x = 0 := lg_0.mp c65
      rw [z_hc, if_pos e]
      exact c
    · rw [Int.toNat_natCast] at c65
      have e : ¬ G 42 k &&& x = 0 := fun y => c65 (lg_0.mpr y)
      have g42 : G11 42 = G 42 := by rw [f11, m_uN _ _ _ _ (by decide)]
      refine ih (k + 1) lv16 h15 F15 G11 x16 (by omega) M15 ⟨by rw [f15, m_uN _ _ _ _ (by decide), i1], i2, by rw [g42]; exact i3, by rw [f15, m_uN _ _ _ _ (by decide)]; exact i4, by rw [f15, m_uN _ _ _ _ (by decide)]; exact i5⟩ ?_ (by omega) d0 d2 d4
      rw [f15, m_uE, g42, z_hc, if_neg e]
      omega
theorem l_co106 (M : MX 49 W ρ m A h0 h F V G) (s0 : 0 ≤ F 47) (s12 : F 47 ≤ 12) (g : ∀ z : Int64, Q (some (.long z)) h) : ∀ (d i : Nat) (lv : List (Nat × Value)) (xb xi : Int32), i + d = 4096 → xi.toInt = (i : Int) → m_lk lv 0 = some (.ref m) → m_lk lv 4 = some (.int xb) → m_lk lv 5 = some (.int xi) → HJ 248 106 lv [] h Q := by
  have p := z_p2 s0 s12
  have fin : ∀ (lv : List (Nat × Value)) (xb : Int32), HJ 251 0 (lv_args 0 [.ref m, .int xb]) [] h (fun v h' => HJ 248 170 lv (v.toList ++ []) h' Q) := fun lv xb => c_setOf M (fun z => s_co170 M (g z))
  intro d
  induction d with
  | zero =>
    intro i lv xb xi hd hi e0 e4 e5
    exact s_co106 M e0 e4 rfl e5 hi p.1 p.2 (fun _ _ _ => fin lv xb) (fun _ _ c _ => by omega) (fun _ _ c _ => by omega)
  | succ d ih =>
    intro i lv xb xi hd hi e0 e4 e5
    have nx : ∀ (lv : List (Nat × Value)) (xb : Int32), m_lk lv 0 = some (.ref m) → m_lk lv 4 = some (.int xb) → m_lk lv 5 = some (.int xi) → HJ 248 158 lv [] h Q := fun lv xb e0 e4 e5 => s_co158 M e0 e4 rfl e5 hi (by omega) (by omega) (fun x1 q1 lv1 d0 d4 d5 => ih (i + 1) lv1 xb x1 (by omega) (by omega) d0 d4 d5)
    have cov : HJ 251 0 (lv_args 0 [.ref m, .int xi]) [] h (fun v h' => HJ 248 143 lv (v.toList ++ [.ref m]) h' Q) := c_setOf M (fun z => s_co143 M e0 e4 rfl e5 hi (c_covers M (fun y => s_co146 (z := y.toInt) M e0 e4 rfl e5 hi rfl (fun lv1 d0 d4 d5 _ => nx lv1 xb d0 d4 d5) (fun lv2 d0 d4 d5 _ => nx lv2 xi d0 d4 d5))))
    exact s_co106 M e0 e4 rfl e5 hi p.1 p.2 (fun _ _ _ => fin lv xb) (fun _ _ _ _ => cov) (fun _ _ _ _ => c_bitsOf M (fun y => s_co128 (y := y.toInt) M e0 e4 rfl e5 hi rfl (c_bitsOf M (fun z => s_co133 (y := y.toInt) (z := z.toInt) M e0 e4 rfl e5 hi rfl rfl (fun lv1 d0 d4 d5 _ => nx lv1 xb d0 d4 d5) (fun _ => cov)))))
def g_cvr : List (Nat × Nat) := g_la ++ g_lsW ++ g_hd ++ [(82, 1001), (49, 49), (49, 0)]
theorem c_cover {r : Int} {x : Int64} {xr : Int32} (M : MX 49 W ρ m A h0 h F V G) (b0_ : m_lk lv 0 = some (.ref m)) (b1_ : m_lk lv 1 = some (.int xr)) (b2_ : m_lk lv 2 = some (.long x)) (hw : d_sub g_cvr W = true) (qr : xr.toInt = r) (rw_ : p_rw (V 6)) (g : ∀ (x : Int64) (h' : MH) (F' : Nat → Int) (V' : Nat → Nat → Int) (G' : Nat → Nat → Int64), MX 49 W ρ m A h0 h' F' V' G' → Q (some (.long x)) h') : HJ 248 0 lv [] h Q := by
  have w0 : d_sub [(49, 0)] W = true := d_subm hw (by decide +kernel)
  have w1 : d_sub g_la W = true := d_subm hw (by decide +kernel)
  have w2 : d_sub g_lsW W = true := d_subm hw (by decide +kernel)
  have w3 : d_sub g_hd W = true := d_subm hw (by decide +kernel)
  have w4 : d_sub [(82, 1001), (49, 49)] W = true := d_subm hw (by decide +kernel)
  have w5 : d_sub [(49, 49)] W = true := d_subm hw (by decide +kernel)
  refine s_co0 M b0_ b1_ qr b2_ w0 (fun h2 F2 f2 M2 => ?_)
  refine c_lay M2 rfl rfl w1 qr rw_ (fun z h3 F3 V3 G3 M3 hz0 => ?_)
  have hz : z.toInt = 0 ∨ (z.toInt = 1 ∧ g_ly F3 V3 40) := hz0.imp (fun q => q.1) (fun q => ⟨q.1, q.2.1⟩)
  refine s_co10 (z := z.toInt) M3 b0_ b1_ qr b2_ rfl (fun _ => g _ h3 F3 V3 G3 M3) (fun c10 => ?_)
  obtain ⟨-, ⟨⟨i1, i2, i3⟩, i4, i5, i6⟩⟩ := hz.resolve_left c10
  refine c_are M3 (fun z2 _ _ => ?_)
  refine s_co18 (z := z2.toInt) M3 b0_ b1_ qr b2_ rfl (fun _ => g _ h3 F3 V3 G3 M3) (fun _ => ?_)
  refine c_list2 M3 w2 (by omega) (by omega) (fun z3 h4 F4 V4 z30 z31 M4 fo vo cb => ?_)
  have f35 := fo 35 (by decide)
  have f17 := fo 17 (by decide)
  refine s_co26 (z := z3.toInt) M4 b0_ b1_ qr b2_ rfl (fun c26 => ?_) (fun _ => g _ h4 F4 V4 G3 M4)
  refine c_hold M4 w3 (by omega) (by omega) (by omega) (by omega) (by rw [f17, vo 22 (by decide), vo 23 (by decide)]; exact i1) (by rw [f17, f35, vo 22 (by decide), vo 36 (by decide)]; exact i3) (fun h5 F5 V5 G5 M5 I5 hc => ?_)
  have c12 := cb (by omega)
  have h5c := hc x
  rw [f35] at h5c
  have b47 := M5.fi (by decide) (k := 47) (lo := 0) (hi := 12) rfl rfl rfl
  have g17 := I5.1 17 (by decide)
  refine s_co37 M5 b0_ b1_ qr b2_ w5 (fun h6 F6 f6 x3 q3 lv4 M6 e0 e2 e4 => ?_)
  have k17 : F6 17 = F5 17 := by rw [f6, m_uN _ _ _ _ (by decide)]
  have k47 : F6 47 = F5 47 := by rw [f6, m_uN _ _ _ _ (by decide)]
  refine l_co45 (x := x) (n := (F4 17).toNat) w4 (fun lv7 h7 F7 G7 xb xi M7 s0 s12 q7 d0 d4 d5 => ?_) (F4 17).toNat 0 lv4 h6 F6 G5 x3 (by omega) M6 ⟨by omega, by omega, by omega, by omega, by omega⟩ (by rw [f6, m_uE]; exact Int.le_refl _) q3 e0 e2 e4
  exact l_co106 M7 s0 s12 (fun z => g z h7 F7 V5 G7 M7) 4096 0 lv7 xb xi rfl q7 d0 d4 d5
theorem s_fg0 {r w : Int} (M : MX 49 W ρ m A h0 h F V G) (e0 : m_lk lv 0 = some (.ref m)) {lx1 : Int32} (e1 : m_lk lv 1 = some (.int lx1)) (lq1 : lx1.toInt = r) {lx2 : Int64} (e2 : m_lk lv 2 = some (.long lx2)) {lx4 : Int32} (e4 : m_lk lv 4 = some (.int lx4)) (lq4 : lx4.toInt = w) (hw : d_sub [(49, 0)] W = true)
    (g0 : ∀ h2 : MH, ∀ F2 : Nat → Int, F2 = m_u F 0 (0) → MX 49 W ρ m A h0 h2 F2 V G → HJ 201 0 (lv_args 0 [.ref m, .int lx1]) [] h2 (fun v h' => HJ 285 10 lv (v.toList ++ []) h' Q))
    : HJ 285 0 lv [] h Q := by
  refine hI_al (k := 0) rfl e0 rfl ?_ -- 0
  refine hM_ic (n := 0) rfl (by decide) rfl (fun x1 q1 => ?_) -- 1
  refine hM_pi M (by decide) ok_49 rfl rfl (k := 0) (c := 9) (lo := (-2147483648)) (hi := 2147483647) rfl rfl ⟨by decide, by decide +kernel, rfl⟩ rfl (d_subm hw (by decide +kernel)) q1 (by omega) (by omega) rfl (fun h2 F2 f2 M2 => ?_) -- 2
  refine hI_al (k := 0) rfl e0 rfl ?_ -- 5
  refine hI_il (k := 1) rfl e1 rfl ?_ -- 6
  refine hM_iv M2 (by decide) rfl rfl (by decide) (as := [.int lx1]) (r := []) rfl rfl (by decide +kernel) rfl (by decide +kernel) rfl rfl rfl rfl rfl ?_ -- 7
  exact g0 h2 F2 f2 M2
theorem s_fg10 {r w z : Int} (M : MX 49 W ρ m A h0 h F V G) (e0 : m_lk lv 0 = some (.ref m)) {lx1 : Int32} (e1 : m_lk lv 1 = some (.int lx1)) (lq1 : lx1.toInt = r) {lx2 : Int64} (e2 : m_lk lv 2 = some (.long lx2)) {lx4 : Int32} (e4 : m_lk lv 4 = some (.int lx4)) (lq4 : lx4.toInt = w) {sx0 : Int32} (sq0 : sx0.toInt = z) 
    (g0 : z = 0 → Q (some (.long (-1))) h)
    (g1 : z ≠ 0 → HJ 245 0 (lv_args 0 [.ref m, .long lx2]) [] h (fun v h' => HJ 285 18 lv (v.toList ++ []) h' Q))
    : HJ 285 10 lv [.int sx0] h Q := by
  refine hM_zeq (off := 24) (t := 34) rfl sq0 (by decide) rfl (fun c10 => ?_) (fun c10 => ?_) -- 10
  · refine hM_jc (x := (-1)) rfl rfl rfl ?_ -- 34
    refine hI_rl rfl rfl ?_
    exact g0 c10
  · refine hI_al (k := 0) rfl e0 rfl ?_ -- 13
    refine hI_ll (k := 2) rfl e2 rfl ?_ -- 14
    refine hM_iv M (by decide) rfl rfl (by decide) (as := [.long lx2]) (r := []) rfl rfl (by decide +kernel) rfl (by decide +kernel) rfl rfl rfl rfl rfl ?_ -- 15
    exact g1 c10
theorem s_fg18 {r w z : Int} (M : MX 49 W ρ m A h0 h F V G) (e0 : m_lk lv 0 = some (.ref m)) {lx1 : Int32} (e1 : m_lk lv 1 = some (.int lx1)) (lq1 : lx1.toInt = r) {lx2 : Int64} (e2 : m_lk lv 2 = some (.long lx2)) {lx4 : Int32} (e4 : m_lk lv 4 = some (.int lx4)) (lq4 : lx4.toInt = w) {sx0 : Int32} (sq0 : sx0.toInt = z) 
    (g0 : z = 0 → Q (some (.long (-1))) h)
    (g1 : z ≠ 0 → HJ 249 0 (lv_args 0 [.ref m, .long lx2]) [] h (fun v h' => HJ 285 26 lv (v.toList ++ []) h' Q))
    : HJ 285 18 lv [.int sx0] h Q := by
  refine hM_zeq (off := 16) (t := 34) rfl sq0 (by decide) rfl (fun c18 => ?_) (fun c18 => ?_) -- 18
  · refine hM_jc (x := (-1)) rfl rfl rfl ?_ -- 34
    refine hI_rl rfl rfl ?_
    exact g0 c18
  · refine hI_al (k := 0) rfl e0 rfl ?_ -- 21
    refine hI_ll (k := 2) rfl e2 rfl ?_ -- 22
    refine hM_iv M (by decide) rfl rfl (by decide) (as := [.long lx2]) (r := []) rfl rfl (by decide +kernel) rfl (by decide +kernel) rfl rfl rfl rfl rfl ?_ -- 23
    exact g1 c18
theorem s_fg26 {r w z : Int} (M : MX 49 W ρ m A h0 h F V G) (e0 : m_lk lv 0 = some (.ref m)) {lx1 : Int32} (e1 : m_lk lv 1 = some (.int lx1)) (lq1 : lx1.toInt = r) {lx2 : Int64} (e2 : m_lk lv 2 = some (.long lx2)) {lx4 : Int32} (e4 : m_lk lv 4 = some (.int lx4)) (lq4 : lx4.toInt = w) {sx0 : Int32} (sq0 : sx0.toInt = z) 
    (g0 : z = 0 → Q (some (.long (-1))) h)
    (g1 : z ≠ 0 → w ≥ 0 → HJ 229 0 (lv_args 0 [.ref m]) [] h (fun v h' => HJ 285 42 lv (v.toList ++ []) h' Q))
    (g2 : z ≠ 0 → w < 0 → Q (some (.long (-1))) h)
    : HJ 285 26 lv [.int sx0] h Q := by
  refine hM_zeq (off := 8) (t := 34) rfl sq0 (by decide) rfl (fun c26 => ?_) (fun c26 => ?_) -- 26
  · refine hM_jc (x := (-1)) rfl rfl rfl ?_ -- 34
    refine hI_rl rfl rfl ?_
    exact g0 c26
  · refine hI_il2 (k := 4) rfl e4 rfl ?_ -- 29
    refine hM_zge (off := 7) (t := 38) rfl lq4 (by decide) rfl (fun c31 => ?_) (fun c31 => ?_) -- 31
    · refine hI_al (k := 0) rfl e0 rfl ?_ -- 38
      refine hM_iv M (by decide) rfl rfl (by decide) (as := []) (r := []) rfl rfl (by decide +kernel) rfl (by decide +kernel) rfl rfl rfl rfl rfl ?_ -- 39
      exact g1 c26 c31
    · refine hM_jc (x := (-1)) rfl rfl rfl ?_ -- 34
      refine hI_rl rfl rfl ?_
      exact g2 c26 c31
theorem s_fg42 {r w : Int} (M : MX 49 W ρ m A h0 h F V G) (e0 : m_lk lv 0 = some (.ref m)) {lx1 : Int32} (e1 : m_lk lv 1 = some (.int lx1)) (lq1 : lx1.toInt = r) {lx2 : Int64} (e2 : m_lk lv 2 = some (.long lx2)) {lx4 : Int32} (e4 : m_lk lv 4 = some (.int lx4)) (lq4 : lx4.toInt = w) (hw : d_sub [(49, 49)] W = true)
    (g0 : ∀ x1 : Int32, x1.toInt = 0 → ∀ h4 : MH, ∀ F4 : Nat → Int, F4 = m_u F 49 (0) → ∀ x5 : Int32, x5.toInt = 0 → ∀ lv6 : List (Nat × Value), MX 49 W ρ m A h0 h4 F4 V G → m_lk lv6 0 = some (.ref m) → m_lk lv6 2 = some (.long lx2) → m_lk lv6 4 = some (.int lx4) → m_lk lv6 5 = some (.int x1) → m_lk lv6 6 = some (.int x5) → HJ 285 53 lv6 [] h4 Q)
    : HJ 285 42 lv [] h Q := by
  refine hM_ic (n := 0) rfl (by decide) rfl (fun x1 q1 => ?_) -- 42
  refine hM_si2 (k := 5) rfl (by decide +kernel) rfl (fun lv2 e2_5 u2 => ?_) -- 43
  have e2_0 := u2 0 _ (by decide) (Or.inl rfl) e0
  have e2_1 := u2 1 _ (by decide) (Or.inl rfl) e1
  have e2_2 := u2 2 _ (by decide) (Or.inr (by decide)) e2
  have e2_4 := u2 4 _ (by decide) (Or.inl rfl) e4
  refine hI_al (k := 0) rfl e2_0 rfl ?_ -- 45
  refine hM_ic (n := 0) rfl (by decide) rfl (fun x3 q3 => ?_) -- 46
  refine hM_pi M (by decide) ok_49 rfl rfl (k := 49) (c := 9) (lo := 0) (hi := 1024) rfl rfl ⟨by decide, by decide +kernel, rfl⟩ rfl (d_subm hw (by decide +kernel)) q3 (by omega) (by omega) rfl (fun h4 F4 f4 M4 => ?_) -- 47
  refine hM_ic (n := 0) rfl (by decide) rfl (fun x5 q5 => ?_) -- 50
  refine hM_si2 (k := 6) rfl (by decide +kernel) rfl (fun lv6 e6_6 u6 => ?_) -- 51
  have e6_0 := u6 0 _ (by decide) (Or.inl rfl) e2_0
  have e6_1 := u6 1 _ (by decide) (Or.inl rfl) e2_1
  have e6_2 := u6 2 _ (by decide) (Or.inr (by decide)) e2_2
  have e6_4 := u6 4 _ (by decide) (Or.inl rfl) e2_4
  have e6_5 := u6 5 _ (by decide) (Or.inl rfl) e2_5
  exact g0 x1 q1 h4 F4 f4 x5 q5 lv6 M4 e6_0 e6_2 e6_4 e6_5 e6_6
theorem s_fg53 {w u k : Int} (M : MX 49 W ρ m A h0 h F V G) (e0 : m_lk lv 0 = some (.ref m)) {lx2 : Int64} (e2 : m_lk lv 2 = some (.long lx2)) {lx4 : Int32} (e4 : m_lk lv 4 = some (.int lx4)) (lq4 : lx4.toInt = w) {lx5 : Int32} (e5 : m_lk lv 5 = some (.int lx5)) (lq5 : lx5.toInt = u) {lx6 : Int32} (e6 : m_lk lv 6 = some (.int lx6)) (lq6 : lx6.toInt = k) (k0 : 0 ≤ k) (m1 : F 49 < 1024) (u0 : 0 ≤ u) (u1 : u ≤ k) (n1 : F 17 ≤ 16000)(hw : d_sub [(82, 1001), (49, 49)] W = true)
    (g0 : ∀ x2 : Int32, x2.toInt = (-1) → ∀ x4 : Int32, x4.toInt = 0 → ∀ lv5 : List (Nat × Value), m_lk lv5 0 = some (.ref m) → m_lk lv5 2 = some (.long lx2) → m_lk lv5 4 = some (.int lx4) → m_lk lv5 5 = some (.int lx5) → m_lk lv5 6 = some (.int x2) → m_lk lv5 7 = some (.int x4) → 0 ≤ F 17 → F 17 ≤ 16000 → k ≥ F 17 → HJ 285 136 lv5 [] h Q)
    (g1 : ∀ x10 : Int32, x10.toInt = k + 1 → ∀ lv10 : List (Nat × Value), m_lk lv10 0 = some (.ref m) → m_lk lv10 2 = some (.long lx2) → m_lk lv10 4 = some (.int lx4) → m_lk lv10 5 = some (.int lx5) → m_lk lv10 6 = some (.int x10) → 0 ≤ F 17 → F 17 ≤ 16000 → k < F 17 → (lg_cmp (G 42 (k).toNat) (Int64.ofNat (0 : Fin 2).val)).toInt ≠ 0 → (lg_cmp ((G 42 (k).toNat) &&& (lx2 ^^^ (-1))) (Int64.ofNat (0 : Fin 2).val)).toInt ≠ 0 → HJ 285 53 lv10 [] h Q)
    (g2 : ∀ h13 : MH, ∀ G13 : Nat → Nat → Int64, G13 = m_u G 50 (m_u (G 50) (F 49).toNat (G 42 (k).toNat)) → ∀ h17 : MH, ∀ F17 : Nat → Int, F17 = m_u F 49 ((F 49) + 1) → ∀ x18 : Int32, x18.toInt = k + 1 → ∀ lv18 : List (Nat × Value), MX 49 W ρ m A h0 h17 F17 V G13 → m_lk lv18 0 = some (.ref m) → m_lk lv18 2 = some (.long lx2) → m_lk lv18 4 = some (.int lx4) → m_lk lv18 5 = some (.int lx5) → m_lk lv18 6 = some (.int x18) → 0 ≤ F 17 → F 17 ≤ 16000 → k < F 17 → (lg_cmp (G 42 (k).toNat) (Int64.ofNat (0 : Fin 2).val)).toInt ≠ 0 → (lg_cmp ((G 42 (k).toNat) &&& (lx2 ^^^ (-1))) (Int64.ofNat (0 : Fin 2).val)).toInt = 0 → 0 ≤ F 49 → F 49 ≤ 1024 → HJ 285 53 lv18 [] h17 Q)
    (g3 : ∀ x19 : Int32, x19.toInt = u + 1 → ∀ x20 : Int32, x20.toInt = k + 1 → ∀ lv20 : List (Nat × Value), m_lk lv20 0 = some (.ref m) → m_lk lv20 2 = some (.long lx2) → m_lk lv20 4 = some (.int lx4) → m_lk lv20 5 = some (.int x19) → m_lk lv20 6 = some (.int x20) → 0 ≤ F 17 → F 17 ≤ 16000 → k < F 17 → (lg_cmp (G 42 (k).toNat) (Int64.ofNat (0 : Fin 2).val)).toInt = 0 → HJ 285 53 lv20 [] h Q)
    : HJ 285 53 lv [] h Q := by
  refine hI_il2 (k := 6) rfl e6 rfl ?_ -- 53
  refine hI_al (k := 0) rfl e0 rfl ?_ -- 55
  refine hM_gi M (by decide) rfl rfl rfl (k := 17) (c := 9) (lo := 0) (hi := 16000) rfl rfl rfl rfl rfl (fun x1 q1 a1 b1 => ?_) -- 56
  refine hM_cge (off := 71) (t := 130) rfl lq6 q1 (by decide) rfl (fun c59 => ?_) (fun c59 => ?_) -- 59
  · refine hM_ic (n := (-1)) rfl (by decide) rfl (fun x2 q2 => ?_) -- 130
    refine hM_si2 (k := 6) rfl (by decide +kernel) rfl (fun lv3 e3_6 u3 => ?_) -- 131
    have e3_0 := u3 0 _ (by decide) (Or.inl rfl) e0
    have e3_2 := u3 2 _ (by decide) (Or.inr (by decide)) e2
    have e3_4 := u3 4 _ (by decide) (Or.inl rfl) e4
    have e3_5 := u3 5 _ (by decide) (Or.inl rfl) e5
    refine hM_ic (n := 0) rfl (by decide) rfl (fun x4 q4 => ?_) -- 133
    refine hM_si2 (k := 7) rfl (by decide +kernel) rfl (fun lv5 e5_7 u5 => ?_) -- 134
    have e5_0 := u5 0 _ (by decide) (Or.inl rfl) e3_0
    have e5_2 := u5 2 _ (by decide) (Or.inr (by decide)) e3_2
    have e5_4 := u5 4 _ (by decide) (Or.inl rfl) e3_4
    have e5_5 := u5 5 _ (by decide) (Or.inl rfl) e3_5
    have e5_6 := u5 6 _ (by decide) (Or.inl rfl) e3_6
    exact g0 x2 q2 x4 q4 lv5 e5_0 e5_2 e5_4 e5_5 e5_6 e5_7 a1 b1 c59
  · refine hI_al (k := 0) rfl e0 rfl ?_ -- 62
    refine hM_ga M (by decide) rfl rfl (k := 42) (c := 9) rfl rfl rfl (by decide +kernel) rfl ?_ -- 63
    refine hI_il2 (k := 6) rfl e6 rfl ?_ -- 66
    refine hM_la M (by decide) (K := 42) (R2 := 77) (L := 16000) (H := 16000) rfl (by decide) rfl rfl rfl lq6 (by omega) (by omega) rfl ?_ -- 68
    refine hI_lc (n := 0) rfl rfl ?_ -- 69
    refine hM_lcmp rfl rfl (fun x7 q7 => ?_) -- 70
    refine hM_zne (off := 9) (t := 80) rfl q7 (by decide) rfl (fun c71 => ?_) (fun c71 => ?_) -- 71
    · refine hI_al (k := 0) rfl e0 rfl ?_ -- 80
      refine hM_ga M (by decide) rfl rfl (k := 42) (c := 9) rfl rfl rfl (by decide +kernel) rfl ?_ -- 81
      refine hI_il2 (k := 6) rfl e6 rfl ?_ -- 84
      refine hM_la M (by decide) (K := 42) (R2 := 77) (L := 16000) (H := 16000) rfl (by decide) rfl rfl rfl lq6 (by omega) (by omega) rfl ?_ -- 86
      refine hI_ll (k := 2) rfl e2 rfl ?_ -- 87
      refine hM_jc (x := (-1)) rfl rfl rfl ?_ -- 88
      refine hI_lxor rfl rfl ?_ -- 91
      refine hI_land rfl rfl ?_ -- 92
      refine hI_lc (n := 0) rfl rfl ?_ -- 93
      refine hM_lcmp rfl rfl (fun x9 q9 => ?_) -- 94
      refine hM_zne (off := 29) (t := 124) rfl q9 (by decide) rfl (fun c95 => ?_) (fun c95 => ?_) -- 95
      · refine hM_inc (k := 6) (z := 1) rfl e6 lq6 (by decide) (by omega) (by omega) (by decide +kernel) rfl (fun lv10 x10 q10 e10_6 u10 => ?_) -- 124
        have e10_0 := u10 0 _ (by decide) (Or.inl rfl) e0
        have e10_2 := u10 2 _ (by decide) (Or.inr (by decide)) e2
        have e10_4 := u10 4 _ (by decide) (Or.inl rfl) e4
        have e10_5 := u10 5 _ (by decide) (Or.inl rfl) e5
        refine hI_go (pc' := 53) (off := (-74)) rfl (by decide) ?_ -- 127
        exact g1 x10 q10 lv10 e10_0 e10_2 e10_4 e10_5 e10_6 a1 b1 c59 c71 c95
      · refine hI_al (k := 0) rfl e0 rfl ?_ -- 98
        refine hM_ga M (by decide) rfl rfl (k := 50) (c := 9) rfl rfl rfl (by decide +kernel) rfl ?_ -- 99
        refine hI_al (k := 0) rfl e0 rfl ?_ -- 102
        refine hM_gi M (by decide) rfl rfl rfl (k := 49) (c := 9) (lo := 0) (hi := 1024) rfl rfl rfl rfl rfl (fun x11 q11 a11 b11 => ?_) -- 103
        refine hI_al (k := 0) rfl e0 rfl ?_ -- 106
        refine hM_ga M (by decide) rfl rfl (k := 42) (c := 9) rfl rfl rfl (by decide +kernel) rfl ?_ -- 107
        refine hI_il2 (k := 6) rfl e6 rfl ?_ -- 110
        refine hM_la M (by decide) (K := 42) (R2 := 77) (L := 16000) (H := 16000) rfl (by decide) rfl rfl rfl lq6 (by omega) (by omega) rfl ?_ -- 112
        refine hM_ls M (by decide) ok_49 (K := 50) (R2 := 82) (L := 1024) (H := 1024) rfl (by decide) rfl rfl rfl (d_subm hw (by decide +kernel)) rfl q11 (by omega) (by omega) rfl (fun h13 G13 f13 M13 => ?_) -- 113
        refine hI_al (k := 0) rfl e0 rfl ?_ -- 114
        refine hI_dup rfl rfl rfl ?_ -- 115
        refine hM_gi M13 (by decide) rfl rfl rfl (k := 49) (c := 9) (lo := 0) (hi := 1024) rfl rfl rfl rfl rfl (fun x14 q14 a14 b14 => ?_) -- 116
        refine hM_ic (n := 1) rfl (by decide) rfl (fun x15 q15 => ?_) -- 119
        refine hM_add rfl q14 q15 (by omega) (by omega) rfl (fun x16 q16 => ?_) -- 120
        refine hM_pi M13 (by decide) ok_49 rfl rfl (k := 49) (c := 9) (lo := 0) (hi := 1024) rfl rfl ⟨by decide, by decide +kernel, rfl⟩ rfl (d_subm hw (by decide +kernel)) q16 (by omega) (by omega) rfl (fun h17 F17 f17 M17 => ?_) -- 121
        refine hM_inc (k := 6) (z := 1) rfl e6 lq6 (by decide) (by omega) (by omega) (by decide +kernel) rfl (fun lv18 x18 q18 e18_6 u18 => ?_) -- 124
        have e18_0 := u18 0 _ (by decide) (Or.inl rfl) e0
        have e18_2 := u18 2 _ (by decide) (Or.inr (by decide)) e2
        have e18_4 := u18 4 _ (by decide) (Or.inl rfl) e4
        have e18_5 := u18 5 _ (by decide) (Or.inl rfl) e5
        refine hI_go (pc' := 53) (off := (-74)) rfl (by decide) ?_ -- 127
        exact g2 h13 G13 f13 h17 F17 f17 x18 q18 lv18 M17 e18_0 e18_2 e18_4 e18_5 e18_6 a1 b1 c59 c71 c95 a11 b11
    · refine hM_inc (k := 5) (z := 1) rfl e5 lq5 (by decide) (by omega) (by omega) (by decide +kernel) rfl (fun lv19 x19 q19 e19_5 u19 => ?_) -- 74
      have e19_0 := u19 0 _ (by decide) (Or.inl rfl) e0
      have e19_2 := u19 2 _ (by decide) (Or.inr (by decide)) e2
      have e19_4 := u19 4 _ (by decide) (Or.inl rfl) e4
      have e19_6 := u19 6 _ (by decide) (Or.inl rfl) e6
      refine hI_go (pc' := 124) (off := 47) rfl (by decide) ?_ -- 77
      refine hM_inc (k := 6) (z := 1) rfl e19_6 lq6 (by decide) (by omega) (by omega) (by decide +kernel) rfl (fun lv20 x20 q20 e20_6 u20 => ?_) -- 124
      have e20_0 := u20 0 _ (by decide) (Or.inl rfl) e19_0
      have e20_2 := u20 2 _ (by decide) (Or.inr (by decide)) e19_2
      have e20_4 := u20 4 _ (by decide) (Or.inl rfl) e19_4
      have e20_5 := u20 5 _ (by decide) (Or.inl rfl) e19_5
      refine hI_go (pc' := 53) (off := (-74)) rfl (by decide) ?_ -- 127
      exact g3 x19 q19 x20 q20 lv20 e20_0 e20_2 e20_4 e20_5 e20_6 a1 b1 c59 c71
theorem s_fg136 {w u b i : Int} (M : MX 49 W ρ m A h0 h F V G) (e0 : m_lk lv 0 = some (.ref m)) {lx4 : Int32} (e4 : m_lk lv 4 = some (.int lx4)) (lq4 : lx4.toInt = w) {lx5 : Int32} (e5 : m_lk lv 5 = some (.int lx5)) (lq5 : lx5.toInt = u) {lx6 : Int32} (e6 : m_lk lv 6 = some (.int lx6)) (lq6 : lx6.toInt = b) {lx7 : Int32} (e7 : m_lk lv 7 = some (.int lx7)) (lq7 : lx7.toInt = i) (t0 : 0 ≤ (2 : Int) ^ (F 47).toNat) (t1 : (2 : Int) ^ (F 47).toNat ≤ 4096)
    (g0 : 0 ≤ F 47 → F 47 ≤ 12 → i ≥ (2 : Int) ^ (F 47).toNat → HJ 285 199 lv [] h Q)
    (g1 : 0 ≤ F 47 → F 47 ≤ 12 → i < (2 : Int) ^ (F 47).toNat → b = (-1) → HJ 251 0 (lv_args 0 [.ref m, .int lx7]) [] h (fun v h' => HJ 285 175 lv (v.toList ++ [.ref m, .int lx5]) h' Q))
    (g2 : 0 ≤ F 47 → F 47 ≤ 12 → i < (2 : Int) ^ (F 47).toNat → b ≠ (-1) → HJ 250 0 (lv_args 0 [.int lx7]) [] h (fun v h' => HJ 285 158 lv (v.toList ++ []) h' Q))
    : HJ 285 136 lv [] h Q := by
  refine hI_il2 (k := 7) rfl e7 rfl ?_ -- 136
  refine hM_ic (n := 1) rfl (by decide) rfl (fun x1 q1 => ?_) -- 138
  refine hI_al (k := 0) rfl e0 rfl ?_ -- 139
  refine hM_gi M (by decide) rfl rfl rfl (k := 47) (c := 9) (lo := 0) (hi := 12) rfl rfl rfl rfl rfl (fun x2 q2 a2 b2 => ?_) -- 140
  refine hM_shl rfl q1 q2 (by omega) (by omega) rfl (fun x3 q3 => ?_) -- 143
  refine hM_cge (off := 55) (t := 199) rfl lq7 q3 (by decide) rfl (fun c144 => ?_) (fun c144 => ?_) -- 144
  · exact g0 a2 b2 c144
  · refine hI_il2 (k := 6) rfl e6 rfl ?_ -- 147
    refine hM_ic (n := (-1)) rfl (by decide) rfl (fun x4 q4 => ?_) -- 149
    refine hM_ceq (off := 16) (t := 166) rfl lq6 q4 (by decide) rfl (fun c150 => ?_) (fun c150 => ?_) -- 150
    · refine hI_il2 (k := 5) rfl e5 rfl ?_ -- 166
      refine hI_al (k := 0) rfl e0 rfl ?_ -- 168
      refine hI_al (k := 0) rfl e0 rfl ?_ -- 169
      refine hI_il2 (k := 7) rfl e7 rfl ?_ -- 170
      refine hM_iv M (by decide) rfl rfl (by decide) (as := [.int lx7]) (r := [.ref m, .int lx5]) rfl rfl (by decide +kernel) rfl (by decide +kernel) rfl rfl rfl rfl rfl ?_ -- 172
      exact g1 a2 b2 c144 c150
    · refine hI_il2 (k := 7) rfl e7 rfl ?_ -- 153
      refine hM_is0 (as := [.int lx7]) (r := []) rfl rfl (by decide +kernel) rfl rfl rfl rfl rfl ?_ -- 155
      exact g2 a2 b2 c144 c150
theorem s_fg158 {w u b i y : Int} (M : MX 49 W ρ m A h0 h F V G) (e0 : m_lk lv 0 = some (.ref m)) {lx4 : Int32} (e4 : m_lk lv 4 = some (.int lx4)) (lq4 : lx4.toInt = w) {lx5 : Int32} (e5 : m_lk lv 5 = some (.int lx5)) (lq5 : lx5.toInt = u) {lx6 : Int32} (e6 : m_lk lv 6 = some (.int lx6)) (lq6 : lx6.toInt = b) {lx7 : Int32} (e7 : m_lk lv 7 = some (.int lx7)) (lq7 : lx7.toInt = i) {sx0 : Int32} (sq0 : sx0.toInt = y) 
    (g0 : HJ 250 0 (lv_args 0 [.int lx6]) [] h (fun v h' => HJ 285 163 lv (v.toList ++ [.int sx0]) h' Q))
    : HJ 285 158 lv [.int sx0] h Q := by
  refine hI_il2 (k := 6) rfl e6 rfl ?_ -- 158
  refine hM_is0 (as := [.int lx6]) (r := [.int sx0]) rfl rfl (by decide +kernel) rfl rfl rfl rfl rfl ?_ -- 160
  exact g0 
theorem s_fg163 {w u b i y z : Int} (M : MX 49 W ρ m A h0 h F V G) (e0 : m_lk lv 0 = some (.ref m)) {lx4 : Int32} (e4 : m_lk lv 4 = some (.int lx4)) (lq4 : lx4.toInt = w) {lx5 : Int32} (e5 : m_lk lv 5 = some (.int lx5)) (lq5 : lx5.toInt = u) {lx6 : Int32} (e6 : m_lk lv 6 = some (.int lx6)) (lq6 : lx6.toInt = b) {lx7 : Int32} (e7 : m_lk lv 7 = some (.int lx7)) (lq7 : lx7.toInt = i) {sx0 : Int32} (sq0 : sx0.toInt = y) {sx1 : Int32} (sq1 : sx1.toInt = z) 
    (g0 : ∀ lv1 : List (Nat × Value), m_lk lv1 0 = some (.ref m) → m_lk lv1 4 = some (.int lx4) → m_lk lv1 5 = some (.int lx5) → m_lk lv1 6 = some (.int lx6) → m_lk lv1 7 = some (.int lx7) → y ≥ z → HJ 285 193 lv1 [] h Q)
    (g1 : y < z → HJ 251 0 (lv_args 0 [.ref m, .int lx7]) [] h (fun v h' => HJ 285 175 lv (v.toList ++ [.ref m, .int lx5]) h' Q))
    : HJ 285 163 lv [.int sx1, .int sx0] h Q := by
  refine hM_cge (off := 26) (t := 189) rfl sq0 sq1 (by decide) rfl (fun c163 => ?_) (fun c163 => ?_) -- 163
  · refine hI_il2 (k := 6) rfl e6 rfl ?_ -- 189
    refine hM_si2 (k := 6) rfl (by decide +kernel) rfl (fun lv1 e1_6 u1 => ?_) -- 191
    have e1_0 := u1 0 _ (by decide) (Or.inl rfl) e0
    have e1_4 := u1 4 _ (by decide) (Or.inl rfl) e4
    have e1_5 := u1 5 _ (by decide) (Or.inl rfl) e5
    have e1_7 := u1 7 _ (by decide) (Or.inl rfl) e7
    exact g0 lv1 e1_0 e1_4 e1_5 e1_6 e1_7 c163
  · refine hI_il2 (k := 5) rfl e5 rfl ?_ -- 166
    refine hI_al (k := 0) rfl e0 rfl ?_ -- 168
    refine hI_al (k := 0) rfl e0 rfl ?_ -- 169
    refine hI_il2 (k := 7) rfl e7 rfl ?_ -- 170
    refine hM_iv M (by decide) rfl rfl (by decide) (as := [.int lx7]) (r := [.ref m, .int lx5]) rfl rfl (by decide +kernel) rfl (by decide +kernel) rfl rfl rfl rfl rfl ?_ -- 172
    exact g1 c163
theorem s_fg175 {w u b i : Int} (M : MX 49 W ρ m A h0 h F V G) (e0 : m_lk lv 0 = some (.ref m)) {lx4 : Int32} (e4 : m_lk lv 4 = some (.int lx4)) (lq4 : lx4.toInt = w) {lx5 : Int32} (e5 : m_lk lv 5 = some (.int lx5)) (lq5 : lx5.toInt = u) {lx6 : Int32} (e6 : m_lk lv 6 = some (.int lx6)) (lq6 : lx6.toInt = b) {lx7 : Int32} (e7 : m_lk lv 7 = some (.int lx7)) (lq7 : lx7.toInt = i) {sx0 : Int32} (sq0 : sx0.toInt = u) {sx2 : Int64} 
    (g0 : HJ 286 0 (lv_args 0 [.ref m, .long sx2]) [] h (fun v h' => HJ 285 178 lv (v.toList ++ [.int sx0]) h' Q))
    : HJ 285 175 lv [.long sx2, .ref m, .int sx0] h Q := by
  refine hM_iv M (by decide) rfl rfl (by decide) (as := [.long sx2]) (r := [.int sx0]) rfl rfl (by decide +kernel) rfl (by decide +kernel) rfl rfl rfl rfl rfl ?_ -- 175
  exact g0 
theorem s_fg178 {w u b i z : Int} (M : MX 49 W ρ m A h0 h F V G) (e0 : m_lk lv 0 = some (.ref m)) {lx4 : Int32} (e4 : m_lk lv 4 = some (.int lx4)) (lq4 : lx4.toInt = w) {lx5 : Int32} (e5 : m_lk lv 5 = some (.int lx5)) (lq5 : lx5.toInt = u) {lx6 : Int32} (e6 : m_lk lv 6 = some (.int lx6)) (lq6 : lx6.toInt = b) {lx7 : Int32} (e7 : m_lk lv 7 = some (.int lx7)) (lq7 : lx7.toInt = i) {sx0 : Int32} (sq0 : sx0.toInt = u) {sx1 : Int32} (sq1 : sx1.toInt = z) 
    (g0 : ∀ z1 : Int, -2147483648 ≤ z1 → z1 ≤ 2147483647 → ∀ lv2 : List (Nat × Value), m_lk lv2 0 = some (.ref m) → m_lk lv2 4 = some (.int lx4) → m_lk lv2 5 = some (.int lx5) → m_lk lv2 6 = some (.int lx6) → m_lk lv2 7 = some (.int lx7) → z1 < w → HJ 285 193 lv2 [] h Q)
    (g1 : ∀ z1 : Int, -2147483648 ≤ z1 → z1 ≤ 2147483647 → ∀ lv3 : List (Nat × Value), m_lk lv3 0 = some (.ref m) → m_lk lv3 4 = some (.int lx4) → m_lk lv3 5 = some (.int lx5) → m_lk lv3 6 = some (.int lx7) → m_lk lv3 7 = some (.int lx7) → z1 ≥ w → HJ 285 193 lv3 [] h Q)
    : HJ 285 178 lv [.int sx1, .int sx0] h Q := by
  refine hM_addw rfl rfl (fun x1 z1 q1 a1 b1 => ?_) -- 178
  refine hI_il2 (k := 4) rfl e4 rfl ?_ -- 179
  refine hM_clt (off := 8) (t := 189) rfl q1 lq4 (by decide) rfl (fun c181 => ?_) (fun c181 => ?_) -- 181
  · refine hI_il2 (k := 6) rfl e6 rfl ?_ -- 189
    refine hM_si2 (k := 6) rfl (by decide +kernel) rfl (fun lv2 e2_6 u2 => ?_) -- 191
    have e2_0 := u2 0 _ (by decide) (Or.inl rfl) e0
    have e2_4 := u2 4 _ (by decide) (Or.inl rfl) e4
    have e2_5 := u2 5 _ (by decide) (Or.inl rfl) e5
    have e2_7 := u2 7 _ (by decide) (Or.inl rfl) e7
    exact g0 z1 a1 b1 lv2 e2_0 e2_4 e2_5 e2_6 e2_7 c181
  · refine hI_il2 (k := 7) rfl e7 rfl ?_ -- 184
    refine hI_go (pc' := 191) (off := 5) rfl (by decide) ?_ -- 186
    refine hM_si2 (k := 6) rfl (by decide +kernel) rfl (fun lv3 e3_6 u3 => ?_) -- 191
    have e3_0 := u3 0 _ (by decide) (Or.inl rfl) e0
    have e3_4 := u3 4 _ (by decide) (Or.inl rfl) e4
    have e3_5 := u3 5 _ (by decide) (Or.inl rfl) e5
    have e3_7 := u3 7 _ (by decide) (Or.inl rfl) e7
    exact g1 z1 a1 b1 lv3 e3_0 e3_4 e3_5 e3_6 e3_7 c181
theorem s_fg193 {w u b i : Int} (M : MX 49 W ρ m A h0 h F V G) (e0 : m_lk lv 0 = some (.ref m)) {lx4 : Int32} (e4 : m_lk lv 4 = some (.int lx4)) (lq4 : lx4.toInt = w) {lx5 : Int32} (e5 : m_lk lv 5 = some (.int lx5)) (lq5 : lx5.toInt = u) {lx6 : Int32} (e6 : m_lk lv 6 = some (.int lx6)) (lq6 : lx6.toInt = b) {lx7 : Int32} (e7 : m_lk lv 7 = some (.int lx7)) (lq7 : lx7.toInt = i) (i0 : 0 ≤ i) (i1 : i ≤ 4096)
    (g0 : ∀ x1 : Int32, x1.toInt = i + 1 → ∀ lv1 : List (Nat × Value), m_lk lv1 0 = some (.ref m) → m_lk lv1 4 = some (.int lx4) → m_lk lv1 5 = some (.int lx5) → m_lk lv1 6 = some (.int lx6) → m_lk lv1 7 = some (.int x1) → HJ 285 136 lv1 [] h Q)
    : HJ 285 193 lv [] h Q := by
  refine hM_inc (k := 7) (z := 1) rfl e7 lq7 (by decide) (by omega) (by omega) (by decide +kernel) rfl (fun lv1 x1 q1 e1_7 u1 => ?_) -- 193
  have e1_0 := u1 0 _ (by decide) (Or.inl rfl) e0
  have e1_4 := u1 4 _ (by decide) (Or.inl rfl) e4
  have e1_5 := u1 5 _ (by decide) (Or.inl rfl) e5
  have e1_6 := u1 6 _ (by decide) (Or.inl rfl) e6
  refine hI_go (pc' := 136) (off := (-60)) rfl (by decide) ?_ -- 196
  exact g0 x1 q1 lv1 e1_0 e1_4 e1_5 e1_6 e1_7
theorem s_fg199 {b : Int} (M : MX 49 W ρ m A h0 h F V G) (e0 : m_lk lv 0 = some (.ref m)) {lx6 : Int32} (e6 : m_lk lv 6 = some (.int lx6)) (lq6 : lx6.toInt = b) 
    (g0 : b ≠ (-1) → HJ 251 0 (lv_args 0 [.ref m, .int lx6]) [] h (fun v h' => HJ 285 217 lv (v.toList ++ []) h' Q))
    (g1 : b = (-1) → Q (some (.long (-1))) h)
    : HJ 285 199 lv [] h Q := by
  refine hI_il2 (k := 6) rfl e6 rfl ?_ -- 199
  refine hM_ic (n := (-1)) rfl (by decide) rfl (fun x1 q1 => ?_) -- 201
  refine hM_cne (off := 9) (t := 211) rfl lq6 q1 (by decide) rfl (fun c202 => ?_) (fun c202 => ?_) -- 202
  · refine hI_al (k := 0) rfl e0 rfl ?_ -- 211
    refine hI_il2 (k := 6) rfl e6 rfl ?_ -- 212
    refine hM_iv M (by decide) rfl rfl (by decide) (as := [.int lx6]) (r := []) rfl rfl (by decide +kernel) rfl (by decide +kernel) rfl rfl rfl rfl rfl ?_ -- 214
    exact g0 c202
  · refine hM_jc (x := (-1)) rfl rfl rfl ?_ -- 205
    refine hI_go (pc' := 217) (off := 9) rfl (by decide) ?_ -- 208
    refine hI_rl rfl rfl ?_
    exact g1 c202
theorem s_fg217 (M : MX 49 W ρ m A h0 h F V G) {sx0 : Int64} 
    (g0 : Q (some (.long sx0)) h)
    : HJ 285 217 lv [.long sx0] h Q := by
  refine hI_rl rfl rfl ?_
  exact g0 
theorem l_fg53 {x : Int64} {n : Nat} {w : Int} {xw : Int32} (hw : d_sub [(82, 1001), (49, 49)] W = true) (qw : xw.toInt = w) (g : ∀ (lv : List (Nat × Value)) (h : MH) (F : Nat → Int) (G : Nat → Nat → Int64) (xu xb xi : Int32), MX 49 W ρ m A h0 h F V G → 0 ≤ F 47 → F 47 ≤ 12 → xi.toInt = 0 → m_lk lv 0 = some (.ref m) → m_lk lv 4 = some (.int xw) → m_lk lv 5 = some (.int xu) → m_lk lv 6 = some (.int xb) → m_lk lv 7 = some (.int xi) → HJ 285 136 lv [] h Q) : ∀ (d k u : Nat) (lv : List (Nat × Value)) (h : MH) (F : Nat → Int) (G : Nat → Nat → Int64) (xu xk : Int32), k + d = n → u ≤ k → MX 49 W ρ m A h0 h F V G → z_cv F G x n → F 49 ≤ z_hc (G 42) x k → xu.toInt = (u : Int) → xk.toInt = (k : Int) → m_lk lv 0 = some (.ref m) → m_lk lv 2 = some (.long x) → m_lk lv 4 = some (.int xw) → m_lk lv 5 = some (.int xu) → m_lk lv 6 = some (.int xk) → HJ 285 53 lv [] h Q := by
  intro d
  induction d with
  | zero =>
    intro k u lv h F G xu xk hd hu M I c qu hk e0 e2 e4 e5 e6
    have kn : k = n := by omega
    subst kn
    obtain ⟨i1, i2, i3, i4, i5⟩ := I
    exact s_fg53 M e0 e2 e4 qw e5 qu e6 hk (by omega) (by omega) (by omega) (by omega) (by omega) hw (fun x2 q2 x4 q4 lv5 d0 d2 d4 d5 d6 d7 _ _ _ => g lv5 h F G xu x2 x4 M i4 i5 q4 d0 d4 d5 d6 d7) (fun x10 q10 lv10 _ _ _ _ _ _ _ c _ _ => by omega) (fun h13 G13 f13 h17 F17 f17 x18 q18 lv18 M17 _ _ _ _ _ _ _ c _ _ _ _ => by omega) (fun x19 q19 x20 q20 lv20 _ _ _ _ _ _ _ c _ => by omega)
  | succ d ih =>
    intro k u lv h F G xu xk hd hu M I c qu hk e0 e2 e4 e5 e6
    have I' := I
    obtain ⟨i1, i2, i3, i4, i5⟩ := I'
    have mono := z_hcM (H := G 42) (x := x) (k := k) (n := n) (by omega)
    have up : z_hc (G 42) x k ≤ z_hc (G 42) x (k + 1) := z_hcM (by omega)
    refine s_fg53 M e0 e2 e4 qw e5 qu e6 hk (by omega) (by omega) (by omega) (by omega) (by omega) hw (fun x2 q2 x4 q4 lv5 d0 d2 d4 d5 d6 d7 _ _ _ => by omega) (fun x10 q10 lv10 d0 d2 d4 d5 d6 _ _ _ _ _ => ih (k + 1) u lv10 h F G xu x10 (by omega) (by omega) M I (by omega) qu (by omega) d0 d2 d4 d5 d6) (fun h13 G13 f13 h17 F17 f17 x18 q18 lv18 M17 d0 d2 d4 d5 d6 _ _ _ c71 c95 _ _ => ?_) (fun x19 q19 x20 q20 lv20 d0 d2 d4 d5 d6 _ _ _ _ => ih (k + 1) (u + 1) lv20 h F G x19 x20 (by omega) (by omega) M I (by omega) (by omega) (by omega) d0 d2 d4 d5 d6)
    rw [Int.toNat_natCast] at c71 c95
    have e : ¬ G 42 k &&& x = 0 := z_not (fun y => c71 (lg_0.mpr y)) (lg_0.mp c95)
    have g42 : G13 42 = G 42 := by rw [f13, m_uN _ _ _ _ (by decide)]
    refine ih (k + 1) u lv18 h17 F17 G13 xu x18 (by omega) (by omega) M17 ⟨by rw [f17, m_uN _ _ _ _ (by decide), i1], i2, by rw [g42]; exact i3, by rw [f17, m_uN _ _ _ _ (by decide)]; exact i4, by rw [f17, m_uN _ _ _ _ (by decide)]; exact i5⟩ ?_ qu (by omega) d0 d2 d4 d5 d6
    rw [f17, m_uE, g42, z_hc, if_neg e]
    omega
theorem l_fg136 {w : Int} {xw xu : Int32} (M : MX 49 W ρ m A h0 h F V G) (qw : xw.toInt = w) (s0 : 0 ≤ F 47) (s12 : F 47 ≤ 12) (g : ∀ z : Int64, Q (some (.long z)) h) : ∀ (d i : Nat) (lv : List (Nat × Value)) (xb xi : Int32), i + d = 4096 → xi.toInt = (i : Int) → m_lk lv 0 = some (.ref m) → m_lk lv 4 = some (.int xw) → m_lk lv 5 = some (.int xu) → m_lk lv 6 = some (.int xb) → m_lk lv 7 = some (.int xi) → HJ 285 136 lv [] h Q := by
  have p := z_p2 s0 s12
  have fin : ∀ (lv : List (Nat × Value)) (xb : Int32), m_lk lv 0 = some (.ref m) → m_lk lv 6 = some (.int xb) → HJ 285 199 lv [] h Q := fun lv xb e0 e6 => s_fg199 M e0 e6 rfl (fun _ => c_setOf M (fun z => s_fg217 M (g z))) (fun _ => g _)
  intro d
  induction d with
  | zero =>
    intro i lv xb xi hd hi e0 e4 e5 e6 e7
    exact s_fg136 M e0 e4 qw e5 rfl e6 rfl e7 hi p.1 p.2 (fun _ _ _ => fin lv xb e0 e6) (fun _ _ c _ => by omega) (fun _ _ c _ => by omega)
  | succ d ih =>
    intro i lv xb xi hd hi e0 e4 e5 e6 e7
    have nx : ∀ (lv : List (Nat × Value)) (xb : Int32), m_lk lv 0 = some (.ref m) → m_lk lv 4 = some (.int xw) → m_lk lv 5 = some (.int xu) → m_lk lv 6 = some (.int xb) → m_lk lv 7 = some (.int xi) → HJ 285 193 lv [] h Q := fun lv xb e0 e4 e5 e6 e7 => s_fg193 M e0 e4 qw e5 rfl e6 rfl e7 hi (by omega) (by omega) (fun x1 q1 lv1 d0 d4 d5 d6 d7 => ih (i + 1) lv1 xb x1 (by omega) (by omega) d0 d4 d5 d6 d7)
    have cov : HJ 251 0 (lv_args 0 [.ref m, .int xi]) [] h (fun v h' => HJ 285 175 lv (v.toList ++ [.ref m, .int xu]) h' Q) := c_setOf M (fun z => s_fg175 M e0 e4 qw e5 rfl e6 rfl e7 hi rfl (c_lostBy M (fun y => s_fg178 (z := y.toInt) M e0 e4 qw e5 rfl e6 rfl e7 hi rfl rfl (fun _ _ _ lv1 d0 d4 d5 d6 d7 _ => nx lv1 xb d0 d4 d5 d6 d7) (fun _ _ _ lv2 d0 d4 d5 d6 d7 _ => nx lv2 xi d0 d4 d5 d6 d7))))
    exact s_fg136 M e0 e4 qw e5 rfl e6 rfl e7 hi p.1 p.2 (fun _ _ _ => fin lv xb e0 e6) (fun _ _ _ _ => cov) (fun _ _ _ _ => c_bitsOf M (fun y => s_fg158 (y := y.toInt) M e0 e4 qw e5 rfl e6 rfl e7 hi rfl (c_bitsOf M (fun z => s_fg163 (y := y.toInt) (z := z.toInt) M e0 e4 qw e5 rfl e6 rfl e7 hi rfl rfl (fun lv1 d0 d4 d5 d6 d7 _ => nx lv1 xb d0 d4 d5 d6 d7) (fun _ => cov)))))
theorem c_forget {r w : Int} {x : Int64} {xr xw : Int32} (M : MX 49 W ρ m A h0 h F V G) (b0_ : m_lk lv 0 = some (.ref m)) (b1_ : m_lk lv 1 = some (.int xr)) (b2_ : m_lk lv 2 = some (.long x)) (b4_ : m_lk lv 4 = some (.int xw)) (hw : d_sub g_cvr W = true) (qr : xr.toInt = r) (qw : xw.toInt = w) (rw_ : p_rw (V 6)) (g : ∀ (x : Int64) (h' : MH) (F' : Nat → Int) (V' : Nat → Nat → Int) (G' : Nat → Nat → Int64), MX 49 W ρ m A h0 h' F' V' G' → Q (some (.long x)) h') : HJ 285 0 lv [] h Q := by
  have w0 : d_sub [(49, 0)] W = true := d_subm hw (by decide +kernel)
  have w1 : d_sub g_la W = true := d_subm hw (by decide +kernel)
  have w2 : d_sub g_lsW W = true := d_subm hw (by decide +kernel)
  have w3 : d_sub g_hd W = true := d_subm hw (by decide +kernel)
  have w4 : d_sub [(82, 1001), (49, 49)] W = true := d_subm hw (by decide +kernel)
  have w5 : d_sub [(49, 49)] W = true := d_subm hw (by decide +kernel)
  refine s_fg0 M b0_ b1_ qr b2_ b4_ qw w0 (fun h2 F2 f2 M2 => ?_)
  refine c_lay M2 rfl rfl w1 qr rw_ (fun z h3 F3 V3 G3 M3 hz0 => ?_)
  have hz : z.toInt = 0 ∨ (z.toInt = 1 ∧ g_ly F3 V3 40) := hz0.imp (fun q => q.1) (fun q => ⟨q.1, q.2.1⟩)
  refine s_fg10 (z := z.toInt) M3 b0_ b1_ qr b2_ b4_ qw rfl (fun _ => g _ h3 F3 V3 G3 M3) (fun c10 => ?_)
  obtain ⟨-, ⟨⟨i1, i2, i3⟩, i4, i5, i6⟩⟩ := hz.resolve_left c10
  refine c_are M3 (fun z2 _ _ => ?_)
  refine s_fg18 (z := z2.toInt) M3 b0_ b1_ qr b2_ b4_ qw rfl (fun _ => g _ h3 F3 V3 G3 M3) (fun _ => ?_)
  refine c_list2 M3 w2 (by omega) (by omega) (fun z3 h4 F4 V4 z30 z31 M4 fo vo cb => ?_)
  have f35 := fo 35 (by decide)
  have f17 := fo 17 (by decide)
  refine s_fg26 (z := z3.toInt) M4 b0_ b1_ qr b2_ b4_ qw rfl (fun _ => g _ h4 F4 V4 G3 M4) (fun c26 _ => ?_) (fun _ _ => g _ h4 F4 V4 G3 M4)
  refine c_hold M4 w3 (by omega) (by omega) (by omega) (by omega) (by rw [f17, vo 22 (by decide), vo 23 (by decide)]; exact i1) (by rw [f17, f35, vo 22 (by decide), vo 36 (by decide)]; exact i3) (fun h5 F5 V5 G5 M5 I5 hc => ?_)
  have c12 := cb (by omega)
  have h5c := hc x
  rw [f35] at h5c
  have b47 := M5.fi (by decide) (k := 47) (lo := 0) (hi := 12) rfl rfl rfl
  have g17 := I5.1 17 (by decide)
  refine s_fg42 M5 b0_ b1_ qr b2_ b4_ qw w5 (fun x1 q1 h6 F6 f6 x5 q5 lv4 M6 e0 e2 e4 e5 e6 => ?_)
  have k17 : F6 17 = F5 17 := by rw [f6, m_uN _ _ _ _ (by decide)]
  have k47 : F6 47 = F5 47 := by rw [f6, m_uN _ _ _ _ (by decide)]
  refine l_fg53 (x := x) (n := (F4 17).toNat) w4 qw (fun lv7 h7 F7 G7 xu xb xi M7 s0 s12 q7 d0 d4 d5 d6 d7 => ?_) (F4 17).toNat 0 0 lv4 h6 F6 G5 x1 x5 (by omega) (by omega) M6 ⟨by omega, by omega, by omega, by omega, by omega⟩ (by rw [f6, m_uE]; exact Int.le_refl _) q1 q5 e0 e2 e4 e5 e6
  exact l_fg136 M7 qw s0 s12 (fun z => g z h7 F7 V5 G7 M7) 4096 0 lv7 xb xi rfl q7 d0 d4 d5 d6 d7
end
