-- FOLD
section
variable {lv : List (Nat × Value)} {Q : Option Value → MH → Prop} {W : List (Nat × Nat)} {ρ : Nat → Nat} {m : Nat} {A : Nat → Nat} {h0 h : MH} {F : Nat → Int} {V : Nat → Nat → Int} {G : Nat → Nat → Int64}
theorem s_has {k : Int} (M : MX 49 W ρ m A h0 h F V G) {lx0 : Int64} (e0 : m_lk lv 0 = some (.long lx0)) {lx2 : Int32} (e2 : m_lk lv 2 = some (.int lx2)) (lq2 : lx2.toInt = k) 
    (g0 : ∀ x2 : Int32, x2.toInt = 0 → (lg_cmp ((lx0 >>> (lx2.toInt64 &&& 63)) &&& (Int64.ofNat (1 : Fin 2).val)) (Int64.ofNat (1 : Fin 2).val)).toInt ≠ 0 → Q (some (.int x2)) h)
    (g1 : ∀ x3 : Int32, x3.toInt = 1 → (lg_cmp ((lx0 >>> (lx2.toInt64 &&& 63)) &&& (Int64.ofNat (1 : Fin 2).val)) (Int64.ofNat (1 : Fin 2).val)).toInt = 0 → Q (some (.int x3)) h)
    : HJ 232 0 lv [] h Q := by
  refine hI_ll (k := 0) rfl e0 rfl ?_ -- 0
  refine hI_il (k := 2) rfl e2 rfl ?_ -- 1
  refine hI_lshr rfl rfl ?_ -- 2
  refine hI_lc (n := 1) rfl rfl ?_ -- 3
  refine hI_land rfl rfl ?_ -- 4
  refine hI_lc (n := 1) rfl rfl ?_ -- 5
  refine hM_lcmp rfl rfl (fun x1 q1 => ?_) -- 6
  refine hM_zne (off := 7) (t := 14) rfl q1 (by decide) rfl (fun c7 => ?_) (fun c7 => ?_) -- 7
  · refine hM_ic (n := 0) rfl (by decide) rfl (fun x2 q2 => ?_) -- 14
    refine hM_rb rfl rfl q2 (by omega) (by omega) ?_ -- 15
    exact g0 x2 q2 c7
  · refine hM_ic (n := 1) rfl (by decide) rfl (fun x3 q3 => ?_) -- 10
    refine hI_go (pc' := 15) (off := 4) rfl (by decide) ?_ -- 11
    refine hM_rb rfl rfl q3 (by omega) (by omega) ?_ -- 15
    exact g1 x3 q3 c7
theorem c_has {x : Int64} {k : Int} {xk : Int32} (M : MX 49 W ρ m A h0 h F V G) (hk : xk.toInt = k) (g : ∀ z : Int32, 0 ≤ z.toInt → z.toInt ≤ 1 → Q (some (.int z)) h) : HJ 232 0 (lv_args 0 [.long x, .int xk]) [] h Q := s_has M rfl rfl hk (fun z q _ => g z (by omega) (by omega)) (fun z q _ => g z (by omega) (by omega))
theorem s_are (M : MX 49 W ρ m A h0 h F V G) (e0 : m_lk lv 0 = some (.ref m)) {lx1 : Int64} (e1 : m_lk lv 1 = some (.long lx1)) 
    (g0 : ∀ x2 : Int32, x2.toInt = 0 → (lg_cmp lx1 (Int64.ofNat (0 : Fin 2).val)).toInt < 0 → Q (some (.int x2)) h)
    (g1 : ∀ x3 : Int32, x3.toInt = F 35 → ∀ x5 : Int32, x5.toInt = 0 → (lg_cmp lx1 (Int64.ofNat (0 : Fin 2).val)).toInt ≥ 0 → 0 ≤ F 35 → F 35 ≤ 41 → (lg_cmp (lx1 >>> (x3.toInt64 &&& 63)) (Int64.ofNat (0 : Fin 2).val)).toInt ≠ 0 → Q (some (.int x5)) h)
    (g2 : ∀ x3 : Int32, x3.toInt = F 35 → ∀ x6 : Int32, x6.toInt = 1 → (lg_cmp lx1 (Int64.ofNat (0 : Fin 2).val)).toInt ≥ 0 → 0 ≤ F 35 → F 35 ≤ 41 → (lg_cmp (lx1 >>> (x3.toInt64 &&& 63)) (Int64.ofNat (0 : Fin 2).val)).toInt = 0 → Q (some (.int x6)) h)
    : HJ 245 0 lv [] h Q := by
  refine hI_ll (k := 1) rfl e1 rfl ?_ -- 0
  refine hI_lc (n := 0) rfl rfl ?_ -- 1
  refine hM_lcmp rfl rfl (fun x1 q1 => ?_) -- 2
  refine hM_zlt (off := 18) (t := 21) rfl q1 (by decide) rfl (fun c3 => ?_) (fun c3 => ?_) -- 3
  · refine hM_ic (n := 0) rfl (by decide) rfl (fun x2 q2 => ?_) -- 21
    refine hM_rb rfl rfl q2 (by omega) (by omega) ?_ -- 22
    exact g0 x2 q2 c3
  · refine hI_ll (k := 1) rfl e1 rfl ?_ -- 6
    refine hI_al (k := 0) rfl e0 rfl ?_ -- 7
    refine hM_gi M (by decide) rfl rfl rfl (k := 35) (c := 9) (lo := 0) (hi := 41) rfl rfl rfl rfl rfl (fun x3 q3 a3 b3 => ?_) -- 8
    refine hI_lshr rfl rfl ?_ -- 11
    refine hI_lc (n := 0) rfl rfl ?_ -- 12
    refine hM_lcmp rfl rfl (fun x4 q4 => ?_) -- 13
    refine hM_zne (off := 7) (t := 21) rfl q4 (by decide) rfl (fun c14 => ?_) (fun c14 => ?_) -- 14
    · refine hM_ic (n := 0) rfl (by decide) rfl (fun x5 q5 => ?_) -- 21
      refine hM_rb rfl rfl q5 (by omega) (by omega) ?_ -- 22
      exact g1 x3 q3 x5 q5 c3 a3 b3 c14
    · refine hM_ic (n := 1) rfl (by decide) rfl (fun x6 q6 => ?_) -- 17
      refine hI_go (pc' := 22) (off := 4) rfl (by decide) ?_ -- 18
      refine hM_rb rfl rfl q6 (by omega) (by omega) ?_ -- 22
      exact g2 x3 q3 x6 q6 c3 a3 b3 c14
theorem c_are {x : Int64} (M : MX 49 W ρ m A h0 h F V G) (g : ∀ z : Int32, 0 ≤ z.toInt → z.toInt ≤ 1 → Q (some (.int z)) h) : HJ 245 0 (lv_args 0 [.ref m, .long x]) [] h Q := s_are M rfl rfl (fun z q _ => g z (by omega) (by omega)) (fun _ _ z q _ _ _ _ => g z (by omega) (by omega)) (fun _ _ z q _ _ _ _ => g z (by omega) (by omega))
theorem s_ls0 (M : MX 49 W ρ m A h0 h F V G) (e0 : m_lk lv 0 = some (.ref m)) {lx1 : Int64} (e1 : m_lk lv 1 = some (.long lx1)) (hw : d_sub [(49, 47)] W = true)
    (g0 : ∀ h2 : MH, ∀ F2 : Nat → Int, F2 = m_u F 47 (0) → ∀ x3 : Int32, x3.toInt = 0 → ∀ lv4 : List (Nat × Value), MX 49 W ρ m A h0 h2 F2 V G → m_lk lv4 0 = some (.ref m) → m_lk lv4 1 = some (.long lx1) → m_lk lv4 3 = some (.int x3) → HJ 249 7 lv4 [] h2 Q)
    : HJ 249 0 lv [] h Q := by
  refine hI_al (k := 0) rfl e0 rfl ?_ -- 0
  refine hM_ic (n := 0) rfl (by decide) rfl (fun x1 q1 => ?_) -- 1
  refine hM_pi M (by decide) ok_49 rfl rfl (k := 47) (c := 9) (lo := 0) (hi := 12) rfl rfl ⟨by decide, by decide +kernel, rfl⟩ rfl (d_subm hw (by decide +kernel)) q1 (by omega) (by omega) rfl (fun h2 F2 f2 M2 => ?_) -- 2
  refine hM_ic (n := 0) rfl (by decide) rfl (fun x3 q3 => ?_) -- 5
  refine hM_si (k := 3) rfl (by decide +kernel) rfl (fun lv4 e4_3 u4 => ?_) -- 6
  have e4_0 := u4 0 _ (by decide) (Or.inl rfl) e0
  have e4_1 := u4 1 _ (by decide) (Or.inr (by decide)) e1
  exact g0 h2 F2 f2 x3 q3 lv4 M2 e4_0 e4_1 e4_3
theorem s_ls7 {v : Int} (M : MX 49 W ρ m A h0 h F V G) (e0 : m_lk lv 0 = some (.ref m)) {lx1 : Int64} (e1 : m_lk lv 1 = some (.long lx1)) {lx3 : Int32} (e3 : m_lk lv 3 = some (.int lx3)) (lq3 : lx3.toInt = v) 
    (g0 : ∀ x2 : Int32, x2.toInt = 1 → 0 ≤ F 35 → F 35 ≤ 41 → v ≥ F 35 → Q (some (.int x2)) h)
    (g1 : 0 ≤ F 35 → F 35 ≤ 41 → v < F 35 → HJ 232 0 (lv_args 0 [.long lx1, .int lx3]) [] h (fun v h' => HJ 249 20 lv (v.toList ++ []) h' Q))
    : HJ 249 7 lv [] h Q := by
  refine hI_il (k := 3) rfl e3 rfl ?_ -- 7
  refine hI_al (k := 0) rfl e0 rfl ?_ -- 8
  refine hM_gi M (by decide) rfl rfl rfl (k := 35) (c := 9) (lo := 0) (hi := 41) rfl rfl rfl rfl rfl (fun x1 q1 a1 b1 => ?_) -- 9
  refine hM_cge (off := 48) (t := 60) rfl lq3 q1 (by decide) rfl (fun c12 => ?_) (fun c12 => ?_) -- 12
  · refine hM_ic (n := 1) rfl (by decide) rfl (fun x2 q2 => ?_) -- 60
    refine hM_rb rfl rfl q2 (by omega) (by omega) ?_ -- 61
    exact g0 x2 q2 a1 b1 c12
  · refine hI_ll (k := 1) rfl e1 rfl ?_ -- 15
    refine hI_il (k := 3) rfl e3 rfl ?_ -- 16
    refine hM_is0 (as := [.long lx1, .int lx3]) (r := []) rfl rfl (by decide +kernel) rfl rfl rfl rfl rfl ?_ -- 17
    exact g1 a1 b1 c12
theorem s_ls20 {v z : Int} (M : MX 49 W ρ m A h0 h F V G) (e0 : m_lk lv 0 = some (.ref m)) {lx1 : Int64} (e1 : m_lk lv 1 = some (.long lx1)) {lx3 : Int32} (e3 : m_lk lv 3 = some (.int lx3)) (lq3 : lx3.toInt = v) {sx0 : Int32} (sq0 : sx0.toInt = z) (v0 : 0 ≤ v) (v1 : v ≤ 40)(hw : d_sub [(81, 1001), (49, 47)] W = true)
    (g0 : ∀ x1 : Int32, x1.toInt = v + 1 → ∀ lv1 : List (Nat × Value), m_lk lv1 0 = some (.ref m) → m_lk lv1 1 = some (.long lx1) → m_lk lv1 3 = some (.int x1) → z = 0 → HJ 249 7 lv1 [] h Q)
    (g1 : ∀ h5 : MH, ∀ V5 : Nat → Nat → Int, V5 = m_u V 48 (m_u (V 48) (F 47).toNat (v)) → ∀ h9 : MH, ∀ F9 : Nat → Int, F9 = m_u F 47 ((F 47) + 1) → ∀ x10 : Int32, x10.toInt = v + 1 → ∀ lv10 : List (Nat × Value), MX 49 W ρ m A h0 h9 F9 V5 G → m_lk lv10 0 = some (.ref m) → m_lk lv10 1 = some (.long lx1) → m_lk lv10 3 = some (.int x10) → z ≠ 0 → 0 ≤ F 47 → F 47 ≤ 12 → F 47 ≠ 12 → HJ 249 7 lv10 [] h9 Q)
    (g2 : ∀ x11 : Int32, x11.toInt = 0 → z ≠ 0 → 0 ≤ F 47 → F 47 ≤ 12 → F 47 = 12 → Q (some (.int x11)) h)
    : HJ 249 20 lv [.int sx0] h Q := by
  refine hM_zeq (off := 34) (t := 54) rfl sq0 (by decide) rfl (fun c20 => ?_) (fun c20 => ?_) -- 20
  · refine hM_inc (k := 3) (z := 1) rfl e3 lq3 (by decide) (by omega) (by omega) (by decide +kernel) rfl (fun lv1 x1 q1 e1_3 u1 => ?_) -- 54
    have e1_0 := u1 0 _ (by decide) (Or.inl rfl) e0
    have e1_1 := u1 1 _ (by decide) (Or.inr (by decide)) e1
    refine hI_go (pc' := 7) (off := (-50)) rfl (by decide) ?_ -- 57
    exact g0 x1 q1 lv1 e1_0 e1_1 e1_3 c20
  · refine hI_al (k := 0) rfl e0 rfl ?_ -- 23
    refine hM_gi M (by decide) rfl rfl rfl (k := 47) (c := 9) (lo := 0) (hi := 12) rfl rfl rfl rfl rfl (fun x2 q2 a2 b2 => ?_) -- 24
    refine hM_bp (n := 12) rfl (by decide) rfl (fun x3 q3 => ?_) -- 27
    refine hM_cne (off := 5) (t := 34) rfl q2 q3 (by decide) rfl (fun c29 => ?_) (fun c29 => ?_) -- 29
    · refine hI_al (k := 0) rfl e0 rfl ?_ -- 34
      refine hM_ga M (by decide) rfl rfl (k := 48) (c := 9) rfl rfl rfl (by decide +kernel) rfl ?_ -- 35
      refine hI_al (k := 0) rfl e0 rfl ?_ -- 38
      refine hM_gi M (by decide) rfl rfl rfl (k := 47) (c := 9) (lo := 0) (hi := 12) rfl rfl rfl rfl rfl (fun x4 q4 a4 b4 => ?_) -- 39
      refine hI_il (k := 3) rfl e3 rfl ?_ -- 42
      refine hM_is M (by decide) ok_49 (K := 48) (R2 := 81) (L := 12) (H := 12) (lo := 0) (hi := 40) rfl (by decide) rfl rfl rfl (fun _ => rfl) (d_subm hw (by decide +kernel)) rfl q4 lq3 (by omega) (by omega) (by omega) (by omega) rfl (fun h5 V5 f5 M5 => ?_) -- 43
      refine hI_al (k := 0) rfl e0 rfl ?_ -- 44
      refine hI_dup rfl rfl rfl ?_ -- 45
      refine hM_gi M5 (by decide) rfl rfl rfl (k := 47) (c := 9) (lo := 0) (hi := 12) rfl rfl rfl rfl rfl (fun x6 q6 a6 b6 => ?_) -- 46
      refine hM_ic (n := 1) rfl (by decide) rfl (fun x7 q7 => ?_) -- 49
      refine hM_add rfl q6 q7 (by omega) (by omega) rfl (fun x8 q8 => ?_) -- 50
      refine hM_pi M5 (by decide) ok_49 rfl rfl (k := 47) (c := 9) (lo := 0) (hi := 12) rfl rfl ⟨by decide, by decide +kernel, rfl⟩ rfl (d_subm hw (by decide +kernel)) q8 (by omega) (by omega) rfl (fun h9 F9 f9 M9 => ?_) -- 51
      refine hM_inc (k := 3) (z := 1) rfl e3 lq3 (by decide) (by omega) (by omega) (by decide +kernel) rfl (fun lv10 x10 q10 e10_3 u10 => ?_) -- 54
      have e10_0 := u10 0 _ (by decide) (Or.inl rfl) e0
      have e10_1 := u10 1 _ (by decide) (Or.inr (by decide)) e1
      refine hI_go (pc' := 7) (off := (-50)) rfl (by decide) ?_ -- 57
      exact g1 h5 V5 f5 h9 F9 f9 x10 q10 lv10 M9 e10_0 e10_1 e10_3 c20 a2 b2 c29
    · refine hM_ic (n := 0) rfl (by decide) rfl (fun x11 q11 => ?_) -- 32
      refine hM_rb rfl rfl q11 (by omega) (by omega) ?_ -- 33
      exact g2 x11 q11 c20 a2 b2 c29
def z_so (n vs : Int) (so : Nat → Int) : Prop := ∀ i : Nat, (i : Int) < n → 0 ≤ so i ∧ so i < vs
def g_lsW : List (Nat × Nat) := [(49, 47), (81, 1001)]
theorem l_list {x : Int64} {F0 : Nat → Int} {V0 : Nat → Nat → Int} (hw : d_sub g_lsW W = true) (s41 : F0 35 ≤ 41) (g : ∀ (z : Int32) (h' : MH) (F' : Nat → Int) (V' : Nat → Nat → Int), 0 ≤ z.toInt → z.toInt ≤ 1 → MX 49 W ρ m A h0 h' F' V' G → (∀ K, K ≠ 47 → F' K = F0 K) → (∀ K, K ≠ 48 → V' K = V0 K) → z_so (F' 47) (F0 35) (V' 48) → Q (some (.int z)) h') : ∀ (d v : Nat) (lv : List (Nat × Value)) (h : MH) (F : Nat → Int) (V : Nat → Nat → Int) (xv : Int32), v + d = 41 → MX 49 W ρ m A h0 h F V G → (∀ K, K ≠ 47 → F K = F0 K) → (∀ K, K ≠ 48 → V K = V0 K) → z_so (F 47) (F0 35) (V 48) → xv.toInt = (v : Int) → m_lk lv 0 = some (.ref m) → m_lk lv 1 = some (.long x) → m_lk lv 3 = some (.int xv) → HJ 249 7 lv [] h Q := by
  intro d
  induction d with
  | zero =>
    intro v lv h F V xv hd M fo vo I hv e0 e1 e3
    have f35 := fo 35 (by decide)
    exact s_ls7 M e0 e1 e3 hv (fun z q _ _ _ => g z h F V (by omega) (by omega) M fo vo I) (fun _ _ c => by omega)
  | succ d ih =>
    intro v lv h F V xv hd M fo vo I hv e0 e1 e3
    have f35 := fo 35 (by decide)
    refine s_ls7 M e0 e1 e3 hv (fun z q _ _ _ => g z h F V (by omega) (by omega) M fo vo I) (fun _ _ c => ?_)
    refine c_has M hv (fun z z0 z1 => ?_)
    refine s_ls20 (z := z.toInt) M e0 e1 e3 hv rfl (by omega) (by omega) (d_subm hw (by decide +kernel)) (fun x1 q1 lv1 d0 d1 d3 _ => ih (v + 1) lv1 h F V x1 (by omega) M fo vo I (by omega) d0 d1 d3) (fun h5 V5 f5 h9 F9 f9 x10 q10 lv10 M9 d0 d1 d3 _ a2 _ _ => ?_) (fun x11 q11 _ _ _ _ => g x11 h F V (by omega) (by omega) M fo vo I)
    refine ih (v + 1) lv10 h9 F9 V5 x10 (by omega) M9 (fun K hK => by rw [f9, m_uN _ _ _ _ hK, fo K hK]) (fun K hK => by rw [f5, m_uN _ _ _ _ hK, vo K hK]) (fun i hi => ?_) (by omega) d0 d1 d3
    rw [f9, m_uE] at hi
    rw [f5, m_uE]
    by_cases e : i = (F 47).toNat
    · rw [e, m_uE]
      omega
    · rw [m_uN _ _ _ _ e]
      exact I i (by omega)
theorem c_list {x : Int64} (M : MX 49 W ρ m A h0 h F V G) (hw : d_sub g_lsW W = true) (s41 : F 35 ≤ 41) (g : ∀ (z : Int32) (h' : MH) (F' : Nat → Int) (V' : Nat → Nat → Int), 0 ≤ z.toInt → z.toInt ≤ 1 → MX 49 W ρ m A h0 h' F' V' G → (∀ K, K ≠ 47 → F' K = F K) → (∀ K, K ≠ 48 → V' K = V K) → z_so (F' 47) (F 35) (V' 48) → Q (some (.int z)) h') : HJ 249 0 (lv_args 0 [.ref m, .long x]) [] h Q := by
  have w1 : d_sub [(49, 47)] W = true := d_subm hw (by decide +kernel)
  refine s_ls0 M rfl rfl w1 (fun h2 F2 f2 x3 q3 lv4 M2 e0 e1 e3 => ?_)
  exact l_list (F0 := F) (V0 := V) hw s41 g 41 0 lv4 h2 F2 V x3 rfl M2 (fun K hK => by rw [f2, m_uN _ _ _ _ hK]) (fun _ _ => rfl) (fun i hi => by rw [f2, m_uE] at hi; omega) q3 e0 e1 e3
-- an order
theorem s_tu0 {c : Int} (M : MX 49 W ρ m A h0 h F V G) (e0 : m_lk lv 0 = some (.ref m)) {lx1 : Int32} (e1 : m_lk lv 1 = some (.int lx1)) (lq1 : lx1.toInt = c) 
    (g0 : ∀ x1 : Int32, x1.toInt = 0 → ∀ x6 : Int32, x6.toInt = (F 47) - 1 → ∀ lv7 : List (Nat × Value), m_lk lv7 0 = some (.ref m) → m_lk lv7 1 = some (.int lx1) → m_lk lv7 2 = some (.int x1) → m_lk lv7 3 = some (.int lx1) → m_lk lv7 4 = some (.int x6) → 0 ≤ F 47 → F 47 ≤ 12 → HJ 266 12 lv7 [] h Q)
    : HJ 266 0 lv [] h Q := by
  refine hM_ic (n := 0) rfl (by decide) rfl (fun x1 q1 => ?_) -- 0
  refine hM_si (k := 2) rfl (by decide +kernel) rfl (fun lv2 e2_2 u2 => ?_) -- 1
  have e2_0 := u2 0 _ (by decide) (Or.inl rfl) e0
  have e2_1 := u2 1 _ (by decide) (Or.inl rfl) e1
  refine hI_il (k := 1) rfl e2_1 rfl ?_ -- 2
  refine hM_si (k := 3) rfl (by decide +kernel) rfl (fun lv3 e3_3 u3 => ?_) -- 3
  have e3_0 := u3 0 _ (by decide) (Or.inl rfl) e2_0
  have e3_1 := u3 1 _ (by decide) (Or.inl rfl) e2_1
  have e3_2 := u3 2 _ (by decide) (Or.inl rfl) e2_2
  refine hI_al (k := 0) rfl e3_0 rfl ?_ -- 4
  refine hM_gi M (by decide) rfl rfl rfl (k := 47) (c := 9) (lo := 0) (hi := 12) rfl rfl rfl rfl rfl (fun x4 q4 a4 b4 => ?_) -- 5
  refine hM_ic (n := 1) rfl (by decide) rfl (fun x5 q5 => ?_) -- 8
  refine hM_sub rfl q4 q5 (by omega) (by omega) rfl (fun x6 q6 => ?_) -- 9
  refine hM_si2 (k := 4) rfl (by decide +kernel) rfl (fun lv7 e7_4 u7 => ?_) -- 10
  have e7_0 := u7 0 _ (by decide) (Or.inl rfl) e3_0
  have e7_1 := u7 1 _ (by decide) (Or.inl rfl) e3_1
  have e7_2 := u7 2 _ (by decide) (Or.inl rfl) e3_2
  have e7_3 := u7 3 _ (by decide) (Or.inl rfl) e3_3
  exact g0 x1 q1 x6 q6 lv7 e7_0 e7_1 e7_2 e7_3 e7_4 a4 b4
theorem s_tu12 {u c i : Int} (M : MX 49 W ρ m A h0 h F V G) (e0 : m_lk lv 0 = some (.ref m)) {lx2 : Int32} (e2 : m_lk lv 2 = some (.int lx2)) (lq2 : lx2.toInt = u) {lx3 : Int32} (e3 : m_lk lv 3 = some (.int lx3)) (lq3 : lx3.toInt = c) {lx4 : Int32} (e4 : m_lk lv 4 = some (.int lx4)) (lq4 : lx4.toInt = i) (s1 : F 47 ≤ 5) (s0 : 1 ≤ F 47) (c0 : 0 ≤ c) (i0 : -1 ≤ i) (i1 : i ≤ 4) (t0 : 0 ≤ (2 : Int) ^ (F 47).toNat) (t1 : (2 : Int) ^ (F 47).toNat ≤ 64)(hw : d_sub [(90, 1001)] W = true)
    (g0 : ∀ x6 : Int32, x6.toInt = 0 → i < 0 → 0 ≤ F 47 → F 47 ≤ 12 → u ≠ ((2 : Int) ^ (F 47).toNat) - 1 → Q (some (.int x6)) h)
    (g1 : ∀ x7 : Int32, x7.toInt = 1 → i < 0 → 0 ≤ F 47 → F 47 ≤ 12 → u = ((2 : Int) ^ (F 47).toNat) - 1 → Q (some (.int x7)) h)
    (g2 : ∀ z9 : Int, 0 ≤ z9 → z9 < F 47 → ∀ h10 : MH, ∀ V10 : Nat → Nat → Int, V10 = m_u V 60 (m_u (V 60) (i).toNat (z9)) → ∀ x12 : Int32, ∀ z12 : Int, x12.toInt = z12 → 0 ≤ z12 → z12 ≤ c → ∀ x17 : Int32, ∀ z17 : Int, x17.toInt = z17 → -2147483648 ≤ z17 → z17 ≤ 2147483647 → ∀ x19 : Int32, x19.toInt = i + (-1) → ∀ lv19 : List (Nat × Value), MX 49 W ρ m A h0 h10 F V10 G → m_lk lv19 0 = some (.ref m) → m_lk lv19 2 = some (.int x17) → m_lk lv19 3 = some (.int x12) → m_lk lv19 4 = some (.int x19) → i ≥ 0 → 0 ≤ F 47 → F 47 ≤ 12 → 0 ≤ z9 → z9 ≤ 11 → HJ 266 12 lv19 [] h10 Q)
    : HJ 266 12 lv [] h Q := by
  refine hI_il2 (k := 4) rfl e4 rfl ?_ -- 12
  refine hM_zlt (off := 41) (t := 55) rfl lq4 (by decide) rfl (fun c14 => ?_) (fun c14 => ?_) -- 14
  · refine hI_il (k := 2) rfl e2 rfl ?_ -- 55
    refine hM_ic (n := 1) rfl (by decide) rfl (fun x1 q1 => ?_) -- 56
    refine hI_al (k := 0) rfl e0 rfl ?_ -- 57
    refine hM_gi M (by decide) rfl rfl rfl (k := 47) (c := 9) (lo := 0) (hi := 12) rfl rfl rfl rfl rfl (fun x2 q2 a2 b2 => ?_) -- 58
    refine hM_shl rfl q1 q2 (by omega) (by omega) rfl (fun x3 q3 => ?_) -- 61
    refine hM_ic (n := 1) rfl (by decide) rfl (fun x4 q4 => ?_) -- 62
    refine hM_sub rfl q3 q4 (by omega) (by omega) rfl (fun x5 q5 => ?_) -- 63
    refine hM_cne (off := 7) (t := 71) rfl lq2 q5 (by decide) rfl (fun c64 => ?_) (fun c64 => ?_) -- 64
    · refine hM_ic (n := 0) rfl (by decide) rfl (fun x6 q6 => ?_) -- 71
      refine hM_rb rfl rfl q6 (by omega) (by omega) ?_ -- 72
      exact g0 x6 q6 c14 a2 b2 c64
    · refine hM_ic (n := 1) rfl (by decide) rfl (fun x7 q7 => ?_) -- 67
      refine hI_go (pc' := 72) (off := 4) rfl (by decide) ?_ -- 68
      refine hM_rb rfl rfl q7 (by omega) (by omega) ?_ -- 72
      exact g1 x7 q7 c14 a2 b2 c64
  · refine hI_al (k := 0) rfl e0 rfl ?_ -- 17
    refine hM_ga M (by decide) rfl rfl (k := 60) (c := 9) rfl rfl rfl (by decide +kernel) rfl ?_ -- 18
    refine hI_il2 (k := 4) rfl e4 rfl ?_ -- 21
    refine hI_il (k := 3) rfl e3 rfl ?_ -- 23
    refine hI_al (k := 0) rfl e0 rfl ?_ -- 24
    refine hM_gi M (by decide) rfl rfl rfl (k := 47) (c := 9) (lo := 0) (hi := 12) rfl rfl rfl rfl rfl (fun x8 q8 a8 b8 => ?_) -- 25
    refine hM_rem rfl lq3 q8 (by omega) (by omega) rfl (fun x9 z9 q9 a9 b9 => ?_) -- 28
    refine hM_is M (by decide) ok_49 (K := 60) (R2 := 90) (L := 5) (H := 5) (lo := 0) (hi := 11) rfl (by decide) rfl rfl rfl (fun _ => rfl) (d_subm hw (by decide +kernel)) rfl lq4 q9 (by omega) (by omega) (by omega) (by omega) rfl (fun h10 V10 f10 M10 => ?_) -- 29
    refine hI_il (k := 3) rfl e3 rfl ?_ -- 30
    refine hI_al (k := 0) rfl e0 rfl ?_ -- 31
    refine hM_gi M10 (by decide) rfl rfl rfl (k := 47) (c := 9) (lo := 0) (hi := 12) rfl rfl rfl rfl rfl (fun x11 q11 a11 b11 => ?_) -- 32
    refine hM_div rfl lq3 q11 (by omega) (by omega) rfl (fun x12 z12 q12 a12 b12 => ?_) -- 35
    refine hM_si (k := 3) rfl (by decide +kernel) rfl (fun lv13 e13_3 u13 => ?_) -- 36
    have e13_0 := u13 0 _ (by decide) (Or.inl rfl) e0
    have e13_2 := u13 2 _ (by decide) (Or.inl rfl) e2
    have e13_4 := u13 4 _ (by decide) (Or.inl rfl) e4
    refine hI_il (k := 2) rfl e13_2 rfl ?_ -- 37
    refine hM_ic (n := 1) rfl (by decide) rfl (fun x14 q14 => ?_) -- 38
    refine hI_al (k := 0) rfl e13_0 rfl ?_ -- 39
    refine hM_ga M10 (by decide) rfl rfl (k := 60) (c := 9) rfl rfl rfl (by decide +kernel) rfl ?_ -- 40
    refine hI_il2 (k := 4) rfl e13_4 rfl ?_ -- 43
    refine hM_ia M10 (by decide) (K := 60) (R2 := 90) (L := 5) (H := 5) (lo := 0) (hi := 11) rfl (by decide) rfl rfl (fun _ => rfl) rfl lq4 (by omega) (by omega) rfl (fun x15 q15 a15 b15 => ?_) -- 45
    have w15 : V10 60 (i).toNat = z9 := by rw [f10, m_uE, m_uE]
    rw [w15] at q15 a15 b15 -- 45
    refine hM_shl rfl q14 q15 (by omega) (by omega) rfl (fun x16 q16 => ?_) -- 46
    refine hM_ior rfl rfl (fun x17 z17 q17 a17 b17 => ?_) -- 47
    refine hM_si (k := 2) rfl (by decide +kernel) rfl (fun lv18 e18_2 u18 => ?_) -- 48
    have e18_0 := u18 0 _ (by decide) (Or.inl rfl) e13_0
    have e18_4 := u18 4 _ (by decide) (Or.inl rfl) e13_4
    have e18_3 := u18 3 _ (by decide) (Or.inl rfl) e13_3
    refine hM_inc (k := 4) (z := (-1)) rfl e18_4 lq4 (by decide) (by omega) (by omega) (by decide +kernel) rfl (fun lv19 x19 q19 e19_4 u19 => ?_) -- 49
    have e19_0 := u19 0 _ (by decide) (Or.inl rfl) e18_0
    have e19_3 := u19 3 _ (by decide) (Or.inl rfl) e18_3
    have e19_2 := u19 2 _ (by decide) (Or.inl rfl) e18_2
    refine hI_go (pc' := 12) (off := (-40)) rfl (by decide) ?_ -- 52
    exact g2 z9 a9 b9 h10 V10 f10 x12 z12 q12 a12 b12 x17 z17 q17 a17 b17 x19 q19 lv19 M10 e19_0 e19_2 e19_3 e19_4 c14 a8 b8 a15 b15
theorem l_turn {s : Nat} {V0 : Nat → Nat → Int} (hw : d_sub [(90, 1001)] W = true) (fs : F 47 = (s : Int)) (s1 : 1 ≤ s) (s5 : s ≤ 5) (g : ∀ (z : Int32) (h' : MH) (V' : Nat → Nat → Int), MX 49 W ρ m A h0 h' F V' G → (∀ K, K ≠ 60 → V' K = V0 K) → (∀ j, j < s → 0 ≤ V' 60 j ∧ V' 60 j < s) → Q (some (.int z)) h') : ∀ (d : Nat) (i : Int) (lv : List (Nat × Value)) (h : MH) (V : Nat → Nat → Int) (xu xc xi : Int32), i + 1 = d → i < s → MX 49 W ρ m A h0 h F V G → (∀ K, K ≠ 60 → V K = V0 K) → (∀ j : Nat, i < j → j < s → 0 ≤ V 60 j ∧ V 60 j < s) → 0 ≤ xc.toInt → xi.toInt = i → m_lk lv 0 = some (.ref m) → m_lk lv 2 = some (.int xu) → m_lk lv 3 = some (.int xc) → m_lk lv 4 = some (.int xi) → HJ 266 12 lv [] h Q := by
  have p0 : 0 ≤ (2 : Int) ^ (F 47).toNat ∧ (2 : Int) ^ (F 47).toNat ≤ 64 := by
    have a := n_2q (k := (F 47).toNat) (by omega)
    have b := i_2q (k := (F 47).toNat) (by omega)
    exact ⟨by rw [b]; exact Int.natCast_nonneg _, by rw [b]; exact Int.ofNat_le.mpr a⟩
  intro d
  induction d with
  | zero =>
    intro i lv h V xu xc xi hd hs M vo I c0 hi e0 e2 e3 e4
    exact s_tu12 M e0 e2 rfl e3 rfl e4 hi (by omega) (by omega) c0 (by omega) (by omega) p0.1 p0.2 hw (fun z _ _ _ _ _ => g z h V M vo (fun j hj => I j (by omega) hj)) (fun z _ _ _ _ _ => g z h V M vo (fun j hj => I j (by omega) hj)) (fun z9 a9 b9 h10 V10 f10 x12 z12 q12 a12 b12 x17 z17 q17 a17 b17 x19 q19 lv19 M10 e19_0 e19_2 e19_3 e19_4 c14 a8 b8 a15 b15 => by omega)
  | succ d ih =>
    intro i lv h V xu xc xi hd hs M vo I c0 hi e0 e2 e3 e4
    refine s_tu12 M e0 e2 rfl e3 rfl e4 hi (by omega) (by omega) c0 (by omega) (by omega) p0.1 p0.2 hw (fun z _ _ _ _ _ => g z h V M vo (fun j hj => I j (by omega) hj)) (fun z _ _ _ _ _ => g z h V M vo (fun j hj => I j (by omega) hj)) (fun z9 a9 b9 h10 V10 f10 x12 z12 q12 a12 b12 x17 z17 q17 a17 b17 x19 q19 lv19 M10 d0 d2 d3 d4 c14 a8 b8 a15 b15 => ?_)
    refine ih (i + (-1)) lv19 h10 V10 x17 x12 x19 (by omega) (by omega) M10 (fun K hK => by rw [f10, m_uN _ _ _ _ hK, vo K hK]) (fun j j1 j2 => ?_) (by omega) q19 d0 d2 d3 d4
    rw [f10, m_uE]
    by_cases e : j = i.toNat
    · rw [e, m_uE]
      omega
    · rw [m_uN _ _ _ _ e]
      exact I j (by omega) j2
theorem c_turn {c : Int} {xc : Int32} {s : Nat} (M : MX 49 W ρ m A h0 h F V G) (hw : d_sub [(90, 1001)] W = true) (hc : xc.toInt = c) (c0 : 0 ≤ c) (fs : F 47 = (s : Int)) (s1 : 1 ≤ s) (s5 : s ≤ 5) (g : ∀ (z : Int32) (h' : MH) (V' : Nat → Nat → Int), MX 49 W ρ m A h0 h' F V' G → (∀ K, K ≠ 60 → V' K = V K) → (∀ j, j < s → 0 ≤ V' 60 j ∧ V' 60 j < s) → Q (some (.int z)) h') : HJ 266 0 (lv_args 0 [.ref m, .int xc]) [] h Q := by
  refine s_tu0 M rfl rfl hc (fun x1 q1 x6 q6 lv7 e0 e1 e2 e3 e4 _ _ => ?_)
  exact l_turn (V0 := V) hw fs s1 s5 g s ((s : Int) - 1) lv7 h V x1 xc x6 (by omega) (by omega) M (fun _ _ => rfl) (fun j j1 j2 => by omega) (by omega) (by omega) e0 e2 e3 e4
-- what a meld in that order makes
def g_fo (F0 : Nat → Int) (V0 : Nat → Nat → Int) (F : Nat → Int) (V : Nat → Nat → Int) (k : Int) : Prop := (p_sh (F 17) (V 22) (V 23) ∧ p_hp (F 17) (V 22) (V 24)) ∧ (F0 17 ≤ F 17 ∧ F 17 ≤ F0 17 + k) ∧ (∀ K, K ≠ 17 → K ≠ 18 → K ≠ 19 → K ≠ 26 → F K = F0 K) ∧ (∀ v : Nat, (v : Int) < F0 17 → V 22 v = V0 22 v) ∧ (∀ K, K < 20 ∨ 34 < K → V K = V0 K) ∧ ∀ j, j < 6 * (F0 17).toNat → V 23 j = V0 23 j
theorem s_mb0 (M : MX 49 W ρ m A h0 h F V G) (e0 : m_lk lv 0 = some (.ref m)) 
    (g0 : ∀ x3 : Int32, x3.toInt = V 48 (V 60 (0 : Int).toNat).toNat → 0 ≤ V 60 (0 : Int).toNat → V 60 (0 : Int).toNat ≤ 11 → 0 ≤ V 48 (V 60 (0 : Int).toNat).toNat → V 48 (V 60 (0 : Int).toNat).toNat ≤ 40 → HJ 208 0 (lv_args 0 [.ref m, .int x3]) [] h (fun v h' => HJ 267 15 lv (v.toList ++ []) h' Q))
    : HJ 267 0 lv [] h Q := by
  refine hI_al (k := 0) rfl e0 rfl ?_ -- 0
  refine hI_al (k := 0) rfl e0 rfl ?_ -- 1
  refine hM_ga M (by decide) rfl rfl (k := 48) (c := 9) rfl rfl rfl (by decide +kernel) rfl ?_ -- 2
  refine hI_al (k := 0) rfl e0 rfl ?_ -- 5
  refine hM_ga M (by decide) rfl rfl (k := 60) (c := 9) rfl rfl rfl (by decide +kernel) rfl ?_ -- 6
  refine hM_ic (n := 0) rfl (by decide) rfl (fun x1 q1 => ?_) -- 9
  refine hM_ia M (by decide) (K := 60) (R2 := 90) (L := 5) (H := 5) (lo := 0) (hi := 11) rfl (by decide) rfl rfl (fun _ => rfl) rfl q1 (by omega) (by omega) rfl (fun x2 q2 a2 b2 => ?_) -- 10
  refine hM_ia M (by decide) (K := 48) (R2 := 81) (L := 12) (H := 12) (lo := 0) (hi := 40) rfl (by decide) rfl rfl (fun _ => rfl) rfl q2 (by omega) (by omega) rfl (fun x3 q3 a3 b3 => ?_) -- 11
  refine hM_iv M (by decide) rfl rfl (by decide) (as := [.int x3]) (r := []) rfl rfl (by decide +kernel) rfl (by decide +kernel) rfl rfl rfl rfl rfl ?_ -- 12
  exact g0 x3 q3 a2 b2 a3 b3
theorem s_mb15 (M : MX 49 W ρ m A h0 h F V G) (e0 : m_lk lv 0 = some (.ref m)) 
    (g0 : ∀ x1 : Int32, x1.toInt = 1 → ∀ lv2 : List (Nat × Value), m_lk lv2 0 = some (.ref m) → m_lk lv2 1 = some (.int x1) → HJ 267 17 lv2 [] h Q)
    : HJ 267 15 lv [] h Q := by
  refine hM_ic (n := 1) rfl (by decide) rfl (fun x1 q1 => ?_) -- 15
  refine hM_si (k := 1) rfl (by decide +kernel) rfl (fun lv2 e2_1 u2 => ?_) -- 16
  have e2_0 := u2 0 _ (by decide) (Or.inl rfl) e0
  exact g0 x1 q1 lv2 e2_0 e2_1
theorem s_mb17 {i : Int} (M : MX 49 W ρ m A h0 h F V G) (e0 : m_lk lv 0 = some (.ref m)) {lx1 : Int32} (e1 : m_lk lv 1 = some (.int lx1)) (lq1 : lx1.toInt = i) 
    (g0 : ∀ x2 : Int32, x2.toInt = F 17 → ∀ lv3 : List (Nat × Value), m_lk lv3 0 = some (.ref m) → m_lk lv3 1 = some (.int x2) → 0 ≤ F 47 → F 47 ≤ 12 → i ≥ F 47 → 0 ≤ F 17 → F 17 ≤ 16000 → HJ 216 0 (lv_args 0 [.ref m]) [] h (fun v h' => HJ 267 85 lv3 (v.toList ++ []) h' Q))
    (g1 : ∀ x4 : Int32, x4.toInt = 0 → ∀ lv5 : List (Nat × Value), m_lk lv5 0 = some (.ref m) → m_lk lv5 1 = some (.int lx1) → m_lk lv5 2 = some (.int x4) → 0 ≤ F 47 → F 47 ≤ 12 → i < F 47 → HJ 267 27 lv5 [] h Q)
    : HJ 267 17 lv [] h Q := by
  refine hI_il (k := 1) rfl e1 rfl ?_ -- 17
  refine hI_al (k := 0) rfl e0 rfl ?_ -- 18
  refine hM_gi M (by decide) rfl rfl rfl (k := 47) (c := 9) (lo := 0) (hi := 12) rfl rfl rfl rfl rfl (fun x1 q1 a1 b1 => ?_) -- 19
  refine hM_cge (off := 54) (t := 76) rfl lq1 q1 (by decide) rfl (fun c22 => ?_) (fun c22 => ?_) -- 22
  · refine hI_al (k := 0) rfl e0 rfl ?_ -- 76
    refine hM_gi M (by decide) rfl rfl rfl (k := 17) (c := 9) (lo := 0) (hi := 16000) rfl rfl rfl rfl rfl (fun x2 q2 a2 b2 => ?_) -- 77
    refine hM_si (k := 1) rfl (by decide +kernel) rfl (fun lv3 e3_1 u3 => ?_) -- 80
    have e3_0 := u3 0 _ (by decide) (Or.inl rfl) e0
    refine hI_al (k := 0) rfl e3_0 rfl ?_ -- 81
    refine hM_iv M (by decide) rfl rfl (by decide) (as := []) (r := []) rfl rfl (by decide +kernel) rfl (by decide +kernel) rfl rfl rfl rfl rfl ?_ -- 82
    exact g0 x2 q2 lv3 e3_0 e3_1 a1 b1 c22 a2 b2
  · refine hM_ic (n := 0) rfl (by decide) rfl (fun x4 q4 => ?_) -- 25
    refine hM_si (k := 2) rfl (by decide +kernel) rfl (fun lv5 e5_2 u5 => ?_) -- 26
    have e5_0 := u5 0 _ (by decide) (Or.inl rfl) e0
    have e5_1 := u5 1 _ (by decide) (Or.inl rfl) e1
    exact g1 x4 q4 lv5 e5_0 e5_1 e5_2 a1 b1 c22
theorem s_mb27 {i r : Int} (M : MX 49 W ρ m A h0 h F V G) (e0 : m_lk lv 0 = some (.ref m)) {lx1 : Int32} (e1 : m_lk lv 1 = some (.int lx1)) (lq1 : lx1.toInt = i) {lx2 : Int32} (e2 : m_lk lv 2 = some (.int lx2)) (lq2 : lx2.toInt = r) (i0 : 0 ≤ i) (i1 : i ≤ 4) (r0 : 0 ≤ r)(hw : d_sub [(62, 1001)] W = true)
    (g0 : r ≥ 6 → HJ 209 0 (lv_args 0 [.ref m]) [] h (fun v h' => HJ 267 70 lv (v.toList ++ []) h' Q))
    (g1 : ∀ h8 : MH, ∀ V8 : Nat → Nat → Int, V8 = m_u V 25 (m_u (V 25) (r).toNat (V 36 ((6 * (V 48 (V 60 (i).toNat).toNat)) + r).toNat)) → ∀ x9 : Int32, x9.toInt = r + 1 → ∀ lv9 : List (Nat × Value), MX 49 W ρ m A h0 h8 F V8 G → m_lk lv9 0 = some (.ref m) → m_lk lv9 1 = some (.int lx1) → m_lk lv9 2 = some (.int x9) → r < 6 → 0 ≤ V 60 (i).toNat → V 60 (i).toNat ≤ 11 → 0 ≤ V 48 (V 60 (i).toNat).toNat → V 48 (V 60 (i).toNat).toNat ≤ 40 → (-1) ≤ V 36 ((6 * (V 48 (V 60 (i).toNat).toNat)) + r).toNat → V 36 ((6 * (V 48 (V 60 (i).toNat).toNat)) + r).toNat ≤ 15999 → HJ 267 27 lv9 [] h8 Q)
    : HJ 267 27 lv [] h Q := by
  refine hI_il (k := 2) rfl e2 rfl ?_ -- 27
  refine hM_bp (n := 6) rfl (by decide) rfl (fun x1 q1 => ?_) -- 28
  refine hM_cge (off := 36) (t := 66) rfl lq2 q1 (by decide) rfl (fun c30 => ?_) (fun c30 => ?_) -- 30
  · refine hI_al (k := 0) rfl e0 rfl ?_ -- 66
    refine hM_iv M (by decide) rfl rfl (by decide) (as := []) (r := []) rfl rfl (by decide +kernel) rfl (by decide +kernel) rfl rfl rfl rfl rfl ?_ -- 67
    exact g0 c30
  · refine hI_al (k := 0) rfl e0 rfl ?_ -- 33
    refine hM_ga M (by decide) rfl rfl (k := 25) (c := 9) rfl rfl rfl (by decide +kernel) rfl ?_ -- 34
    refine hI_il (k := 2) rfl e2 rfl ?_ -- 37
    refine hI_al (k := 0) rfl e0 rfl ?_ -- 38
    refine hM_ga M (by decide) rfl rfl (k := 36) (c := 9) rfl rfl rfl (by decide +kernel) rfl ?_ -- 39
    refine hM_bp (n := 6) rfl (by decide) rfl (fun x2 q2 => ?_) -- 42
    refine hI_al (k := 0) rfl e0 rfl ?_ -- 44
    refine hM_ga M (by decide) rfl rfl (k := 48) (c := 9) rfl rfl rfl (by decide +kernel) rfl ?_ -- 45
    refine hI_al (k := 0) rfl e0 rfl ?_ -- 48
    refine hM_ga M (by decide) rfl rfl (k := 60) (c := 9) rfl rfl rfl (by decide +kernel) rfl ?_ -- 49
    refine hI_il (k := 1) rfl e1 rfl ?_ -- 52
    refine hM_ia M (by decide) (K := 60) (R2 := 90) (L := 5) (H := 5) (lo := 0) (hi := 11) rfl (by decide) rfl rfl (fun _ => rfl) rfl lq1 (by omega) (by omega) rfl (fun x3 q3 a3 b3 => ?_) -- 53
    refine hM_ia M (by decide) (K := 48) (R2 := 81) (L := 12) (H := 12) (lo := 0) (hi := 40) rfl (by decide) rfl rfl (fun _ => rfl) rfl q3 (by omega) (by omega) rfl (fun x4 q4 a4 b4 => ?_) -- 54
    refine hM_mul rfl q2 q4 (by omega) (by omega) rfl (fun x5 q5 => ?_) -- 55
    refine hI_il (k := 2) rfl e2 rfl ?_ -- 56
    refine hM_add rfl q5 lq2 (by omega) (by omega) rfl (fun x6 q6 => ?_) -- 57
    refine hM_ia M (by decide) (K := 36) (R2 := 71) (L := 246) (H := 246) (lo := (-1)) (hi := 15999) rfl (by decide) rfl rfl (fun _ => rfl) rfl q6 (by omega) (by omega) rfl (fun x7 q7 a7 b7 => ?_) -- 58
    refine hM_is M (by decide) ok_49 (K := 25) (R2 := 62) (L := 6) (H := 6) (lo := (-1)) (hi := 15999) rfl (by decide) rfl rfl rfl (fun _ => rfl) (d_subm hw (by decide +kernel)) rfl lq2 q7 (by omega) (by omega) (by omega) (by omega) rfl (fun h8 V8 f8 M8 => ?_) -- 59
    refine hM_inc (k := 2) (z := 1) rfl e2 lq2 (by decide) (by omega) (by omega) (by decide +kernel) rfl (fun lv9 x9 q9 e9_2 u9 => ?_) -- 60
    have e9_0 := u9 0 _ (by decide) (Or.inl rfl) e0
    have e9_1 := u9 1 _ (by decide) (Or.inl rfl) e1
    refine hI_go (pc' := 27) (off := (-36)) rfl (by decide) ?_ -- 63
    exact g1 h8 V8 f8 x9 q9 lv9 M8 e9_0 e9_1 e9_2 c30 a3 b3 a4 b4 a7 b7
theorem s_mb70 {i : Int} (M : MX 49 W ρ m A h0 h F V G) (e0 : m_lk lv 0 = some (.ref m)) {lx1 : Int32} (e1 : m_lk lv 1 = some (.int lx1)) (lq1 : lx1.toInt = i) (i0 : 0 ≤ i) (i1 : i ≤ 4)
    (g0 : ∀ x1 : Int32, x1.toInt = i + 1 → ∀ lv1 : List (Nat × Value), m_lk lv1 0 = some (.ref m) → m_lk lv1 1 = some (.int x1) → HJ 267 17 lv1 [] h Q)
    : HJ 267 70 lv [] h Q := by
  refine hM_inc (k := 1) (z := 1) rfl e1 lq1 (by decide) (by omega) (by omega) (by decide +kernel) rfl (fun lv1 x1 q1 e1_1 u1 => ?_) -- 70
  have e1_0 := u1 0 _ (by decide) (Or.inl rfl) e0
  refine hI_go (pc' := 17) (off := (-56)) rfl (by decide) ?_ -- 73
  exact g0 x1 q1 lv1 e1_0 e1_1
theorem s_mb85 {n z : Int} (M : MX 49 W ρ m A h0 h F V G) (e0 : m_lk lv 0 = some (.ref m)) {lx1 : Int32} (e1 : m_lk lv 1 = some (.int lx1)) (lq1 : lx1.toInt = n) {sx0 : Int32} (sq0 : sx0.toInt = z) (n0 : 0 ≤ n) (n1 : n ≤ 16000)
    (g0 : ∀ x1 : Int32, x1.toInt = 0 → z = 0 → Q (some (.int x1)) h)
    (g1 : ∀ x3 : Int32, x3.toInt = (F 17) - n → z ≠ 0 → 0 ≤ F 17 → F 17 ≤ 16000 → Q (some (.int x3)) h)
    : HJ 267 85 lv [.int sx0] h Q := by
  refine hM_zeq (off := 12) (t := 97) rfl sq0 (by decide) rfl (fun c85 => ?_) (fun c85 => ?_) -- 85
  · refine hM_ic (n := 0) rfl (by decide) rfl (fun x1 q1 => ?_) -- 97
    refine hI_ri rfl rfl ?_ -- 98
    exact g0 x1 q1 c85
  · refine hI_al (k := 0) rfl e0 rfl ?_ -- 88
    refine hM_gi M (by decide) rfl rfl rfl (k := 17) (c := 9) (lo := 0) (hi := 16000) rfl rfl rfl rfl rfl (fun x2 q2 a2 b2 => ?_) -- 89
    refine hI_il (k := 1) rfl e1 rfl ?_ -- 92
    refine hM_sub rfl q2 lq1 (by omega) (by omega) rfl (fun x3 q3 => ?_) -- 93
    refine hI_go (pc' := 98) (off := 4) rfl (by decide) ?_ -- 94
    refine hI_ri rfl rfl ?_ -- 98
    exact g1 x3 q3 c85 a2 b2
theorem l_mb27 {v : Nat} {i : Int} {xi : Int32} {V0 : Nat → Nat → Int} (hw : d_sub [(62, 1001)] W = true) (hi : xi.toInt = i) (i0 : 0 ≤ i) (i4 : i ≤ 4) (hv : V0 48 (V0 60 i.toNat).toNat = (v : Int)) (v40 : v ≤ 40) (g : ∀ (lv : List (Nat × Value)) (h : MH) (V : Nat → Nat → Int), MX 49 W ρ m A h0 h F V G → (∀ r, r < 6 → V 25 r = V0 36 (6 * v + r)) → (∀ K, K ≠ 25 → V K = V0 K) → m_lk lv 0 = some (.ref m) → m_lk lv 1 = some (.int xi) → HJ 209 0 (lv_args 0 [.ref m]) [] h (fun v h' => HJ 267 70 lv (v.toList ++ []) h' Q)) : ∀ (d r : Nat) (lv : List (Nat × Value)) (h : MH) (V : Nat → Nat → Int) (xr : Int32), r + d = 6 → MX 49 W ρ m A h0 h F V G → (∀ k, k < r → V 25 k = V0 36 (6 * v + k)) → (∀ K, K ≠ 25 → V K = V0 K) → xr.toInt = (r : Int) → m_lk lv 0 = some (.ref m) → m_lk lv 1 = some (.int xi) → m_lk lv 2 = some (.int xr) → HJ 267 27 lv [] h Q := by
  intro d
  induction d with
  | zero =>
    intro r lv h V xr hd M k1 k2 hr e0 e1 e2
    have r6 : r = 6 := by omega
    subst r6
    exact s_mb27 M e0 e1 hi e2 hr i0 i4 (by omega) hw (fun _ => g lv h V M k1 k2 e0 e1) (fun h8 V8 f8 x9 q9 lv9 M8 e9_0 e9_1 e9_2 c30 a3 b3 a4 b4 a7 b7 => by omega)
  | succ d ih =>
    intro r lv h V xr hd M k1 k2 hr e0 e1 e2
    refine s_mb27 M e0 e1 hi e2 hr i0 i4 (by omega) hw (fun _ => by omega) (fun h8 V8 f8 x9 q9 lv9 M8 d0 d1 d2 _ _ _ _ _ _ _ => ?_)
    rw [k2 48 (by decide), k2 60 (by decide), hv, show (6 * (v : Int) + (r : Int)).toNat = 6 * v + r by omega, Int.toNat_natCast, k2 36 (by decide)] at f8
    refine ih (r + 1) lv9 h8 V8 x9 (by omega) M8 (fun k hk => ?_) (fun K hK => by rw [f8, m_uN _ _ _ _ hK, k2 K hK]) (by omega) d0 d1 d2
    rw [f8, m_uE]
    by_cases e : k = r
    · rw [e, m_uE]
    · rw [m_uN _ _ _ _ e]
      exact k1 k (by omega)
theorem l_mb17 {s : Nat} {F0 : Nat → Int} {V0 : Nat → Nat → Int} (hw : d_sub g_ls W = true) (fs : F0 47 = (s : Int)) (s5 : s ≤ 5) (n0 : 0 ≤ F0 17) (n1 : F0 17 + 36 ≤ 16000) (s41 : F0 35 ≤ 41) (so : z_so s (F0 35) (V0 48)) (tu : ∀ j, j < s → 0 ≤ V0 60 j ∧ V0 60 j < s) (ro : p_ro (F0 17) (F0 35) (V0 22) (V0 36)) (g : ∀ (z : Int32) (h' : MH) (F' : Nat → Int) (V' : Nat → Nat → Int), MX 49 W ρ m A h0 h' F' V' G → g_fo F0 V0 F' V' 36 → Q (some (.int z)) h') : ∀ (d i : Nat) (lv : List (Nat × Value)) (h : MH) (F : Nat → Int) (V : Nat → Nat → Int) (xi : Int32), i + d = s → 1 ≤ i → MX 49 W ρ m A h0 h F V G → g_fo F0 V0 F V (6 * i) → xi.toInt = (i : Int) → m_lk lv 0 = some (.ref m) → m_lk lv 1 = some (.int xi) → HJ 267 17 lv [] h Q := by
  have w1 : d_sub [(62, 1001)] W = true := d_subm hw (by decide +kernel)
  have w3 : d_sub g_md W = true := d_subm hw (by decide +kernel)
  intro d
  induction d with
  | zero =>
    intro i lv h F V xi hd i1 M I hi e0 e1
    have I' := I
    obtain ⟨⟨j1, j2⟩, ⟨j3, j4⟩, j5, j6, j7, j8⟩ := I'
    have f47 := j5 47 (by decide) (by decide) (by decide) (by decide)
    refine s_mb17 M e0 e1 hi (fun x2 q2 lv3 d0 d1 _ _ _ a2 b2 => ?_) (fun x4 q4 lv5 d0 d1 d2 _ _ _ => by omega)
    refine c_lessens M rfl hw j1 j2 (by omega) (by omega) (fun z h2 F2 V2 z0 z1 M2 I2 _ b2' _ _ => ?_)
    obtain ⟨⟨l1, l2⟩, ⟨l3, l4⟩, l5, l6, l7⟩ := I2
    have fin : g_fo F0 V0 F2 V2 36 := ⟨⟨l1, l2⟩, ⟨by omega, by omega⟩, fun K k1 k2 k3 k4 => (l5 K k1 k2 k3 k4).trans (j5 K k1 k2 k3 k4), fun v hv => (l6 v (by omega)).trans (j6 v hv), fun K hK => (l7 K hK).trans (j7 K hK), fun j hj => (b2' j (by omega)).trans (j8 j hj)⟩
    exact s_mb85 (z := z.toInt) M2 d0 d1 q2 rfl (by omega) (by omega) (fun x _ _ => g x h2 F2 V2 M2 fin) (fun x _ _ _ _ => g x h2 F2 V2 M2 fin)
  | succ d ih =>
    intro i lv h F V xi hd i1 M I hi e0 e1
    have I' := I
    obtain ⟨⟨j1, j2⟩, ⟨j3, j4⟩, j5, j6, j7, j8⟩ := I'
    have f47 := j5 47 (by decide) (by decide) (by decide) (by decide)
    have v48 := j7 48 (by decide)
    have v60 := j7 60 (by decide)
    have t := tu i (by omega)
    have sv := so (V0 60 i).toNat (by omega)
    refine s_mb17 M e0 e1 hi (fun x2 q2 lv3 d0 d1 _ _ _ a2 b2 => by omega) (fun x4 q4 lv5 d0 d1 d2 _ _ _ => ?_)
    refine l_mb27 (v := (V0 48 (V0 60 i).toNat).toNat) (V0 := V) w1 hi (by omega) (by omega) (by rw [v48, v60, Int.toNat_natCast]; omega) (by omega) (fun lv6 h3 V3 M3 k1 k2 b0 b1 => ?_) 6 0 lv5 h V x4 rfl M (fun k hk => absurd hk (Nat.not_lt_zero k)) (fun _ _ => rfl) q4 d0 d1 d2
    refine c_meld M3 w3 (by rw [k2 22 (by decide), k2 23 (by decide)]; exact j1) (by rw [k2 22 (by decide), k2 24 (by decide)]; exact j2) (fun r h6 => ?_) (by omega) (by omega) (fun h4 F4 V4 c M4 J _ => ?_)
    · rw [k2 22 (by decide), k1 r h6, j7 36 (by decide)]
      exact p_rtU j3 j6 (ro _ r (by omega) h6)
    · obtain ⟨⟨l1, l2, _⟩, ⟨l3, l4⟩, l5, l6, l7, _, _, l8⟩ := J
      refine s_mb70 M4 b0 b1 hi (by omega) (by omega) (fun x1 q1 lv7 c0 c1 => ?_)
      refine ih (i + 1) lv7 h4 F4 V4 x1 (by omega) (by omega) M4 ⟨⟨l1, l2⟩, ⟨by omega, by omega⟩, fun K y1 y2 y3 y4 => (l5 K y1 y3).trans (j5 K y1 y2 y3 y4), fun v hv => by rw [l6 v (by omega), k2 22 (by decide), j6 v hv], fun K hK => by rw [l7 K (by omega) (by omega) (by omega) (by omega) (by omega), k2 K (by omega), j7 K hK], fun j hj => by rw [l8 j (by omega), k2 23 (by decide), j8 j hj]⟩ (by omega) c0 c1
theorem c_madeB {s : Nat} (M : MX 49 W ρ m A h0 h F V G) (hw : d_sub g_ls W = true) (fs : F 47 = (s : Int)) (s1 : 1 ≤ s) (s5 : s ≤ 5) (n0 : 0 ≤ F 17) (n1 : F 17 + 36 ≤ 16000) (s41 : F 35 ≤ 41) (so : z_so s (F 35) (V 48)) (tu : ∀ j, j < s → 0 ≤ V 60 j ∧ V 60 j < s) (sh : p_sh (F 17) (V 22) (V 23)) (ro : p_ro (F 17) (F 35) (V 22) (V 36)) (g : ∀ (z : Int32) (h' : MH) (F' : Nat → Int) (V' : Nat → Nat → Int), MX 49 W ρ m A h0 h' F' V' G → g_fo F V F' V' 36 → Q (some (.int z)) h') : HJ 267 0 (lv_args 0 [.ref m]) [] h Q := by
  have w1 : d_sub [(61, 1001)] W = true := d_subm hw (by decide +kernel)
  have t := tu 0 (by omega)
  have sv := so (V 60 0).toNat (by omega)
  have e00 : V 48 (V 60 (0 : Int).toNat).toNat = V 48 (V 60 0).toNat := rfl
  refine s_mb0 M rfl (fun x3 q3 a2 b2 a3 b3 => ?_)
  rw [e00] at q3
  refine c_hand (v := (V 48 (V 60 0).toNat).toNat) M (by omega) (by omega) w1 (fun h2 V2 M2 k1 k2 => ?_)
  refine s_mb15 M2 rfl (fun x1 q1 lv2 e0 e1 => ?_)
  refine l_mb17 (F0 := F) (V0 := V) hw fs s5 n0 n1 s41 so tu ro g (s - 1) 1 lv2 h2 F V2 x1 (by omega) (by omega) M2 ⟨⟨by rw [k2 22 (by decide), k2 23 (by decide)]; exact sh, fun r h6 => ?_⟩, ⟨Int.le_refl _, by omega⟩, fun _ _ _ _ _ => rfl, fun _ _ => by rw [k2 22 (by decide)], fun K hK => k2 K (by omega), fun _ _ => by rw [k2 23 (by decide)]⟩ q1 e0 e1
  rw [k1 r h6, k2 22 (by decide)]
  exact ro _ r (by omega) h6
-- the best order
theorem s_fo0 {r w : Int} (M : MX 49 W ρ m A h0 h F V G) (e0 : m_lk lv 0 = some (.ref m)) {lx1 : Int32} (e1 : m_lk lv 1 = some (.int lx1)) (lq1 : lx1.toInt = r) {lx2 : Int64} (e2 : m_lk lv 2 = some (.long lx2)) {lx4 : Int32} (e4 : m_lk lv 4 = some (.int lx4)) (lq4 : lx4.toInt = w) (hw : d_sub [(49, 0)] W = true)
    (g0 : ∀ h2 : MH, ∀ F2 : Nat → Int, F2 = m_u F 0 (0) → MX 49 W ρ m A h0 h2 F2 V G → HJ 201 0 (lv_args 0 [.ref m, .int lx1]) [] h2 (fun v h' => HJ 265 10 lv (v.toList ++ []) h' Q))
    : HJ 265 0 lv [] h Q := by
  refine hI_al (k := 0) rfl e0 rfl ?_ -- 0
  refine hM_ic (n := 0) rfl (by decide) rfl (fun x1 q1 => ?_) -- 1
  refine hM_pi M (by decide) ok_49 rfl rfl (k := 0) (c := 9) (lo := (-2147483648)) (hi := 2147483647) rfl rfl ⟨by decide, by decide +kernel, rfl⟩ rfl (d_subm hw (by decide +kernel)) q1 (by omega) (by omega) rfl (fun h2 F2 f2 M2 => ?_) -- 2
  refine hI_al (k := 0) rfl e0 rfl ?_ -- 5
  refine hI_il (k := 1) rfl e1 rfl ?_ -- 6
  refine hM_iv M2 (by decide) rfl rfl (by decide) (as := [.int lx1]) (r := []) rfl rfl (by decide +kernel) rfl (by decide +kernel) rfl rfl rfl rfl rfl ?_ -- 7
  exact g0 h2 F2 f2 M2
theorem s_fo10 {r w z : Int} (M : MX 49 W ρ m A h0 h F V G) (e0 : m_lk lv 0 = some (.ref m)) {lx1 : Int32} (e1 : m_lk lv 1 = some (.int lx1)) (lq1 : lx1.toInt = r) {lx2 : Int64} (e2 : m_lk lv 2 = some (.long lx2)) {lx4 : Int32} (e4 : m_lk lv 4 = some (.int lx4)) (lq4 : lx4.toInt = w) {sx0 : Int32} (sq0 : sx0.toInt = z) 
    (g0 : ∀ x1 : Int32, x1.toInt = (-1) → z = 0 → Q (some (.int x1)) h)
    (g1 : z ≠ 0 → HJ 245 0 (lv_args 0 [.ref m, .long lx2]) [] h (fun v h' => HJ 265 18 lv (v.toList ++ []) h' Q))
    : HJ 265 10 lv [.int sx0] h Q := by
  refine hM_zeq (off := 31) (t := 41) rfl sq0 (by decide) rfl (fun c10 => ?_) (fun c10 => ?_) -- 10
  · refine hM_ic (n := (-1)) rfl (by decide) rfl (fun x1 q1 => ?_) -- 41
    refine hI_ri rfl rfl ?_ -- 42
    exact g0 x1 q1 c10
  · refine hI_al (k := 0) rfl e0 rfl ?_ -- 13
    refine hI_ll (k := 2) rfl e2 rfl ?_ -- 14
    refine hM_iv M (by decide) rfl rfl (by decide) (as := [.long lx2]) (r := []) rfl rfl (by decide +kernel) rfl (by decide +kernel) rfl rfl rfl rfl rfl ?_ -- 15
    exact g1 c10
theorem s_fo18 {r w z : Int} (M : MX 49 W ρ m A h0 h F V G) (e0 : m_lk lv 0 = some (.ref m)) {lx1 : Int32} (e1 : m_lk lv 1 = some (.int lx1)) (lq1 : lx1.toInt = r) {lx2 : Int64} (e2 : m_lk lv 2 = some (.long lx2)) {lx4 : Int32} (e4 : m_lk lv 4 = some (.int lx4)) (lq4 : lx4.toInt = w) {sx0 : Int32} (sq0 : sx0.toInt = z) 
    (g0 : ∀ x1 : Int32, x1.toInt = (-1) → z = 0 → Q (some (.int x1)) h)
    (g1 : z ≠ 0 → HJ 249 0 (lv_args 0 [.ref m, .long lx2]) [] h (fun v h' => HJ 265 26 lv (v.toList ++ []) h' Q))
    : HJ 265 18 lv [.int sx0] h Q := by
  refine hM_zeq (off := 23) (t := 41) rfl sq0 (by decide) rfl (fun c18 => ?_) (fun c18 => ?_) -- 18
  · refine hM_ic (n := (-1)) rfl (by decide) rfl (fun x1 q1 => ?_) -- 41
    refine hI_ri rfl rfl ?_ -- 42
    exact g0 x1 q1 c18
  · refine hI_al (k := 0) rfl e0 rfl ?_ -- 21
    refine hI_ll (k := 2) rfl e2 rfl ?_ -- 22
    refine hM_iv M (by decide) rfl rfl (by decide) (as := [.long lx2]) (r := []) rfl rfl (by decide +kernel) rfl (by decide +kernel) rfl rfl rfl rfl rfl ?_ -- 23
    exact g1 c18
theorem s_fo26 {r w z : Int} (M : MX 49 W ρ m A h0 h F V G) (e0 : m_lk lv 0 = some (.ref m)) {lx1 : Int32} (e1 : m_lk lv 1 = some (.int lx1)) (lq1 : lx1.toInt = r) {lx2 : Int64} (e2 : m_lk lv 2 = some (.long lx2)) {lx4 : Int32} (e4 : m_lk lv 4 = some (.int lx4)) (lq4 : lx4.toInt = w) {sx0 : Int32} (sq0 : sx0.toInt = z) 
    (g0 : ∀ x1 : Int32, x1.toInt = (-1) → z = 0 → Q (some (.int x1)) h)
    (g1 : ∀ x2 : Int32, x2.toInt = F 47 → ∀ x3 : Int32, x3.toInt = 2 → ∀ x4 : Int32, x4.toInt = 5 → z ≠ 0 → 0 ≤ F 47 → F 47 ≤ 12 → HJ 186 0 (lv_args 0 [.int x2, .int x3, .int x4]) [] h (fun v h' => HJ 265 38 lv (v.toList ++ []) h' Q))
    : HJ 265 26 lv [.int sx0] h Q := by
  refine hM_zeq (off := 15) (t := 41) rfl sq0 (by decide) rfl (fun c26 => ?_) (fun c26 => ?_) -- 26
  · refine hM_ic (n := (-1)) rfl (by decide) rfl (fun x1 q1 => ?_) -- 41
    refine hI_ri rfl rfl ?_ -- 42
    exact g0 x1 q1 c26
  · refine hI_al (k := 0) rfl e0 rfl ?_ -- 29
    refine hM_gi M (by decide) rfl rfl rfl (k := 47) (c := 9) (lo := 0) (hi := 12) rfl rfl rfl rfl rfl (fun x2 q2 a2 b2 => ?_) -- 30
    refine hM_ic (n := 2) rfl (by decide) rfl (fun x3 q3 => ?_) -- 33
    refine hM_ic (n := 5) rfl (by decide) rfl (fun x4 q4 => ?_) -- 34
    refine hM_is0 (as := [.int x2, .int x3, .int x4]) (r := []) rfl rfl (by decide +kernel) rfl rfl rfl rfl rfl ?_ -- 35
    exact g1 x2 q2 x3 q3 x4 q4 c26 a2 b2
theorem s_fo38 {r w z : Int} (M : MX 49 W ρ m A h0 h F V G) (e0 : m_lk lv 0 = some (.ref m)) {lx1 : Int32} (e1 : m_lk lv 1 = some (.int lx1)) (lq1 : lx1.toInt = r) {lx2 : Int64} (e2 : m_lk lv 2 = some (.long lx2)) {lx4 : Int32} (e4 : m_lk lv 4 = some (.int lx4)) (lq4 : lx4.toInt = w) {sx0 : Int32} (sq0 : sx0.toInt = z) 
    (g0 : ∀ x1 : Int32, x1.toInt = 0 → ∀ x3 : Int32, x3.toInt = 1 → ∀ x5 : Int32, x5.toInt = 0 → ∀ lv6 : List (Nat × Value), m_lk lv6 0 = some (.ref m) → m_lk lv6 4 = some (.int lx4) → m_lk lv6 5 = some (.int x1) → m_lk lv6 6 = some (.int x3) → m_lk lv6 7 = some (.int x5) → z ≠ 0 → HJ 265 52 lv6 [] h Q)
    (g1 : ∀ x7 : Int32, x7.toInt = (-1) → z = 0 → Q (some (.int x7)) h)
    : HJ 265 38 lv [.int sx0] h Q := by
  refine hM_zne (off := 5) (t := 43) rfl sq0 (by decide) rfl (fun c38 => ?_) (fun c38 => ?_) -- 38
  · refine hM_ic (n := 0) rfl (by decide) rfl (fun x1 q1 => ?_) -- 43
    refine hM_si2 (k := 5) rfl (by decide +kernel) rfl (fun lv2 e2_5 u2 => ?_) -- 44
    have e2_0 := u2 0 _ (by decide) (Or.inl rfl) e0
    have e2_1 := u2 1 _ (by decide) (Or.inl rfl) e1
    have e2_2 := u2 2 _ (by decide) (Or.inr (by decide)) e2
    have e2_4 := u2 4 _ (by decide) (Or.inl rfl) e4
    refine hM_ic (n := 1) rfl (by decide) rfl (fun x3 q3 => ?_) -- 46
    refine hM_si2 (k := 6) rfl (by decide +kernel) rfl (fun lv4 e4_6 u4 => ?_) -- 47
    have e4_0 := u4 0 _ (by decide) (Or.inl rfl) e2_0
    have e4_1 := u4 1 _ (by decide) (Or.inl rfl) e2_1
    have e4_2 := u4 2 _ (by decide) (Or.inr (by decide)) e2_2
    have e4_4 := u4 4 _ (by decide) (Or.inl rfl) e2_4
    have e4_5 := u4 5 _ (by decide) (Or.inl rfl) e2_5
    refine hM_ic (n := 0) rfl (by decide) rfl (fun x5 q5 => ?_) -- 49
    refine hM_si2 (k := 7) rfl (by decide +kernel) rfl (fun lv6 e6_7 u6 => ?_) -- 50
    have e6_0 := u6 0 _ (by decide) (Or.inl rfl) e4_0
    have e6_1 := u6 1 _ (by decide) (Or.inl rfl) e4_1
    have e6_2 := u6 2 _ (by decide) (Or.inr (by decide)) e4_2
    have e6_4 := u6 4 _ (by decide) (Or.inl rfl) e4_4
    have e6_5 := u6 5 _ (by decide) (Or.inl rfl) e4_5
    have e6_6 := u6 6 _ (by decide) (Or.inl rfl) e4_6
    exact g0 x1 q1 x3 q3 x5 q5 lv6 e6_0 e6_4 e6_5 e6_6 e6_7 c38
  · refine hM_ic (n := (-1)) rfl (by decide) rfl (fun x7 q7 => ?_) -- 41
    refine hI_ri rfl rfl ?_ -- 42
    exact g1 x7 q7 c38
theorem s_fo52 {w a c i : Int} (M : MX 49 W ρ m A h0 h F V G) (e0 : m_lk lv 0 = some (.ref m)) {lx4 : Int32} (e4 : m_lk lv 4 = some (.int lx4)) (lq4 : lx4.toInt = w) {lx5 : Int32} (e5 : m_lk lv 5 = some (.int lx5)) (lq5 : lx5.toInt = a) {lx6 : Int32} (e6 : m_lk lv 6 = some (.int lx6)) (lq6 : lx6.toInt = c) {lx7 : Int32} (e7 : m_lk lv 7 = some (.int lx7)) (lq7 : lx7.toInt = i) (i0 : 0 ≤ i)
    (g0 : 0 ≤ F 47 → F 47 ≤ 12 → i ≥ F 47 → HJ 265 92 lv [] h Q)
    (g1 : ∀ x2 : Int32, x2.toInt = V 48 (i).toNat → 0 ≤ F 47 → F 47 ≤ 12 → i < F 47 → 0 ≤ V 48 (i).toNat → V 48 (i).toNat ≤ 40 → HJ 207 0 (lv_args 0 [.ref m, .int x2]) [] h (fun v h' => HJ 265 74 lv (v.toList ++ [.int lx5]) h' Q))
    : HJ 265 52 lv [] h Q := by
  refine hI_il2 (k := 7) rfl e7 rfl ?_ -- 52
  refine hI_al (k := 0) rfl e0 rfl ?_ -- 54
  refine hM_gi M (by decide) rfl rfl rfl (k := 47) (c := 9) (lo := 0) (hi := 12) rfl rfl rfl rfl rfl (fun x1 q1 a1 b1 => ?_) -- 55
  refine hM_cge (off := 34) (t := 92) rfl lq7 q1 (by decide) rfl (fun c58 => ?_) (fun c58 => ?_) -- 58
  · exact g0 a1 b1 c58
  · refine hI_il2 (k := 5) rfl e5 rfl ?_ -- 61
    refine hI_al (k := 0) rfl e0 rfl ?_ -- 63
    refine hI_al (k := 0) rfl e0 rfl ?_ -- 64
    refine hM_ga M (by decide) rfl rfl (k := 48) (c := 9) rfl rfl rfl (by decide +kernel) rfl ?_ -- 65
    refine hI_il2 (k := 7) rfl e7 rfl ?_ -- 68
    refine hM_ia M (by decide) (K := 48) (R2 := 81) (L := 12) (H := 12) (lo := 0) (hi := 40) rfl (by decide) rfl rfl (fun _ => rfl) rfl lq7 (by omega) (by omega) rfl (fun x2 q2 a2 b2 => ?_) -- 70
    refine hM_iv M (by decide) rfl rfl (by decide) (as := [.int x2]) (r := [.int lx5]) rfl rfl (by decide +kernel) rfl (by decide +kernel) rfl rfl rfl rfl rfl ?_ -- 71
    exact g1 x2 q2 a1 b1 c58 a2 b2
theorem s_fo74 {w a c i y : Int} (M : MX 49 W ρ m A h0 h F V G) (e0 : m_lk lv 0 = some (.ref m)) {lx4 : Int32} (e4 : m_lk lv 4 = some (.int lx4)) (lq4 : lx4.toInt = w) {lx5 : Int32} (e5 : m_lk lv 5 = some (.int lx5)) (lq5 : lx5.toInt = a) {lx6 : Int32} (e6 : m_lk lv 6 = some (.int lx6)) (lq6 : lx6.toInt = c) {lx7 : Int32} (e7 : m_lk lv 7 = some (.int lx7)) (lq7 : lx7.toInt = i) {sx0 : Int32} (sq0 : sx0.toInt = a) {sx1 : Int32} (sq1 : sx1.toInt = y) (i0 : 0 ≤ i) (i1 : i ≤ 4) (a0 : 0 ≤ a) (a1 : a ≤ 1000) (y0 : 0 ≤ y) (y1 : y ≤ 63) (c0 : 0 ≤ c * F 47) (c1 : c * F 47 ≤ 100000)
    (g0 : ∀ x1 : Int32, x1.toInt = a + y → ∀ x4 : Int32, x4.toInt = c * (F 47) → ∀ x6 : Int32, x6.toInt = i + 1 → ∀ lv6 : List (Nat × Value), m_lk lv6 0 = some (.ref m) → m_lk lv6 4 = some (.int lx4) → m_lk lv6 5 = some (.int x1) → m_lk lv6 6 = some (.int x4) → m_lk lv6 7 = some (.int x6) → 0 ≤ F 47 → F 47 ≤ 12 → HJ 265 52 lv6 [] h Q)
    : HJ 265 74 lv [.int sx1, .int sx0] h Q := by
  refine hM_add rfl sq0 sq1 (by omega) (by omega) rfl (fun x1 q1 => ?_) -- 74
  refine hM_si2 (k := 5) rfl (by decide +kernel) rfl (fun lv2 e2_5 u2 => ?_) -- 75
  have e2_0 := u2 0 _ (by decide) (Or.inl rfl) e0
  have e2_4 := u2 4 _ (by decide) (Or.inl rfl) e4
  have e2_6 := u2 6 _ (by decide) (Or.inl rfl) e6
  have e2_7 := u2 7 _ (by decide) (Or.inl rfl) e7
  refine hI_il2 (k := 6) rfl e2_6 rfl ?_ -- 77
  refine hI_al (k := 0) rfl e2_0 rfl ?_ -- 79
  refine hM_gi M (by decide) rfl rfl rfl (k := 47) (c := 9) (lo := 0) (hi := 12) rfl rfl rfl rfl rfl (fun x3 q3 a3 b3 => ?_) -- 80
  refine hM_mul rfl lq6 q3 (by omega) (by omega) rfl (fun x4 q4 => ?_) -- 83
  refine hM_si2 (k := 6) rfl (by decide +kernel) rfl (fun lv5 e5_6 u5 => ?_) -- 84
  have e5_0 := u5 0 _ (by decide) (Or.inl rfl) e2_0
  have e5_4 := u5 4 _ (by decide) (Or.inl rfl) e2_4
  have e5_7 := u5 7 _ (by decide) (Or.inl rfl) e2_7
  have e5_5 := u5 5 _ (by decide) (Or.inl rfl) e2_5
  refine hM_inc (k := 7) (z := 1) rfl e5_7 lq7 (by decide) (by omega) (by omega) (by decide +kernel) rfl (fun lv6 x6 q6 e6_7 u6 => ?_) -- 86
  have e6_0 := u6 0 _ (by decide) (Or.inl rfl) e5_0
  have e6_4 := u6 4 _ (by decide) (Or.inl rfl) e5_4
  have e6_5 := u6 5 _ (by decide) (Or.inl rfl) e5_5
  have e6_6 := u6 6 _ (by decide) (Or.inl rfl) e5_6
  refine hI_go (pc' := 52) (off := (-37)) rfl (by decide) ?_ -- 89
  exact g0 x1 q1 x4 q4 x6 q6 lv6 e6_0 e6_4 e6_5 e6_6 e6_7 a3 b3
theorem s_fo92 {w a c i : Int} (M : MX 49 W ρ m A h0 h F V G) (e0 : m_lk lv 0 = some (.ref m)) {lx4 : Int32} (e4 : m_lk lv 4 = some (.int lx4)) (lq4 : lx4.toInt = w) {lx5 : Int32} (e5 : m_lk lv 5 = some (.int lx5)) (lq5 : lx5.toInt = a) {lx6 : Int32} (e6 : m_lk lv 6 = some (.int lx6)) (lq6 : lx6.toInt = c) {lx7 : Int32} (e7 : m_lk lv 7 = some (.int lx7)) (lq7 : lx7.toInt = i) 
    (g0 : ∀ x2 : Int32, x2.toInt = (-1) → ∀ x4 : Int32, x4.toInt = F 17 → ∀ x6 : Int32, x6.toInt = 0 → ∀ lv7 : List (Nat × Value), m_lk lv7 0 = some (.ref m) → m_lk lv7 4 = some (.int lx4) → m_lk lv7 6 = some (.int lx6) → m_lk lv7 7 = some (.int x2) → m_lk lv7 8 = some (.int x4) → m_lk lv7 9 = some (.int x6) → a ≤ 63 → 0 ≤ F 17 → F 17 ≤ 16000 → HJ 265 113 lv7 [] h Q)
    (g1 : ∀ x8 : Int32, x8.toInt = (-1) → a > 63 → Q (some (.int x8)) h)
    : HJ 265 92 lv [] h Q := by
  refine hI_il2 (k := 5) rfl e5 rfl ?_ -- 92
  refine hM_bp (n := 63) rfl (by decide) rfl (fun x1 q1 => ?_) -- 94
  refine hM_cle (off := 5) (t := 101) rfl lq5 q1 (by decide) rfl (fun c96 => ?_) (fun c96 => ?_) -- 96
  · refine hM_ic (n := (-1)) rfl (by decide) rfl (fun x2 q2 => ?_) -- 101
    refine hM_si2 (k := 7) rfl (by decide +kernel) rfl (fun lv3 e3_7 u3 => ?_) -- 102
    have e3_0 := u3 0 _ (by decide) (Or.inl rfl) e0
    have e3_4 := u3 4 _ (by decide) (Or.inl rfl) e4
    have e3_5 := u3 5 _ (by decide) (Or.inl rfl) e5
    have e3_6 := u3 6 _ (by decide) (Or.inl rfl) e6
    refine hI_al (k := 0) rfl e3_0 rfl ?_ -- 104
    refine hM_gi M (by decide) rfl rfl rfl (k := 17) (c := 9) (lo := 0) (hi := 16000) rfl rfl rfl rfl rfl (fun x4 q4 a4 b4 => ?_) -- 105
    refine hM_si2 (k := 8) rfl (by decide +kernel) rfl (fun lv5 e5_8 u5 => ?_) -- 108
    have e5_0 := u5 0 _ (by decide) (Or.inl rfl) e3_0
    have e5_4 := u5 4 _ (by decide) (Or.inl rfl) e3_4
    have e5_5 := u5 5 _ (by decide) (Or.inl rfl) e3_5
    have e5_6 := u5 6 _ (by decide) (Or.inl rfl) e3_6
    have e5_7 := u5 7 _ (by decide) (Or.inl rfl) e3_7
    refine hM_ic (n := 0) rfl (by decide) rfl (fun x6 q6 => ?_) -- 110
    refine hM_si2 (k := 9) rfl (by decide +kernel) rfl (fun lv7 e7_9 u7 => ?_) -- 111
    have e7_0 := u7 0 _ (by decide) (Or.inl rfl) e5_0
    have e7_4 := u7 4 _ (by decide) (Or.inl rfl) e5_4
    have e7_5 := u7 5 _ (by decide) (Or.inl rfl) e5_5
    have e7_6 := u7 6 _ (by decide) (Or.inl rfl) e5_6
    have e7_7 := u7 7 _ (by decide) (Or.inl rfl) e5_7
    have e7_8 := u7 8 _ (by decide) (Or.inl rfl) e5_8
    exact g0 x2 q2 x4 q4 x6 q6 lv7 e7_0 e7_4 e7_6 e7_7 e7_8 e7_9 c96 a4 b4
  · refine hM_ic (n := (-1)) rfl (by decide) rfl (fun x8 q8 => ?_) -- 99
    refine hI_ri rfl rfl ?_ -- 100
    exact g1 x8 q8 c96
theorem s_fo113 {w c l b k : Int} (M : MX 49 W ρ m A h0 h F V G) (e0 : m_lk lv 0 = some (.ref m)) {lx4 : Int32} (e4 : m_lk lv 4 = some (.int lx4)) (lq4 : lx4.toInt = w) {lx6 : Int32} (e6 : m_lk lv 6 = some (.int lx6)) (lq6 : lx6.toInt = c) {lx7 : Int32} (e7 : m_lk lv 7 = some (.int lx7)) (lq7 : lx7.toInt = l) {lx8 : Int32} (e8 : m_lk lv 8 = some (.int lx8)) (lq8 : lx8.toInt = b) {lx9 : Int32} (e9 : m_lk lv 9 = some (.int lx9)) (lq9 : lx9.toInt = k) 
    (g0 : k ≥ c → HJ 265 196 lv [] h Q)
    (g1 : k < c → HJ 266 0 (lv_args 0 [.ref m, .int lx9]) [] h (fun v h' => HJ 265 126 lv (v.toList ++ []) h' Q))
    : HJ 265 113 lv [] h Q := by
  refine hI_il2 (k := 9) rfl e9 rfl ?_ -- 113
  refine hI_il2 (k := 6) rfl e6 rfl ?_ -- 115
  refine hM_cge (off := 79) (t := 196) rfl lq9 lq6 (by decide) rfl (fun c117 => ?_) (fun c117 => ?_) -- 117
  · exact g0 c117
  · refine hI_al (k := 0) rfl e0 rfl ?_ -- 120
    refine hI_il2 (k := 9) rfl e9 rfl ?_ -- 121
    refine hM_iv M (by decide) rfl rfl (by decide) (as := [.int lx9]) (r := []) rfl rfl (by decide +kernel) rfl (by decide +kernel) rfl rfl rfl rfl rfl ?_ -- 123
    exact g1 c117
theorem s_fo126 {w c l b k z : Int} (M : MX 49 W ρ m A h0 h F V G) (e0 : m_lk lv 0 = some (.ref m)) {lx4 : Int32} (e4 : m_lk lv 4 = some (.int lx4)) (lq4 : lx4.toInt = w) {lx6 : Int32} (e6 : m_lk lv 6 = some (.int lx6)) (lq6 : lx6.toInt = c) {lx7 : Int32} (e7 : m_lk lv 7 = some (.int lx7)) (lq7 : lx7.toInt = l) {lx8 : Int32} (e8 : m_lk lv 8 = some (.int lx8)) (lq8 : lx8.toInt = b) {lx9 : Int32} (e9 : m_lk lv 9 = some (.int lx9)) (lq9 : lx9.toInt = k) {sx0 : Int32} (sq0 : sx0.toInt = z) (b0 : 0 ≤ b) (b1 : b ≤ 16000)(hw : d_sub [(49, 17)] W = true)
    (g0 : z = 0 → HJ 265 190 lv [] h Q)
    (g1 : ∀ h1 : MH, ∀ F1 : Nat → Int, F1 = m_u F 17 (b) → MX 49 W ρ m A h0 h1 F1 V G → z ≠ 0 → HJ 267 0 (lv_args 0 [.ref m]) [] h1 (fun v h' => HJ 265 139 lv (v.toList ++ []) h' Q))
    : HJ 265 126 lv [.int sx0] h Q := by
  refine hM_zeq (off := 64) (t := 190) rfl sq0 (by decide) rfl (fun c126 => ?_) (fun c126 => ?_) -- 126
  · exact g0 c126
  · refine hI_al (k := 0) rfl e0 rfl ?_ -- 129
    refine hI_il2 (k := 8) rfl e8 rfl ?_ -- 130
    refine hM_pi M (by decide) ok_49 rfl rfl (k := 17) (c := 9) (lo := 0) (hi := 16000) rfl rfl ⟨by decide, by decide +kernel, rfl⟩ rfl (d_subm hw (by decide +kernel)) lq8 (by omega) (by omega) rfl (fun h1 F1 f1 M1 => ?_) -- 132
    refine hI_al (k := 0) rfl e0 rfl ?_ -- 135
    refine hM_iv M1 (by decide) rfl rfl (by decide) (as := []) (r := []) rfl rfl (by decide +kernel) rfl (by decide +kernel) rfl rfl rfl rfl rfl ?_ -- 136
    exact g1 h1 F1 f1 M1 c126
theorem s_fo139 {w c l b k y : Int} (M : MX 49 W ρ m A h0 h F V G) (e0 : m_lk lv 0 = some (.ref m)) {lx4 : Int32} (e4 : m_lk lv 4 = some (.int lx4)) (lq4 : lx4.toInt = w) {lx6 : Int32} (e6 : m_lk lv 6 = some (.int lx6)) (lq6 : lx6.toInt = c) {lx7 : Int32} (e7 : m_lk lv 7 = some (.int lx7)) (lq7 : lx7.toInt = l) {lx8 : Int32} (e8 : m_lk lv 8 = some (.int lx8)) (lq8 : lx8.toInt = b) {lx9 : Int32} (e9 : m_lk lv 9 = some (.int lx9)) (lq9 : lx9.toInt = k) {sx0 : Int32} (sq0 : sx0.toInt = y) 
    (g0 : ∀ x4 : Int32, x4.toInt = 0 → ∀ lv5 : List (Nat × Value), m_lk lv5 0 = some (.ref m) → m_lk lv5 4 = some (.int lx4) → m_lk lv5 6 = some (.int lx6) → m_lk lv5 7 = some (.int sx0) → m_lk lv5 8 = some (.int lx8) → m_lk lv5 9 = some (.int lx9) → m_lk lv5 11 = some (.int x4) → l = (-1) → HJ 265 161 lv5 [] h Q)
    (g1 : ∀ lv1 : List (Nat × Value), m_lk lv1 0 = some (.ref m) → m_lk lv1 4 = some (.int lx4) → m_lk lv1 6 = some (.int lx6) → m_lk lv1 7 = some (.int lx7) → m_lk lv1 8 = some (.int lx8) → m_lk lv1 9 = some (.int lx9) → l ≠ (-1) → y ≥ l → HJ 265 190 lv1 [] h Q)
    (g2 : ∀ x7 : Int32, x7.toInt = 0 → ∀ lv8 : List (Nat × Value), m_lk lv8 0 = some (.ref m) → m_lk lv8 4 = some (.int lx4) → m_lk lv8 6 = some (.int lx6) → m_lk lv8 7 = some (.int sx0) → m_lk lv8 8 = some (.int lx8) → m_lk lv8 9 = some (.int lx9) → m_lk lv8 11 = some (.int x7) → l ≠ (-1) → y < l → HJ 265 161 lv8 [] h Q)
    : HJ 265 139 lv [.int sx0] h Q := by
  refine hM_si2 (k := 10) rfl (by decide +kernel) rfl (fun lv1 e1_10 u1 => ?_) -- 139
  have e1_0 := u1 0 _ (by decide) (Or.inl rfl) e0
  have e1_4 := u1 4 _ (by decide) (Or.inl rfl) e4
  have e1_6 := u1 6 _ (by decide) (Or.inl rfl) e6
  have e1_7 := u1 7 _ (by decide) (Or.inl rfl) e7
  have e1_8 := u1 8 _ (by decide) (Or.inl rfl) e8
  have e1_9 := u1 9 _ (by decide) (Or.inl rfl) e9
  refine hI_il2 (k := 7) rfl e1_7 rfl ?_ -- 141
  refine hM_ic (n := (-1)) rfl (by decide) rfl (fun x2 q2 => ?_) -- 143
  refine hM_ceq (off := 10) (t := 154) rfl lq7 q2 (by decide) rfl (fun c144 => ?_) (fun c144 => ?_) -- 144
  · refine hI_il2 (k := 10) rfl e1_10 rfl ?_ -- 154
    refine hM_si2 (k := 7) rfl (by decide +kernel) rfl (fun lv3 e3_7 u3 => ?_) -- 156
    have e3_0 := u3 0 _ (by decide) (Or.inl rfl) e1_0
    have e3_4 := u3 4 _ (by decide) (Or.inl rfl) e1_4
    have e3_6 := u3 6 _ (by decide) (Or.inl rfl) e1_6
    have e3_8 := u3 8 _ (by decide) (Or.inl rfl) e1_8
    have e3_9 := u3 9 _ (by decide) (Or.inl rfl) e1_9
    have e3_10 := u3 10 _ (by decide) (Or.inl rfl) e1_10
    refine hM_ic (n := 0) rfl (by decide) rfl (fun x4 q4 => ?_) -- 158
    refine hM_si2 (k := 11) rfl (by decide +kernel) rfl (fun lv5 e5_11 u5 => ?_) -- 159
    have e5_0 := u5 0 _ (by decide) (Or.inl rfl) e3_0
    have e5_4 := u5 4 _ (by decide) (Or.inl rfl) e3_4
    have e5_6 := u5 6 _ (by decide) (Or.inl rfl) e3_6
    have e5_8 := u5 8 _ (by decide) (Or.inl rfl) e3_8
    have e5_9 := u5 9 _ (by decide) (Or.inl rfl) e3_9
    have e5_10 := u5 10 _ (by decide) (Or.inl rfl) e3_10
    have e5_7 := u5 7 _ (by decide) (Or.inl rfl) e3_7
    exact g0 x4 q4 lv5 e5_0 e5_4 e5_6 e5_7 e5_8 e5_9 e5_11 c144
  · refine hI_il2 (k := 10) rfl e1_10 rfl ?_ -- 147
    refine hI_il2 (k := 7) rfl e1_7 rfl ?_ -- 149
    refine hM_cge (off := 39) (t := 190) rfl sq0 lq7 (by decide) rfl (fun c151 => ?_) (fun c151 => ?_) -- 151
    · exact g1 lv1 e1_0 e1_4 e1_6 e1_7 e1_8 e1_9 c144 c151
    · refine hI_il2 (k := 10) rfl e1_10 rfl ?_ -- 154
      refine hM_si2 (k := 7) rfl (by decide +kernel) rfl (fun lv6 e6_7 u6 => ?_) -- 156
      have e6_0 := u6 0 _ (by decide) (Or.inl rfl) e1_0
      have e6_4 := u6 4 _ (by decide) (Or.inl rfl) e1_4
      have e6_6 := u6 6 _ (by decide) (Or.inl rfl) e1_6
      have e6_8 := u6 8 _ (by decide) (Or.inl rfl) e1_8
      have e6_9 := u6 9 _ (by decide) (Or.inl rfl) e1_9
      have e6_10 := u6 10 _ (by decide) (Or.inl rfl) e1_10
      refine hM_ic (n := 0) rfl (by decide) rfl (fun x7 q7 => ?_) -- 158
      refine hM_si2 (k := 11) rfl (by decide +kernel) rfl (fun lv8 e8_11 u8 => ?_) -- 159
      have e8_0 := u8 0 _ (by decide) (Or.inl rfl) e6_0
      have e8_4 := u8 4 _ (by decide) (Or.inl rfl) e6_4
      have e8_6 := u8 6 _ (by decide) (Or.inl rfl) e6_6
      have e8_8 := u8 8 _ (by decide) (Or.inl rfl) e6_8
      have e8_9 := u8 9 _ (by decide) (Or.inl rfl) e6_9
      have e8_10 := u8 10 _ (by decide) (Or.inl rfl) e6_10
      have e8_7 := u8 7 _ (by decide) (Or.inl rfl) e6_7
      exact g2 x7 q7 lv8 e8_0 e8_4 e8_6 e8_7 e8_8 e8_9 e8_11 c144 c151
theorem s_fo161 {w c l b k i : Int} (M : MX 49 W ρ m A h0 h F V G) (e0 : m_lk lv 0 = some (.ref m)) {lx4 : Int32} (e4 : m_lk lv 4 = some (.int lx4)) (lq4 : lx4.toInt = w) {lx6 : Int32} (e6 : m_lk lv 6 = some (.int lx6)) (lq6 : lx6.toInt = c) {lx7 : Int32} (e7 : m_lk lv 7 = some (.int lx7)) (lq7 : lx7.toInt = l) {lx8 : Int32} (e8 : m_lk lv 8 = some (.int lx8)) (lq8 : lx8.toInt = b) {lx9 : Int32} (e9 : m_lk lv 9 = some (.int lx9)) (lq9 : lx9.toInt = k) {lx11 : Int32} (e11 : m_lk lv 11 = some (.int lx11)) (lq11 : lx11.toInt = i) (i0 : 0 ≤ i) (s1 : F 47 ≤ 5)(hw : d_sub [(91, 1001)] W = true)
    (g0 : 0 ≤ F 47 → F 47 ≤ 12 → i ≥ F 47 → HJ 265 190 lv [] h Q)
    (g1 : ∀ h3 : MH, ∀ V3 : Nat → Nat → Int, V3 = m_u V 61 (m_u (V 61) (i).toNat (V 60 (i).toNat)) → ∀ x4 : Int32, x4.toInt = i + 1 → ∀ lv4 : List (Nat × Value), MX 49 W ρ m A h0 h3 F V3 G → m_lk lv4 0 = some (.ref m) → m_lk lv4 4 = some (.int lx4) → m_lk lv4 6 = some (.int lx6) → m_lk lv4 7 = some (.int lx7) → m_lk lv4 8 = some (.int lx8) → m_lk lv4 9 = some (.int lx9) → m_lk lv4 11 = some (.int x4) → 0 ≤ F 47 → F 47 ≤ 12 → i < F 47 → 0 ≤ V 60 (i).toNat → V 60 (i).toNat ≤ 11 → HJ 265 161 lv4 [] h3 Q)
    : HJ 265 161 lv [] h Q := by
  refine hI_il2 (k := 11) rfl e11 rfl ?_ -- 161
  refine hI_al (k := 0) rfl e0 rfl ?_ -- 163
  refine hM_gi M (by decide) rfl rfl rfl (k := 47) (c := 9) (lo := 0) (hi := 12) rfl rfl rfl rfl rfl (fun x1 q1 a1 b1 => ?_) -- 164
  refine hM_cge (off := 23) (t := 190) rfl lq11 q1 (by decide) rfl (fun c167 => ?_) (fun c167 => ?_) -- 167
  · exact g0 a1 b1 c167
  · refine hI_al (k := 0) rfl e0 rfl ?_ -- 170
    refine hM_ga M (by decide) rfl rfl (k := 61) (c := 9) rfl rfl rfl (by decide +kernel) rfl ?_ -- 171
    refine hI_il2 (k := 11) rfl e11 rfl ?_ -- 174
    refine hI_al (k := 0) rfl e0 rfl ?_ -- 176
    refine hM_ga M (by decide) rfl rfl (k := 60) (c := 9) rfl rfl rfl (by decide +kernel) rfl ?_ -- 177
    refine hI_il2 (k := 11) rfl e11 rfl ?_ -- 180
    refine hM_ia M (by decide) (K := 60) (R2 := 90) (L := 5) (H := 5) (lo := 0) (hi := 11) rfl (by decide) rfl rfl (fun _ => rfl) rfl lq11 (by omega) (by omega) rfl (fun x2 q2 a2 b2 => ?_) -- 182
    refine hM_is M (by decide) ok_49 (K := 61) (R2 := 91) (L := 5) (H := 5) (lo := 0) (hi := 11) rfl (by decide) rfl rfl rfl (fun _ => rfl) (d_subm hw (by decide +kernel)) rfl lq11 q2 (by omega) (by omega) (by omega) (by omega) rfl (fun h3 V3 f3 M3 => ?_) -- 183
    refine hM_inc (k := 11) (z := 1) rfl e11 lq11 (by decide) (by omega) (by omega) (by decide +kernel) rfl (fun lv4 x4 q4 e4_11 u4 => ?_) -- 184
    have e4_0 := u4 0 _ (by decide) (Or.inl rfl) e0
    have e4_4 := u4 4 _ (by decide) (Or.inl rfl) e4
    have e4_6 := u4 6 _ (by decide) (Or.inl rfl) e6
    have e4_7 := u4 7 _ (by decide) (Or.inl rfl) e7
    have e4_8 := u4 8 _ (by decide) (Or.inl rfl) e8
    have e4_9 := u4 9 _ (by decide) (Or.inl rfl) e9
    refine hI_go (pc' := 161) (off := (-26)) rfl (by decide) ?_ -- 187
    exact g1 h3 V3 f3 x4 q4 lv4 M3 e4_0 e4_4 e4_6 e4_7 e4_8 e4_9 e4_11 a1 b1 c167 a2 b2
theorem s_fo190 {w c l b k : Int} (M : MX 49 W ρ m A h0 h F V G) (e0 : m_lk lv 0 = some (.ref m)) {lx4 : Int32} (e4 : m_lk lv 4 = some (.int lx4)) (lq4 : lx4.toInt = w) {lx6 : Int32} (e6 : m_lk lv 6 = some (.int lx6)) (lq6 : lx6.toInt = c) {lx7 : Int32} (e7 : m_lk lv 7 = some (.int lx7)) (lq7 : lx7.toInt = l) {lx8 : Int32} (e8 : m_lk lv 8 = some (.int lx8)) (lq8 : lx8.toInt = b) {lx9 : Int32} (e9 : m_lk lv 9 = some (.int lx9)) (lq9 : lx9.toInt = k) (k0 : 0 ≤ k) (k1 : k ≤ 1000000)
    (g0 : ∀ x1 : Int32, x1.toInt = k + 1 → ∀ lv1 : List (Nat × Value), m_lk lv1 0 = some (.ref m) → m_lk lv1 4 = some (.int lx4) → m_lk lv1 6 = some (.int lx6) → m_lk lv1 7 = some (.int lx7) → m_lk lv1 8 = some (.int lx8) → m_lk lv1 9 = some (.int x1) → HJ 265 113 lv1 [] h Q)
    : HJ 265 190 lv [] h Q := by
  refine hM_inc (k := 9) (z := 1) rfl e9 lq9 (by decide) (by omega) (by omega) (by decide +kernel) rfl (fun lv1 x1 q1 e1_9 u1 => ?_) -- 190
  have e1_0 := u1 0 _ (by decide) (Or.inl rfl) e0
  have e1_4 := u1 4 _ (by decide) (Or.inl rfl) e4
  have e1_6 := u1 6 _ (by decide) (Or.inl rfl) e6
  have e1_7 := u1 7 _ (by decide) (Or.inl rfl) e7
  have e1_8 := u1 8 _ (by decide) (Or.inl rfl) e8
  refine hI_go (pc' := 113) (off := (-80)) rfl (by decide) ?_ -- 193
  exact g0 x1 q1 lv1 e1_0 e1_4 e1_6 e1_7 e1_8 e1_9
theorem s_fo196 {w l : Int} (M : MX 49 W ρ m A h0 h F V G) (e0 : m_lk lv 0 = some (.ref m)) {lx4 : Int32} (e4 : m_lk lv 4 = some (.int lx4)) (lq4 : lx4.toInt = w) {lx7 : Int32} (e7 : m_lk lv 7 = some (.int lx7)) (lq7 : lx7.toInt = l) 
    (g0 : ∀ x1 : Int32, x1.toInt = 10 → ∀ x4 : Int32, x4.toInt = 9 + (F 47) → w ≠ 0 → 0 ≤ F 47 → F 47 ≤ 12 → HJ 186 0 (lv_args 0 [.int lx4, .int x1, .int x4]) [] h (fun v h' => HJ 265 220 lv (v.toList ++ []) h' Q))
    (g1 : w = 0 → Q (some (.int lx7)) h)
    : HJ 265 196 lv [] h Q := by
  refine hI_il2 (k := 4) rfl e4 rfl ?_ -- 196
  refine hM_zne (off := 8) (t := 206) rfl lq4 (by decide) rfl (fun c198 => ?_) (fun c198 => ?_) -- 198
  · refine hI_il2 (k := 4) rfl e4 rfl ?_ -- 206
    refine hM_bp (n := 10) rfl (by decide) rfl (fun x1 q1 => ?_) -- 208
    refine hM_bp (n := 9) rfl (by decide) rfl (fun x2 q2 => ?_) -- 210
    refine hI_al (k := 0) rfl e0 rfl ?_ -- 212
    refine hM_gi M (by decide) rfl rfl rfl (k := 47) (c := 9) (lo := 0) (hi := 12) rfl rfl rfl rfl rfl (fun x3 q3 a3 b3 => ?_) -- 213
    refine hM_add rfl q2 q3 (by omega) (by omega) rfl (fun x4 q4 => ?_) -- 216
    refine hM_is0 (as := [.int lx4, .int x1, .int x4]) (r := []) rfl rfl (by decide +kernel) rfl rfl rfl rfl rfl ?_ -- 217
    exact g0 x1 q1 x4 q4 c198 a3 b3
  · refine hI_il2 (k := 7) rfl e7 rfl ?_ -- 201
    refine hI_go (pc' := 242) (off := 39) rfl (by decide) ?_ -- 203
    refine hI_ri rfl rfl ?_ -- 242
    exact g1 c198
theorem s_fo220 {w z : Int} (M : MX 49 W ρ m A h0 h F V G) (e0 : m_lk lv 0 = some (.ref m)) {lx4 : Int32} (e4 : m_lk lv 4 = some (.int lx4)) (lq4 : lx4.toInt = w) {sx0 : Int32} (sq0 : sx0.toInt = z) (w0 : z ≠ 0 → 10 ≤ w ∧ w ≤ 14)
    (g0 : ∀ x1 : Int32, x1.toInt = (-1) → z = 0 → Q (some (.int x1)) h)
    (g1 : ∀ x5 : Int32, x5.toInt = V 48 (V 61 (w - 10).toNat).toNat → z ≠ 0 → 0 ≤ V 61 (w - 10).toNat → V 61 (w - 10).toNat ≤ 11 → 0 ≤ V 48 (V 61 (w - 10).toNat).toNat → V 48 (V 61 (w - 10).toNat).toNat ≤ 40 → Q (some (.int x5)) h)
    : HJ 265 220 lv [.int sx0] h Q := by
  refine hM_zeq (off := 21) (t := 241) rfl sq0 (by decide) rfl (fun c220 => ?_) (fun c220 => ?_) -- 220
  · refine hM_ic (n := (-1)) rfl (by decide) rfl (fun x1 q1 => ?_) -- 241
    refine hI_ri rfl rfl ?_ -- 242
    exact g0 x1 q1 c220
  · refine hI_al (k := 0) rfl e0 rfl ?_ -- 223
    refine hM_ga M (by decide) rfl rfl (k := 48) (c := 9) rfl rfl rfl (by decide +kernel) rfl ?_ -- 224
    refine hI_al (k := 0) rfl e0 rfl ?_ -- 227
    refine hM_ga M (by decide) rfl rfl (k := 61) (c := 9) rfl rfl rfl (by decide +kernel) rfl ?_ -- 228
    refine hI_il2 (k := 4) rfl e4 rfl ?_ -- 231
    refine hM_bp (n := 10) rfl (by decide) rfl (fun x2 q2 => ?_) -- 233
    refine hM_sub rfl lq4 q2 (by omega) (by omega) rfl (fun x3 q3 => ?_) -- 235
    refine hM_ia M (by decide) (K := 61) (R2 := 91) (L := 5) (H := 5) (lo := 0) (hi := 11) rfl (by decide) rfl rfl (fun _ => rfl) rfl q3 (by omega) (by omega) rfl (fun x4 q4 a4 b4 => ?_) -- 236
    refine hM_ia M (by decide) (K := 48) (R2 := 81) (L := 12) (H := 12) (lo := 0) (hi := 40) rfl (by decide) rfl rfl (fun _ => rfl) rfl q4 (by omega) (by omega) rfl (fun x5 q5 a5 b5 => ?_) -- 237
    refine hI_go (pc' := 242) (off := 4) rfl (by decide) ?_ -- 238
    refine hI_ri rfl rfl ?_ -- 242
    exact g1 x5 q5 c220 a4 b4 a5 b5
-- what stands through all orders: b nodes
def z_fb (b : Int) (s : Nat) (F : Nat → Int) (V : Nat → Nat → Int) : Prop := (0 ≤ b ∧ b ≤ 15120 ∧ b ≤ F 17) ∧ (F 47 = (s : Int) ∧ F 35 ≤ 41) ∧ p_sh b (V 22) (V 23) ∧ p_ro b (F 35) (V 22) (V 36) ∧ z_so s (F 35) (V 48)
theorem l_fo161 {b w c l k : Int} {s : Nat} {xw xc xl xb xk : Int32} (hw : d_sub [(91, 1001)] W = true) (s5 : s ≤ 5) (qw : xw.toInt = w) (qc : xc.toInt = c) (ql : xl.toInt = l) (qb : xb.toInt = b) (qk : xk.toInt = k) (k0 : 0 ≤ k) (k1 : k ≤ 1000000) (g : ∀ (lv : List (Nat × Value)) (h : MH) (V : Nat → Nat → Int) (xk' : Int32), MX 49 W ρ m A h0 h F V G → z_fb b s F V → xk'.toInt = k + 1 → m_lk lv 0 = some (.ref m) → m_lk lv 4 = some (.int xw) → m_lk lv 6 = some (.int xc) → m_lk lv 7 = some (.int xl) → m_lk lv 8 = some (.int xb) → m_lk lv 9 = some (.int xk') → HJ 265 113 lv [] h Q) : ∀ (d i : Nat) (lv : List (Nat × Value)) (h : MH) (V : Nat → Nat → Int) (xi : Int32), i + d = s → MX 49 W ρ m A h0 h F V G → z_fb b s F V → xi.toInt = (i : Int) → m_lk lv 0 = some (.ref m) → m_lk lv 4 = some (.int xw) → m_lk lv 6 = some (.int xc) → m_lk lv 7 = some (.int xl) → m_lk lv 8 = some (.int xb) → m_lk lv 9 = some (.int xk) → m_lk lv 11 = some (.int xi) → HJ 265 161 lv [] h Q := by
  intro d
  induction d with
  | zero =>
    intro i lv h V xi hd M I hi e0 e4 e6 e7 e8 e9 e11
    have fs := I.2.1.1
    exact s_fo161 M e0 e4 qw e6 qc e7 ql e8 qb e9 qk e11 hi (by omega) (by omega) hw (fun _ _ _ => s_fo190 M e0 e4 qw e6 qc e7 ql e8 qb e9 qk k0 k1 (fun x1 q1 lv1 d0 d4 d6 d7 d8 d9 => g lv1 h V x1 M I q1 d0 d4 d6 d7 d8 d9)) (fun h3 V3 f3 x4 q4 lv4 M3 e4_0 e4_4 e4_6 e4_7 e4_8 e4_9 e4_11 a1 b1 c167 a2 b2 => by omega)
  | succ d ih =>
    intro i lv h V xi hd M I hi e0 e4 e6 e7 e8 e9 e11
    have fs := I.2.1.1
    refine s_fo161 M e0 e4 qw e6 qc e7 ql e8 qb e9 qk e11 hi (by omega) (by omega) hw (fun _ _ _ => by omega) (fun h3 V3 f3 x4 q4 lv4 M3 d0 d4 d6 d7 d8 d9 d11 _ _ _ _ _ => ?_)
    refine ih (i + 1) lv4 h3 V3 x4 (by omega) M3 ?_ (by omega) d0 d4 d6 d7 d8 d9 d11
    unfold z_fb
    rw [f3, m_uN _ _ _ _ (by decide), m_uN _ _ _ _ (by decide), m_uN _ _ _ _ (by decide), m_uN _ _ _ _ (by decide)]
    exact I
def g_fd : List (Nat × Nat) := g_ls ++ [(90, 1001), (91, 1001)]
theorem l_fo113 {b w c : Int} {s : Nat} {xw xc xb : Int32} (hw : d_sub g_fd W = true) (s2 : 2 ≤ s) (s5 : s ≤ 5) (qw : xw.toInt = w) (qc : xc.toInt = c) (qb : xb.toInt = b) (c1 : c ≤ 100000) (g : ∀ (x : Int32) (h' : MH) (F' : Nat → Int) (V' : Nat → Nat → Int), MX 49 W ρ m A h0 h' F' V' G → Q (some (.int x)) h') : ∀ (d k : Nat) (lv : List (Nat × Value)) (h : MH) (F : Nat → Int) (V : Nat → Nat → Int) (xl xk : Int32), k + d = 100000 → MX 49 W ρ m A h0 h F V G → z_fb b s F V → xk.toInt = (k : Int) → m_lk lv 0 = some (.ref m) → m_lk lv 4 = some (.int xw) → m_lk lv 6 = some (.int xc) → m_lk lv 7 = some (.int xl) → m_lk lv 8 = some (.int xb) → m_lk lv 9 = some (.int xk) → HJ 265 113 lv [] h Q := by
  have w1 : d_sub [(90, 1001)] W = true := d_subm hw (by decide +kernel)
  have w2 : d_sub [(91, 1001)] W = true := d_subm hw (by decide +kernel)
  have w3 : d_sub [(49, 17)] W = true := d_subm hw (by decide +kernel)
  have w4 : d_sub g_ls W = true := d_subm hw (by decide +kernel)
  have fin : ∀ (lv : List (Nat × Value)) (h : MH) (F : Nat → Int) (V : Nat → Nat → Int) (xl : Int32), MX 49 W ρ m A h0 h F V G → F 47 = (s : Int) → m_lk lv 0 = some (.ref m) → m_lk lv 4 = some (.int xw) → m_lk lv 7 = some (.int xl) → HJ 265 196 lv [] h Q := fun lv h F V xl M fs e0 e4 e7 => by
    refine s_fo196 M e0 e4 qw e7 rfl (fun x1 q1 x4 q4 _ _ _ => ?_) (fun _ => g xl h F V M)
    refine c_in M qw q1 q4 (fun z hz => ?_)
    exact s_fo220 (z := z.toInt) M e0 e4 qw rfl (fun y => by omega) (fun x _ _ => g x h F V M) (fun x _ _ _ _ _ _ => g x h F V M)
  intro d
  induction d with
  | zero =>
    intro k lv h F V xl xk hd M I hk e0 e4 e6 e7 e8 e9
    exact s_fo113 M e0 e4 qw e6 qc e7 rfl e8 qb e9 hk (fun _ => fin lv h F V xl M I.2.1.1 e0 e4 e7) (fun c => by omega)
  | succ d ih =>
    intro k lv h F V xl xk hd M I hk e0 e4 e6 e7 e8 e9
    refine s_fo113 M e0 e4 qw e6 qc e7 rfl e8 qb e9 hk (fun _ => fin lv h F V xl M I.2.1.1 e0 e4 e7) (fun c => ?_)
    refine c_turn (s := s) M w1 hk (by omega) I.2.1.1 (by omega) s5 (fun z h2 V2 M2 vo tu => ?_)
    have I2 : z_fb b s F V2 := by
      unfold z_fb
      rw [vo 22 (by decide), vo 23 (by decide), vo 36 (by decide), vo 48 (by decide)]
      exact I
    obtain ⟨⟨b0, b1, b2⟩, ⟨fs, vs⟩, sh, ro, so⟩ := I2
    refine s_fo126 (z := z.toInt) M2 e0 e4 qw e6 qc e7 rfl e8 qb e9 hk rfl b0 (by omega) w3 (fun _ => ?_) (fun h3 F3 f3 M3 _ => ?_)
    · exact s_fo190 M2 e0 e4 qw e6 qc e7 rfl e8 qb e9 hk (by omega) (by omega) (fun x1 q1 lv1 d0 d4 d6 d7 d8 d9 => ih (k + 1) lv1 h2 F V2 xl x1 (by omega) M2 ⟨⟨b0, b1, b2⟩, ⟨fs, vs⟩, sh, ro, so⟩ (by omega) d0 d4 d6 d7 d8 d9)
    · have f17 : F3 17 = b := by rw [f3, m_uE]
      have f35 : F3 35 = F 35 := by rw [f3, m_uN _ _ _ _ (by decide)]
      have f47 : F3 47 = (s : Int) := by rw [f3, m_uN _ _ _ _ (by decide), fs]
      refine c_madeB (s := s) M3 w4 f47 (by omega) s5 (by omega) (by omega) (by omega) (by rw [f35]; exact so) tu (by rw [f17]; exact sh) (by rw [f17, f35]; exact ro) (fun y h4 F4 V4 M4 J => ?_)
      obtain ⟨⟨j1, j2⟩, ⟨j3, j4⟩, j5, j6, j7, j8⟩ := J
      rw [f17] at j3 j4 j6 j8
      have g35 : F4 35 = F 35 := by rw [j5 35 (by decide) (by decide) (by decide) (by decide), f35]
      have I4 : z_fb b s F4 V4 := by
        refine ⟨⟨b0, b1, j3⟩, ⟨by rw [j5 47 (by decide) (by decide) (by decide) (by decide), f47], by omega⟩, fun v hv => ?_, ?_, ?_⟩
        · obtain ⟨s1, s2⟩ := sh v hv
          rw [j6 v hv]
          refine ⟨s1, fun r hr => ?_⟩
          obtain ⟨t1, t2, t3⟩ := s2 r hr
          rw [j8 _ (by omega)]
          exact ⟨t1, t2, by rw [j6 _ (by omega)]; exact t3⟩
        · rw [g35, j7 36 (by decide)]
          exact p_roU (Int.le_refl b) j6 ro
        · rw [g35, j7 48 (by decide)]
          exact so
      refine s_fo139 (y := y.toInt) M4 e0 e4 qw e6 qc e7 rfl e8 qb e9 hk rfl (fun x4 q4 lv5 d0 d4 d6 d7 d8 d9 d11 _ => ?_) (fun lv1 d0 d4 d6 d7 d8 d9 _ _ => ?_) (fun x7 q7 lv8 d0 d4 d6 d7 d8 d9 d11 _ _ => ?_)
      · exact l_fo161 (b := b) (s := s) w2 s5 qw qc rfl qb hk (by omega) (by omega) (fun lv9 h9 V9 xk' M9 I9 q9 k0 k4 k6 k7 k8 k9 => ih (k + 1) lv9 h9 F4 V9 y xk' (by omega) M9 I9 (by omega) k0 k4 k6 k7 k8 k9) s 0 lv5 h4 V4 x4 (by omega) M4 I4 q4 d0 d4 d6 d7 d8 d9 d11
      · exact s_fo190 M4 d0 d4 qw d6 qc d7 rfl d8 qb d9 hk (by omega) (by omega) (fun x1 q1 lv1 c0 c4 c6 c7 c8 c9 => ih (k + 1) lv1 h4 F4 V4 xl x1 (by omega) M4 I4 (by omega) c0 c4 c6 c7 c8 c9)
      · exact l_fo161 (b := b) (s := s) w2 s5 qw qc rfl qb hk (by omega) (by omega) (fun lv9 h9 V9 xk' M9 I9 q9 k0 k4 k6 k7 k8 k9 => ih (k + 1) lv9 h9 F4 V9 y xk' (by omega) M9 I9 (by omega) k0 k4 k6 k7 k8 k9) s 0 lv8 h4 V4 x7 (by omega) M4 I4 q7 d0 d4 d6 d7 d8 d9 d11
theorem l_fo52 {w : Int} {s : Nat} {xw : Int32} (M : MX 49 W ρ m A h0 h F V G) (fs : F 47 = (s : Int)) (s1 : 1 ≤ s) (s5 : s ≤ 5) (so : z_so s (F 35) (V 48)) (s41 : F 35 ≤ 41) (qw : xw.toInt = w) (g : ∀ (lv : List (Nat × Value)) (xa xc xi : Int32), 0 ≤ xc.toInt → xc.toInt ≤ 100000 → m_lk lv 0 = some (.ref m) → m_lk lv 4 = some (.int xw) → m_lk lv 5 = some (.int xa) → m_lk lv 6 = some (.int xc) → m_lk lv 7 = some (.int xi) → HJ 265 92 lv [] h Q) : ∀ (d i : Nat) (lv : List (Nat × Value)) (xa xc xi : Int32), i + d = s → 0 ≤ xa.toInt → xa.toInt ≤ 63 * i → 0 ≤ xc.toInt → xc.toInt ≤ (5 : Int) ^ i → xi.toInt = (i : Int) → m_lk lv 0 = some (.ref m) → m_lk lv 4 = some (.int xw) → m_lk lv 5 = some (.int xa) → m_lk lv 6 = some (.int xc) → m_lk lv 7 = some (.int xi) → HJ 265 52 lv [] h Q := by
  have p5 : ∀ i : Nat, i ≤ 5 → (5 : Int) ^ i ≤ 3125 := fun i hi => by
    have : i = 0 ∨ i = 1 ∨ i = 2 ∨ i = 3 ∨ i = 4 ∨ i = 5 := by omega
    rcases this with e | e | e | e | e | e <;> (rw [e]; decide)
  intro d
  induction d with
  | zero =>
    intro i lv xa xc xi hd a0 a1 c0 c1 hi e0 e4 e5 e6 e7
    have := p5 i (by omega)
    exact s_fo52 M e0 e4 qw e5 rfl e6 rfl e7 hi (by omega) (fun _ _ _ => g lv xa xc xi c0 (by omega) e0 e4 e5 e6 e7) (fun x2 q2 _ _ c _ _ => by omega)
  | succ d ih =>
    intro i lv xa xc xi hd a0 a1 c0 c1 hi e0 e4 e5 e6 e7
    have p := p5 i (by omega)
    have sv := so i (by omega)
    refine s_fo52 M e0 e4 qw e5 rfl e6 rfl e7 hi (by omega) (fun _ _ _ => by omega) (fun x2 q2 _ _ c _ _ => ?_)
    rw [Int.toNat_natCast] at q2
    refine c_sizeAt (v := (V 48 i).toNat) M (by omega) (by omega) (fun y qy => ?_)
    have wl := p_wvL (V 36) (V 48 i).toNat
    have m1 : 0 ≤ xc.toInt * F 47 := Int.mul_nonneg c0 (by omega)
    have m2 : xc.toInt * F 47 ≤ (5 : Int) ^ (i + 1) := by
      rw [Int.pow_succ]
      exact Int.mul_le_mul c1 (by omega) (by omega) (Int.le_trans c0 c1)
    have p2 := p5 (i + 1) (by omega)
    exact s_fo74 (y := (p_wv (V 36) (V 48 i).toNat : Int)) M e0 e4 qw e5 rfl e6 rfl e7 hi rfl qy (by omega) (by omega) a0 (by omega) (by omega) (by omega) m1 (by omega) (fun x1 q1 x4 q4 x6 q6 lv6 d0 d4 d5 d6 d7 _ _ => ih (i + 1) lv6 x1 x4 x6 (by omega) (by omega) (by omega) (by omega) (by omega) (by omega) d0 d4 d5 d6 d7)
def g_fl : List (Nat × Nat) := g_la ++ g_lsW ++ g_fd ++ [(49, 0)]
theorem c_fold {r w : Int} {x : Int64} {xr xw : Int32} (M : MX 49 W ρ m A h0 h F V G) (b0_ : m_lk lv 0 = some (.ref m)) (b1_ : m_lk lv 1 = some (.int xr)) (b2_ : m_lk lv 2 = some (.long x)) (b4_ : m_lk lv 4 = some (.int xw)) (hw : d_sub g_fl W = true) (qr : xr.toInt = r) (qw : xw.toInt = w) (rw_ : p_rw (V 6)) (g : ∀ (x : Int32) (h' : MH) (F' : Nat → Int) (V' : Nat → Nat → Int) (G' : Nat → Nat → Int64), MX 49 W ρ m A h0 h' F' V' G' → Q (some (.int x)) h') : HJ 265 0 lv [] h Q := by
  have w0 : d_sub [(49, 0)] W = true := d_subm hw (by decide +kernel)
  have w1 : d_sub g_la W = true := d_subm hw (by decide +kernel)
  have w2 : d_sub g_lsW W = true := d_subm hw (by decide +kernel)
  have w3 : d_sub g_fd W = true := d_subm hw (by decide +kernel)
  refine s_fo0 M b0_ b1_ qr b2_ b4_ qw w0 (fun h2 F2 f2 M2 => ?_)
  refine c_lay M2 rfl rfl w1 qr rw_ (fun z h3 F3 V3 G3 M3 hz0 => ?_)
  have hz : z.toInt = 0 ∨ (z.toInt = 1 ∧ g_ly F3 V3 40) := hz0.imp (fun q => q.1) (fun q => ⟨q.1, q.2.1⟩)
  refine s_fo10 (z := z.toInt) M3 b0_ b1_ qr b2_ b4_ qw rfl (fun x1 _ _ => g x1 h3 F3 V3 G3 M3) (fun c10 => ?_)
  obtain ⟨-, ⟨⟨i1, i2, i3⟩, i4, i5, i6⟩⟩ := hz.resolve_left c10
  refine c_are M3 (fun z2 _ _ => ?_)
  refine s_fo18 (z := z2.toInt) M3 b0_ b1_ qr b2_ b4_ qw rfl (fun x1 _ _ => g x1 h3 F3 V3 G3 M3) (fun _ => ?_)
  refine c_list M3 w2 (by omega) (fun z3 h4 F4 V4 _ _ M4 fo vo so => ?_)
  refine s_fo26 (z := z3.toInt) M4 b0_ b1_ qr b2_ b4_ qw rfl (fun x1 _ _ => g x1 h4 F4 V4 G3 M4) (fun x2 q2 x3 q3 x4 q4 _ _ _ => ?_)
  refine c_in M4 q2 q3 q4 (fun z4 hz4 => ?_)
  refine s_fo38 (z := z4.toInt) M4 b0_ b1_ qr b2_ b4_ qw rfl (fun x1 q1 x3 q3 x5 q5 lv6 e0 e4 e5 e6 e7 c38 => ?_) (fun x1 _ _ => g x1 h4 F4 V4 G3 M4)
  have s25 := hz4.resolve_right (fun y => c38 y.1)
  have f35 := fo 35 (by decide)
  have f17 := fo 17 (by decide)
  have fs : F4 47 = (((F4 47).toNat : Nat) : Int) := by omega
  rw [fs] at so
  rw [← f35] at so
  refine l_fo52 (s := (F4 47).toNat) M4 fs (by omega) (by omega) so (by omega) qw (fun lv7 xa xc xi c0 c1 d0 d4 d5 d6 d7 => ?_) (F4 47).toNat 0 lv6 x1 x3 x5 (by omega) (by omega) (by omega) (by omega) (by rw [q3]; decide) q5 e0 e4 e5 e6 e7
  refine s_fo92 M4 d0 d4 qw d5 rfl d6 rfl d7 rfl (fun x2 q2 x4 q4 x6 q6 lv8 k0 k4 k6 k7 k8 k9 _ _ _ => ?_) (fun x1 _ _ => g x1 h4 F4 V4 G3 M4)
  refine l_fo113 (b := F4 17) (s := (F4 47).toNat) w3 (by omega) (by omega) qw rfl q4 c1 (fun x h' F' V' M' => g x h' F' V' G3 M') 100000 0 lv8 h4 F4 V4 x2 x6 rfl M4 ⟨⟨by omega, by omega, Int.le_refl _⟩, ⟨fs, by omega⟩, ?_, ?_, so⟩ q6 k0 k4 k6 k7 k8 k9
  · rw [f17, vo 22 (by decide), vo 23 (by decide)]
    exact i1
  · rw [f17, f35, vo 22 (by decide), vo 36 (by decide)]
    exact i3
end
