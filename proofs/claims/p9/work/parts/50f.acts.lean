-- A THING IS LOWERED
theorem p_shC {n : Int} {rk bl rk' bl' : Nat → Int} {u r : Int} (sh : p_sh n rk bl) (n0 : 0 ≤ n) (u0 : 0 ≤ u) (u1 : u < n) (ru : rk u.toNat = r) (hrk : rk' = m_u rk n.toNat r) (b1 : ∀ j, j < 6 * n.toNat → bl' j = bl j) (b2 : ∀ p, p < r.toNat → bl' (6 * n.toNat + p) = bl (6 * u.toNat + p)) : p_sh (n + 1) rk' bl' := by
  intro v hv
  have old : ∀ x : Nat, (x : Int) < n → rk' x = rk x := fun x hx => by rw [hrk, m_uN _ _ _ _ (by omega)]
  obtain ⟨s1, s2⟩ := sh u.toNat (by omega)
  rw [ru] at s1 s2
  by_cases e : v = n.toNat
  · have ev : rk' v = r := by rw [hrk, e, m_uE]
    rw [ev, e]
    refine ⟨s1, fun q hq => ?_⟩
    obtain ⟨t1, t2, t3⟩ := s2 q hq
    rw [b2 q (by omega)]
    exact ⟨t1, by omega, by rw [old _ (by omega)]; exact t3⟩
  · obtain ⟨s3, s4⟩ := sh v (by omega)
    rw [old v (by omega)]
    refine ⟨s3, fun q hq => ?_⟩
    obtain ⟨t1, t2, t3⟩ := s4 q hq
    rw [b1 _ (by omega)]
    exact ⟨t1, by omega, by rw [old _ (by omega)]; exact t3⟩
theorem p_shW {n : Int} {rk bl : Nat → Int} {y q : Nat} {x : Int} (sh : p_sh n rk bl) (q5 : q ≤ 5) (x0 : 0 ≤ x) (x1 : x < n) (rx : rk x.toNat = q) : p_sh n rk (m_u bl (6 * y + q) x) := by
  intro v hv
  obtain ⟨s1, s2⟩ := sh v hv
  refine ⟨s1, fun r hr => ?_⟩
  by_cases e : 6 * v + r = 6 * y + q
  · have : r = q := by omega
    rw [e, m_uE, this]
    exact ⟨x0, x1, rx⟩
  · rw [m_uN _ _ _ _ e]
    exact s2 r hr
-- the pure lowering, place by place
theorem lw_fP {S : PSt} {t k : Int} {O : WKt} : ∀ {d i : Nat}, lw_f S t k O d i ≠ -1 → (i : Int) ≤ lw_f S t k O d i ∧ lw_f S t k O d i < (i : Int) + d ∧ ps_t S (O.2.1 (lw_f S t k O d i).toNat).toNat = t ∧ k ≤ ps_y S (O.2.1 (lw_f S t k O d i).toNat).toNat
  | 0, _, h => absurd rfl h
  | d + 1, i, h => by
    rw [lw_f] at h ⊢
    by_cases c : ps_t S (O.2.1 i).toNat = t ∧ k ≤ ps_y S (O.2.1 i).toNat
    · rw [if_pos c, Int.toNat_natCast]
      exact ⟨by omega, by omega, c.1, c.2⟩
    · rw [if_neg c] at h ⊢
      obtain ⟨a, b, e, f⟩ := lw_fP h
      exact ⟨by omega, by omega, e, f⟩
theorem lw_mkV {S : PSt} {t k : Int} {y : Nat → Nat} {n e : Nat} : ∀ d, (ps_n (lw_mk S t k y n e d) = ps_n S + d ∧ ps_l (lw_mk S t k y n e d) = ps_l S) ∧ (∀ v, v < ps_n S → ps_t (lw_mk S t k y n e d) v = ps_t S v ∧ ps_y (lw_mk S t k y n e d) v = ps_y S v ∧ ps_k (lw_mk S t k y n e d) v = ps_k S v ∧ ∀ r, r < 6 → ps_b (lw_mk S t k y n e d) (6 * v + r) = ps_b S (6 * v + r)) ∧ ∀ j, j < d → ps_t (lw_mk S t k y n e d) (ps_n S + j) = (if j = e then t else ps_t S (y (if e < j then j - 1 else j))) ∧ ps_y (lw_mk S t k y n e d) (ps_n S + j) = (if j = e then k else ps_y S (y (if e < j then j - 1 else j))) ∧ ps_k (lw_mk S t k y n e d) (ps_n S + j) = ps_k S (y j) ∧ ∀ r, r < 6 → ps_b (lw_mk S t k y n e d) (6 * (ps_n S + j) + r) = if j < n ∧ (r : Int) = ps_k S (y (j + 1)) then ((ps_n S + j + 1 : Nat) : Int) else ps_b S (6 * y j + r)
  | 0 => ⟨⟨rfl, rfl⟩, fun _ _ => ⟨rfl, rfl, rfl, fun _ _ => rfl⟩, fun j hj => absurd hj (Nat.not_lt_zero j)⟩
  | d + 1 => by
    obtain ⟨⟨a1, a2⟩, a3, a4⟩ := lw_mkV (S := S) (t := t) (k := k) (y := y) (n := n) (e := e) d
    rw [lw_mk]
    obtain ⟨n1, n2, n3, n4, n5⟩ := ps_mkN (S := lw_mk S t k y n e d) (t := if d = e then t else ps_t S (y (if e < d then d - 1 else d))) (y := if d = e then k else ps_y S (y (if e < d then d - 1 else d))) (k := ps_k S (y d)) (f := fun r => if d < n ∧ (r : Int) = ps_k S (y (d + 1)) then ((ps_n S + d + 1 : Nat) : Int) else ps_b S (6 * y d + r))
    rw [n1, n2, n3, n4, n5, a1]
    refine ⟨⟨by omega, a2⟩, fun v hv => ?_, fun j hj => ?_⟩
    · rw [m_uN _ _ _ _ (by omega), m_uN _ _ _ _ (by omega), m_uN _ _ _ _ (by omega)]
      obtain ⟨b1, b2, b3, b4⟩ := a3 v hv
      exact ⟨b1, b2, b3, fun r hr => by rw [ps_mkB (by rw [a1]; omega)]; exact b4 r hr⟩
    · by_cases q : j = d
      · rw [q, m_uE, m_uE, m_uE]
        refine ⟨rfl, rfl, rfl, fun r hr => ?_⟩
        rw [← a1, ps_mkC hr, a1]
      · rw [m_uN _ _ _ _ (by omega), m_uN _ _ _ _ (by omega), m_uN _ _ _ _ (by omega)]
        obtain ⟨b1, b2, b3, b4⟩ := a4 j (by omega)
        exact ⟨b1, b2, b3, fun r hr => by rw [ps_mkB (by rw [a1]; omega)]; exact b4 r hr⟩
section
variable {lv : List (Nat × Value)} {Q : Option Value → MH → Prop} {W : List (Nat × Nat)} {ρ : Nat → Nat} {m : Nat} {A : Nat → Nat} {h0 h : MH} {F : Nat → Int} {V : Nat → Nat → Int} {G : Nat → Nat → Int64}
theorem s_ren0 {n : Int} (M : MX 49 W ρ m A h0 h F V G) (e0 : m_lk lv 0 = some (.ref m)) {lx1 : Int32} (e1 : m_lk lv 1 = some (.int lx1)) (lq1 : lx1.toInt = n) 
    (g0 : ∀ x1 : Int32, x1.toInt = F 17 → ∀ x3 : Int32, x3.toInt = 0 → ∀ lv4 : List (Nat × Value), m_lk lv4 0 = some (.ref m) → m_lk lv4 1 = some (.int lx1) → m_lk lv4 2 = some (.int x1) → m_lk lv4 3 = some (.int x3) → 0 ≤ F 17 → F 17 ≤ 16000 → HJ 221 7 lv4 [] h Q)
    : HJ 221 0 lv [] h Q := by
  refine hI_al (k := 0) rfl e0 rfl ?_ -- 0
  refine hM_gi M (by decide) rfl rfl rfl (k := 17) (c := 9) (lo := 0) (hi := 16000) rfl rfl rfl rfl rfl (fun x1 q1 a1 b1 => ?_) -- 1
  refine hM_si (k := 2) rfl (by decide +kernel) rfl (fun lv2 e2_2 u2 => ?_) -- 4
  have e2_0 := u2 0 _ (by decide) (Or.inl rfl) e0
  have e2_1 := u2 1 _ (by decide) (Or.inl rfl) e1
  refine hM_ic (n := 0) rfl (by decide) rfl (fun x3 q3 => ?_) -- 5
  refine hM_si (k := 3) rfl (by decide +kernel) rfl (fun lv4 e4_3 u4 => ?_) -- 6
  have e4_0 := u4 0 _ (by decide) (Or.inl rfl) e2_0
  have e4_1 := u4 1 _ (by decide) (Or.inl rfl) e2_1
  have e4_2 := u4 2 _ (by decide) (Or.inl rfl) e2_2
  exact g0 x1 q1 x3 q3 lv4 e4_0 e4_1 e4_2 e4_3 a1 b1
theorem s_ren7 {n f i : Int} (M : MX 49 W ρ m A h0 h F V G) (e0 : m_lk lv 0 = some (.ref m)) {lx1 : Int32} (e1 : m_lk lv 1 = some (.int lx1)) (lq1 : lx1.toInt = n) {lx2 : Int32} (e2 : m_lk lv 2 = some (.int lx2)) (lq2 : lx2.toInt = f) {lx3 : Int32} (e3 : m_lk lv 3 = some (.int lx3)) (lq3 : lx3.toInt = i) (i0 : 0 ≤ i) (n1 : n ≤ 5) (w0 : i ≤ n → 0 ≤ V 32 i.toNat ∧ V 32 i.toNat < 16000) (w1 : 0 ≤ V 32 (0 : Int).toNat ∧ V 32 (0 : Int).toNat < 16000) (r0 : 0 ≤ V 22 (V 32 (0 : Int).toNat).toNat ∧ V 22 (V 32 (0 : Int).toNat).toNat ≤ 5) (f0 : 0 ≤ f) (f1 : f < 16000)(hw : d_sub [(61, 1001)] W = true)
    (g0 : ∀ h4 : MH, ∀ V4 : Nat → Nat → Int, V4 = m_u V 24 (m_u (V 24) (V 22 (V 32 (0 : Int).toNat).toNat).toNat (f)) → MX 49 W ρ m A h0 h4 F V4 G → i > n → 0 ≤ V 32 (0 : Int).toNat → V 32 (0 : Int).toNat ≤ 15999 → Q none h4)
    (g1 : ∀ x5 : Int32, x5.toInt = V 33 (i).toNat → ∀ x6 : Int32, x6.toInt = V 34 (i).toNat → ∀ x8 : Int32, x8.toInt = V 22 (V 32 (i).toNat).toNat → i ≤ n → 0 ≤ V 32 (i).toNat → V 32 (i).toNat ≤ 15999 → HJ 212 0 (lv_args 0 [.ref m, .int x5, .int x6, .int x8]) [] h (fun v h' => HJ 221 39 lv (v.toList ++ []) h' Q))
    : HJ 221 7 lv [] h Q := by
  refine hI_il (k := 3) rfl e3 rfl ?_ -- 7
  refine hI_il (k := 1) rfl e1 rfl ?_ -- 8
  refine hM_cgt (off := 123) (t := 132) rfl lq3 lq1 (by decide) rfl (fun c9 => ?_) (fun c9 => ?_) -- 9
  · refine hI_al (k := 0) rfl e0 rfl ?_ -- 132
    refine hM_ga M (by decide) rfl rfl (k := 24) (c := 9) rfl rfl rfl (by decide +kernel) rfl ?_ -- 133
    refine hI_al (k := 0) rfl e0 rfl ?_ -- 136
    refine hM_ga M (by decide) rfl rfl (k := 22) (c := 9) rfl rfl rfl (by decide +kernel) rfl ?_ -- 137
    refine hI_al (k := 0) rfl e0 rfl ?_ -- 140
    refine hM_ga M (by decide) rfl rfl (k := 32) (c := 9) rfl rfl rfl (by decide +kernel) rfl ?_ -- 141
    refine hM_ic (n := 0) rfl (by decide) rfl (fun x1 q1 => ?_) -- 144
    refine hM_ia M (by decide) (K := 32) (R2 := 68) (L := 6) (H := 6) (lo := 0) (hi := 15999) rfl (by decide) rfl rfl (fun _ => rfl) rfl q1 (by omega) (by omega) rfl (fun x2 q2 a2 b2 => ?_) -- 145
    refine hM_ba M (by decide) (K := 22) (R2 := 59) (L := 16000) (H := 16000) (lo := (-2147483648)) (hi := 2147483647) rfl (by decide) rfl rfl (Or.inl rfl) (fun _ => rfl) rfl q2 (by omega) (by omega) rfl (fun x3 q3 a3 b3 => ?_) -- 146
    refine hI_il (k := 2) rfl e2 rfl ?_ -- 147
    refine hM_is M (by decide) ok_49 (K := 24) (R2 := 61) (L := 6) (H := 6) (lo := (-1)) (hi := 15999) rfl (by decide) rfl rfl rfl (fun _ => rfl) (d_subm hw (by decide +kernel)) rfl q3 lq2 (by omega) (by omega) (by omega) (by omega) rfl (fun h4 V4 f4 M4 => ?_) -- 148
    refine hI_rv rfl rfl ?_
    exact g0 h4 V4 f4 M4 c9 a2 b2
  · refine hI_al (k := 0) rfl e0 rfl ?_ -- 12
    refine hI_al (k := 0) rfl e0 rfl ?_ -- 13
    refine hM_ga M (by decide) rfl rfl (k := 33) (c := 9) rfl rfl rfl (by decide +kernel) rfl ?_ -- 14
    refine hI_il (k := 3) rfl e3 rfl ?_ -- 17
    refine hM_ia M (by decide) (K := 33) (R2 := 69) (L := 6) (H := 6) (lo := (-2147483648)) (hi := 2147483647) rfl (by decide) rfl rfl (fun _ => rfl) rfl lq3 (by omega) (by omega) rfl (fun x5 q5 a5 b5 => ?_) -- 18
    refine hI_al (k := 0) rfl e0 rfl ?_ -- 19
    refine hM_ga M (by decide) rfl rfl (k := 34) (c := 9) rfl rfl rfl (by decide +kernel) rfl ?_ -- 20
    refine hI_il (k := 3) rfl e3 rfl ?_ -- 23
    refine hM_ia M (by decide) (K := 34) (R2 := 70) (L := 6) (H := 6) (lo := (-2147483648)) (hi := 2147483647) rfl (by decide) rfl rfl (fun _ => rfl) rfl lq3 (by omega) (by omega) rfl (fun x6 q6 a6 b6 => ?_) -- 24
    refine hI_al (k := 0) rfl e0 rfl ?_ -- 25
    refine hM_ga M (by decide) rfl rfl (k := 22) (c := 9) rfl rfl rfl (by decide +kernel) rfl ?_ -- 26
    refine hI_al (k := 0) rfl e0 rfl ?_ -- 29
    refine hM_ga M (by decide) rfl rfl (k := 32) (c := 9) rfl rfl rfl (by decide +kernel) rfl ?_ -- 30
    refine hI_il (k := 3) rfl e3 rfl ?_ -- 33
    refine hM_ia M (by decide) (K := 32) (R2 := 68) (L := 6) (H := 6) (lo := 0) (hi := 15999) rfl (by decide) rfl rfl (fun _ => rfl) rfl lq3 (by omega) (by omega) rfl (fun x7 q7 a7 b7 => ?_) -- 34
    refine hM_ba M (by decide) (K := 22) (R2 := 59) (L := 16000) (H := 16000) (lo := (-2147483648)) (hi := 2147483647) rfl (by decide) rfl rfl (Or.inl rfl) (fun _ => rfl) rfl q7 (by omega) (by omega) rfl (fun x8 q8 a8 b8 => ?_) -- 35
    refine hM_iv M (by decide) rfl rfl (by decide) (as := [.int x5, .int x6, .int x8]) (r := []) rfl rfl (by decide +kernel) rfl (by decide +kernel) rfl rfl rfl rfl rfl ?_ -- 36
    exact g1 x5 q5 x6 q6 x8 q8 c9 a7 b7
theorem s_ren39 {n f i x : Int} (M : MX 49 W ρ m A h0 h F V G) (e0 : m_lk lv 0 = some (.ref m)) {lx1 : Int32} (e1 : m_lk lv 1 = some (.int lx1)) (lq1 : lx1.toInt = n) {lx2 : Int32} (e2 : m_lk lv 2 = some (.int lx2)) (lq2 : lx2.toInt = f) {lx3 : Int32} (e3 : m_lk lv 3 = some (.int lx3)) (lq3 : lx3.toInt = i) {sx0 : Int32} (sq0 : sx0.toInt = x) 
    (g0 : ∀ x2 : Int32, x2.toInt = 0 → ∀ lv3 : List (Nat × Value), m_lk lv3 0 = some (.ref m) → m_lk lv3 1 = some (.int lx1) → m_lk lv3 2 = some (.int lx2) → m_lk lv3 3 = some (.int lx3) → m_lk lv3 4 = some (.int sx0) → m_lk lv3 5 = some (.int x2) → HJ 221 44 lv3 [] h Q)
    : HJ 221 39 lv [.int sx0] h Q := by
  refine hM_si2 (k := 4) rfl (by decide +kernel) rfl (fun lv1 e1_4 u1 => ?_) -- 39
  have e1_0 := u1 0 _ (by decide) (Or.inl rfl) e0
  have e1_1 := u1 1 _ (by decide) (Or.inl rfl) e1
  have e1_2 := u1 2 _ (by decide) (Or.inl rfl) e2
  have e1_3 := u1 3 _ (by decide) (Or.inl rfl) e3
  refine hM_ic (n := 0) rfl (by decide) rfl (fun x2 q2 => ?_) -- 41
  refine hM_si2 (k := 5) rfl (by decide +kernel) rfl (fun lv3 e3_5 u3 => ?_) -- 42
  have e3_0 := u3 0 _ (by decide) (Or.inl rfl) e1_0
  have e3_1 := u3 1 _ (by decide) (Or.inl rfl) e1_1
  have e3_2 := u3 2 _ (by decide) (Or.inl rfl) e1_2
  have e3_3 := u3 3 _ (by decide) (Or.inl rfl) e1_3
  have e3_4 := u3 4 _ (by decide) (Or.inl rfl) e1_4
  exact g0 x2 q2 lv3 e3_0 e3_1 e3_2 e3_3 e3_4 e3_5
theorem s_ren44 {n f i x q : Int} (M : MX 49 W ρ m A h0 h F V G) (e0 : m_lk lv 0 = some (.ref m)) {lx1 : Int32} (e1 : m_lk lv 1 = some (.int lx1)) (lq1 : lx1.toInt = n) {lx2 : Int32} (e2 : m_lk lv 2 = some (.int lx2)) (lq2 : lx2.toInt = f) {lx3 : Int32} (e3 : m_lk lv 3 = some (.int lx3)) (lq3 : lx3.toInt = i) {lx4 : Int32} (e4 : m_lk lv 4 = some (.int lx4)) (lq4 : lx4.toInt = x) {lx5 : Int32} (e5 : m_lk lv 5 = some (.int lx5)) (lq5 : lx5.toInt = q) (i0 : 0 ≤ i) (i1 : i ≤ 5) (q0 : 0 ≤ q) (x0 : 0 ≤ x) (x1 : x < 16000) (w0 : 0 ≤ V 32 i.toNat ∧ V 32 i.toNat < 16000) (r0 : 0 ≤ V 22 (V 32 i.toNat).toNat ∧ V 22 (V 32 i.toNat).toNat ≤ 5)(hw : d_sub [(60, 1001)] W = true)
    (g0 : 0 ≤ V 32 (i).toNat → V 32 (i).toNat ≤ 15999 → q ≥ V 22 (V 32 (i).toNat).toNat → HJ 221 96 lv [] h Q)
    (g1 : ∀ h11 : MH, ∀ V11 : Nat → Nat → Int, V11 = m_u V 23 (m_u (V 23) ((6 * x) + q).toNat (V 23 ((6 * (V 32 (i).toNat)) + q).toNat)) → ∀ x12 : Int32, x12.toInt = q + 1 → ∀ lv12 : List (Nat × Value), MX 49 W ρ m A h0 h11 F V11 G → m_lk lv12 0 = some (.ref m) → m_lk lv12 1 = some (.int lx1) → m_lk lv12 2 = some (.int lx2) → m_lk lv12 3 = some (.int lx3) → m_lk lv12 4 = some (.int lx4) → m_lk lv12 5 = some (.int x12) → 0 ≤ V 32 (i).toNat → V 32 (i).toNat ≤ 15999 → q < V 22 (V 32 (i).toNat).toNat → HJ 221 44 lv12 [] h11 Q)
    : HJ 221 44 lv [] h Q := by
  refine hI_il2 (k := 5) rfl e5 rfl ?_ -- 44
  refine hI_al (k := 0) rfl e0 rfl ?_ -- 46
  refine hM_ga M (by decide) rfl rfl (k := 22) (c := 9) rfl rfl rfl (by decide +kernel) rfl ?_ -- 47
  refine hI_al (k := 0) rfl e0 rfl ?_ -- 50
  refine hM_ga M (by decide) rfl rfl (k := 32) (c := 9) rfl rfl rfl (by decide +kernel) rfl ?_ -- 51
  refine hI_il (k := 3) rfl e3 rfl ?_ -- 54
  refine hM_ia M (by decide) (K := 32) (R2 := 68) (L := 6) (H := 6) (lo := 0) (hi := 15999) rfl (by decide) rfl rfl (fun _ => rfl) rfl lq3 (by omega) (by omega) rfl (fun x1 q1 a1 b1 => ?_) -- 55
  refine hM_ba M (by decide) (K := 22) (R2 := 59) (L := 16000) (H := 16000) (lo := (-2147483648)) (hi := 2147483647) rfl (by decide) rfl rfl (Or.inl rfl) (fun _ => rfl) rfl q1 (by omega) (by omega) rfl (fun x2 q2 a2 b2 => ?_) -- 56
  refine hM_cge (off := 39) (t := 96) rfl lq5 q2 (by decide) rfl (fun c57 => ?_) (fun c57 => ?_) -- 57
  · exact g0 a1 b1 c57
  · refine hI_al (k := 0) rfl e0 rfl ?_ -- 60
    refine hM_ga M (by decide) rfl rfl (k := 23) (c := 9) rfl rfl rfl (by decide +kernel) rfl ?_ -- 61
    refine hM_bp (n := 6) rfl (by decide) rfl (fun x3 q3 => ?_) -- 64
    refine hI_il2 (k := 4) rfl e4 rfl ?_ -- 66
    refine hM_mul rfl q3 lq4 (by omega) (by omega) rfl (fun x4 q4 => ?_) -- 68
    refine hI_il2 (k := 5) rfl e5 rfl ?_ -- 69
    refine hM_add rfl q4 lq5 (by omega) (by omega) rfl (fun x5 q5 => ?_) -- 71
    refine hI_al (k := 0) rfl e0 rfl ?_ -- 72
    refine hM_ga M (by decide) rfl rfl (k := 23) (c := 9) rfl rfl rfl (by decide +kernel) rfl ?_ -- 73
    refine hM_bp (n := 6) rfl (by decide) rfl (fun x6 q6 => ?_) -- 76
    refine hI_al (k := 0) rfl e0 rfl ?_ -- 78
    refine hM_ga M (by decide) rfl rfl (k := 32) (c := 9) rfl rfl rfl (by decide +kernel) rfl ?_ -- 79
    refine hI_il (k := 3) rfl e3 rfl ?_ -- 82
    refine hM_ia M (by decide) (K := 32) (R2 := 68) (L := 6) (H := 6) (lo := 0) (hi := 15999) rfl (by decide) rfl rfl (fun _ => rfl) rfl lq3 (by omega) (by omega) rfl (fun x7 q7 a7 b7 => ?_) -- 83
    refine hM_mul rfl q6 q7 (by omega) (by omega) rfl (fun x8 q8 => ?_) -- 84
    refine hI_il2 (k := 5) rfl e5 rfl ?_ -- 85
    refine hM_add rfl q8 lq5 (by omega) (by omega) rfl (fun x9 q9 => ?_) -- 87
    refine hM_ia M (by decide) (K := 23) (R2 := 60) (L := 96000) (H := 96000) (lo := (-2147483648)) (hi := 2147483647) rfl (by decide) rfl rfl (fun _ => rfl) rfl q9 (by omega) (by omega) rfl (fun x10 q10 a10 b10 => ?_) -- 88
    refine hM_is M (by decide) ok_49 (K := 23) (R2 := 60) (L := 96000) (H := 96000) (lo := (-2147483648)) (hi := 2147483647) rfl (by decide) rfl rfl rfl (fun _ => rfl) (d_subm hw (by decide +kernel)) rfl q5 q10 (by omega) (by omega) (by omega) (by omega) rfl (fun h11 V11 f11 M11 => ?_) -- 89
    refine hM_inc (k := 5) (z := 1) rfl e5 lq5 (by decide) (by omega) (by omega) (by decide +kernel) rfl (fun lv12 x12 q12 e12_5 u12 => ?_) -- 90
    have e12_0 := u12 0 _ (by decide) (Or.inl rfl) e0
    have e12_1 := u12 1 _ (by decide) (Or.inl rfl) e1
    have e12_2 := u12 2 _ (by decide) (Or.inl rfl) e2
    have e12_3 := u12 3 _ (by decide) (Or.inl rfl) e3
    have e12_4 := u12 4 _ (by decide) (Or.inl rfl) e4
    refine hI_go (pc' := 44) (off := (-49)) rfl (by decide) ?_ -- 93
    exact g1 h11 V11 f11 x12 q12 lv12 M11 e12_0 e12_1 e12_2 e12_3 e12_4 e12_5 a1 b1 c57
theorem s_ren96 {n f i x : Int} (M : MX 49 W ρ m A h0 h F V G) (e0 : m_lk lv 0 = some (.ref m)) {lx1 : Int32} (e1 : m_lk lv 1 = some (.int lx1)) (lq1 : lx1.toInt = n) {lx2 : Int32} (e2 : m_lk lv 2 = some (.int lx2)) (lq2 : lx2.toInt = f) {lx3 : Int32} (e3 : m_lk lv 3 = some (.int lx3)) (lq3 : lx3.toInt = i) {lx4 : Int32} (e4 : m_lk lv 4 = some (.int lx4)) (lq4 : lx4.toInt = x) (i0 : 0 ≤ i) (i1 : i ≤ 5) (x0 : 0 ≤ x) (x1 : x < 16000) (x2 : 0 < i → 1 ≤ x) (w0 : 0 ≤ V 32 i.toNat ∧ V 32 i.toNat < 16000) (r0 : 0 ≤ V 22 (V 32 i.toNat).toNat ∧ V 22 (V 32 i.toNat).toNat ≤ 5)(hw : d_sub [(60, 1001)] W = true)
    (g0 : ∀ x1 : Int32, x1.toInt = i + 1 → ∀ lv1 : List (Nat × Value), m_lk lv1 0 = some (.ref m) → m_lk lv1 1 = some (.int lx1) → m_lk lv1 2 = some (.int lx2) → m_lk lv1 3 = some (.int x1) → i ≤ 0 → HJ 221 7 lv1 [] h Q)
    (g1 : ∀ h9 : MH, ∀ V9 : Nat → Nat → Int, V9 = m_u V 23 (m_u (V 23) ((6 * (x - 1)) + (V 22 (V 32 (i).toNat).toNat)).toNat (x)) → ∀ x10 : Int32, x10.toInt = i + 1 → ∀ lv10 : List (Nat × Value), MX 49 W ρ m A h0 h9 F V9 G → m_lk lv10 0 = some (.ref m) → m_lk lv10 1 = some (.int lx1) → m_lk lv10 2 = some (.int lx2) → m_lk lv10 3 = some (.int x10) → i > 0 → 0 ≤ V 32 (i).toNat → V 32 (i).toNat ≤ 15999 → HJ 221 7 lv10 [] h9 Q)
    : HJ 221 96 lv [] h Q := by
  refine hI_il (k := 3) rfl e3 rfl ?_ -- 96
  refine hM_zle (off := 29) (t := 126) rfl lq3 (by decide) rfl (fun c97 => ?_) (fun c97 => ?_) -- 97
  · refine hM_inc (k := 3) (z := 1) rfl e3 lq3 (by decide) (by omega) (by omega) (by decide +kernel) rfl (fun lv1 x1 q1 e1_3 u1 => ?_) -- 126
    have e1_0 := u1 0 _ (by decide) (Or.inl rfl) e0
    have e1_1 := u1 1 _ (by decide) (Or.inl rfl) e1
    have e1_2 := u1 2 _ (by decide) (Or.inl rfl) e2
    have e1_4 := u1 4 _ (by decide) (Or.inl rfl) e4
    refine hI_go (pc' := 7) (off := (-122)) rfl (by decide) ?_ -- 129
    exact g0 x1 q1 lv1 e1_0 e1_1 e1_2 e1_3 c97
  · refine hI_al (k := 0) rfl e0 rfl ?_ -- 100
    refine hM_ga M (by decide) rfl rfl (k := 23) (c := 9) rfl rfl rfl (by decide +kernel) rfl ?_ -- 101
    refine hM_bp (n := 6) rfl (by decide) rfl (fun x2 q2 => ?_) -- 104
    refine hI_il2 (k := 4) rfl e4 rfl ?_ -- 106
    refine hM_ic (n := 1) rfl (by decide) rfl (fun x3 q3 => ?_) -- 108
    refine hM_sub rfl lq4 q3 (by omega) (by omega) rfl (fun x4 q4 => ?_) -- 109
    refine hM_mul rfl q2 q4 (by omega) (by omega) rfl (fun x5 q5 => ?_) -- 110
    refine hI_al (k := 0) rfl e0 rfl ?_ -- 111
    refine hM_ga M (by decide) rfl rfl (k := 22) (c := 9) rfl rfl rfl (by decide +kernel) rfl ?_ -- 112
    refine hI_al (k := 0) rfl e0 rfl ?_ -- 115
    refine hM_ga M (by decide) rfl rfl (k := 32) (c := 9) rfl rfl rfl (by decide +kernel) rfl ?_ -- 116
    refine hI_il (k := 3) rfl e3 rfl ?_ -- 119
    refine hM_ia M (by decide) (K := 32) (R2 := 68) (L := 6) (H := 6) (lo := 0) (hi := 15999) rfl (by decide) rfl rfl (fun _ => rfl) rfl lq3 (by omega) (by omega) rfl (fun x6 q6 a6 b6 => ?_) -- 120
    refine hM_ba M (by decide) (K := 22) (R2 := 59) (L := 16000) (H := 16000) (lo := (-2147483648)) (hi := 2147483647) rfl (by decide) rfl rfl (Or.inl rfl) (fun _ => rfl) rfl q6 (by omega) (by omega) rfl (fun x7 q7 a7 b7 => ?_) -- 121
    refine hM_add rfl q5 q7 (by omega) (by omega) rfl (fun x8 q8 => ?_) -- 122
    refine hI_il2 (k := 4) rfl e4 rfl ?_ -- 123
    refine hM_is M (by decide) ok_49 (K := 23) (R2 := 60) (L := 96000) (H := 96000) (lo := (-2147483648)) (hi := 2147483647) rfl (by decide) rfl rfl rfl (fun _ => rfl) (d_subm hw (by decide +kernel)) rfl q8 lq4 (by omega) (by omega) (by omega) (by omega) rfl (fun h9 V9 f9 M9 => ?_) -- 125
    refine hM_inc (k := 3) (z := 1) rfl e3 lq3 (by decide) (by omega) (by omega) (by decide +kernel) rfl (fun lv10 x10 q10 e10_3 u10 => ?_) -- 126
    have e10_0 := u10 0 _ (by decide) (Or.inl rfl) e0
    have e10_1 := u10 1 _ (by decide) (Or.inl rfl) e1
    have e10_2 := u10 2 _ (by decide) (Or.inl rfl) e2
    have e10_4 := u10 4 _ (by decide) (Or.inl rfl) e4
    refine hI_go (pc' := 7) (off := (-122)) rfl (by decide) ?_ -- 129
    exact g1 h9 V9 f9 x10 q10 lv10 M9 e10_0 e10_1 e10_2 e10_3 c97 a6 b6
theorem l_ren44 {u x : Int} {i : Nat} {F : Nat → Int} {V0 V1 : Nat → Nat → Int} {r : Int} {xn xf xi xx : Int32} {n f : Int} (hw : d_sub [(60, 1001)] W = true) (i5 : i ≤ 5) (hn : xn.toInt = n) (hf : xf.toInt = f) (hi : xi.toInt = (i : Int)) (hx : xx.toInt = x) (x0 : 0 ≤ x) (x1 : x < 16000) (hu : V1 32 i = u) (u0 : 0 ≤ u) (u1 : u < x) (ru : V1 22 u.toNat = r) (r0 : 0 ≤ r) (r5 : r ≤ 5) (g : ∀ (lv : List (Nat × Value)) (h : MH) (V : Nat → Nat → Int), MX 49 W ρ m A h0 h F V G → (∀ K, K ≠ 23 → V K = V1 K) → (∀ j, j < 6 * x.toNat → V 23 j = V0 23 j) → (∀ p, p < r.toNat → V 23 (6 * x.toNat + p) = V0 23 (6 * u.toNat + p)) → m_lk lv 0 = some (.ref m) → m_lk lv 1 = some (.int xn) → m_lk lv 2 = some (.int xf) → m_lk lv 3 = some (.int xi) → m_lk lv 4 = some (.int xx) → HJ 221 96 lv [] h Q) : ∀ (d : Nat) (q : Int) (lv : List (Nat × Value)) (h : MH) (V : Nat → Nat → Int) (xq : Int32), q + d = r → 0 ≤ q → xq.toInt = q → MX 49 W ρ m A h0 h F V G → (∀ K, K ≠ 23 → V K = V1 K) → (∀ j, j < 6 * x.toNat → V 23 j = V0 23 j) → (∀ p, p < q.toNat → V 23 (6 * x.toNat + p) = V0 23 (6 * u.toNat + p)) → m_lk lv 0 = some (.ref m) → m_lk lv 1 = some (.int xn) → m_lk lv 2 = some (.int xf) → m_lk lv 3 = some (.int xi) → m_lk lv 4 = some (.int xx) → m_lk lv 5 = some (.int xq) → HJ 221 44 lv [] h Q := by
  intro d
  induction d with
  | zero =>
    intro q lv h V xq hd q0 hq M k1 k2 k3 e0 e1 e2 e3 e4 e5
    have vu : V 32 i = u := by rw [k1 32 (by decide), hu]
    have vr : V 22 u.toNat = r := by rw [k1 22 (by decide), ru]
    refine s_ren44 M e0 e1 hn e2 hf e3 hi e4 hx e5 hq (by omega) (by omega) q0 x0 x1 (by rw [Int.toNat_natCast, vu]; omega) (by rw [Int.toNat_natCast, vu, vr]; omega) hw (fun a1 b1 c57 => g lv h V M k1 k2 (fun p hp => k3 p (by omega)) e0 e1 e2 e3 e4) (fun h11 V11 f11 x12 q12 lv12 M11 e12_0 e12_1 e12_2 e12_3 e12_4 e12_5 a1 b1 c57 => ?_)
    rw [Int.toNat_natCast, vu, vr] at c57
    omega
  | succ d ih =>
    intro q lv h V xq hd q0 hq M k1 k2 k3 e0 e1 e2 e3 e4 e5
    have vu : V 32 i = u := by rw [k1 32 (by decide), hu]
    have vr : V 22 u.toNat = r := by rw [k1 22 (by decide), ru]
    refine s_ren44 M e0 e1 hn e2 hf e3 hi e4 hx e5 hq (by omega) (by omega) q0 x0 x1 (by rw [Int.toNat_natCast, vu]; omega) (by rw [Int.toNat_natCast, vu, vr]; omega) hw (fun a1 b1 c57 => ?_) (fun h11 V11 f11 x12 q12 lv12 M11 e12_0 e12_1 e12_2 e12_3 e12_4 e12_5 a1 b1 c57 => ?_)
    · rw [Int.toNat_natCast, vu, vr] at c57
      omega
    · rw [Int.toNat_natCast, vu] at f11
      have v6 : V11 23 = m_u (V 23) (6 * x + q).toNat (V 23 (6 * u + q).toNat) := by rw [f11, m_uE]
      refine ih (q + 1) lv12 h11 V11 x12 (by omega) (by omega) q12 M11 (fun K hK => by rw [f11, m_uN _ _ _ _ hK, k1 K hK]) (fun j hj => ?_) (fun p hp => ?_) e12_0 e12_1 e12_2 e12_3 e12_4 e12_5
      · rw [v6, m_uN _ _ _ _ (by omega)]
        exact k2 j hj
      · rw [v6]
        by_cases e : p = q.toNat
        · rw [show 6 * x.toNat + p = (6 * x + q).toNat by omega, m_uE, k2 _ (by omega), show (6 * u + q).toNat = 6 * u.toNat + p by omega]
        · rw [m_uN _ _ _ _ (by omega)]
          exact k3 p (by omega)
-- the way anew, from its root on
def g_ri (F0 : Nat → Int) (V0 : Nat → Nat → Int) (F : Nat → Int) (V : Nat → Nat → Int) (i : Nat) : Prop := p_sh (F 17) (V 22) (V 23) ∧ F 17 = F0 17 + i ∧ (∀ K, K ≠ 17 → F K = F0 K) ∧ (∀ v : Nat, (v : Int) < F0 17 → V 22 v = V0 22 v) ∧ (∀ j, j < i → V 22 ((F0 17).toNat + j) = V0 22 (V0 32 j).toNat) ∧ ∀ K, K ≠ 20 → K ≠ 21 → K ≠ 22 → K ≠ 23 → V K = V0 K
def g_rj (F0 : Nat → Int) (V0 V : Nat → Nat → Int) (n i : Nat) : Prop := (∀ j, j ≤ n → (0 ≤ V0 33 j ∧ V0 33 j ≤ 127) ∧ 0 ≤ V0 34 j ∧ V0 34 j ≤ 99) → (∀ v : Nat, (v : Int) < F0 17 → V 20 v = V0 20 v ∧ V 21 v = V0 21 v) ∧ (∀ j, j < 6 * (F0 17).toNat → V 23 j = V0 23 j) ∧ ∀ j, j < i → V 20 ((F0 17).toNat + j) = V0 33 j ∧ V 21 ((F0 17).toNat + j) = V0 34 j ∧ ∀ r : Nat, (r : Int) < V0 22 (V0 32 j).toNat → V 23 (6 * ((F0 17).toNat + j) + r) = if j + 1 < i ∧ (r : Int) = V0 22 (V0 32 (j + 1)).toNat then F0 17 + ((j : Int) + 1) else V0 23 (6 * (V0 32 j).toNat + r)
theorem l_ren7 {F0 : Nat → Int} {V0 : Nat → Nat → Int} {n : Nat} {xn xf : Int32} (hw : d_sub g_ln W = true) (hw2 : d_sub [(61, 1001)] W = true) (n0 : 0 ≤ F0 17) (n1 : F0 17 + 6 ≤ 16000) (n5 : n ≤ 5) (wy : ∀ j, j ≤ n → 0 ≤ V0 32 j ∧ V0 32 j < F0 17 ∧ 0 ≤ V0 22 (V0 32 j).toNat ∧ V0 22 (V0 32 j).toNat ≤ 5) (hn : xn.toInt = (n : Int)) (hf : xf.toInt = F0 17) (g : ∀ (h' : MH) (F' : Nat → Int) (V1 V' : Nat → Nat → Int), MX 49 W ρ m A h0 h' F' V' G → g_ri F0 V0 F' V1 (n + 1) → g_rj F0 V0 V1 n (n + 1) → V' = m_u V1 24 (m_u (V1 24) (V0 22 (V0 32 0).toNat).toNat (F0 17)) → Q none h') : ∀ (d i : Nat) (lv : List (Nat × Value)) (h : MH) (F : Nat → Int) (V : Nat → Nat → Int) (xi : Int32), i + d = n + 1 → MX 49 W ρ m A h0 h F V G → g_ri F0 V0 F V i → g_rj F0 V0 V n i → xi.toInt = (i : Int) → m_lk lv 0 = some (.ref m) → m_lk lv 1 = some (.int xn) → m_lk lv 2 = some (.int xf) → m_lk lv 3 = some (.int xi) → HJ 221 7 lv [] h Q := by
  have w1 : d_sub g_mk W = true := d_subm hw (by decide +kernel)
  have w2 : d_sub [(60, 1001)] W = true := d_subm hw (by decide +kernel)
  intro d
  induction d with
  | zero =>
    intro i lv h F V xi hd M I IJ hi e0 e1 e2 e3
    have I' := I
    obtain ⟨sh, fn, fo, ro, rn, vo⟩ := I'
    have v32 : V 32 = V0 32 := vo 32 (by decide) (by decide) (by decide) (by decide)
    obtain ⟨y1, y2, y3, y4⟩ := wy 0 (by omega)
    have i1 : i = n + 1 := by omega
    subst i1
    refine s_ren7 M e0 e1 hn e2 hf e3 hi (by omega) (by omega) (fun z => by omega) (by rw [v32]; show 0 ≤ V0 32 0 ∧ V0 32 0 < 16000; omega) (by rw [v32]; show 0 ≤ V 22 (V0 32 0).toNat ∧ V 22 (V0 32 0).toNat ≤ 5; rw [ro _ (by omega)]; omega) n0 (by omega) hw2 (fun h4 V4 f4 M4 c9 a2 b2 => ?_) (fun x5 q5 x6 q6 x8 q8 c9 a7 b7 => by omega)
    rw [v32] at f4
    have f4 : V4 = m_u V 24 (m_u (V 24) (V 22 (V0 32 0).toNat).toNat (F0 17)) := f4
    rw [ro _ (by omega)] at f4
    exact g h4 F V V4 M4 I IJ f4
  | succ d ih =>
    intro i lv h F V xi hd M I IJ hi e0 e1 e2 e3
    obtain ⟨sh, fn, fo, ro, rn, vo⟩ := I
    have v32 : V 32 = V0 32 := vo 32 (by decide) (by decide) (by decide) (by decide)
    obtain ⟨y1, y2, y3, y4⟩ := wy 0 (by omega)
    obtain ⟨z1, z2, z3, z4⟩ := wy i (by omega)
    have rw0 : V 22 (V0 32 i).toNat = V0 22 (V0 32 i).toNat := ro _ (by omega)
    refine s_ren7 M e0 e1 hn e2 hf e3 hi (by omega) (by omega) (fun z => by rw [Int.toNat_natCast, v32]; omega) (by rw [v32]; show 0 ≤ V0 32 0 ∧ V0 32 0 < 16000; omega) (by rw [v32]; show 0 ≤ V 22 (V0 32 0).toNat ∧ V 22 (V0 32 0).toNat ≤ 5; rw [ro _ (by omega)]; omega) n0 (by omega) hw2 (fun h4 V4 f4 M4 c9 a2 b2 => by omega) (fun x5 q5 x6 q6 x8 q8 c9 a7 b7 => ?_)
    rw [Int.toNat_natCast, v32, rw0] at q8
    refine c_make M w1 q5 q6 q8 (by omega) (by omega) z3 (by omega) (fun x h3 F3 V3 hx M3 f3 r3 o3 v20 v21 => ?_)
    have u32 : V3 32 = V0 32 := by rw [o3 32 (by decide) (by decide) (by decide), v32]
    refine s_ren39 (x := F 17) M3 e0 e1 hn e2 hf e3 hi hx (fun x2 q2 lv3 a0 a1 a2 a3 a4 a5 => ?_)
    refine l_ren44 (x := F 17) (u := V0 32 i) (r := V0 22 (V0 32 i).toNat) (V0 := V) (V1 := V3) w2 (by omega) hn hf hi hx (by omega) (by omega) (by rw [u32]) z1 (by omega) (by rw [r3, m_uN _ _ _ _ (by omega), rw0]) z3 z4 (fun lv4 h4 V4 M4 o4 b1 b2 c0 c1 c2 c3 c4 => ?_) (V0 22 (V0 32 i).toNat).toNat 0 lv3 h3 V3 x2 (by omega) (by omega) q2 M3 (fun _ _ => rfl) (fun j hj => by rw [o3 23 (by decide) (by decide) (by decide)]) (fun p hp => by omega) a0 a1 a2 a3 a4 a5
    have r4 : V4 22 = m_u (V 22) (F 17).toNat (V0 22 (V0 32 i).toNat) := by rw [o4 22 (by decide), r3]
    have s4 : p_sh (F 17 + 1) (V4 22) (V4 23) := p_shC sh (by omega) z1 (by omega) rw0 r4 b1 b2
    have f17 : F3 17 = F 17 + 1 := by rw [f3, m_uE]
    have w32 : V4 32 = V0 32 := by rw [o4 32 (by decide), u32]
    have rr : V4 22 (V0 32 i).toNat = V0 22 (V0 32 i).toNat := by rw [r4, m_uN _ _ _ _ (by omega), rw0]
    have J : ∀ V5 : Nat → Nat → Int, (∀ K, K ≠ 23 → V5 K = V4 K) → p_sh (F 17 + 1) (V5 22) (V5 23) → g_ri F0 V0 F3 V5 (i + 1) := fun V5 o5 s5 => by
      refine ⟨by rw [f17]; exact s5, by omega, fun K hK => by rw [f3, m_uN _ _ _ _ hK, fo K hK], fun v hv => ?_, fun j hj => ?_, fun K k1 k2 k3 k4 => by rw [o5 K k4, o4 K k4, o3 K k1 k2 k3, vo K k1 k2 k3 k4]⟩
      · rw [o5 22 (by decide), r4, m_uN _ _ _ _ (by omega)]
        exact ro v hv
      · rw [o5 22 (by decide), r4]
        by_cases e : j = i
        · rw [show (F0 17).toNat + j = (F 17).toNat by omega, m_uE, e]
        · rw [m_uN _ _ _ _ (by omega)]
          exact rn j (by omega)
    have v33 : V 33 = V0 33 := vo 33 (by decide) (by decide) (by decide) (by decide)
    have v34 : V 34 = V0 34 := vo 34 (by decide) (by decide) (by decide) (by decide)
    rw [Int.toNat_natCast, v33] at v20
    rw [Int.toNat_natCast, v34] at v21
    have nN : (F 17).toNat = (F0 17).toNat + i := by omega
    rw [nN] at b1 b2 v20 v21
    have JJ : ∀ V5 : Nat → Nat → Int, V5 20 = V4 20 → V5 21 = V4 21 → (∀ j, j < 6 * (F0 17).toNat → V5 23 j = V4 23 j) → (∀ j, j < i + 1 → ∀ r : Nat, (r : Int) < V0 22 (V0 32 j).toNat → V5 23 (6 * ((F0 17).toNat + j) + r) = if j + 1 = i ∧ (r : Int) = V0 22 (V0 32 (j + 1)).toNat then F0 17 + ((j : Int) + 1) else V4 23 (6 * ((F0 17).toNat + j) + r)) → g_rj F0 V0 V5 n (i + 1) := fun V5 k20 k21 k23 kc wq => by
      obtain ⟨q1, q2, q3⟩ := IJ wq
      obtain ⟨⟨c1, c2⟩, c3, c4⟩ := wq i (by omega)
      have w20 : V4 20 = m_u (V 20) ((F0 17).toNat + i) (V0 33 i) := by rw [o4 20 (by decide), v20 (by omega) (by omega)]
      have w21 : V4 21 = m_u (V 21) ((F0 17).toNat + i) (V0 34 i) := by rw [o4 21 (by decide), v21 (by omega) (by omega)]
      refine ⟨fun v hv => ?_, fun j hj => ?_, fun j hj => ?_⟩
      · rw [k20, k21, w20, w21, m_uN _ _ _ _ (by omega), m_uN _ _ _ _ (by omega)]
        exact q1 v hv
      · rw [k23 j hj, b1 j (by omega)]
        exact q2 j hj
      · rw [k20, k21, w20, w21]
        by_cases e : j = i
        · subst e
          rw [m_uE, m_uE]
          refine ⟨rfl, rfl, fun r hr => ?_⟩
          rw [kc j (by omega) r hr, if_neg (fun z => by omega), if_neg (fun z => by omega), b2 r (by omega)]
          exact q2 _ (by omega)
        · rw [m_uN _ _ _ _ (by omega), m_uN _ _ _ _ (by omega)]
          obtain ⟨t1, t2, t3⟩ := q3 j (by omega)
          refine ⟨t1, t2, fun r hr => ?_⟩
          have r5 := (wy j (by omega)).2.2.2
          rw [kc j (by omega) r hr]
          by_cases ej : j + 1 = i
          · by_cases er : (r : Int) = V0 22 (V0 32 (j + 1)).toNat
            · rw [if_pos ⟨ej, er⟩, if_pos ⟨by omega, er⟩]
            · rw [if_neg (fun z => er z.2), if_neg (fun z => er z.2), b1 _ (by omega), t3 r hr, if_neg (fun z => er z.2)]
          · rw [if_neg (fun z => ej z.1), b1 _ (by omega), t3 r hr]
            by_cases er : (r : Int) = V0 22 (V0 32 (j + 1)).toNat
            · rw [if_pos ⟨by omega, er⟩, if_pos ⟨by omega, er⟩]
            · rw [if_neg (fun z => er z.2), if_neg (fun z => er z.2)]
    refine s_ren96 (x := F 17) M4 c0 c1 hn c2 hf c3 hi c4 hx (by omega) (by omega) (by omega) (by omega) (fun z => by omega) (by rw [Int.toNat_natCast, w32]; omega) (by rw [Int.toNat_natCast, w32, rr]; omega) w2 (fun x1 q1 lv1 d0 d1 d2 d3 c97 => ?_) (fun h9 V9 f9 x10 q10 lv10 M9 d0 d1 d2 d3 c97 a6 b6 => ?_)
    · exact ih (i + 1) lv1 _ F3 V4 x1 (by omega) M4 (J V4 (fun _ _ => rfl) s4) (JJ V4 rfl rfl (fun _ _ => rfl) (fun j hj r hr => by rw [if_neg (fun z => by omega)])) (by omega) d0 d1 d2 d3
    · rw [Int.toNat_natCast, w32, rr] at f9
      have v9 : V9 23 = m_u (V4 23) (6 * (F 17 - 1) + V0 22 (V0 32 i).toNat).toNat (F 17) := by rw [f9, m_uE]
      refine ih (i + 1) lv10 h9 F3 V9 x10 (by omega) M9 (J V9 (fun K hK => by rw [f9, m_uN _ _ _ _ hK]) ?_) (JJ V9 (by rw [f9, m_uN _ _ _ _ (by decide)]) (by rw [f9, m_uN _ _ _ _ (by decide)]) (fun j hj => by rw [v9, m_uN _ _ _ _ (by omega)]) (fun j hj r hr => ?_)) (by omega) d0 d1 d2 d3
      rw [f9, m_uN _ _ _ _ (by decide), m_uE, show (6 * (F 17 - 1) + V0 22 (V0 32 i).toNat).toNat = 6 * (F 17 - 1).toNat + (V0 22 (V0 32 i).toNat).toNat by omega]
      exact p_shW s4 (by omega) (by omega) (by omega) (by rw [r4, m_uE]; omega)
      have r5 := (wy j (by omega)).2.2.2
      rw [v9]
      by_cases ej : j + 1 = i
      · by_cases er : (r : Int) = V0 22 (V0 32 (j + 1)).toNat
        · rw [if_pos ⟨ej, er⟩]
          rw [ej] at er
          rw [show 6 * ((F0 17).toNat + j) + r = (6 * (F 17 - 1) + V0 22 (V0 32 i).toNat).toNat by omega, m_uE]
          omega
        · rw [if_neg (fun z => er z.2), m_uN _ _ _ _ (by rw [ej] at er; omega)]
      · rw [if_neg (fun z => ej z.1), m_uN _ _ _ _ (by omega)]
theorem c_renew {n : Nat} {xn : Int32} (M : MX 49 W ρ m A h0 h F V G) (hw : d_sub g_md W = true) (sh : p_sh (F 17) (V 22) (V 23)) (hp : p_hp (F 17) (V 22) (V 24)) (n0 : 0 ≤ F 17) (n1 : F 17 + 6 ≤ 16000) (n5 : n ≤ 5) (wy : ∀ j, j ≤ n → 0 ≤ V 32 j ∧ V 32 j < F 17 ∧ 0 ≤ V 22 (V 32 j).toNat ∧ V 22 (V 32 j).toNat ≤ 5) (hn : xn.toInt = (n : Int)) (g : ∀ (h' : MH) (F' : Nat → Int) (V' : Nat → Nat → Int), MX 49 W ρ m A h0 h' F' V' G → g_ex F V F' V' 6 → g_rj F V V' n (n + 1) → F' 17 = F 17 + ((n : Int) + 1) → F' 19 = F 19 → F' 18 = F 18 → (∀ j, j < n + 1 → V' 22 ((F 17).toNat + j) = V 22 (V 32 j).toNat) → V' 24 = m_u (V 24) (V 22 (V 32 0).toNat).toNat (F 17) → Q none h') : HJ 221 0 (lv_args 0 [.ref m, .int xn]) [] h Q := by
  have w1 : d_sub g_ln W = true := d_subm hw (by decide +kernel)
  have w2 : d_sub [(61, 1001)] W = true := d_subm hw (by decide +kernel)
  refine s_ren0 M rfl rfl hn (fun x1 q1 x3 q3 lv4 e0 e1 e2 e3 a1 b1 => ?_)
  refine l_ren7 (F0 := F) (V0 := V) w1 w2 n0 n1 n5 wy hn q1 (fun h2 F2 V1 V2 M2 I IJ v2 => ?_) (n + 1) 0 lv4 h F V x3 (by omega) M ⟨sh, by omega, fun _ _ => rfl, fun _ _ => rfl, fun j hj => by omega, fun _ _ _ _ _ => rfl⟩ (fun _ => ⟨fun _ _ => ⟨rfl, rfl⟩, fun _ _ => rfl, fun j hj => absurd hj (Nat.not_lt_zero j)⟩) q3 e0 e1 e2 e3
  obtain ⟨i1, i2, i3, i4, i5, i6⟩ := I
  obtain ⟨y1, y2, y3, y4⟩ := wy 0 (by omega)
  have v22 : V2 22 = V1 22 := by rw [v2, m_uN _ _ _ _ (by decide)]
  have v23 : V2 23 = V1 23 := by rw [v2, m_uN _ _ _ _ (by decide)]
  have v24 : V2 24 = m_u (V 24) (V 22 (V 32 0).toNat).toNat (F 17) := by rw [v2, m_uE, i6 24 (by decide) (by decide) (by decide) (by decide)]
  refine g h2 F2 V2 M2 ⟨⟨by rw [v22, v23]; exact i1, fun r h6 => ?_⟩, ⟨by omega, by omega⟩, fun K k1 k2 k3 k4 => i3 K k1, fun v hv => by rw [v22]; exact i4 v hv, fun K hK => by rw [v2, m_uN _ _ _ _ (by omega)]; exact i6 K (by omega) (by omega) (by omega) (by omega)⟩ (fun wq => ?_) (by omega) (i3 19 (by decide)) (i3 18 (by decide)) (fun j hj => by rw [v22]; exact i5 j hj) v24
  rotate_left
  · have v20 : V2 20 = V1 20 := by rw [v2, m_uN _ _ _ _ (by decide)]
    have v21 : V2 21 = V1 21 := by rw [v2, m_uN _ _ _ _ (by decide)]
    rw [v20, v21, v23]
    exact IJ wq
  rw [v24, v22]
  by_cases e : r = (V 22 (V 32 0).toNat).toNat
  · rw [e, m_uE]
    refine Or.inr ⟨n0, by omega, ?_⟩
    have := i5 0 (by omega)
    rw [Nat.add_zero] at this
    rw [this]
    omega
  · rw [m_uN _ _ _ _ e]
    exact p_rtU (by omega) i4 (hp r h6)
theorem s_low0 {t k : Int} (M : MX 49 W ρ m A h0 h F V G) (e0 : m_lk lv 0 = some (.ref m)) {lx1 : Int32} (e1 : m_lk lv 1 = some (.int lx1)) (lq1 : lx1.toInt = t) {lx2 : Int32} (e2 : m_lk lv 2 = some (.int lx2)) (lq2 : lx2.toInt = k) 
    (g0 : HJ 219 0 (lv_args 0 [.ref m]) [] h (fun v h' => HJ 218 4 lv (v.toList ++ []) h' Q))
    : HJ 218 0 lv [] h Q := by
  refine hI_al (k := 0) rfl e0 rfl ?_ -- 0
  refine hM_iv M (by decide) rfl rfl (by decide) (as := []) (r := []) rfl rfl (by decide +kernel) rfl (by decide +kernel) rfl rfl rfl rfl rfl ?_ -- 1
  exact g0 
theorem s_low4 {t k : Int} (M : MX 49 W ρ m A h0 h F V G) (e0 : m_lk lv 0 = some (.ref m)) {lx1 : Int32} (e1 : m_lk lv 1 = some (.int lx1)) (lq1 : lx1.toInt = t) {lx2 : Int32} (e2 : m_lk lv 2 = some (.int lx2)) (lq2 : lx2.toInt = k) 
    (g0 : ∀ x1 : Int32, x1.toInt = (-1) → ∀ x3 : Int32, x3.toInt = 0 → ∀ lv4 : List (Nat × Value), m_lk lv4 0 = some (.ref m) → m_lk lv4 1 = some (.int lx1) → m_lk lv4 2 = some (.int lx2) → m_lk lv4 3 = some (.int x1) → m_lk lv4 4 = some (.int x3) → HJ 218 9 lv4 [] h Q)
    : HJ 218 4 lv [] h Q := by
  refine hM_ic (n := (-1)) rfl (by decide) rfl (fun x1 q1 => ?_) -- 4
  refine hM_si (k := 3) rfl (by decide +kernel) rfl (fun lv2 e2_3 u2 => ?_) -- 5
  have e2_0 := u2 0 _ (by decide) (Or.inl rfl) e0
  have e2_1 := u2 1 _ (by decide) (Or.inl rfl) e1
  have e2_2 := u2 2 _ (by decide) (Or.inl rfl) e2
  refine hM_ic (n := 0) rfl (by decide) rfl (fun x3 q3 => ?_) -- 6
  refine hM_si2 (k := 4) rfl (by decide +kernel) rfl (fun lv4 e4_4 u4 => ?_) -- 7
  have e4_0 := u4 0 _ (by decide) (Or.inl rfl) e2_0
  have e4_1 := u4 1 _ (by decide) (Or.inl rfl) e2_1
  have e4_2 := u4 2 _ (by decide) (Or.inl rfl) e2_2
  have e4_3 := u4 3 _ (by decide) (Or.inl rfl) e2_3
  exact g0 x1 q1 x3 q3 lv4 e4_0 e4_1 e4_2 e4_3 e4_4
theorem s_low9 {t k f i : Int} (M : MX 49 W ρ m A h0 h F V G) (e0 : m_lk lv 0 = some (.ref m)) {lx1 : Int32} (e1 : m_lk lv 1 = some (.int lx1)) (lq1 : lx1.toInt = t) {lx2 : Int32} (e2 : m_lk lv 2 = some (.int lx2)) (lq2 : lx2.toInt = k) {lx3 : Int32} (e3 : m_lk lv 3 = some (.int lx3)) (lq3 : lx3.toInt = f) {lx4 : Int32} (e4 : m_lk lv 4 = some (.int lx4)) (lq4 : lx4.toInt = i) (i0 : 0 ≤ i) (a0 : i < F 26 → 0 ≤ V 27 i.toNat ∧ V 27 i.toNat < 16000)
    (g0 : 0 ≤ F 26 → F 26 ≤ 63 → i ≥ F 26 → HJ 218 68 lv [] h Q)
    (g1 : 0 ≤ F 26 → F 26 ≤ 63 → i < F 26 → f ≠ (-1) → HJ 218 68 lv [] h Q)
    (g2 : ∀ x5 : Int32, x5.toInt = (-1) → ∀ x7 : Int32, x7.toInt = i + 1 → ∀ lv7 : List (Nat × Value), m_lk lv7 0 = some (.ref m) → m_lk lv7 1 = some (.int lx1) → m_lk lv7 2 = some (.int lx2) → m_lk lv7 3 = some (.int x5) → m_lk lv7 4 = some (.int x7) → 0 ≤ F 26 → F 26 ≤ 63 → i < F 26 → f = (-1) → 0 ≤ V 27 (i).toNat → V 27 (i).toNat ≤ 15999 → V 20 (V 27 (i).toNat).toNat ≠ t → HJ 218 9 lv7 [] h Q)
    (g3 : ∀ x10 : Int32, x10.toInt = (-1) → ∀ x12 : Int32, x12.toInt = i + 1 → ∀ lv12 : List (Nat × Value), m_lk lv12 0 = some (.ref m) → m_lk lv12 1 = some (.int lx1) → m_lk lv12 2 = some (.int lx2) → m_lk lv12 3 = some (.int x10) → m_lk lv12 4 = some (.int x12) → 0 ≤ F 26 → F 26 ≤ 63 → i < F 26 → f = (-1) → 0 ≤ V 27 (i).toNat → V 27 (i).toNat ≤ 15999 → V 20 (V 27 (i).toNat).toNat = t → V 21 (V 27 (i).toNat).toNat < k → HJ 218 9 lv12 [] h Q)
    (g4 : ∀ x14 : Int32, x14.toInt = i + 1 → ∀ lv14 : List (Nat × Value), m_lk lv14 0 = some (.ref m) → m_lk lv14 1 = some (.int lx1) → m_lk lv14 2 = some (.int lx2) → m_lk lv14 3 = some (.int lx4) → m_lk lv14 4 = some (.int x14) → 0 ≤ F 26 → F 26 ≤ 63 → i < F 26 → f = (-1) → 0 ≤ V 27 (i).toNat → V 27 (i).toNat ≤ 15999 → V 20 (V 27 (i).toNat).toNat = t → V 21 (V 27 (i).toNat).toNat ≥ k → HJ 218 9 lv14 [] h Q)
    : HJ 218 9 lv [] h Q := by
  refine hI_il2 (k := 4) rfl e4 rfl ?_ -- 9
  refine hI_al (k := 0) rfl e0 rfl ?_ -- 11
  refine hM_gi M (by decide) rfl rfl rfl (k := 26) (c := 9) (lo := 0) (hi := 63) rfl rfl rfl rfl rfl (fun x1 q1 a1 b1 => ?_) -- 12
  refine hM_cge (off := 53) (t := 68) rfl lq4 q1 (by decide) rfl (fun c15 => ?_) (fun c15 => ?_) -- 15
  · exact g0 a1 b1 c15
  · refine hI_il (k := 3) rfl e3 rfl ?_ -- 18
    refine hM_ic (n := (-1)) rfl (by decide) rfl (fun x2 q2 => ?_) -- 19
    refine hM_cne (off := 48) (t := 68) rfl lq3 q2 (by decide) rfl (fun c20 => ?_) (fun c20 => ?_) -- 20
    · exact g1 a1 b1 c15 c20
    · refine hI_al (k := 0) rfl e0 rfl ?_ -- 23
      refine hM_ga M (by decide) rfl rfl (k := 20) (c := 9) rfl rfl rfl (by decide +kernel) rfl ?_ -- 24
      refine hI_al (k := 0) rfl e0 rfl ?_ -- 27
      refine hM_ga M (by decide) rfl rfl (k := 27) (c := 9) rfl rfl rfl (by decide +kernel) rfl ?_ -- 28
      refine hI_il2 (k := 4) rfl e4 rfl ?_ -- 31
      refine hM_ia M (by decide) (K := 27) (R2 := 63) (L := 64) (H := 64) (lo := 0) (hi := 15999) rfl (by decide) rfl rfl (fun _ => rfl) rfl lq4 (by omega) (by omega) rfl (fun x3 q3 a3 b3 => ?_) -- 33
      refine hM_ba M (by decide) (K := 20) (R2 := 57) (L := 16000) (H := 16000) (lo := (-2147483648)) (hi := 2147483647) rfl (by decide) rfl rfl (Or.inl rfl) (fun _ => rfl) rfl q3 (by omega) (by omega) rfl (fun x4 q4 a4 b4 => ?_) -- 34
      refine hI_il (k := 1) rfl e1 rfl ?_ -- 35
      refine hM_cne (off := 24) (t := 60) rfl q4 lq1 (by decide) rfl (fun c36 => ?_) (fun c36 => ?_) -- 36
      · refine hM_ic (n := (-1)) rfl (by decide) rfl (fun x5 q5 => ?_) -- 60
        refine hM_si (k := 3) rfl (by decide +kernel) rfl (fun lv6 e6_3 u6 => ?_) -- 61
        have e6_0 := u6 0 _ (by decide) (Or.inl rfl) e0
        have e6_1 := u6 1 _ (by decide) (Or.inl rfl) e1
        have e6_2 := u6 2 _ (by decide) (Or.inl rfl) e2
        have e6_4 := u6 4 _ (by decide) (Or.inl rfl) e4
        refine hM_inc (k := 4) (z := 1) rfl e6_4 lq4 (by decide) (by omega) (by omega) (by decide +kernel) rfl (fun lv7 x7 q7 e7_4 u7 => ?_) -- 62
        have e7_0 := u7 0 _ (by decide) (Or.inl rfl) e6_0
        have e7_1 := u7 1 _ (by decide) (Or.inl rfl) e6_1
        have e7_2 := u7 2 _ (by decide) (Or.inl rfl) e6_2
        have e7_3 := u7 3 _ (by decide) (Or.inl rfl) e6_3
        refine hI_go (pc' := 9) (off := (-56)) rfl (by decide) ?_ -- 65
        exact g2 x5 q5 x7 q7 lv7 e7_0 e7_1 e7_2 e7_3 e7_4 a1 b1 c15 c20 a3 b3 c36
      · refine hI_al (k := 0) rfl e0 rfl ?_ -- 39
        refine hM_ga M (by decide) rfl rfl (k := 21) (c := 9) rfl rfl rfl (by decide +kernel) rfl ?_ -- 40
        refine hI_al (k := 0) rfl e0 rfl ?_ -- 43
        refine hM_ga M (by decide) rfl rfl (k := 27) (c := 9) rfl rfl rfl (by decide +kernel) rfl ?_ -- 44
        refine hI_il2 (k := 4) rfl e4 rfl ?_ -- 47
        refine hM_ia M (by decide) (K := 27) (R2 := 63) (L := 64) (H := 64) (lo := 0) (hi := 15999) rfl (by decide) rfl rfl (fun _ => rfl) rfl lq4 (by omega) (by omega) rfl (fun x8 q8 a8 b8 => ?_) -- 49
        refine hM_ba M (by decide) (K := 21) (R2 := 58) (L := 16000) (H := 16000) (lo := (-2147483648)) (hi := 2147483647) rfl (by decide) rfl rfl (Or.inl rfl) (fun _ => rfl) rfl q8 (by omega) (by omega) rfl (fun x9 q9 a9 b9 => ?_) -- 50
        refine hI_il (k := 2) rfl e2 rfl ?_ -- 51
        refine hM_clt (off := 8) (t := 60) rfl q9 lq2 (by decide) rfl (fun c52 => ?_) (fun c52 => ?_) -- 52
        · refine hM_ic (n := (-1)) rfl (by decide) rfl (fun x10 q10 => ?_) -- 60
          refine hM_si (k := 3) rfl (by decide +kernel) rfl (fun lv11 e11_3 u11 => ?_) -- 61
          have e11_0 := u11 0 _ (by decide) (Or.inl rfl) e0
          have e11_1 := u11 1 _ (by decide) (Or.inl rfl) e1
          have e11_2 := u11 2 _ (by decide) (Or.inl rfl) e2
          have e11_4 := u11 4 _ (by decide) (Or.inl rfl) e4
          refine hM_inc (k := 4) (z := 1) rfl e11_4 lq4 (by decide) (by omega) (by omega) (by decide +kernel) rfl (fun lv12 x12 q12 e12_4 u12 => ?_) -- 62
          have e12_0 := u12 0 _ (by decide) (Or.inl rfl) e11_0
          have e12_1 := u12 1 _ (by decide) (Or.inl rfl) e11_1
          have e12_2 := u12 2 _ (by decide) (Or.inl rfl) e11_2
          have e12_3 := u12 3 _ (by decide) (Or.inl rfl) e11_3
          refine hI_go (pc' := 9) (off := (-56)) rfl (by decide) ?_ -- 65
          exact g3 x10 q10 x12 q12 lv12 e12_0 e12_1 e12_2 e12_3 e12_4 a1 b1 c15 c20 a3 b3 c36 c52
        · refine hI_il2 (k := 4) rfl e4 rfl ?_ -- 55
          refine hI_go (pc' := 61) (off := 4) rfl (by decide) ?_ -- 57
          refine hM_si (k := 3) rfl (by decide +kernel) rfl (fun lv13 e13_3 u13 => ?_) -- 61
          have e13_0 := u13 0 _ (by decide) (Or.inl rfl) e0
          have e13_1 := u13 1 _ (by decide) (Or.inl rfl) e1
          have e13_2 := u13 2 _ (by decide) (Or.inl rfl) e2
          have e13_4 := u13 4 _ (by decide) (Or.inl rfl) e4
          refine hM_inc (k := 4) (z := 1) rfl e13_4 lq4 (by decide) (by omega) (by omega) (by decide +kernel) rfl (fun lv14 x14 q14 e14_4 u14 => ?_) -- 62
          have e14_0 := u14 0 _ (by decide) (Or.inl rfl) e13_0
          have e14_1 := u14 1 _ (by decide) (Or.inl rfl) e13_1
          have e14_2 := u14 2 _ (by decide) (Or.inl rfl) e13_2
          have e14_3 := u14 3 _ (by decide) (Or.inl rfl) e13_3
          refine hI_go (pc' := 9) (off := (-56)) rfl (by decide) ?_ -- 65
          exact g4 x14 q14 lv14 e14_0 e14_1 e14_2 e14_3 e14_4 a1 b1 c15 c20 a3 b3 c36 c52
theorem s_low68 {t k f : Int} (M : MX 49 W ρ m A h0 h F V G) (e0 : m_lk lv 0 = some (.ref m)) {lx1 : Int32} (e1 : m_lk lv 1 = some (.int lx1)) (lq1 : lx1.toInt = t) {lx2 : Int32} (e2 : m_lk lv 2 = some (.int lx2)) (lq2 : lx2.toInt = k) {lx3 : Int32} (e3 : m_lk lv 3 = some (.int lx3)) (lq3 : lx3.toInt = f) (f0 : -1 ≤ f) (f1 : f ≤ 62)
    (g0 : ∀ x2 : Int32, x2.toInt = V 28 (f).toNat → ∀ lv4 : List (Nat × Value), m_lk lv4 0 = some (.ref m) → m_lk lv4 1 = some (.int lx1) → m_lk lv4 2 = some (.int lx2) → m_lk lv4 3 = some (.int lx3) → m_lk lv4 4 = some (.int x2) → m_lk lv4 5 = some (.int x2) → f ≠ (-1) → 0 ≤ V 28 (f).toNat → V 28 (f).toNat ≤ 5 → HJ 218 87 lv4 [] h Q)
    (g1 : ∀ x5 : Int32, x5.toInt = 0 → f = (-1) → Q (some (.int x5)) h)
    : HJ 218 68 lv [] h Q := by
  refine hI_il (k := 3) rfl e3 rfl ?_ -- 68
  refine hM_ic (n := (-1)) rfl (by decide) rfl (fun x1 q1 => ?_) -- 69
  refine hM_cne (off := 5) (t := 75) rfl lq3 q1 (by decide) rfl (fun c70 => ?_) (fun c70 => ?_) -- 70
  · refine hI_al (k := 0) rfl e0 rfl ?_ -- 75
    refine hM_ga M (by decide) rfl rfl (k := 28) (c := 9) rfl rfl rfl (by decide +kernel) rfl ?_ -- 76
    refine hI_il (k := 3) rfl e3 rfl ?_ -- 79
    refine hM_ia M (by decide) (K := 28) (R2 := 64) (L := 64) (H := 64) (lo := 0) (hi := 5) rfl (by decide) rfl rfl (fun _ => rfl) rfl lq3 (by omega) (by omega) rfl (fun x2 q2 a2 b2 => ?_) -- 80
    refine hM_si2 (k := 4) rfl (by decide +kernel) rfl (fun lv3 e3_4 u3 => ?_) -- 81
    have e3_0 := u3 0 _ (by decide) (Or.inl rfl) e0
    have e3_1 := u3 1 _ (by decide) (Or.inl rfl) e1
    have e3_2 := u3 2 _ (by decide) (Or.inl rfl) e2
    have e3_3 := u3 3 _ (by decide) (Or.inl rfl) e3
    refine hI_il2 (k := 4) rfl e3_4 rfl ?_ -- 83
    refine hM_si2 (k := 5) rfl (by decide +kernel) rfl (fun lv4 e4_5 u4 => ?_) -- 85
    have e4_0 := u4 0 _ (by decide) (Or.inl rfl) e3_0
    have e4_1 := u4 1 _ (by decide) (Or.inl rfl) e3_1
    have e4_2 := u4 2 _ (by decide) (Or.inl rfl) e3_2
    have e4_3 := u4 3 _ (by decide) (Or.inl rfl) e3_3
    have e4_4 := u4 4 _ (by decide) (Or.inl rfl) e3_4
    exact g0 x2 q2 lv4 e4_0 e4_1 e4_2 e4_3 e4_4 e4_5 c70 a2 b2
  · refine hM_ic (n := 0) rfl (by decide) rfl (fun x5 q5 => ?_) -- 73
    refine hM_rb rfl rfl q5 (by omega) (by omega) ?_ -- 74
    exact g1 x5 q5 c70
theorem s_low87 {t k f n i : Int} (M : MX 49 W ρ m A h0 h F V G) (e0 : m_lk lv 0 = some (.ref m)) {lx1 : Int32} (e1 : m_lk lv 1 = some (.int lx1)) (lq1 : lx1.toInt = t) {lx2 : Int32} (e2 : m_lk lv 2 = some (.int lx2)) (lq2 : lx2.toInt = k) {lx3 : Int32} (e3 : m_lk lv 3 = some (.int lx3)) (lq3 : lx3.toInt = f) {lx4 : Int32} (e4 : m_lk lv 4 = some (.int lx4)) (lq4 : lx4.toInt = n) {lx5 : Int32} (e5 : m_lk lv 5 = some (.int lx5)) (lq5 : lx5.toInt = i) (i0 : -1 ≤ i) (i1 : i ≤ 5) (f0 : 0 ≤ i → 0 ≤ f ∧ f ≤ 62)(hw : d_sub [(68, 1001), (69, 1001), (70, 1001)] W = true)
    (g0 : i < 0 → HJ 218 156 lv [] h Q)
    (g1 : ∀ h2 : MH, ∀ V2 : Nat → Nat → Int, V2 = m_u V 32 (m_u (V 32) (i).toNat (V 27 (f).toNat)) → ∀ h5 : MH, ∀ V5 : Nat → Nat → Int, V5 = m_u V2 33 (m_u (V2 33) (i).toNat (V 20 (V 27 (f).toNat).toNat)) → ∀ h8 : MH, ∀ V8 : Nat → Nat → Int, V8 = m_u V5 34 (m_u (V5 34) (i).toNat (V 21 (V 27 (f).toNat).toNat)) → ∀ x9 : Int32, x9.toInt = V 29 (f).toNat → ∀ x11 : Int32, x11.toInt = i + (-1) → ∀ lv11 : List (Nat × Value), MX 49 W ρ m A h0 h8 F V8 G → m_lk lv11 0 = some (.ref m) → m_lk lv11 1 = some (.int lx1) → m_lk lv11 2 = some (.int lx2) → m_lk lv11 3 = some (.int x9) → m_lk lv11 4 = some (.int lx4) → m_lk lv11 5 = some (.int x11) → i ≥ 0 → 0 ≤ V 27 (f).toNat → V 27 (f).toNat ≤ 15999 → (-1) ≤ V 29 (f).toNat → V 29 (f).toNat ≤ 62 → HJ 218 87 lv11 [] h8 Q)
    : HJ 218 87 lv [] h Q := by
  refine hI_il2 (k := 5) rfl e5 rfl ?_ -- 87
  refine hM_zlt (off := 67) (t := 156) rfl lq5 (by decide) rfl (fun c89 => ?_) (fun c89 => ?_) -- 89
  · exact g0 c89
  · refine hI_al (k := 0) rfl e0 rfl ?_ -- 92
    refine hM_ga M (by decide) rfl rfl (k := 32) (c := 9) rfl rfl rfl (by decide +kernel) rfl ?_ -- 93
    refine hI_il2 (k := 5) rfl e5 rfl ?_ -- 96
    refine hI_al (k := 0) rfl e0 rfl ?_ -- 98
    refine hM_ga M (by decide) rfl rfl (k := 27) (c := 9) rfl rfl rfl (by decide +kernel) rfl ?_ -- 99
    refine hI_il (k := 3) rfl e3 rfl ?_ -- 102
    refine hM_ia M (by decide) (K := 27) (R2 := 63) (L := 64) (H := 64) (lo := 0) (hi := 15999) rfl (by decide) rfl rfl (fun _ => rfl) rfl lq3 (by omega) (by omega) rfl (fun x1 q1 a1 b1 => ?_) -- 103
    refine hM_is M (by decide) ok_49 (K := 32) (R2 := 68) (L := 6) (H := 6) (lo := 0) (hi := 15999) rfl (by decide) rfl rfl rfl (fun _ => rfl) (d_subm hw (by decide +kernel)) rfl lq5 q1 (by omega) (by omega) (by omega) (by omega) rfl (fun h2 V2 f2 M2 => ?_) -- 104
    refine hI_al (k := 0) rfl e0 rfl ?_ -- 105
    refine hM_ga M2 (by decide) rfl rfl (k := 33) (c := 9) rfl rfl rfl (by decide +kernel) rfl ?_ -- 106
    refine hI_il2 (k := 5) rfl e5 rfl ?_ -- 109
    refine hI_al (k := 0) rfl e0 rfl ?_ -- 111
    refine hM_ga M2 (by decide) rfl rfl (k := 20) (c := 9) rfl rfl rfl (by decide +kernel) rfl ?_ -- 112
    refine hI_al (k := 0) rfl e0 rfl ?_ -- 115
    refine hM_ga M2 (by decide) rfl rfl (k := 32) (c := 9) rfl rfl rfl (by decide +kernel) rfl ?_ -- 116
    refine hI_il2 (k := 5) rfl e5 rfl ?_ -- 119
    refine hM_ia M2 (by decide) (K := 32) (R2 := 68) (L := 6) (H := 6) (lo := 0) (hi := 15999) rfl (by decide) rfl rfl (fun _ => rfl) rfl lq5 (by omega) (by omega) rfl (fun x3 q3 a3 b3 => ?_) -- 121
    have w3 : V2 32 (i).toNat = V 27 (f).toNat := by rw [f2, m_uE, m_uE]
    rw [w3] at q3 a3 b3 -- 121
    refine hM_ba M2 (by decide) (K := 20) (R2 := 57) (L := 16000) (H := 16000) (lo := (-2147483648)) (hi := 2147483647) rfl (by decide) rfl rfl (Or.inl rfl) (fun _ => rfl) rfl q3 (by omega) (by omega) rfl (fun x4 q4 a4 b4 => ?_) -- 122
    have q4 : x4.toInt = V 20 (V 27 (f).toNat).toNat := by rw [q4, f2]; rfl
    rw [f2] at a4 b4
    change (-2147483648) ≤ V 20 (V 27 (f).toNat).toNat at a4
    change V 20 (V 27 (f).toNat).toNat ≤ 2147483647 at b4 -- 122
    refine hM_is M2 (by decide) ok_49 (K := 33) (R2 := 69) (L := 6) (H := 6) (lo := (-2147483648)) (hi := 2147483647) rfl (by decide) rfl rfl rfl (fun _ => rfl) (d_subm hw (by decide +kernel)) rfl lq5 q4 (by omega) (by omega) (by omega) (by omega) rfl (fun h5 V5 f5 M5 => ?_) -- 123
    refine hI_al (k := 0) rfl e0 rfl ?_ -- 124
    refine hM_ga M5 (by decide) rfl rfl (k := 34) (c := 9) rfl rfl rfl (by decide +kernel) rfl ?_ -- 125
    refine hI_il2 (k := 5) rfl e5 rfl ?_ -- 128
    refine hI_al (k := 0) rfl e0 rfl ?_ -- 130
    refine hM_ga M5 (by decide) rfl rfl (k := 21) (c := 9) rfl rfl rfl (by decide +kernel) rfl ?_ -- 131
    refine hI_al (k := 0) rfl e0 rfl ?_ -- 134
    refine hM_ga M5 (by decide) rfl rfl (k := 32) (c := 9) rfl rfl rfl (by decide +kernel) rfl ?_ -- 135
    refine hI_il2 (k := 5) rfl e5 rfl ?_ -- 138
    refine hM_ia M5 (by decide) (K := 32) (R2 := 68) (L := 6) (H := 6) (lo := 0) (hi := 15999) rfl (by decide) rfl rfl (fun _ => rfl) rfl lq5 (by omega) (by omega) rfl (fun x6 q6 a6 b6 => ?_) -- 140
    have w6 : V5 32 (i).toNat = V 27 (f).toNat := by rw [f5, m_uN _ _ _ _ (by decide), f2, m_uE, m_uE]
    rw [w6] at q6 a6 b6 -- 140
    refine hM_ba M5 (by decide) (K := 21) (R2 := 58) (L := 16000) (H := 16000) (lo := (-2147483648)) (hi := 2147483647) rfl (by decide) rfl rfl (Or.inl rfl) (fun _ => rfl) rfl q6 (by omega) (by omega) rfl (fun x7 q7 a7 b7 => ?_) -- 141
    have q7 : x7.toInt = V 21 (V 27 (f).toNat).toNat := by rw [q7, f5, f2]; rfl
    rw [f5, f2] at a7 b7
    change (-2147483648) ≤ V 21 (V 27 (f).toNat).toNat at a7
    change V 21 (V 27 (f).toNat).toNat ≤ 2147483647 at b7 -- 141
    refine hM_is M5 (by decide) ok_49 (K := 34) (R2 := 70) (L := 6) (H := 6) (lo := (-2147483648)) (hi := 2147483647) rfl (by decide) rfl rfl rfl (fun _ => rfl) (d_subm hw (by decide +kernel)) rfl lq5 q7 (by omega) (by omega) (by omega) (by omega) rfl (fun h8 V8 f8 M8 => ?_) -- 142
    refine hI_al (k := 0) rfl e0 rfl ?_ -- 143
    refine hM_ga M8 (by decide) rfl rfl (k := 29) (c := 9) rfl rfl rfl (by decide +kernel) rfl ?_ -- 144
    refine hI_il (k := 3) rfl e3 rfl ?_ -- 147
    refine hM_ia M8 (by decide) (K := 29) (R2 := 65) (L := 64) (H := 64) (lo := (-1)) (hi := 62) rfl (by decide) rfl rfl (fun _ => rfl) rfl lq3 (by omega) (by omega) rfl (fun x9 q9 a9 b9 => ?_) -- 148
    have q9 : x9.toInt = V 29 (f).toNat := by rw [q9, f8, f5, f2]; rfl
    rw [f8, f5, f2] at a9 b9
    change (-1) ≤ V 29 (f).toNat at a9
    change V 29 (f).toNat ≤ 62 at b9 -- 148
    refine hM_si (k := 3) rfl (by decide +kernel) rfl (fun lv10 e10_3 u10 => ?_) -- 149
    have e10_0 := u10 0 _ (by decide) (Or.inl rfl) e0
    have e10_1 := u10 1 _ (by decide) (Or.inl rfl) e1
    have e10_2 := u10 2 _ (by decide) (Or.inl rfl) e2
    have e10_4 := u10 4 _ (by decide) (Or.inl rfl) e4
    have e10_5 := u10 5 _ (by decide) (Or.inl rfl) e5
    refine hM_inc (k := 5) (z := (-1)) rfl e10_5 lq5 (by decide) (by omega) (by omega) (by decide +kernel) rfl (fun lv11 x11 q11 e11_5 u11 => ?_) -- 150
    have e11_0 := u11 0 _ (by decide) (Or.inl rfl) e10_0
    have e11_1 := u11 1 _ (by decide) (Or.inl rfl) e10_1
    have e11_2 := u11 2 _ (by decide) (Or.inl rfl) e10_2
    have e11_4 := u11 4 _ (by decide) (Or.inl rfl) e10_4
    have e11_3 := u11 3 _ (by decide) (Or.inl rfl) e10_3
    refine hI_go (pc' := 87) (off := (-66)) rfl (by decide) ?_ -- 153
    exact g1 h2 V2 f2 h5 V5 f5 h8 V8 f8 x9 q9 x11 q11 lv11 M8 e11_0 e11_1 e11_2 e11_3 e11_4 e11_5 c89 a1 b1 a9 b9
theorem s_low156 {k n : Int} (M : MX 49 W ρ m A h0 h F V G) (e0 : m_lk lv 0 = some (.ref m)) {lx2 : Int32} (e2 : m_lk lv 2 = some (.int lx2)) (lq2 : lx2.toInt = k) {lx4 : Int32} (e4 : m_lk lv 4 = some (.int lx4)) (lq4 : lx4.toInt = n) (n0 : 0 ≤ n) (n1 : n ≤ 5) (kT : -2147483648 ≤ k ∧ k ≤ 2147483647)(hw : d_sub [(70, 1001)] W = true)
    (g0 : ∀ h1 : MH, ∀ V1 : Nat → Nat → Int, V1 = m_u V 34 (m_u (V 34) (n).toNat (k)) → ∀ lv2 : List (Nat × Value), MX 49 W ρ m A h0 h1 F V1 G → m_lk lv2 0 = some (.ref m) → m_lk lv2 4 = some (.int lx4) → m_lk lv2 5 = some (.int lx4) → HJ 218 168 lv2 [] h1 Q)
    : HJ 218 156 lv [] h Q := by
  refine hI_al (k := 0) rfl e0 rfl ?_ -- 156
  refine hM_ga M (by decide) rfl rfl (k := 34) (c := 9) rfl rfl rfl (by decide +kernel) rfl ?_ -- 157
  refine hI_il2 (k := 4) rfl e4 rfl ?_ -- 160
  refine hI_il (k := 2) rfl e2 rfl ?_ -- 162
  refine hM_is M (by decide) ok_49 (K := 34) (R2 := 70) (L := 6) (H := 6) (lo := (-2147483648)) (hi := 2147483647) rfl (by decide) rfl rfl rfl (fun _ => rfl) (d_subm hw (by decide +kernel)) rfl lq4 lq2 (by omega) (by omega) (by omega) (by omega) rfl (fun h1 V1 f1 M1 => ?_) -- 163
  refine hI_il2 (k := 4) rfl e4 rfl ?_ -- 164
  refine hM_si2 (k := 5) rfl (by decide +kernel) rfl (fun lv2 e2_5 u2 => ?_) -- 166
  have e2_0 := u2 0 _ (by decide) (Or.inl rfl) e0
  have e2_2 := u2 2 _ (by decide) (Or.inl rfl) e2
  have e2_4 := u2 4 _ (by decide) (Or.inl rfl) e4
  exact g0 h1 V1 f1 lv2 M1 e2_0 e2_4 e2_5
theorem s_low168 {n i : Int} (M : MX 49 W ρ m A h0 h F V G) (e0 : m_lk lv 0 = some (.ref m)) {lx4 : Int32} (e4 : m_lk lv 4 = some (.int lx4)) (lq4 : lx4.toInt = n) {lx5 : Int32} (e5 : m_lk lv 5 = some (.int lx5)) (lq5 : lx5.toInt = i) (i0 : 0 ≤ i) (i1 : i ≤ 5)(hw : d_sub [(69, 1001), (70, 1001)] W = true)
    (g0 : i ≤ 0 → HJ 218 308 lv [] h Q)
    (g1 : ∀ h10 : MH, ∀ V10 : Nat → Nat → Int, V10 = m_u V 33 (m_u (V 33) (i).toNat (V 33 (i - 1).toNat)) → ∀ h13 : MH, ∀ V13 : Nat → Nat → Int, V13 = m_u V10 33 (m_u (V10 33) (i - 1).toNat (V 33 (i).toNat)) → ∀ h19 : MH, ∀ V19 : Nat → Nat → Int, V19 = m_u V13 34 (m_u (V13 34) (i).toNat (V 34 (i - 1).toNat)) → ∀ h22 : MH, ∀ V22 : Nat → Nat → Int, V22 = m_u V19 34 (m_u (V19 34) (i - 1).toNat (V 34 (i).toNat)) → ∀ x23 : Int32, x23.toInt = i + (-1) → ∀ lv23 : List (Nat × Value), MX 49 W ρ m A h0 h22 F V22 G → m_lk lv23 0 = some (.ref m) → m_lk lv23 4 = some (.int lx4) → m_lk lv23 5 = some (.int x23) → i > 0 → V 34 (i).toNat < V 34 (i - 1).toNat → HJ 218 168 lv23 [] h22 Q)
    (g2 : i > 0 → V 34 (i).toNat ≥ V 34 (i - 1).toNat → V 34 (i).toNat ≠ V 34 (i - 1).toNat → HJ 218 308 lv [] h Q)
    (g3 : i > 0 → V 34 (i).toNat ≥ V 34 (i - 1).toNat → V 34 (i).toNat = V 34 (i - 1).toNat → V 33 (i).toNat ≥ V 33 (i - 1).toNat → HJ 218 308 lv [] h Q)
    (g4 : ∀ h37 : MH, ∀ V37 : Nat → Nat → Int, V37 = m_u V 33 (m_u (V 33) (i).toNat (V 33 (i - 1).toNat)) → ∀ h40 : MH, ∀ V40 : Nat → Nat → Int, V40 = m_u V37 33 (m_u (V37 33) (i - 1).toNat (V 33 (i).toNat)) → ∀ h46 : MH, ∀ V46 : Nat → Nat → Int, V46 = m_u V40 34 (m_u (V40 34) (i).toNat (V 34 (i - 1).toNat)) → ∀ h49 : MH, ∀ V49 : Nat → Nat → Int, V49 = m_u V46 34 (m_u (V46 34) (i - 1).toNat (V 34 (i).toNat)) → ∀ x50 : Int32, x50.toInt = i + (-1) → ∀ lv50 : List (Nat × Value), MX 49 W ρ m A h0 h49 F V49 G → m_lk lv50 0 = some (.ref m) → m_lk lv50 4 = some (.int lx4) → m_lk lv50 5 = some (.int x50) → i > 0 → V 34 (i).toNat ≥ V 34 (i - 1).toNat → V 34 (i).toNat = V 34 (i - 1).toNat → V 33 (i).toNat < V 33 (i - 1).toNat → HJ 218 168 lv50 [] h49 Q)
    : HJ 218 168 lv [] h Q := by
  refine hI_il2 (k := 5) rfl e5 rfl ?_ -- 168
  refine hM_zle (off := 138) (t := 308) rfl lq5 (by decide) rfl (fun c170 => ?_) (fun c170 => ?_) -- 170
  · exact g0 c170
  · refine hI_al (k := 0) rfl e0 rfl ?_ -- 173
    refine hM_ga M (by decide) rfl rfl (k := 34) (c := 9) rfl rfl rfl (by decide +kernel) rfl ?_ -- 174
    refine hI_il2 (k := 5) rfl e5 rfl ?_ -- 177
    refine hM_ia M (by decide) (K := 34) (R2 := 70) (L := 6) (H := 6) (lo := (-2147483648)) (hi := 2147483647) rfl (by decide) rfl rfl (fun _ => rfl) rfl lq5 (by omega) (by omega) rfl (fun x1 q1 a1 b1 => ?_) -- 179
    refine hI_al (k := 0) rfl e0 rfl ?_ -- 180
    refine hM_ga M (by decide) rfl rfl (k := 34) (c := 9) rfl rfl rfl (by decide +kernel) rfl ?_ -- 181
    refine hI_il2 (k := 5) rfl e5 rfl ?_ -- 184
    refine hM_ic (n := 1) rfl (by decide) rfl (fun x2 q2 => ?_) -- 186
    refine hM_sub rfl lq5 q2 (by omega) (by omega) rfl (fun x3 q3 => ?_) -- 187
    refine hM_ia M (by decide) (K := 34) (R2 := 70) (L := 6) (H := 6) (lo := (-2147483648)) (hi := 2147483647) rfl (by decide) rfl rfl (fun _ => rfl) rfl q3 (by omega) (by omega) rfl (fun x4 q4 a4 b4 => ?_) -- 188
    refine hM_clt (off := 41) (t := 230) rfl q1 q4 (by decide) rfl (fun c189 => ?_) (fun c189 => ?_) -- 189
    · refine hI_al (k := 0) rfl e0 rfl ?_ -- 230
      refine hM_ga M (by decide) rfl rfl (k := 33) (c := 9) rfl rfl rfl (by decide +kernel) rfl ?_ -- 231
      refine hI_il2 (k := 5) rfl e5 rfl ?_ -- 234
      refine hM_ia M (by decide) (K := 33) (R2 := 69) (L := 6) (H := 6) (lo := (-2147483648)) (hi := 2147483647) rfl (by decide) rfl rfl (fun _ => rfl) rfl lq5 (by omega) (by omega) rfl (fun x5 q5 a5 b5 => ?_) -- 236
      refine hM_si2 (k := 6) rfl (by decide +kernel) rfl (fun lv6 e6_6 u6 => ?_) -- 237
      have e6_0 := u6 0 _ (by decide) (Or.inl rfl) e0
      have e6_4 := u6 4 _ (by decide) (Or.inl rfl) e4
      have e6_5 := u6 5 _ (by decide) (Or.inl rfl) e5
      refine hI_al (k := 0) rfl e6_0 rfl ?_ -- 239
      refine hM_ga M (by decide) rfl rfl (k := 33) (c := 9) rfl rfl rfl (by decide +kernel) rfl ?_ -- 240
      refine hI_il2 (k := 5) rfl e6_5 rfl ?_ -- 243
      refine hI_al (k := 0) rfl e6_0 rfl ?_ -- 245
      refine hM_ga M (by decide) rfl rfl (k := 33) (c := 9) rfl rfl rfl (by decide +kernel) rfl ?_ -- 246
      refine hI_il2 (k := 5) rfl e6_5 rfl ?_ -- 249
      refine hM_ic (n := 1) rfl (by decide) rfl (fun x7 q7 => ?_) -- 251
      refine hM_sub rfl lq5 q7 (by omega) (by omega) rfl (fun x8 q8 => ?_) -- 252
      refine hM_ia M (by decide) (K := 33) (R2 := 69) (L := 6) (H := 6) (lo := (-2147483648)) (hi := 2147483647) rfl (by decide) rfl rfl (fun _ => rfl) rfl q8 (by omega) (by omega) rfl (fun x9 q9 a9 b9 => ?_) -- 253
      refine hM_is M (by decide) ok_49 (K := 33) (R2 := 69) (L := 6) (H := 6) (lo := (-2147483648)) (hi := 2147483647) rfl (by decide) rfl rfl rfl (fun _ => rfl) (d_subm hw (by decide +kernel)) rfl lq5 q9 (by omega) (by omega) (by omega) (by omega) rfl (fun h10 V10 f10 M10 => ?_) -- 254
      refine hI_al (k := 0) rfl e6_0 rfl ?_ -- 255
      refine hM_ga M10 (by decide) rfl rfl (k := 33) (c := 9) rfl rfl rfl (by decide +kernel) rfl ?_ -- 256
      refine hI_il2 (k := 5) rfl e6_5 rfl ?_ -- 259
      refine hM_ic (n := 1) rfl (by decide) rfl (fun x11 q11 => ?_) -- 261
      refine hM_sub rfl lq5 q11 (by omega) (by omega) rfl (fun x12 q12 => ?_) -- 262
      refine hI_il2 (k := 6) rfl e6_6 rfl ?_ -- 263
      refine hM_is M10 (by decide) ok_49 (K := 33) (R2 := 69) (L := 6) (H := 6) (lo := (-2147483648)) (hi := 2147483647) rfl (by decide) rfl rfl rfl (fun _ => rfl) (d_subm hw (by decide +kernel)) rfl q12 q5 (by omega) (by omega) (by omega) (by omega) rfl (fun h13 V13 f13 M13 => ?_) -- 265
      refine hI_al (k := 0) rfl e6_0 rfl ?_ -- 266
      refine hM_ga M13 (by decide) rfl rfl (k := 34) (c := 9) rfl rfl rfl (by decide +kernel) rfl ?_ -- 267
      refine hI_il2 (k := 5) rfl e6_5 rfl ?_ -- 270
      refine hM_ia M13 (by decide) (K := 34) (R2 := 70) (L := 6) (H := 6) (lo := (-2147483648)) (hi := 2147483647) rfl (by decide) rfl rfl (fun _ => rfl) rfl lq5 (by omega) (by omega) rfl (fun x14 q14 a14 b14 => ?_) -- 272
      have q14 : x14.toInt = V 34 (i).toNat := by rw [q14, f13, f10]; rfl
      rw [f13, f10] at a14 b14
      change (-2147483648) ≤ V 34 (i).toNat at a14
      change V 34 (i).toNat ≤ 2147483647 at b14 -- 272
      refine hM_si2 (k := 6) rfl (by decide +kernel) rfl (fun lv15 e15_6 u15 => ?_) -- 273
      have e15_0 := u15 0 _ (by decide) (Or.inl rfl) e6_0
      have e15_4 := u15 4 _ (by decide) (Or.inl rfl) e6_4
      have e15_5 := u15 5 _ (by decide) (Or.inl rfl) e6_5
      refine hI_al (k := 0) rfl e15_0 rfl ?_ -- 275
      refine hM_ga M13 (by decide) rfl rfl (k := 34) (c := 9) rfl rfl rfl (by decide +kernel) rfl ?_ -- 276
      refine hI_il2 (k := 5) rfl e15_5 rfl ?_ -- 279
      refine hI_al (k := 0) rfl e15_0 rfl ?_ -- 281
      refine hM_ga M13 (by decide) rfl rfl (k := 34) (c := 9) rfl rfl rfl (by decide +kernel) rfl ?_ -- 282
      refine hI_il2 (k := 5) rfl e15_5 rfl ?_ -- 285
      refine hM_ic (n := 1) rfl (by decide) rfl (fun x16 q16 => ?_) -- 287
      refine hM_sub rfl lq5 q16 (by omega) (by omega) rfl (fun x17 q17 => ?_) -- 288
      refine hM_ia M13 (by decide) (K := 34) (R2 := 70) (L := 6) (H := 6) (lo := (-2147483648)) (hi := 2147483647) rfl (by decide) rfl rfl (fun _ => rfl) rfl q17 (by omega) (by omega) rfl (fun x18 q18 a18 b18 => ?_) -- 289
      have q18 : x18.toInt = V 34 (i - 1).toNat := by rw [q18, f13, f10]; rfl
      rw [f13, f10] at a18 b18
      change (-2147483648) ≤ V 34 (i - 1).toNat at a18
      change V 34 (i - 1).toNat ≤ 2147483647 at b18 -- 289
      refine hM_is M13 (by decide) ok_49 (K := 34) (R2 := 70) (L := 6) (H := 6) (lo := (-2147483648)) (hi := 2147483647) rfl (by decide) rfl rfl rfl (fun _ => rfl) (d_subm hw (by decide +kernel)) rfl lq5 q18 (by omega) (by omega) (by omega) (by omega) rfl (fun h19 V19 f19 M19 => ?_) -- 290
      refine hI_al (k := 0) rfl e15_0 rfl ?_ -- 291
      refine hM_ga M19 (by decide) rfl rfl (k := 34) (c := 9) rfl rfl rfl (by decide +kernel) rfl ?_ -- 292
      refine hI_il2 (k := 5) rfl e15_5 rfl ?_ -- 295
      refine hM_ic (n := 1) rfl (by decide) rfl (fun x20 q20 => ?_) -- 297
      refine hM_sub rfl lq5 q20 (by omega) (by omega) rfl (fun x21 q21 => ?_) -- 298
      refine hI_il2 (k := 6) rfl e15_6 rfl ?_ -- 299
      refine hM_is M19 (by decide) ok_49 (K := 34) (R2 := 70) (L := 6) (H := 6) (lo := (-2147483648)) (hi := 2147483647) rfl (by decide) rfl rfl rfl (fun _ => rfl) (d_subm hw (by decide +kernel)) rfl q21 q14 (by omega) (by omega) (by omega) (by omega) rfl (fun h22 V22 f22 M22 => ?_) -- 301
      refine hM_inc (k := 5) (z := (-1)) rfl e15_5 lq5 (by decide) (by omega) (by omega) (by decide +kernel) rfl (fun lv23 x23 q23 e23_5 u23 => ?_) -- 302
      have e23_0 := u23 0 _ (by decide) (Or.inl rfl) e15_0
      have e23_4 := u23 4 _ (by decide) (Or.inl rfl) e15_4
      have e23_6 := u23 6 _ (by decide) (Or.inl rfl) e15_6
      refine hI_go (pc' := 168) (off := (-137)) rfl (by decide) ?_ -- 305
      exact g1 h10 V10 f10 h13 V13 f13 h19 V19 f19 h22 V22 f22 x23 q23 lv23 M22 e23_0 e23_4 e23_5 c170 c189
    · refine hI_al (k := 0) rfl e0 rfl ?_ -- 192
      refine hM_ga M (by decide) rfl rfl (k := 34) (c := 9) rfl rfl rfl (by decide +kernel) rfl ?_ -- 193
      refine hI_il2 (k := 5) rfl e5 rfl ?_ -- 196
      refine hM_ia M (by decide) (K := 34) (R2 := 70) (L := 6) (H := 6) (lo := (-2147483648)) (hi := 2147483647) rfl (by decide) rfl rfl (fun _ => rfl) rfl lq5 (by omega) (by omega) rfl (fun x24 q24 a24 b24 => ?_) -- 198
      refine hI_al (k := 0) rfl e0 rfl ?_ -- 199
      refine hM_ga M (by decide) rfl rfl (k := 34) (c := 9) rfl rfl rfl (by decide +kernel) rfl ?_ -- 200
      refine hI_il2 (k := 5) rfl e5 rfl ?_ -- 203
      refine hM_ic (n := 1) rfl (by decide) rfl (fun x25 q25 => ?_) -- 205
      refine hM_sub rfl lq5 q25 (by omega) (by omega) rfl (fun x26 q26 => ?_) -- 206
      refine hM_ia M (by decide) (K := 34) (R2 := 70) (L := 6) (H := 6) (lo := (-2147483648)) (hi := 2147483647) rfl (by decide) rfl rfl (fun _ => rfl) rfl q26 (by omega) (by omega) rfl (fun x27 q27 a27 b27 => ?_) -- 207
      refine hM_cne (off := 100) (t := 308) rfl q24 q27 (by decide) rfl (fun c208 => ?_) (fun c208 => ?_) -- 208
      · exact g2 c170 c189 c208
      · refine hI_al (k := 0) rfl e0 rfl ?_ -- 211
        refine hM_ga M (by decide) rfl rfl (k := 33) (c := 9) rfl rfl rfl (by decide +kernel) rfl ?_ -- 212
        refine hI_il2 (k := 5) rfl e5 rfl ?_ -- 215
        refine hM_ia M (by decide) (K := 33) (R2 := 69) (L := 6) (H := 6) (lo := (-2147483648)) (hi := 2147483647) rfl (by decide) rfl rfl (fun _ => rfl) rfl lq5 (by omega) (by omega) rfl (fun x28 q28 a28 b28 => ?_) -- 217
        refine hI_al (k := 0) rfl e0 rfl ?_ -- 218
        refine hM_ga M (by decide) rfl rfl (k := 33) (c := 9) rfl rfl rfl (by decide +kernel) rfl ?_ -- 219
        refine hI_il2 (k := 5) rfl e5 rfl ?_ -- 222
        refine hM_ic (n := 1) rfl (by decide) rfl (fun x29 q29 => ?_) -- 224
        refine hM_sub rfl lq5 q29 (by omega) (by omega) rfl (fun x30 q30 => ?_) -- 225
        refine hM_ia M (by decide) (K := 33) (R2 := 69) (L := 6) (H := 6) (lo := (-2147483648)) (hi := 2147483647) rfl (by decide) rfl rfl (fun _ => rfl) rfl q30 (by omega) (by omega) rfl (fun x31 q31 a31 b31 => ?_) -- 226
        refine hM_cge (off := 81) (t := 308) rfl q28 q31 (by decide) rfl (fun c227 => ?_) (fun c227 => ?_) -- 227
        · exact g3 c170 c189 c208 c227
        · refine hI_al (k := 0) rfl e0 rfl ?_ -- 230
          refine hM_ga M (by decide) rfl rfl (k := 33) (c := 9) rfl rfl rfl (by decide +kernel) rfl ?_ -- 231
          refine hI_il2 (k := 5) rfl e5 rfl ?_ -- 234
          refine hM_ia M (by decide) (K := 33) (R2 := 69) (L := 6) (H := 6) (lo := (-2147483648)) (hi := 2147483647) rfl (by decide) rfl rfl (fun _ => rfl) rfl lq5 (by omega) (by omega) rfl (fun x32 q32 a32 b32 => ?_) -- 236
          refine hM_si2 (k := 6) rfl (by decide +kernel) rfl (fun lv33 e33_6 u33 => ?_) -- 237
          have e33_0 := u33 0 _ (by decide) (Or.inl rfl) e0
          have e33_4 := u33 4 _ (by decide) (Or.inl rfl) e4
          have e33_5 := u33 5 _ (by decide) (Or.inl rfl) e5
          refine hI_al (k := 0) rfl e33_0 rfl ?_ -- 239
          refine hM_ga M (by decide) rfl rfl (k := 33) (c := 9) rfl rfl rfl (by decide +kernel) rfl ?_ -- 240
          refine hI_il2 (k := 5) rfl e33_5 rfl ?_ -- 243
          refine hI_al (k := 0) rfl e33_0 rfl ?_ -- 245
          refine hM_ga M (by decide) rfl rfl (k := 33) (c := 9) rfl rfl rfl (by decide +kernel) rfl ?_ -- 246
          refine hI_il2 (k := 5) rfl e33_5 rfl ?_ -- 249
          refine hM_ic (n := 1) rfl (by decide) rfl (fun x34 q34 => ?_) -- 251
          refine hM_sub rfl lq5 q34 (by omega) (by omega) rfl (fun x35 q35 => ?_) -- 252
          refine hM_ia M (by decide) (K := 33) (R2 := 69) (L := 6) (H := 6) (lo := (-2147483648)) (hi := 2147483647) rfl (by decide) rfl rfl (fun _ => rfl) rfl q35 (by omega) (by omega) rfl (fun x36 q36 a36 b36 => ?_) -- 253
          refine hM_is M (by decide) ok_49 (K := 33) (R2 := 69) (L := 6) (H := 6) (lo := (-2147483648)) (hi := 2147483647) rfl (by decide) rfl rfl rfl (fun _ => rfl) (d_subm hw (by decide +kernel)) rfl lq5 q36 (by omega) (by omega) (by omega) (by omega) rfl (fun h37 V37 f37 M37 => ?_) -- 254
          refine hI_al (k := 0) rfl e33_0 rfl ?_ -- 255
          refine hM_ga M37 (by decide) rfl rfl (k := 33) (c := 9) rfl rfl rfl (by decide +kernel) rfl ?_ -- 256
          refine hI_il2 (k := 5) rfl e33_5 rfl ?_ -- 259
          refine hM_ic (n := 1) rfl (by decide) rfl (fun x38 q38 => ?_) -- 261
          refine hM_sub rfl lq5 q38 (by omega) (by omega) rfl (fun x39 q39 => ?_) -- 262
          refine hI_il2 (k := 6) rfl e33_6 rfl ?_ -- 263
          refine hM_is M37 (by decide) ok_49 (K := 33) (R2 := 69) (L := 6) (H := 6) (lo := (-2147483648)) (hi := 2147483647) rfl (by decide) rfl rfl rfl (fun _ => rfl) (d_subm hw (by decide +kernel)) rfl q39 q32 (by omega) (by omega) (by omega) (by omega) rfl (fun h40 V40 f40 M40 => ?_) -- 265
          refine hI_al (k := 0) rfl e33_0 rfl ?_ -- 266
          refine hM_ga M40 (by decide) rfl rfl (k := 34) (c := 9) rfl rfl rfl (by decide +kernel) rfl ?_ -- 267
          refine hI_il2 (k := 5) rfl e33_5 rfl ?_ -- 270
          refine hM_ia M40 (by decide) (K := 34) (R2 := 70) (L := 6) (H := 6) (lo := (-2147483648)) (hi := 2147483647) rfl (by decide) rfl rfl (fun _ => rfl) rfl lq5 (by omega) (by omega) rfl (fun x41 q41 a41 b41 => ?_) -- 272
          have q41 : x41.toInt = V 34 (i).toNat := by rw [q41, f40, f37]; rfl
          rw [f40, f37] at a41 b41
          change (-2147483648) ≤ V 34 (i).toNat at a41
          change V 34 (i).toNat ≤ 2147483647 at b41 -- 272
          refine hM_si2 (k := 6) rfl (by decide +kernel) rfl (fun lv42 e42_6 u42 => ?_) -- 273
          have e42_0 := u42 0 _ (by decide) (Or.inl rfl) e33_0
          have e42_4 := u42 4 _ (by decide) (Or.inl rfl) e33_4
          have e42_5 := u42 5 _ (by decide) (Or.inl rfl) e33_5
          refine hI_al (k := 0) rfl e42_0 rfl ?_ -- 275
          refine hM_ga M40 (by decide) rfl rfl (k := 34) (c := 9) rfl rfl rfl (by decide +kernel) rfl ?_ -- 276
          refine hI_il2 (k := 5) rfl e42_5 rfl ?_ -- 279
          refine hI_al (k := 0) rfl e42_0 rfl ?_ -- 281
          refine hM_ga M40 (by decide) rfl rfl (k := 34) (c := 9) rfl rfl rfl (by decide +kernel) rfl ?_ -- 282
          refine hI_il2 (k := 5) rfl e42_5 rfl ?_ -- 285
          refine hM_ic (n := 1) rfl (by decide) rfl (fun x43 q43 => ?_) -- 287
          refine hM_sub rfl lq5 q43 (by omega) (by omega) rfl (fun x44 q44 => ?_) -- 288
          refine hM_ia M40 (by decide) (K := 34) (R2 := 70) (L := 6) (H := 6) (lo := (-2147483648)) (hi := 2147483647) rfl (by decide) rfl rfl (fun _ => rfl) rfl q44 (by omega) (by omega) rfl (fun x45 q45 a45 b45 => ?_) -- 289
          have q45 : x45.toInt = V 34 (i - 1).toNat := by rw [q45, f40, f37]; rfl
          rw [f40, f37] at a45 b45
          change (-2147483648) ≤ V 34 (i - 1).toNat at a45
          change V 34 (i - 1).toNat ≤ 2147483647 at b45 -- 289
          refine hM_is M40 (by decide) ok_49 (K := 34) (R2 := 70) (L := 6) (H := 6) (lo := (-2147483648)) (hi := 2147483647) rfl (by decide) rfl rfl rfl (fun _ => rfl) (d_subm hw (by decide +kernel)) rfl lq5 q45 (by omega) (by omega) (by omega) (by omega) rfl (fun h46 V46 f46 M46 => ?_) -- 290
          refine hI_al (k := 0) rfl e42_0 rfl ?_ -- 291
          refine hM_ga M46 (by decide) rfl rfl (k := 34) (c := 9) rfl rfl rfl (by decide +kernel) rfl ?_ -- 292
          refine hI_il2 (k := 5) rfl e42_5 rfl ?_ -- 295
          refine hM_ic (n := 1) rfl (by decide) rfl (fun x47 q47 => ?_) -- 297
          refine hM_sub rfl lq5 q47 (by omega) (by omega) rfl (fun x48 q48 => ?_) -- 298
          refine hI_il2 (k := 6) rfl e42_6 rfl ?_ -- 299
          refine hM_is M46 (by decide) ok_49 (K := 34) (R2 := 70) (L := 6) (H := 6) (lo := (-2147483648)) (hi := 2147483647) rfl (by decide) rfl rfl rfl (fun _ => rfl) (d_subm hw (by decide +kernel)) rfl q48 q41 (by omega) (by omega) (by omega) (by omega) rfl (fun h49 V49 f49 M49 => ?_) -- 301
          refine hM_inc (k := 5) (z := (-1)) rfl e42_5 lq5 (by decide) (by omega) (by omega) (by decide +kernel) rfl (fun lv50 x50 q50 e50_5 u50 => ?_) -- 302
          have e50_0 := u50 0 _ (by decide) (Or.inl rfl) e42_0
          have e50_4 := u50 4 _ (by decide) (Or.inl rfl) e42_4
          have e50_6 := u50 6 _ (by decide) (Or.inl rfl) e42_6
          refine hI_go (pc' := 168) (off := (-137)) rfl (by decide) ?_ -- 305
          exact g4 h37 V37 f37 h40 V40 f40 h46 V46 f46 h49 V49 f49 x50 q50 lv50 M49 e50_0 e50_4 e50_5 c170 c189 c208 c227
theorem s_low308 {n : Int} (M : MX 49 W ρ m A h0 h F V G) (e0 : m_lk lv 0 = some (.ref m)) {lx4 : Int32} (e4 : m_lk lv 4 = some (.int lx4)) (lq4 : lx4.toInt = n) 
    (g0 : HJ 221 0 (lv_args 0 [.ref m, .int lx4]) [] h (fun v h' => HJ 218 314 lv (v.toList ++ []) h' Q))
    : HJ 218 308 lv [] h Q := by
  refine hI_al (k := 0) rfl e0 rfl ?_ -- 308
  refine hI_il2 (k := 4) rfl e4 rfl ?_ -- 309
  refine hM_iv M (by decide) rfl rfl (by decide) (as := [.int lx4]) (r := []) rfl rfl (by decide +kernel) rfl (by decide +kernel) rfl rfl rfl rfl rfl ?_ -- 311
  exact g0 
theorem s_low314 (M : MX 49 W ρ m A h0 h F V G)  
    (g0 : ∀ x1 : Int32, x1.toInt = 1 → Q (some (.int x1)) h)
    : HJ 218 314 lv [] h Q := by
  refine hM_ic (n := 1) rfl (by decide) rfl (fun x1 q1 => ?_) -- 314
  refine hM_rb rfl rfl q1 (by omega) (by omega) ?_ -- 315
  exact g0 x1 q1
theorem l_low9 {t k : Int} {w : Nat} {xt xk : Int32} (M : MX 49 W ρ m A h0 h F V G) (fw : F 26 = (w : Int)) (at_ : ∀ i, i < w → 0 ≤ V 27 i ∧ V 27 i < 16000) (at2 : ∀ i, i < w → V 27 i < F 17) (ht : xt.toInt = t) (hk : xk.toInt = k) (g : ∀ (lv : List (Nat × Value)) (xf : Int32), xf.toInt = -1 ∨ (0 ≤ xf.toInt ∧ xf.toInt < w) → (∀ S O, rs_of F V S → wk_of V w O → xf.toInt = lw_f S t k O w 0) → m_lk lv 0 = some (.ref m) → m_lk lv 1 = some (.int xt) → m_lk lv 2 = some (.int xk) → m_lk lv 3 = some (.int xf) → HJ 218 68 lv [] h Q) : ∀ (d i : Nat) (lv : List (Nat × Value)) (xf xi : Int32), i + d = w → xf.toInt = -1 ∨ (0 ≤ xf.toInt ∧ xf.toInt < w) → (∀ S O, rs_of F V S → wk_of V w O → (xf.toInt = -1 ∧ lw_f S t k O w 0 = lw_f S t k O d i) ∨ (xf.toInt ≠ -1 ∧ xf.toInt = lw_f S t k O w 0)) → xi.toInt = (i : Int) → m_lk lv 0 = some (.ref m) → m_lk lv 1 = some (.int xt) → m_lk lv 2 = some (.int xk) → m_lk lv 3 = some (.int xf) → m_lk lv 4 = some (.int xi) → HJ 218 9 lv [] h Q := by
  intro d
  induction d with
  | zero =>
    intro i lv xf xi hd I J hi e0 e1 e2 e3 e4
    exact s_low9 M e0 e1 ht e2 hk e3 rfl e4 hi (by omega) (fun z => by omega) (fun a1 b1 c15 => g lv xf I (fun S O a b => by
      rcases J S O a b with ⟨x1, x2⟩ | ⟨x1, x2⟩
      · rw [x1, x2]
        rfl
      · exact x2) e0 e1 e2 e3) (fun a1 b1 c15 c20 => by omega) (fun x5 q5 x7 q7 lv7 e7_0 e7_1 e7_2 e7_3 e7_4 a1 b1 c15 c20 a3 b3 c36 => by omega) (fun x5 q5 x7 q7 lv7 e7_0 e7_1 e7_2 e7_3 e7_4 a1 b1 c15 c20 a3 b3 c36 c52 => by omega) (fun x5 q5 lv7 e7_0 e7_1 e7_2 e7_3 e7_4 a1 b1 c15 c20 a3 b3 c36 c52 => by omega)
  | succ d ih =>
    intro i lv xf xi hd I J hi e0 e1 e2 e3 e4
    have tr : ∀ S O, rs_of F V S → wk_of V w O → ps_t S (O.2.1 i).toNat = V 20 (V 27 i).toNat ∧ ps_y S (O.2.1 i).toNat = V 21 (V 27 i).toNat := fun S O a b => by
      have a0 := at_ i (by omega)
      have a1 := at2 i (by omega)
      rw [(b.2 i (by omega)).1]
      obtain ⟨x1, -, x2, -⟩ := a.2.2.2 (V 27 i).toNat (by have := a.1; omega)
      exact ⟨x1, x2⟩
    have nxt : ∀ S O, rs_of F V S → wk_of V w O → xf.toInt = -1 → ¬ (V 20 (V 27 i).toNat = t ∧ k ≤ V 21 (V 27 i).toNat) → lw_f S t k O w 0 = lw_f S t k O d (i + 1) := fun S O a b x1 n => by
      obtain ⟨y1, y2⟩ := tr S O a b
      rw [((J S O a b).resolve_right (fun z => z.1 x1)).2, lw_f, y1, y2, if_neg n]
    have hit : ∀ S O, rs_of F V S → wk_of V w O → xf.toInt = -1 → (V 20 (V 27 i).toNat = t ∧ k ≤ V 21 (V 27 i).toNat) → lw_f S t k O w 0 = (i : Int) := fun S O a b x1 n => by
      obtain ⟨y1, y2⟩ := tr S O a b
      rw [((J S O a b).resolve_right (fun z => z.1 x1)).2, lw_f, y1, y2, if_pos n]
    refine s_low9 M e0 e1 ht e2 hk e3 rfl e4 hi (by omega) (fun z => by rw [Int.toNat_natCast]; exact at_ i (by omega)) (fun a1 b1 c15 => by omega) (fun a1 b1 c15 c20 => g lv xf I (fun S O a b => ((J S O a b).resolve_left (fun z => c20 z.1)).2) e0 e1 e2 e3) (fun x5 q5 x7 q7 lv7 e7_0 e7_1 e7_2 e7_3 e7_4 a1 b1 c15 c20 a3 b3 c36 => ?_) (fun x5 q5 x7 q7 lv7 e7_0 e7_1 e7_2 e7_3 e7_4 a1 b1 c15 c20 a3 b3 c36 c52 => ?_) (fun x7 q7 lv7 e7_0 e7_1 e7_2 e7_3 e7_4 a1 b1 c15 c20 a3 b3 c36 c52 => ?_)
    · rw [Int.toNat_natCast] at c36
      exact ih (i + 1) lv7 x5 x7 (by omega) (Or.inl q5) (fun S O a b => Or.inl ⟨q5, nxt S O a b c20 (fun z => c36 z.1)⟩) (by omega) e7_0 e7_1 e7_2 e7_3 e7_4
    · rw [Int.toNat_natCast] at c52
      exact ih (i + 1) lv7 x5 x7 (by omega) (Or.inl q5) (fun S O a b => Or.inl ⟨q5, nxt S O a b c20 (fun z => by omega)⟩) (by omega) e7_0 e7_1 e7_2 e7_3 e7_4
    · rw [Int.toNat_natCast] at c36 c52
      exact ih (i + 1) lv7 xi x7 (by omega) (Or.inr (by omega)) (fun S O a b => Or.inr ⟨by omega, by rw [hit S O a b c20 ⟨c36, by omega⟩]; omega⟩) (by omega) e7_0 e7_1 e7_2 e7_3 e7_4
theorem l_low87 {p t k : Int} {w n : Nat} {xt xk xn : Int32} {N : Int} {V0 : Nat → Nat → Int} (hw : d_sub [(68, 1001), (69, 1001), (70, 1001)] W = true) (N1 : N ≤ 16000) (w63 : w ≤ 63) (n5 : n ≤ 5) (X : w_X N (V0 22) (V0 27) (V0 29) (V0 28) w) (ht : xt.toInt = t) (hk : xk.toInt = k) (hn : xn.toInt = (n : Int)) (g : ∀ (lv : List (Nat × Value)) (h : MH) (V : Nat → Nat → Int), MX 49 W ρ m A h0 h F V G → (∀ K, K < 32 ∨ 34 < K → V K = V0 K) → (∀ j, j ≤ n → 0 ≤ V 32 j ∧ V 32 j < N ∧ V0 22 (V 32 j).toNat ≤ 5) → (∀ j, j ≤ n → V 33 j = V0 20 (V 32 j).toNat ∧ V 34 j = V0 21 (V 32 j).toNat) → (∀ O, wk_of V0 w O → ∀ j, j ≤ n → V 32 j = O.2.1 (lw_an O p (n - j)).toNat) → m_lk lv 0 = some (.ref m) → m_lk lv 2 = some (.int xk) → m_lk lv 4 = some (.int xn) → HJ 218 156 lv [] h Q) : ∀ (d : Nat) (i f : Int) (lv : List (Nat × Value)) (h : MH) (V : Nat → Nat → Int) (xf xi : Int32), i + 1 = d → i ≤ n → (0 ≤ i → 0 ≤ f ∧ f < w ∧ V0 28 f.toNat = i) → xf.toInt = f → xi.toInt = i → MX 49 W ρ m A h0 h F V G → (∀ K, K < 32 ∨ 34 < K → V K = V0 K) → (∀ j : Nat, i < j → j ≤ n → 0 ≤ V 32 j ∧ V 32 j < N ∧ V0 22 (V 32 j).toNat ≤ 5) → (∀ j : Nat, i < j → j ≤ n → V 33 j = V0 20 (V 32 j).toNat ∧ V 34 j = V0 21 (V 32 j).toNat) → (∀ O, wk_of V0 w O → (0 ≤ i → f = lw_an O p (n - i.toNat)) ∧ ∀ j : Nat, i < j → j ≤ n → V 32 j = O.2.1 (lw_an O p (n - j)).toNat) → m_lk lv 0 = some (.ref m) → m_lk lv 1 = some (.int xt) → m_lk lv 2 = some (.int xk) → m_lk lv 3 = some (.int xf) → m_lk lv 4 = some (.int xn) → m_lk lv 5 = some (.int xi) → HJ 218 87 lv [] h Q := by
  intro d
  induction d with
  | zero =>
    intro i f lv h V xf xi hd hin hf qf qi M vo wy wt wo e0 e1 e2 e3 e4 e5
    exact s_low87 M e0 e1 ht e2 hk e3 qf e4 hn e5 qi (by omega) (by omega) (fun z => by omega) hw (fun c => g lv h V M vo (fun j hj => wy j (by omega) hj) (fun j hj => wt j (by omega) hj) (fun O o j hj => (wo O o).2 j (by omega) hj) e0 e2 e4) (fun h2 V2 f2 h5 V5 f5 h8 V8 f8 x9 q9 x11 q11 lv11 M8 e11_0 e11_1 e11_2 e11_3 e11_4 e11_5 c89 a1 b1 a9 b9 => by omega)
  | succ d ih =>
    intro i f lv h V xf xi hd hin hf qf qi M vo wy wt wo e0 e1 e2 e3 e4 e5
    obtain ⟨g0, g1, g2⟩ := hf (by omega)
    obtain ⟨⟨x1, x2, x3⟩, x4⟩ := X f.toNat (by omega)
    refine s_low87 M e0 e1 ht e2 hk e3 qf e4 hn e5 qi (by omega) (by omega) (fun z => by omega) hw (fun c => by omega) (fun h2 V2 f2 h5 V5 f5 h8 V8 f8 x9 q9 x11 q11 lv11 M8 a0 a1 a2 a3 a4 a5 c89 _ _ _ _ => ?_)
    rw [vo 29 (by decide)] at q9
    have v32 : V8 32 = m_u (V 32) i.toNat (V0 27 f.toNat) := by rw [f8, m_uN _ _ _ _ (by decide), f5, m_uN _ _ _ _ (by decide), f2, m_uE, vo 27 (by decide)]
    refine ih (i + (-1)) (V0 29 f.toNat) lv11 h8 V8 x9 x11 (by omega) (by omega) (fun z => ?_) q9 q11 M8 (fun K hK => by rw [f8, m_uN _ _ _ _ (by omega), f5, m_uN _ _ _ _ (by omega), f2, m_uN _ _ _ _ (by omega), vo K hK]) (fun j j1 j2 => ?_) (fun j j1 j2 => ?_) (fun O o => ?_) a0 a1 a2 a3 a4 a5
    · rcases x4 with ⟨y1, y2⟩ | ⟨y1, y2, y3⟩ <;> omega
    · rw [v32]
      by_cases e : j = i.toNat
      · rw [e, m_uE]
        exact ⟨x1, x2, x3⟩
      · rw [m_uN _ _ _ _ e]
        exact wy j (by omega) j2
    · have v33 : V8 33 = m_u (V 33) i.toNat (V0 20 (V0 27 f.toNat).toNat) := by rw [f8, m_uN _ _ _ _ (by decide), f5, m_uE, f2, m_uN _ _ _ _ (by decide), vo 27 (by decide), vo 20 (by decide)]
      have v34 : V8 34 = m_u (V 34) i.toNat (V0 21 (V0 27 f.toNat).toNat) := by rw [f8, m_uE, f5, m_uN _ _ _ _ (by decide), f2, m_uN _ _ _ _ (by decide), vo 27 (by decide), vo 21 (by decide)]
      rw [v32, v33, v34]
      by_cases e : j = i.toNat
      · rw [e, m_uE, m_uE, m_uE]
        exact ⟨rfl, rfl⟩
      · rw [m_uN _ _ _ _ e, m_uN _ _ _ _ e, m_uN _ _ _ _ e]
        exact wt j (by omega) j2
    · obtain ⟨w1, w2⟩ := wo O o
      have w1 := w1 (by omega)
      have of := o.2 f.toNat (by omega)
      refine ⟨fun z => ?_, fun j j1 j2 => ?_⟩
      · rw [show n - (i + (-1)).toNat = n - i.toNat + 1 by omega, lw_an, ← w1]
        exact of.2.1.symm
      · rw [v32]
        by_cases e : j = i.toNat
        · rw [e, m_uE, ← w1]
          exact of.1.symm
        · rw [m_uN _ _ _ _ e]
          exact w2 j (by omega) j2
def b_J (T K : Nat → Int) (t k : Int) (n : Nat) (V : Nat → Nat → Int) (i : Nat) : Prop := ∀ j, j ≤ n → V 33 j = (if j = i then t else T (if i < j then j - 1 else j)) ∧ V 34 j = (if j = i then k else K (if i < j then j - 1 else j))
def b_R (T K : Nat → Int) (t k : Int) (n i : Nat) : Prop := ∀ S y, (∀ j, j ≤ n → ps_t S (y j) = T j ∧ ps_y S (y j) = K j) → lw_ri S t k y n = lw_ri S t k y i
theorem b_sw {T K : Nat → Int} {t k : Int} {n i : Nat} {V V' : Nat → Nat → Int} (B : b_J T K t k n V (i + 1)) (hi : i + 1 ≤ n) (a : V' 33 = m_u (m_u (V 33) (i + 1) (V 33 i)) i (V 33 (i + 1))) (b : V' 34 = m_u (m_u (V 34) (i + 1) (V 34 i)) i (V 34 (i + 1))) : b_J T K t k n V' i := fun j hj => by
  obtain ⟨p1, p2⟩ := B (i + 1) hi
  obtain ⟨q1, q2⟩ := B i (by omega)
  rw [if_pos rfl] at p1 p2
  rw [if_neg (by omega), if_neg (by omega)] at q1 q2
  rw [a, b]
  by_cases e : j = i
  · rw [e, m_uE, m_uE, if_pos rfl, if_pos rfl]
    exact ⟨p1, p2⟩
  · rw [m_uN _ _ _ _ e, m_uN _ _ _ _ e, if_neg e, if_neg e]
    by_cases e2 : j = i + 1
    · rw [e2, m_uE, m_uE, if_pos (by omega)]
      exact ⟨q1, q2⟩
    · rw [m_uN _ _ _ _ e2, m_uN _ _ _ _ e2]
      obtain ⟨r1, r2⟩ := B j hj
      rw [if_neg e2] at r1 r2
      by_cases e3 : i < j
      · rw [if_pos (show i + 1 < j by omega)] at r1 r2
        rw [if_pos e3]
        exact ⟨r1, r2⟩
      · rw [if_neg (show ¬ i + 1 < j by omega)] at r1 r2
        rw [if_neg e3]
        exact ⟨r1, r2⟩
theorem b_Rn {T K : Nat → Int} {t k : Int} {n i : Nat} (R : b_R T K t k n (i + 1)) (hi : i + 1 ≤ n) (c : k < K i ∨ (k = K i ∧ t < T i)) : b_R T K t k n i := fun S y e => by
  rw [R S y e, lw_ri, (e i (by omega)).1, (e i (by omega)).2, if_pos c]
theorem b_Re {T K : Nat → Int} {t k : Int} {n i : Nat} (R : b_R T K t k n (i + 1)) (hi : i + 1 ≤ n) (c : ¬ (k < K i ∨ (k = K i ∧ t < T i))) : ∀ S y, (∀ j, j ≤ n → ps_t S (y j) = T j ∧ ps_y S (y j) = K j) → lw_ri S t k y n = i + 1 := fun S y e => by
  rw [R S y e, lw_ri, (e i (by omega)).1, (e i (by omega)).2, if_neg c]
theorem b_JC {T K T2 K2 : Nat → Int} {t k : Int} {n i : Nat} {V : Nat → Nat → Int} (hi : i ≤ n) (e : ∀ j, j ≤ n → T j = T2 j ∧ K j = K2 j) (B : b_J T K t k n V i) : b_J T2 K2 t k n V i := fun j hj => by
  obtain ⟨b1, b2⟩ := B j hj
  have q : (if i < j then j - 1 else j) ≤ n := by split <;> omega
  rw [b1, b2, (e _ q).1, (e _ q).2]
  exact ⟨rfl, rfl⟩
theorem l_low168 {T K9 : Nat → Int} {t k : Int} {n : Nat} {xn : Int32} {V0 : Nat → Nat → Int} (hw : d_sub [(69, 1001), (70, 1001)] W = true) (hn : xn.toInt = (n : Int)) (g : ∀ (lv : List (Nat × Value)) (h : MH) (V : Nat → Nat → Int), MX 49 W ρ m A h0 h F V G → (∀ K, K ≠ 33 → K ≠ 34 → V K = V0 K) → (∃ e, e ≤ n ∧ b_J T K9 t k n V e ∧ ∀ S y, (∀ j, j ≤ n → ps_t S (y j) = T j ∧ ps_y S (y j) = K9 j) → lw_ri S t k y n = e) → m_lk lv 0 = some (.ref m) → m_lk lv 4 = some (.int xn) → HJ 218 308 lv [] h Q) : ∀ (i : Nat) (lv : List (Nat × Value)) (h : MH) (V : Nat → Nat → Int) (xi : Int32), i ≤ 5 → xi.toInt = (i : Int) → MX 49 W ρ m A h0 h F V G → (∀ K, K ≠ 33 → K ≠ 34 → V K = V0 K) → i ≤ n → b_J T K9 t k n V i → b_R T K9 t k n i → m_lk lv 0 = some (.ref m) → m_lk lv 4 = some (.int xn) → m_lk lv 5 = some (.int xi) → HJ 218 168 lv [] h Q := by
  intro i
  induction i with
  | zero =>
    intro lv h V xi h5 qi M vo en B R e0 e4 e5
    exact s_low168 M e0 e4 hn e5 qi (by omega) (by omega) hw (fun c => g lv h V M vo ⟨0, en, B, R⟩ e0 e4) (fun h10 V10 f10 h13 V13 f13 h19 V19 f19 h22 V22 f22 x23 q23 lv23 M22 e23_0 e23_4 e23_5 c170 c189 => by omega) (fun c170 c189 c208 => by omega) (fun c170 c189 c208 c227 => by omega) (fun h37 V37 f37 h40 V40 f40 h46 V46 f46 h49 V49 f49 x50 q50 lv50 M49 e50_0 e50_4 e50_5 c170 c189 c208 c227 => by omega)
  | succ i ih =>
    intro lv h V xi h5 qi M vo en B R e0 e4 e5
    have nx : ∀ {V1 V2 V3 V4 : Nat → Nat → Int} {a b c d : Nat → Int}, V1 = m_u V 33 a → V2 = m_u V1 33 b → V3 = m_u V2 34 c → V4 = m_u V3 34 d → ∀ K, K ≠ 33 → K ≠ 34 → V4 K = V0 K := fun p1 p2 p3 p4 K k1 k2 => by rw [p4, m_uN _ _ _ _ k2, p3, m_uN _ _ _ _ k2, p2, m_uN _ _ _ _ k1, p1, m_uN _ _ _ _ k1, vo K k1 k2]
    have iN : ((i + 1 : Nat) : Int).toNat = i + 1 := by omega
    have iM : (((i + 1 : Nat) : Int) - 1).toNat = i := by omega
    obtain ⟨p1, p2⟩ := B (i + 1) en
    obtain ⟨r1, r2⟩ := B i (by omega)
    rw [if_pos rfl] at p1 p2
    rw [if_neg (by omega), if_neg (by omega)] at r1 r2
    have sw : ∀ {V1 V2 V3 V4 : Nat → Nat → Int}, V1 = m_u V 33 (m_u (V 33) (i + 1) (V 33 i)) → V2 = m_u V1 33 (m_u (V1 33) i (V 33 (i + 1))) → V3 = m_u V2 34 (m_u (V2 34) (i + 1) (V 34 i)) → V4 = m_u V3 34 (m_u (V3 34) i (V 34 (i + 1))) → b_J T K9 t k n V4 i := fun {V1 V2 V3 V4} y1 y2 y3 y4 => b_sw B en (by rw [y4, m_uN _ _ _ _ (by decide), y3, m_uN _ _ _ _ (by decide), y2, m_uE, y1, m_uE]) (by rw [y4, m_uE, y3, m_uE, y2, m_uN _ _ _ _ (by decide), y1, m_uN _ _ _ _ (by decide)])
    have stop : ¬ (k < K9 i ∨ (k = K9 i ∧ t < T i)) → HJ 218 308 lv [] h Q := fun c => g lv h V M vo ⟨i + 1, en, B, b_Re R en c⟩ e0 e4
    exact s_low168 M e0 e4 hn e5 qi (by omega) (by omega) hw (fun c => by omega) (fun h10 V10 f10 h13 V13 f13 h19 V19 f19 h22 V22 f22 x23 q23 lv23 M22 a0 a4 a5 c170 c189 => by
      rw [iN, iM] at f10 f13 f19 f22 c189
      exact ih lv23 h22 V22 x23 (by omega) (by omega) M22 (nx f10 f13 f19 f22) (by omega) (sw f10 f13 f19 f22) (b_Rn R en (Or.inl (by omega))) a0 a4 a5) (fun c170 c189 c208 => by
      rw [iN, iM] at c189 c208
      exact stop (by omega)) (fun c170 c189 c208 c227 => by
      rw [iN, iM] at c189 c208 c227
      exact stop (by omega)) (fun h37 V37 f37 h40 V40 f40 h46 V46 f46 h49 V49 f49 x50 q50 lv50 M49 a0 a4 a5 c170 c189 c208 c227 => by
      rw [iN, iM] at f37 f40 f46 f49 c189 c208 c227
      exact ih lv50 h49 V49 x50 (by omega) (by omega) M49 (nx f37 f40 f46 f49) (by omega) (sw f37 f40 f46 f49) (b_Rn R en (Or.inr (by omega))) a0 a4 a5)
def g_lw : List (Nat × Nat) := g_md ++ g_wk ++ [(68, 1001), (69, 1001), (70, 1001)]
-- what a lowering must leave
def lp_P (F : Nat → Int) (V : Nat → Nat → Int) (S : PSt) (h : Nat → Int) (t k : Int) (F' : Nat → Int) (V' : Nat → Nat → Int) (x : Int) : Prop := (x = 0 ∧ lw_do S h t k = none ∧ rs_of F' V' S) ∨ (x = 1 ∧ ∃ X, lw_do S h t k = some X ∧ rs_of F' V' X.1 ∧ hp6 (V' 24) X.2)
theorem lw_fin {F1 F5 : Nat → Int} {V1 V4 V5 : Nat → Nat → Int} {S : PSt} {t k : Int} {n e : Nat} {y : Nat → Nat} (a : rs_of F1 V1 S) (sh : p_sh (F1 17) (V1 22) (V1 23)) (all : ∀ K, K < 32 ∨ 34 < K → V4 K = V1 K) (yw : ∀ j, j ≤ n → V4 32 j = (y j : Int) ∧ y j < ps_n S ∧ V1 22 (y j) ≤ 5) (t0 : 0 ≤ t) (t1 : t ≤ 127) (n5 : n ≤ 5) (k0 : 0 ≤ k) (k1 : k ≤ 99) (en : e ≤ n) (B : b_J (fun j => ps_t S (y j)) (fun j => ps_y S (y j)) t k n V4 e) (RJ : g_rj F1 V4 V5 n (n + 1)) (f17 : F5 17 = F1 17 + ((n : Int) + 1)) (f19 : F5 19 = F1 19) (k5 : ∀ j, j < n + 1 → V5 22 ((F1 17).toNat + j) = V4 22 (V4 32 j).toNat) (ko : ∀ v : Nat, (v : Int) < F1 17 → V5 22 v = V4 22 v) : rs_of F5 V5 (lw_mk S t k y n e (n + 1)) := by
  obtain ⟨i1, i2, i3, i4⟩ := a
  have nN : (F1 17).toNat = ps_n S := by omega
  obtain ⟨⟨m1, m2⟩, m3, m4⟩ := lw_mkV (S := S) (t := t) (k := k) (y := y) (n := n) (e := e) (n + 1)
  have ti : ∀ j, j ≤ n → (0 ≤ ps_t S (y j) ∧ ps_t S (y j) ≤ 127) ∧ 0 ≤ ps_y S (y j) ∧ ps_y S (y j) ≤ 99 := fun j hj => by
    obtain ⟨x1, x2, x3, x4, -⟩ := i4 (y j) (yw j hj).2.1
    rw [x1, x3]
    exact ⟨x2, x4⟩
  have bt : ∀ j, j ≤ n → (0 ≤ V4 33 j ∧ V4 33 j ≤ 127) ∧ 0 ≤ V4 34 j ∧ V4 34 j ≤ 99 := fun j hj => by
    obtain ⟨b1, b2⟩ := B j hj
    rw [b1, b2]
    by_cases q : j = e
    · rw [if_pos q, if_pos q]
      exact ⟨⟨t0, t1⟩, k0, k1⟩
    · rw [if_neg q, if_neg q]
      exact ti _ (by split <;> omega)
  obtain ⟨r1, r2, r3⟩ := RJ bt
  rw [nN] at r2 r3 k5
  unfold rs_of
  rw [m1, m2]
  refine ⟨by omega, by omega, ⟨by omega, by omega⟩, fun v hv => ?_⟩
  by_cases q : v < ps_n S
  · obtain ⟨c1, c2, c3, c4⟩ := m3 v q
    obtain ⟨x1, x2, x3, x4, x5, x6⟩ := i4 v q
    obtain ⟨d1, d2⟩ := r1 v (by omega)
    have e20 : V5 20 v = V1 20 v := by rw [d1, all 20 (by decide)]
    have e21 : V5 21 v = V1 21 v := by rw [d2, all 21 (by decide)]
    have e22 : V5 22 v = V1 22 v := by rw [ko v (by omega), all 22 (by decide)]
    rw [c1, c2, c3, e20, e21, e22]
    refine ⟨x1, x2, x3, x4, x5, fun r hr => ?_⟩
    have := (sh v (by omega)).1
    rw [c4 r (by omega), r2 _ (by omega), all 23 (by decide)]
    exact x6 r hr
  · obtain ⟨j, rfl⟩ : ∃ j, v = ps_n S + j := ⟨v - ps_n S, by omega⟩
    have hj : j < n + 1 := by omega
    obtain ⟨c1, c2, c3, c4⟩ := m4 j hj
    obtain ⟨b1, b2⟩ := B j (by omega)
    obtain ⟨d1, d2, d3⟩ := r3 j hj
    obtain ⟨y1, y2, y3⟩ := yw j (by omega)
    have wy : (V4 32 j).toNat = y j := by omega
    obtain ⟨x1, x2, x3, x4, x5, x6⟩ := i4 (y j) y2
    have e22 : V5 22 (ps_n S + j) = V1 22 (y j) := by rw [k5 j hj, wy, all 22 (by decide)]
    rw [c1, c2, c3, d1, d2, e22]
    refine ⟨b1.symm, (bt j (by omega)).1, b2.symm, (bt j (by omega)).2, x5, fun r hr => ?_⟩
    rw [c4 r (by omega), d3 r (by rw [wy, all 22 (by decide)]; exact hr), wy, all 23 (by decide), x6 r hr]
    by_cases jn : j < n
    · obtain ⟨z1, z2, z3⟩ := yw (j + 1) (by omega)
      have wz : (V4 32 (j + 1)).toNat = y (j + 1) := by omega
      rw [wz, all 22 (by decide), (i4 (y (j + 1)) z2).2.2.2.2.1]
      by_cases er : (r : Int) = V1 22 (y (j + 1))
      · rw [if_pos ⟨jn, er⟩, if_pos ⟨by omega, er⟩]
        omega
      · rw [if_neg (fun z => er z.2), if_neg (fun z => er z.2)]
    · rw [if_neg (fun z => jn z.1), if_neg (fun z => by omega)]
theorem lw_do0 {S : PSt} {h : Nat → Int} {t k : Int} (e : lw_f S t k (wk_all S h) (wk_all S h).1 0 = -1) : lw_do S h t k = none := by
  unfold lw_do
  simp only [if_pos e]
theorem lw_do1 {S : PSt} {h : Nat → Int} {t k p : Int} {n : Nat} {y : Nat → Nat} (e : lw_f S t k (wk_all S h) (wk_all S h).1 0 = p) (e1 : p ≠ -1) (en : ((wk_all S h).2.2.2 p.toNat).toNat = n) (ey : lw_y (wk_all S h) p n = y) : lw_do S h t k = some (lw_mk S t k y n (lw_ri S t k y n) (n + 1), m_u h (ps_k S (y 0)).toNat (ps_n S : Int)) := by
  subst e en ey
  unfold lw_do
  simp only [if_neg e1]
theorem c_lowers {xt xk : Int32} (M : MX 49 W ρ m A h0 h F V G) (b0_ : m_lk lv 0 = some (.ref m)) (b1_ : m_lk lv 1 = some (.int xt)) (b2_ : m_lk lv 2 = some (.int xk)) (hw : d_sub g_lw W = true) (sh : p_sh (F 17) (V 22) (V 23)) (hp : p_hp (F 17) (V 22) (V 24)) (n0 : 0 ≤ F 17) (n1 : F 17 + 6 ≤ 16000) (g : ∀ (x : Int32) (h' : MH) (F' : Nat → Int) (V' : Nat → Nat → Int), 0 ≤ x.toInt → x.toInt ≤ 1 → MX 49 W ρ m A h0 h' F' V' G → g_ex F V F' V' 6 → (∀ S h, rs_of F V S → hp6 (V 24) h → 0 ≤ xk.toInt → xk.toInt ≤ 99 → lp_P F V S h xt.toInt xk.toInt F' V' x.toInt) → F' 18 = F 18 → Q (some (.int x)) h') : HJ 218 0 lv [] h Q := by
  have w1 : d_sub g_wk W = true := d_subm hw (by decide +kernel)
  have w2 : d_sub g_md W = true := d_subm hw (by decide +kernel)
  have w3 : d_sub [(68, 1001), (69, 1001), (70, 1001)] W = true := d_subm hw (by decide +kernel)
  have w4 : d_sub [(69, 1001), (70, 1001)] W = true := d_subm hw (by decide +kernel)
  have w5 : d_sub [(70, 1001)] W = true := d_subm hw (by decide +kernel)
  have kT : -2147483648 ≤ xk.toInt ∧ xk.toInt ≤ 2147483647 := g_iT xk
  have w63 := p_wsL (f := V 24) 6
  have p64 : (2 : Nat) ^ 6 = 64 := rfl
  refine s_low0 M b0_ b1_ rfl b2_ rfl (c_walkAll M rfl w1 sh hp (by omega) (fun h1 F1 V1 M1 I1 fw X WO => ?_))
  have rs1 : ∀ S, rs_of F V S → rs_of F1 V1 S := fun S a => rs_ofV a (I1.1 17 (by decide)) (I1.1 19 (by decide)) (I1.2 20 (by decide)) (I1.2 21 (by decide)) (I1.2 22 (by decide)) (I1.2 23 (by decide))
  have v22 : V1 22 = V 22 := I1.2 22 (by decide)
  have v23 : V1 23 = V 23 := I1.2 23 (by decide)
  have v24 : V1 24 = V 24 := I1.2 24 (by decide)
  have f17 : F1 17 = F 17 := I1.1 17 (by decide)
  refine s_low4 M1 b0_ b1_ rfl b2_ rfl (fun x1 q1 x3 q3 lv4 e0 e1 e2 e3 e4 => ?_)
  refine l_low9 M1 fw (fun i hi => ?_) (fun i hi => by rw [f17]; exact (X i hi).1.2.1) rfl rfl (fun lv5 xf hf LF d0 d1 d2 d3 => ?_) (p_ws (V 24) 6) 0 lv4 x1 x3 (by omega) (Or.inl q1) (fun _ _ _ _ => Or.inl ⟨q1, rfl⟩) q3 e0 e1 e2 e3 e4
  · have := (X i hi).1
    omega
  · refine s_low68 M1 d0 d1 rfl d2 rfl d3 rfl (by omega) (by omega) (fun x2 q2 lv6 a0 a1 a2 a3 a4 a5 c70 _ _ => ?_) (fun x5 q5 c5 => g x5 h1 F1 V1 (by omega) (by omega) M1 ⟨⟨by rw [f17, v22, v23]; exact sh, by rw [f17, v22, v24]; exact hp⟩, ⟨by omega, by omega⟩, fun K k1 k2 k3 k4 => I1.1 K k4, fun v hv => by rw [v22], fun K hK => I1.2 K (by omega)⟩ (fun S hh a e _ _ => Or.inl ⟨q5, lw_do0 (by rw [(WO S hh (rn_rs a) e).1, ← LF S _ (rs1 S a) (WO S hh (rn_rs a) e)]; exact c5), rs1 S a⟩) (I1.1 18 (by decide)))
    have hf1 := hf.resolve_left c70
    have dn := M1.vi (by decide) (K := 28) (R2 := 64) rfl (by decide) rfl rfl (lo := 0) (hi := 5) xf.toInt.toNat rfl (by omega)
    refine l_low87 (N := F 17) (V0 := V1) (w := p_ws (V 24) 6) (n := (V1 28 xf.toInt.toNat).toNat) w3 (by omega) (by omega) (by omega) (by rw [v22]; exact X) rfl rfl (by omega) (p := xf.toInt) (fun lv7 h2 V2 M2 vo wy wt wo b0 b2 b4 => ?_) (V1 28 xf.toInt.toNat + 1).toNat (V1 28 xf.toInt.toNat) xf.toInt lv6 h1 V1 xf x2 (by omega) (by omega) (fun _ => ⟨by omega, by omega, rfl⟩) rfl q2 M1 (fun _ _ => rfl) (fun j j1 j2 => by omega) (fun j j1 j2 => by omega) (fun O o => ⟨fun _ => by rw [Nat.sub_self]; rfl, fun j j1 j2 => by omega⟩) a0 a1 a2 a3 a4 a5
    refine s_low156 (k := xk.toInt) (n := V1 28 xf.toInt.toNat) M2 b0 b2 rfl b4 q2 (by omega) (by omega) kT w5 (fun h3 V3 f3 lv8 M3 c0 c4 c5 => ?_)
    generalize hT : V2 33 (V1 28 xf.toInt.toNat).toNat = T9
    refine l_low168 (T := V2 33) (K9 := V2 34) (t := T9) (k := xk.toInt) (V0 := V3) (n := (V1 28 xf.toInt.toNat).toNat) w4 (by omega) (fun lv9 h4 V4 M4 vo4 BE k0 k4 => ?_) (V1 28 xf.toInt.toNat).toNat lv8 h3 V3 x2 (by omega) (by omega) M3 (fun _ _ _ => rfl) (Nat.le_refl _) (fun j hj => ?_) (fun _ _ _ => rfl) c0 c4 c5
    rotate_left
    · rw [f3, m_uN _ _ _ _ (by decide), m_uE]
      by_cases ej : j = (V1 28 xf.toInt.toNat).toNat
      · rw [ej, m_uE, if_pos rfl, if_pos rfl]
        exact ⟨hT, rfl⟩
      · rw [m_uN _ _ _ _ ej, if_neg ej, if_neg ej, if_neg (by omega)]
        exact ⟨rfl, rfl⟩
    have all : ∀ K, K < 32 ∨ 34 < K → V4 K = V1 K := fun K hK => by rw [vo4 K (by omega) (by omega), f3, m_uN _ _ _ _ (by omega), vo K hK]
    have w32 : V4 32 = V2 32 := by rw [vo4 32 (by decide) (by decide), f3, m_uN _ _ _ _ (by decide)]
    have r22 : V4 22 = V 22 := (all 22 (by decide)).trans v22
    refine s_low308 (n := V1 28 xf.toInt.toNat) M4 k0 k4 q2 ?_
    refine c_renew (n := (V1 28 xf.toInt.toNat).toNat) M4 w2 (by rw [f17, r22, all 23 (by decide), v23]; exact sh) (by rw [f17, r22, all 24 (by decide), v24]; exact hp) (by omega) (by omega) (by omega) (fun j hj => ?_) (by omega) (fun h5 F5 V5 M5 J RJ n5 l5 t5 k5 h24 => ?_)
    · obtain ⟨y1, y2, y3⟩ := wy j hj
      rw [w32, r22, f17]
      rw [v22] at y3
      exact ⟨y1, y2, ((sh _ (by omega)).1).1, y3⟩
    · refine s_low314 M5 (fun x q => g x h5 F5 V5 (by omega) (by omega) M5 ?_ (fun S hh a e y0 y1 => ?_) (t5.trans (I1.1 18 (by decide))))
      rotate_left
      · have o := WO S hh (rn_rs a) e
        have a1 := rs1 S a
        have lf := LF S _ a1 o
        obtain ⟨e9, en, B, ER⟩ := BE
        have dn9 : (wk_all S hh).2.2.2 xf.toInt.toNat = V1 28 xf.toInt.toNat := (o.2 _ (by omega)).2.2
        have yv : ∀ j, j ≤ (V1 28 xf.toInt.toNat).toNat → V2 32 j = ((lw_y (wk_all S hh) xf.toInt (V1 28 xf.toInt.toNat).toNat j : Nat) : Int) := fun j hj => by
          have z1 := wo _ o j hj
          have z2 := (wy j hj).1
          unfold lw_y
          rw [← z1]
          omega
        have yl : ∀ j, j ≤ (V1 28 xf.toInt.toNat).toNat → lw_y (wk_all S hh) xf.toInt (V1 28 xf.toInt.toNat).toNat j < ps_n S := fun j hj => by
          have z1 := yv j hj
          have z2 := (wy j hj).2.1
          have z3 := a.1
          omega
        have P := lw_fP (S := S) (t := xt.toInt) (k := xk.toInt) (O := wk_all S hh) (d := p_ws (V 24) 6) (i := 0) (by rw [← lf]; exact c70)
        rw [← lf] at P
        have tt : T9 = xt.toInt := by
          rw [← hT, (wt _ (Nat.le_refl _)).1, wo _ o _ (Nat.le_refl _), Nat.sub_self, lw_an, ← (a1.2.2.2 _ (by
            have z1 := yl _ (Nat.le_refl _)
            unfold lw_y at z1
            rw [Nat.sub_self, lw_an] at z1
            exact z1)).1]
          exact P.2.2.1
        subst tt
        have ty : ∀ j, j ≤ (V1 28 xf.toInt.toNat).toNat → ps_t S (lw_y (wk_all S hh) xf.toInt (V1 28 xf.toInt.toNat).toNat j) = V2 33 j ∧ ps_y S (lw_y (wk_all S hh) xf.toInt (V1 28 xf.toInt.toNat).toNat j) = V2 34 j := fun j hj => by
          obtain ⟨q1, q2⟩ := wt j hj
          obtain ⟨x1, -, x3, -⟩ := a1.2.2.2 _ (yl j hj)
          rw [q1, q2, yv j hj, Int.toNat_natCast]
          exact ⟨x1, x3⟩
        have re := ER S _ ty
        refine Or.inr ⟨q, _, lw_do1 (p := xf.toInt) (n := (V1 28 xf.toInt.toNat).toNat) (by rw [o.1]; exact lf.symm) c70 (by rw [dn9]) rfl, ?_, ?_⟩
        · rw [re]
          have tr := P.2.2.1
          obtain ⟨-, x2, -⟩ := a1.2.2.2 _ (yl (V1 28 xf.toInt.toNat).toNat (Nat.le_refl _))
          have x1 := (a1.2.2.2 _ (yl (V1 28 xf.toInt.toNat).toNat (Nat.le_refl _))).1
          have x0 : ps_t S (lw_y (wk_all S hh) xf.toInt (V1 28 xf.toInt.toNat).toNat (V1 28 xf.toInt.toNat).toNat) = xt.toInt := by
            unfold lw_y
            rw [Nat.sub_self, lw_an]
            exact tr
          refine lw_fin a1 (by rw [f17, v22, v23]; exact sh) all (fun j hj => ⟨by rw [w32]; exact yv j hj, yl j hj, ?_⟩) (by omega) (by omega) (by omega) y0 y1 en (b_JC en (fun j hj => ⟨(ty j hj).1.symm, (ty j hj).2.symm⟩) B) RJ n5 l5 k5 J.2.2.2.1
          have z3 := (wy j hj).2.2
          rw [yv j hj, Int.toNat_natCast] at z3
          exact z3
        · have z0 := yv 0 (Nat.zero_le _)
          have z1 := a1.1
          rw [h24, all 24 (by decide), v24, all 22 (by decide), w32, z0, Int.toNat_natCast, z1, ← (a1.2.2.2 _ (yl 0 (Nat.zero_le _))).2.2.2.2.1]
          exact hp6_u e
      obtain ⟨j1, ⟨j2, j3⟩, j4, j5, j6⟩ := J
      refine ⟨j1, ⟨by omega, by omega⟩, fun K k1 k2 k3 k4 => (j4 K k1 k2 k3 k4).trans (I1.1 K k4), fun v hv => by rw [j5 v (by omega), r22], fun K hK => by rw [j6 K hK, all K (by omega), I1.2 K (by omega)]⟩
end
