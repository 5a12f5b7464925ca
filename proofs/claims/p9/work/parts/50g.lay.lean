-- VERSIONS, AND A ROW OF ACTS LAID
section
variable {lv : List (Nat × Value)} {Q : Option Value → MH → Prop} {W : List (Nat × Nat)} {ρ : Nat → Nat} {m : Nat} {A : Nat → Nat} {h0 h : MH} {F : Nat → Int} {V : Nat → Nat → Int} {G : Nat → Nat → Int64}
theorem s_in {x a b : Int} (M : MX 49 W ρ m A h0 h F V G) {lx0 : Int32} (e0 : m_lk lv 0 = some (.int lx0)) (lq0 : lx0.toInt = x) {lx1 : Int32} (e1 : m_lk lv 1 = some (.int lx1)) (lq1 : lx1.toInt = a) {lx2 : Int32} (e2 : m_lk lv 2 = some (.int lx2)) (lq2 : lx2.toInt = b) 
    (g0 : ∀ x1 : Int32, x1.toInt = 0 → x < a → Q (some (.int x1)) h)
    (g1 : ∀ x2 : Int32, x2.toInt = 0 → x ≥ a → x > b → Q (some (.int x2)) h)
    (g2 : ∀ x3 : Int32, x3.toInt = 1 → x ≥ a → x ≤ b → Q (some (.int x3)) h)
    : HJ 186 0 lv [] h Q := by
  refine hI_il (k := 0) rfl e0 rfl ?_ -- 0
  refine hI_il (k := 1) rfl e1 rfl ?_ -- 1
  refine hM_clt (off := 12) (t := 14) rfl lq0 lq1 (by decide) rfl (fun c2 => ?_) (fun c2 => ?_) -- 2
  · refine hM_ic (n := 0) rfl (by decide) rfl (fun x1 q1 => ?_) -- 14
    refine hM_rb rfl rfl q1 (by omega) (by omega) ?_ -- 15
    exact g0 x1 q1 c2
  · refine hI_il (k := 0) rfl e0 rfl ?_ -- 5
    refine hI_il (k := 2) rfl e2 rfl ?_ -- 6
    refine hM_cgt (off := 7) (t := 14) rfl lq0 lq2 (by decide) rfl (fun c7 => ?_) (fun c7 => ?_) -- 7
    · refine hM_ic (n := 0) rfl (by decide) rfl (fun x2 q2 => ?_) -- 14
      refine hM_rb rfl rfl q2 (by omega) (by omega) ?_ -- 15
      exact g1 x2 q2 c2 c7
    · refine hM_ic (n := 1) rfl (by decide) rfl (fun x3 q3 => ?_) -- 10
      refine hI_go (pc' := 15) (off := 4) rfl (by decide) ?_ -- 11
      refine hM_rb rfl rfl q3 (by omega) (by omega) ?_ -- 15
      exact g2 x3 q3 c2 c7
theorem c_in {x a b : Int} {xx xa xb : Int32} (M : MX 49 W ρ m A h0 h F V G) (hx : xx.toInt = x) (ha : xa.toInt = a) (hb : xb.toInt = b) (g : ∀ z : Int32, (z.toInt = 1 ∧ a ≤ x ∧ x ≤ b) ∨ (z.toInt = 0 ∧ (x < a ∨ b < x)) → Q (some (.int z)) h) : HJ 186 0 (lv_args 0 [.int xx, .int xa, .int xb]) [] h Q :=
  s_in M rfl hx rfl ha rfl hb (fun z q _ => g z (Or.inr ⟨q, Or.inl (by omega)⟩)) (fun z q _ _ => g z (Or.inr ⟨q, Or.inr (by omega)⟩)) (fun z q _ _ => g z (Or.inl ⟨q, by omega, by omega⟩))
theorem s_isv0 {v : Int} (M : MX 49 W ρ m A h0 h F V G) (e0 : m_lk lv 0 = some (.ref m)) {lx1 : Int32} (e1 : m_lk lv 1 = some (.int lx1)) (lq1 : lx1.toInt = v) 
    (g0 : ∀ x1 : Int32, x1.toInt = 0 → ∀ x4 : Int32, x4.toInt = (F 35) - 1 → 0 ≤ F 35 → F 35 ≤ 41 → HJ 186 0 (lv_args 0 [.int lx1, .int x1, .int x4]) [] h (fun v h' => HJ 205 11 lv (v.toList ++ []) h' Q))
    : HJ 205 0 lv [] h Q := by
  refine hI_il (k := 1) rfl e1 rfl ?_ -- 0
  refine hM_ic (n := 0) rfl (by decide) rfl (fun x1 q1 => ?_) -- 1
  refine hI_al (k := 0) rfl e0 rfl ?_ -- 2
  refine hM_gi M (by decide) rfl rfl rfl (k := 35) (c := 9) (lo := 0) (hi := 41) rfl rfl rfl rfl rfl (fun x2 q2 a2 b2 => ?_) -- 3
  refine hM_ic (n := 1) rfl (by decide) rfl (fun x3 q3 => ?_) -- 6
  refine hM_sub rfl q2 q3 (by omega) (by omega) rfl (fun x4 q4 => ?_) -- 7
  refine hM_is0 (as := [.int lx1, .int x1, .int x4]) (r := []) rfl rfl (by decide +kernel) rfl rfl rfl rfl rfl ?_ -- 8
  exact g0 x1 q1 x4 q4 a2 b2
theorem s_isv11 {z : Int} (M : MX 49 W ρ m A h0 h F V G) {sx0 : Int32} (sq0 : sx0.toInt = z) (z0 : 0 ≤ z) (z1 : z ≤ 1)
    (g0 : Q (some (.int sx0)) h)
    : HJ 205 11 lv [.int sx0] h Q := by
  refine hM_rb rfl rfl sq0 (by omega) (by omega) ?_ -- 11
  exact g0 
theorem c_isV {v : Int} {xv : Int32} (M : MX 49 W ρ m A h0 h F V G) (hv : xv.toInt = v) (g : ∀ z : Int32, (z.toInt = 1 ∧ 0 ≤ v ∧ v < F 35) ∨ (z.toInt = 0 ∧ (v < 0 ∨ F 35 ≤ v)) → Q (some (.int z)) h) : HJ 205 0 (lv_args 0 [.ref m, .int xv]) [] h Q := by
  refine s_isv0 M rfl rfl hv (fun x1 q1 x4 q4 a2 b2 => c_in M hv q1 q4 (fun z hz => ?_))
  exact s_isv11 (z := z.toInt) M rfl (by omega) (by omega) (g z (by omega))
theorem s_isr0 {r : Int} (M : MX 49 W ρ m A h0 h F V G) (e0 : m_lk lv 0 = some (.ref m)) {lx1 : Int32} (e1 : m_lk lv 1 = some (.int lx1)) (lq1 : lx1.toInt = r) 
    (g0 : ∀ x1 : Int32, x1.toInt = 0 → ∀ x5 : Int32, x5.toInt = (V 5 (0 : Int).toNat) - 1 → 0 ≤ V 5 (0 : Int).toNat → V 5 (0 : Int).toNat ≤ 4 → HJ 186 0 (lv_args 0 [.int lx1, .int x1, .int x5]) [] h (fun v h' => HJ 188 13 lv (v.toList ++ []) h' Q))
    : HJ 188 0 lv [] h Q := by
  refine hI_il (k := 1) rfl e1 rfl ?_ -- 0
  refine hM_ic (n := 0) rfl (by decide) rfl (fun x1 q1 => ?_) -- 1
  refine hI_al (k := 0) rfl e0 rfl ?_ -- 2
  refine hM_ga M (by decide) rfl rfl (k := 5) (c := 9) rfl rfl rfl (by decide +kernel) rfl ?_ -- 3
  refine hM_ic (n := 0) rfl (by decide) rfl (fun x2 q2 => ?_) -- 6
  refine hM_ia M (by decide) (K := 5) (R2 := 54) (L := 4) (H := 4) (lo := 0) (hi := 4) rfl (by decide) rfl rfl (fun _ => rfl) rfl q2 (by omega) (by omega) rfl (fun x3 q3 a3 b3 => ?_) -- 7
  refine hM_ic (n := 1) rfl (by decide) rfl (fun x4 q4 => ?_) -- 8
  refine hM_sub rfl q3 q4 (by omega) (by omega) rfl (fun x5 q5 => ?_) -- 9
  refine hM_is0 (as := [.int lx1, .int x1, .int x5]) (r := []) rfl rfl (by decide +kernel) rfl rfl rfl rfl rfl ?_ -- 10
  exact g0 x1 q1 x5 q5 a3 b3
theorem s_isr13 {z : Int} (M : MX 49 W ρ m A h0 h F V G) {sx0 : Int32} (sq0 : sx0.toInt = z) (z0 : 0 ≤ z) (z1 : z ≤ 1)
    (g0 : Q (some (.int sx0)) h)
    : HJ 188 13 lv [.int sx0] h Q := by
  refine hM_rb rfl rfl sq0 (by omega) (by omega) ?_ -- 13
  exact g0 
theorem c_isR {r : Int} {xr : Int32} (M : MX 49 W ρ m A h0 h F V G) (hr : xr.toInt = r) (g : ∀ z : Int32, (z.toInt = 1 ∧ 0 ≤ r ∧ r ≤ 3 ∧ r < V 5 0) ∨ (z.toInt = 0 ∧ ¬ (0 ≤ r ∧ r < V 5 0)) → Q (some (.int z)) h) : HJ 188 0 (lv_args 0 [.ref m, .int xr]) [] h Q := by
  refine s_isr0 M rfl rfl hr (fun x1 q1 x4 q4 a2 b2 => c_in M hr q1 q4 (fun z hz => ?_))
  have b2 : V 5 0 ≤ 4 := b2
  have hz : (z.toInt = 1 ∧ 0 ≤ r ∧ r ≤ V 5 0 - 1) ∨ (z.toInt = 0 ∧ (r < 0 ∨ V 5 0 - 1 < r)) := hz
  exact s_isr13 (z := z.toInt) M rfl (by omega) (by omega) (g z (by omega))
theorem s_acts {r : Int} (M : MX 49 W ρ m A h0 h F V G) (e0 : m_lk lv 0 = some (.ref m)) {lx1 : Int32} (e1 : m_lk lv 1 = some (.int lx1)) (lq1 : lx1.toInt = r) (r0 : 0 ≤ r) (r1 : r ≤ 3)
    (g0 : ∀ x3 : Int32, x3.toInt = V 6 (161 * r).toNat → Q (some (.int x3)) h)
    : HJ 198 0 lv [] h Q := by
  refine hI_al (k := 0) rfl e0 rfl ?_ -- 0
  refine hM_ga M (by decide) rfl rfl (k := 6) (c := 9) rfl rfl rfl (by decide +kernel) rfl ?_ -- 1
  refine hM_sp (n := 161) rfl (by decide) rfl (fun x1 q1 => ?_) -- 4
  refine hI_il (k := 1) rfl e1 rfl ?_ -- 7
  refine hM_mul rfl q1 lq1 (by omega) (by omega) rfl (fun x2 q2 => ?_) -- 8
  refine hM_ia M (by decide) (K := 6) (R2 := 55) (L := 2576) (H := 2576) (lo := (-2147483648)) (hi := 2147483647) rfl (by decide) rfl rfl (fun _ => rfl) rfl q2 (by omega) (by omega) rfl (fun x3 q3 a3 b3 => ?_) -- 9
  refine hI_ri rfl rfl ?_ -- 10
  exact g0 x3 q3
theorem s_act {r k q : Int} (M : MX 49 W ρ m A h0 h F V G) (e0 : m_lk lv 0 = some (.ref m)) {lx1 : Int32} (e1 : m_lk lv 1 = some (.int lx1)) (lq1 : lx1.toInt = r) {lx2 : Int32} (e2 : m_lk lv 2 = some (.int lx2)) (lq2 : lx2.toInt = k) {lx3 : Int32} (e3 : m_lk lv 3 = some (.int lx3)) (lq3 : lx3.toInt = q) (r0 : 0 ≤ r) (r1 : r ≤ 3) (k0 : 0 ≤ k) (k1 : k ≤ 39) (q0 : 0 ≤ q) (q1 : q ≤ 3)
    (g0 : ∀ x9 : Int32, x9.toInt = V 6 ((((161 * r) + 1) + (4 * k)) + q).toNat → Q (some (.int x9)) h)
    : HJ 199 0 lv [] h Q := by
  refine hI_al (k := 0) rfl e0 rfl ?_ -- 0
  refine hM_ga M (by decide) rfl rfl (k := 6) (c := 9) rfl rfl rfl (by decide +kernel) rfl ?_ -- 1
  refine hM_sp (n := 161) rfl (by decide) rfl (fun x1 q1 => ?_) -- 4
  refine hI_il (k := 1) rfl e1 rfl ?_ -- 7
  refine hM_mul rfl q1 lq1 (by omega) (by omega) rfl (fun x2 q2 => ?_) -- 8
  refine hM_ic (n := 1) rfl (by decide) rfl (fun x3 q3 => ?_) -- 9
  refine hM_add rfl q2 q3 (by omega) (by omega) rfl (fun x4 q4 => ?_) -- 10
  refine hM_ic (n := 4) rfl (by decide) rfl (fun x5 q5 => ?_) -- 11
  refine hI_il (k := 2) rfl e2 rfl ?_ -- 12
  refine hM_mul rfl q5 lq2 (by omega) (by omega) rfl (fun x6 q6 => ?_) -- 13
  refine hM_add rfl q4 q6 (by omega) (by omega) rfl (fun x7 q7 => ?_) -- 14
  refine hI_il (k := 3) rfl e3 rfl ?_ -- 15
  refine hM_add rfl q7 lq3 (by omega) (by omega) rfl (fun x8 q8 => ?_) -- 16
  refine hM_ia M (by decide) (K := 6) (R2 := 55) (L := 2576) (H := 2576) (lo := (-2147483648)) (hi := 2147483647) rfl (by decide) rfl rfl (fun _ => rfl) rfl q8 (by omega) (by omega) rfl (fun x9 q9 a9 b9 => ?_) -- 17
  refine hI_ri rfl rfl ?_ -- 18
  exact g0 x9 q9
theorem c_acts {r : Int} {xr : Int32} (M : MX 49 W ρ m A h0 h F V G) (hr : xr.toInt = r) (r0 : 0 ≤ r) (r1 : r ≤ 3) (g : ∀ z : Int32, z.toInt = V 6 (161 * r).toNat → Q (some (.int z)) h) : HJ 198 0 (lv_args 0 [.ref m, .int xr]) [] h Q := s_acts M rfl rfl hr r0 r1 g
theorem c_act {r k q : Int} {xr xk xq : Int32} (M : MX 49 W ρ m A h0 h F V G) (hr : xr.toInt = r) (hk : xk.toInt = k) (hq : xq.toInt = q) (r0 : 0 ≤ r) (r1 : r ≤ 3) (k0 : 0 ≤ k) (k1 : k ≤ 39) (q0 : 0 ≤ q) (q3 : q ≤ 3) (g : ∀ z : Int32, z.toInt = V 6 (161 * r + 1 + 4 * k + q).toNat → Q (some (.int z)) h) : HJ 199 0 (lv_args 0 [.ref m, .int xr, .int xk, .int xq]) [] h Q := s_act M rfl rfl hr rfl hk rfl hq r0 r1 k0 k1 q0 q3 g
-- a version's size
def p_wv (ro : Nat → Int) (v : Nat) : Nat := p_ws (fun r => ro (6 * v + r)) 6
theorem s_sza0 {v : Int} (M : MX 49 W ρ m A h0 h F V G) (e0 : m_lk lv 0 = some (.ref m)) {lx1 : Int32} (e1 : m_lk lv 1 = some (.int lx1)) (lq1 : lx1.toInt = v) 
    (g0 : ∀ x1 : Int32, x1.toInt = 0 → ∀ x3 : Int32, x3.toInt = 0 → ∀ lv4 : List (Nat × Value), m_lk lv4 0 = some (.ref m) → m_lk lv4 1 = some (.int lx1) → m_lk lv4 2 = some (.int x1) → m_lk lv4 3 = some (.int x3) → HJ 207 4 lv4 [] h Q)
    : HJ 207 0 lv [] h Q := by
  refine hM_ic (n := 0) rfl (by decide) rfl (fun x1 q1 => ?_) -- 0
  refine hM_si (k := 2) rfl (by decide +kernel) rfl (fun lv2 e2_2 u2 => ?_) -- 1
  have e2_0 := u2 0 _ (by decide) (Or.inl rfl) e0
  have e2_1 := u2 1 _ (by decide) (Or.inl rfl) e1
  refine hM_ic (n := 0) rfl (by decide) rfl (fun x3 q3 => ?_) -- 2
  refine hM_si (k := 3) rfl (by decide +kernel) rfl (fun lv4 e4_3 u4 => ?_) -- 3
  have e4_0 := u4 0 _ (by decide) (Or.inl rfl) e2_0
  have e4_1 := u4 1 _ (by decide) (Or.inl rfl) e2_1
  have e4_2 := u4 2 _ (by decide) (Or.inl rfl) e2_2
  exact g0 x1 q1 x3 q3 lv4 e4_0 e4_1 e4_2 e4_3
theorem s_sza4 {v n r : Int} (M : MX 49 W ρ m A h0 h F V G) (e0 : m_lk lv 0 = some (.ref m)) {lx1 : Int32} (e1 : m_lk lv 1 = some (.int lx1)) (lq1 : lx1.toInt = v) {lx2 : Int32} (e2 : m_lk lv 2 = some (.int lx2)) (lq2 : lx2.toInt = n) {lx3 : Int32} (e3 : m_lk lv 3 = some (.int lx3)) (lq3 : lx3.toInt = r) (r0 : 0 ≤ r) (v0 : 0 ≤ v) (v1 : v ≤ 40) (n0 : 0 ≤ n) (n1 : n ≤ 1000) (t0 : 0 ≤ (2 : Int) ^ r.toNat) (t1 : (2 : Int) ^ r.toNat ≤ 64)
    (g0 : r ≥ 6 → Q (some (.int lx2)) h)
    (g1 : ∀ x9 : Int32, x9.toInt = n + ((2 : Int) ^ (r).toNat) → ∀ x11 : Int32, x11.toInt = r + 1 → ∀ lv11 : List (Nat × Value), m_lk lv11 0 = some (.ref m) → m_lk lv11 1 = some (.int lx1) → m_lk lv11 2 = some (.int x9) → m_lk lv11 3 = some (.int x11) → r < 6 → (-1) ≤ V 36 ((6 * v) + r).toNat → V 36 ((6 * v) + r).toNat ≤ 15999 → V 36 ((6 * v) + r).toNat ≠ (-1) → HJ 207 4 lv11 [] h Q)
    (g2 : ∀ x13 : Int32, x13.toInt = n + 0 → ∀ x15 : Int32, x15.toInt = r + 1 → ∀ lv15 : List (Nat × Value), m_lk lv15 0 = some (.ref m) → m_lk lv15 1 = some (.int lx1) → m_lk lv15 2 = some (.int x13) → m_lk lv15 3 = some (.int x15) → r < 6 → (-1) ≤ V 36 ((6 * v) + r).toNat → V 36 ((6 * v) + r).toNat ≤ 15999 → V 36 ((6 * v) + r).toNat = (-1) → HJ 207 4 lv15 [] h Q)
    : HJ 207 4 lv [] h Q := by
  refine hI_il (k := 3) rfl e3 rfl ?_ -- 4
  refine hM_bp (n := 6) rfl (by decide) rfl (fun x1 q1 => ?_) -- 5
  refine hM_cge (off := 34) (t := 41) rfl lq3 q1 (by decide) rfl (fun c7 => ?_) (fun c7 => ?_) -- 7
  · refine hI_il (k := 2) rfl e2 rfl ?_ -- 41
    refine hI_ri rfl rfl ?_ -- 42
    exact g0 c7
  · refine hI_il (k := 2) rfl e2 rfl ?_ -- 10
    refine hI_al (k := 0) rfl e0 rfl ?_ -- 11
    refine hM_ga M (by decide) rfl rfl (k := 36) (c := 9) rfl rfl rfl (by decide +kernel) rfl ?_ -- 12
    refine hM_bp (n := 6) rfl (by decide) rfl (fun x2 q2 => ?_) -- 15
    refine hI_il (k := 1) rfl e1 rfl ?_ -- 17
    refine hM_mul rfl q2 lq1 (by omega) (by omega) rfl (fun x3 q3 => ?_) -- 18
    refine hI_il (k := 3) rfl e3 rfl ?_ -- 19
    refine hM_add rfl q3 lq3 (by omega) (by omega) rfl (fun x4 q4 => ?_) -- 20
    refine hM_ia M (by decide) (K := 36) (R2 := 71) (L := 246) (H := 246) (lo := (-1)) (hi := 15999) rfl (by decide) rfl rfl (fun _ => rfl) rfl q4 (by omega) (by omega) rfl (fun x5 q5 a5 b5 => ?_) -- 21
    refine hM_ic (n := (-1)) rfl (by decide) rfl (fun x6 q6 => ?_) -- 22
    refine hM_cne (off := 7) (t := 30) rfl q5 q6 (by decide) rfl (fun c23 => ?_) (fun c23 => ?_) -- 23
    · refine hM_ic (n := 1) rfl (by decide) rfl (fun x7 q7 => ?_) -- 30
      refine hI_il (k := 3) rfl e3 rfl ?_ -- 31
      refine hM_shl rfl q7 lq3 (by omega) (by omega) rfl (fun x8 q8 => ?_) -- 32
      refine hM_add rfl lq2 q8 (by omega) (by omega) rfl (fun x9 q9 => ?_) -- 33
      refine hM_si (k := 2) rfl (by decide +kernel) rfl (fun lv10 e10_2 u10 => ?_) -- 34
      have e10_0 := u10 0 _ (by decide) (Or.inl rfl) e0
      have e10_1 := u10 1 _ (by decide) (Or.inl rfl) e1
      have e10_3 := u10 3 _ (by decide) (Or.inl rfl) e3
      refine hM_inc (k := 3) (z := 1) rfl e10_3 lq3 (by decide) (by omega) (by omega) (by decide +kernel) rfl (fun lv11 x11 q11 e11_3 u11 => ?_) -- 35
      have e11_0 := u11 0 _ (by decide) (Or.inl rfl) e10_0
      have e11_1 := u11 1 _ (by decide) (Or.inl rfl) e10_1
      have e11_2 := u11 2 _ (by decide) (Or.inl rfl) e10_2
      refine hI_go (pc' := 4) (off := (-34)) rfl (by decide) ?_ -- 38
      exact g1 x9 q9 x11 q11 lv11 e11_0 e11_1 e11_2 e11_3 c7 a5 b5 c23
    · refine hM_ic (n := 0) rfl (by decide) rfl (fun x12 q12 => ?_) -- 26
      refine hI_go (pc' := 33) (off := 6) rfl (by decide) ?_ -- 27
      refine hM_add rfl lq2 q12 (by omega) (by omega) rfl (fun x13 q13 => ?_) -- 33
      refine hM_si (k := 2) rfl (by decide +kernel) rfl (fun lv14 e14_2 u14 => ?_) -- 34
      have e14_0 := u14 0 _ (by decide) (Or.inl rfl) e0
      have e14_1 := u14 1 _ (by decide) (Or.inl rfl) e1
      have e14_3 := u14 3 _ (by decide) (Or.inl rfl) e3
      refine hM_inc (k := 3) (z := 1) rfl e14_3 lq3 (by decide) (by omega) (by omega) (by decide +kernel) rfl (fun lv15 x15 q15 e15_3 u15 => ?_) -- 35
      have e15_0 := u15 0 _ (by decide) (Or.inl rfl) e14_0
      have e15_1 := u15 1 _ (by decide) (Or.inl rfl) e14_1
      have e15_2 := u15 2 _ (by decide) (Or.inl rfl) e14_2
      refine hI_go (pc' := 4) (off := (-34)) rfl (by decide) ?_ -- 38
      exact g2 x13 q13 x15 q15 lv15 e15_0 e15_1 e15_2 e15_3 c7 a5 b5 c23
theorem l_sizeAt {v : Nat} {xv : Int32} (M : MX 49 W ρ m A h0 h F V G) (hv : v ≤ 40) (qv : xv.toInt = (v : Int)) (g : ∀ x : Int32, x.toInt = (p_wv (V 36) v : Int) → Q (some (.int x)) h) : ∀ (d r : Nat) (lv : List (Nat × Value)) (xn xr : Int32), r + d = 6 → xn.toInt = (p_ws (fun r => V 36 (6 * v + r)) r : Int) → xr.toInt = (r : Int) → m_lk lv 0 = some (.ref m) → m_lk lv 1 = some (.int xv) → m_lk lv 2 = some (.int xn) → m_lk lv 3 = some (.int xr) → HJ 207 4 lv [] h Q := by
  intro d
  induction d with
  | zero =>
    intro r lv xn xr hd hn hr e0 e1 e2 e3
    have r6 : r = 6 := by omega
    subst r6
    have b := p_wsL (f := fun r => V 36 (6 * v + r)) 6
    exact s_sza4 M e0 e1 qv e2 hn e3 hr (by omega) (by omega) (by omega) (by omega) (by omega) (by decide) (by decide) (fun _ => g xn hn) (fun x9 q9 x11 q11 lv11 e11_0 e11_1 e11_2 e11_3 c7 a5 b5 c23 => by omega) (fun x9 q9 x11 q11 lv11 e11_0 e11_1 e11_2 e11_3 c7 a5 b5 c23 => by omega)
  | succ d ih =>
    intro r lv xn xr hd hn hr e0 e1 e2 e3
    have b := p_wsL (f := fun r => V 36 (6 * v + r)) r
    have b2 := n_2q (k := r) (by omega)
    have b3 := i_2q (k := r) (by omega)
    have eN : (6 * (v : Int) + (r : Int)).toNat = 6 * v + r := by omega
    refine s_sza4 M e0 e1 qv e2 hn e3 hr (by omega) (by omega) (by omega) (by omega) (by omega) (by rw [Int.toNat_natCast]; omega) (by rw [Int.toNat_natCast]; omega) (fun _ => by omega) (fun x9 q9 x11 q11 lv11 d0 d1 d2 d3 c7 a5 b5 c23 => ?_) (fun x9 q9 x11 q11 lv11 d0 d1 d2 d3 c7 a5 b5 c23 => ?_)
    · rw [eN] at c23
      rw [Int.toNat_natCast] at q9
      refine ih (r + 1) lv11 x9 x11 (by omega) ?_ (by omega) d0 d1 d2 d3
      rw [p_ws, y_tg1 c23]
      omega
    · rw [eN] at c23
      refine ih (r + 1) lv11 x9 x11 (by omega) ?_ (by omega) d0 d1 d2 d3
      rw [p_ws, y_tg0 c23]
      omega
theorem c_sizeAt {v : Nat} {xv : Int32} (M : MX 49 W ρ m A h0 h F V G) (hv : v ≤ 40) (qv : xv.toInt = (v : Int)) (g : ∀ x : Int32, x.toInt = (p_wv (V 36) v : Int) → Q (some (.int x)) h) : HJ 207 0 (lv_args 0 [.ref m, .int xv]) [] h Q := by
  refine s_sza0 M rfl rfl qv (fun x1 q1 x3 q3 lv4 e0 e1 e2 e3 => ?_)
  exact l_sizeAt M hv qv g 6 0 lv4 x1 x3 rfl q1 q3 e0 e1 e2 e3
theorem p_wvL (ro : Nat → Int) (v : Nat) : p_wv ro v ≤ 63 := by
  have := p_wsL (f := fun r => ro (6 * v + r)) 6
  have e : (2 : Nat) ^ 6 = 64 := rfl
  unfold p_wv
  omega
theorem s_emp0 (M : MX 49 W ρ m A h0 h F V G) (e0 : m_lk lv 0 = some (.ref m)) 
    (g0 : ∀ x1 : Int32, x1.toInt = 0 → ∀ lv2 : List (Nat × Value), m_lk lv2 0 = some (.ref m) → m_lk lv2 1 = some (.int x1) → HJ 202 2 lv2 [] h Q)
    : HJ 202 0 lv [] h Q := by
  refine hM_ic (n := 0) rfl (by decide) rfl (fun x1 q1 => ?_) -- 0
  refine hM_si (k := 1) rfl (by decide +kernel) rfl (fun lv2 e2_1 u2 => ?_) -- 1
  have e2_0 := u2 0 _ (by decide) (Or.inl rfl) e0
  exact g0 x1 q1 lv2 e2_0 e2_1
theorem s_emp {r : Int} (M : MX 49 W ρ m A h0 h F V G) (e0 : m_lk lv 0 = some (.ref m)) {lx1 : Int32} (e1 : m_lk lv 1 = some (.int lx1)) (lq1 : lx1.toInt = r) (r0 : 0 ≤ r)(hw : d_sub [(61, 1001)] W = true)
    (g0 : r ≥ 6 → Q none h)
    (g1 : ∀ h3 : MH, ∀ V3 : Nat → Nat → Int, V3 = m_u V 24 (m_u (V 24) (r).toNat ((-1))) → ∀ x4 : Int32, x4.toInt = r + 1 → ∀ lv4 : List (Nat × Value), MX 49 W ρ m A h0 h3 F V3 G → m_lk lv4 0 = some (.ref m) → m_lk lv4 1 = some (.int x4) → r < 6 → HJ 202 2 lv4 [] h3 Q)
    : HJ 202 2 lv [] h Q := by
  refine hI_il (k := 1) rfl e1 rfl ?_ -- 2
  refine hM_bp (n := 6) rfl (by decide) rfl (fun x1 q1 => ?_) -- 3
  refine hM_cge (off := 16) (t := 21) rfl lq1 q1 (by decide) rfl (fun c5 => ?_) (fun c5 => ?_) -- 5
  · refine hI_rv rfl rfl ?_
    exact g0 c5
  · refine hI_al (k := 0) rfl e0 rfl ?_ -- 8
    refine hM_ga M (by decide) rfl rfl (k := 24) (c := 9) rfl rfl rfl (by decide +kernel) rfl ?_ -- 9
    refine hI_il (k := 1) rfl e1 rfl ?_ -- 12
    refine hM_ic (n := (-1)) rfl (by decide) rfl (fun x2 q2 => ?_) -- 13
    refine hM_is M (by decide) ok_49 (K := 24) (R2 := 61) (L := 6) (H := 6) (lo := (-1)) (hi := 15999) rfl (by decide) rfl rfl rfl (fun _ => rfl) (d_subm hw (by decide +kernel)) rfl lq1 q2 (by omega) (by omega) (by omega) (by omega) rfl (fun h3 V3 f3 M3 => ?_) -- 14
    refine hM_inc (k := 1) (z := 1) rfl e1 lq1 (by decide) (by omega) (by omega) (by decide +kernel) rfl (fun lv4 x4 q4 e4_1 u4 => ?_) -- 15
    have e4_0 := u4 0 _ (by decide) (Or.inl rfl) e0
    refine hI_go (pc' := 2) (off := (-16)) rfl (by decide) ?_ -- 18
    exact g1 h3 V3 f3 x4 q4 lv4 M3 e4_0 e4_1 c5
theorem l_emp {V0 : Nat → Nat → Int} (hw : d_sub [(61, 1001)] W = true) (g : ∀ (h' : MH) (V' : Nat → Nat → Int), MX 49 W ρ m A h0 h' F V' G → (∀ r, r < 6 → V' 24 r = -1) → (∀ K, K ≠ 24 → V' K = V0 K) → Q none h') : ∀ (d r : Nat) (lv : List (Nat × Value)) (h : MH) (V : Nat → Nat → Int) (xr : Int32), r + d = 6 → MX 49 W ρ m A h0 h F V G → xr.toInt = (r : Int) → (∀ k, k < r → V 24 k = -1) → (∀ K, K ≠ 24 → V K = V0 K) → m_lk lv 0 = some (.ref m) → m_lk lv 1 = some (.int xr) → HJ 202 2 lv [] h Q := by
  intro d
  induction d with
  | zero =>
    intro r lv h V xr hd M hr k1 k2 e0 e1
    have r6 : r = 6 := by omega
    subst r6
    exact s_emp M e0 e1 hr (by omega) hw (fun _ => g h V M k1 k2) (fun h3 V3 f3 x4 q4 lv4 M3 e4_0 e4_1 c5 => by omega)
  | succ d ih =>
    intro r lv h V xr hd M hr k1 k2 e0 e1
    refine s_emp M e0 e1 hr (by omega) hw (fun _ => by omega) (fun h3 V3 f3 x4 q4 lv4 M3 e4_0 e4_1 c5 => ?_)
    simp only [Int.toNat_natCast] at f3
    refine ih (r + 1) lv4 h3 V3 x4 (by omega) M3 (by omega) (fun k hk => ?_) (fun K hK => by rw [f3, m_uN _ _ _ _ hK, k2 K hK]) e4_0 e4_1
    rw [f3, m_uE]
    by_cases e : k = r
    · rw [e, m_uE]
    · rw [m_uN _ _ _ _ e]
      exact k1 k (by omega)
theorem c_emp (M : MX 49 W ρ m A h0 h F V G) (hw : d_sub [(61, 1001)] W = true) (g : ∀ (h' : MH) (V' : Nat → Nat → Int), MX 49 W ρ m A h0 h' F V' G → (∀ r, r < 6 → V' 24 r = -1) → (∀ K, K ≠ 24 → V' K = V K) → Q none h') : HJ 202 0 (lv_args 0 [.ref m]) [] h Q := by
  refine s_emp0 M rfl (fun x1 q1 lv2 e2_0 e2_1 => ?_)
  exact l_emp hw g 6 0 lv2 h V x1 rfl M q1 (fun k hk => by omega) (fun _ _ => rfl) e2_0 e2_1
theorem s_keep0 {a b : Int} (M : MX 49 W ρ m A h0 h F V G) (e0 : m_lk lv 0 = some (.ref m)) {lx1 : Int32} (e1 : m_lk lv 1 = some (.int lx1)) (lq1 : lx1.toInt = a) {lx2 : Int32} (e2 : m_lk lv 2 = some (.int lx2)) (lq2 : lx2.toInt = b) 
    (g0 : ∀ x1 : Int32, x1.toInt = 0 → ∀ lv2 : List (Nat × Value), m_lk lv2 0 = some (.ref m) → m_lk lv2 1 = some (.int lx1) → m_lk lv2 2 = some (.int lx2) → m_lk lv2 3 = some (.int x1) → HJ 203 2 lv2 [] h Q)
    : HJ 203 0 lv [] h Q := by
  refine hM_ic (n := 0) rfl (by decide) rfl (fun x1 q1 => ?_) -- 0
  refine hM_si (k := 3) rfl (by decide +kernel) rfl (fun lv2 e2_3 u2 => ?_) -- 1
  have e2_0 := u2 0 _ (by decide) (Or.inl rfl) e0
  have e2_1 := u2 1 _ (by decide) (Or.inl rfl) e1
  have e2_2 := u2 2 _ (by decide) (Or.inl rfl) e2
  exact g0 x1 q1 lv2 e2_0 e2_1 e2_2 e2_3
theorem s_keep2 {a b r : Int} (M : MX 49 W ρ m A h0 h F V G) (e0 : m_lk lv 0 = some (.ref m)) {lx1 : Int32} (e1 : m_lk lv 1 = some (.int lx1)) (lq1 : lx1.toInt = a) {lx2 : Int32} (e2 : m_lk lv 2 = some (.int lx2)) (lq2 : lx2.toInt = b) {lx3 : Int32} (e3 : m_lk lv 3 = some (.int lx3)) (lq3 : lx3.toInt = r) (r0 : 0 ≤ r) (s0 : 0 ≤ F 35) (s1 : F 35 ≤ 40)(hw : d_sub [(71, 1001)] W = true)
    (g0 : r ≥ 6 → HJ 203 34 lv [] h Q)
    (g1 : ∀ h7 : MH, ∀ V7 : Nat → Nat → Int, V7 = m_u V 36 (m_u (V 36) ((6 * (F 35)) + r).toNat (V 24 (r).toNat)) → ∀ x8 : Int32, x8.toInt = r + 1 → ∀ lv8 : List (Nat × Value), MX 49 W ρ m A h0 h7 F V7 G → m_lk lv8 0 = some (.ref m) → m_lk lv8 1 = some (.int lx1) → m_lk lv8 2 = some (.int lx2) → m_lk lv8 3 = some (.int x8) → r < 6 → 0 ≤ F 35 → F 35 ≤ 41 → (-1) ≤ V 24 (r).toNat → V 24 (r).toNat ≤ 15999 → HJ 203 2 lv8 [] h7 Q)
    : HJ 203 2 lv [] h Q := by
  refine hI_il (k := 3) rfl e3 rfl ?_ -- 2
  refine hM_bp (n := 6) rfl (by decide) rfl (fun x1 q1 => ?_) -- 3
  refine hM_cge (off := 29) (t := 34) rfl lq3 q1 (by decide) rfl (fun c5 => ?_) (fun c5 => ?_) -- 5
  · exact g0 c5
  · refine hI_al (k := 0) rfl e0 rfl ?_ -- 8
    refine hM_ga M (by decide) rfl rfl (k := 36) (c := 9) rfl rfl rfl (by decide +kernel) rfl ?_ -- 9
    refine hM_bp (n := 6) rfl (by decide) rfl (fun x2 q2 => ?_) -- 12
    refine hI_al (k := 0) rfl e0 rfl ?_ -- 14
    refine hM_gi M (by decide) rfl rfl rfl (k := 35) (c := 9) (lo := 0) (hi := 41) rfl rfl rfl rfl rfl (fun x3 q3 a3 b3 => ?_) -- 15
    refine hM_mul rfl q2 q3 (by omega) (by omega) rfl (fun x4 q4 => ?_) -- 18
    refine hI_il (k := 3) rfl e3 rfl ?_ -- 19
    refine hM_add rfl q4 lq3 (by omega) (by omega) rfl (fun x5 q5 => ?_) -- 20
    refine hI_al (k := 0) rfl e0 rfl ?_ -- 21
    refine hM_ga M (by decide) rfl rfl (k := 24) (c := 9) rfl rfl rfl (by decide +kernel) rfl ?_ -- 22
    refine hI_il (k := 3) rfl e3 rfl ?_ -- 25
    refine hM_ia M (by decide) (K := 24) (R2 := 61) (L := 6) (H := 6) (lo := (-1)) (hi := 15999) rfl (by decide) rfl rfl (fun _ => rfl) rfl lq3 (by omega) (by omega) rfl (fun x6 q6 a6 b6 => ?_) -- 26
    refine hM_is M (by decide) ok_49 (K := 36) (R2 := 71) (L := 246) (H := 246) (lo := (-1)) (hi := 15999) rfl (by decide) rfl rfl rfl (fun _ => rfl) (d_subm hw (by decide +kernel)) rfl q5 q6 (by omega) (by omega) (by omega) (by omega) rfl (fun h7 V7 f7 M7 => ?_) -- 27
    refine hM_inc (k := 3) (z := 1) rfl e3 lq3 (by decide) (by omega) (by omega) (by decide +kernel) rfl (fun lv8 x8 q8 e8_3 u8 => ?_) -- 28
    have e8_0 := u8 0 _ (by decide) (Or.inl rfl) e0
    have e8_1 := u8 1 _ (by decide) (Or.inl rfl) e1
    have e8_2 := u8 2 _ (by decide) (Or.inl rfl) e2
    refine hI_go (pc' := 2) (off := (-29)) rfl (by decide) ?_ -- 31
    exact g1 h7 V7 f7 x8 q8 lv8 M7 e8_0 e8_1 e8_2 e8_3 c5 a3 b3 a6 b6
theorem s_keep34 {a b : Int} (M : MX 49 W ρ m A h0 h F V G) (e0 : m_lk lv 0 = some (.ref m)) {lx1 : Int32} (e1 : m_lk lv 1 = some (.int lx1)) (lq1 : lx1.toInt = a) {lx2 : Int32} (e2 : m_lk lv 2 = some (.int lx2)) (lq2 : lx2.toInt = b) (s0 : 0 ≤ F 35) (s1 : F 35 ≤ 40) (a0 : -1 ≤ a) (a1 : a ≤ 40) (b0 : -1 ≤ b) (b1 : b ≤ 40)(hw : d_sub [(74, 1001), (75, 1001), (76, 1001), (49, 35)] W = true)
    (g0 : ∀ h2 : MH, ∀ V2 : Nat → Nat → Int, V2 = m_u V 39 (m_u (V 39) (F 35).toNat (a)) → ∀ h4 : MH, ∀ V4 : Nat → Nat → Int, V4 = m_u V2 40 (m_u (V2 40) (F 35).toNat (b)) → ∀ h7 : MH, ∀ G7 : Nat → Nat → Int64, G7 = m_u G 41 (m_u (G 41) (F 35).toNat ((Int64.ofNat (1 : Fin 2).val) <<< ((Int32.ofInt (F 35)).toInt64 &&& 63))) → ∀ h13 : MH, ∀ F13 : Nat → Int, F13 = m_u F 35 ((F 35) + 1) → MX 49 W ρ m A h0 h13 F13 V4 G7 → 0 ≤ F 35 → F 35 ≤ 41 → a = (-1) → b = (-1) → Q none h13)
    (g1 : ∀ h2 : MH, ∀ V2 : Nat → Nat → Int, V2 = m_u V 39 (m_u (V 39) (F 35).toNat (a)) → ∀ h4 : MH, ∀ V4 : Nat → Nat → Int, V4 = m_u V2 40 (m_u (V2 40) (F 35).toNat (b)) → ∀ h7 : MH, ∀ G7 : Nat → Nat → Int64, G7 = m_u G 41 (m_u (G 41) (F 35).toNat ((Int64.ofNat (1 : Fin 2).val) <<< ((Int32.ofInt (F 35)).toInt64 &&& 63))) → ∀ h17 : MH, ∀ G17 : Nat → Nat → Int64, G17 = m_u G7 41 (m_u (G7 41) (F 35).toNat ((G7 41 (F 35).toNat) ||| (G7 41 (b).toNat))) → ∀ h21 : MH, ∀ F21 : Nat → Int, F21 = m_u F 35 ((F 35) + 1) → MX 49 W ρ m A h0 h21 F21 V4 G17 → 0 ≤ F 35 → F 35 ≤ 41 → a = (-1) → b ≠ (-1) → Q none h21)
    (g2 : ∀ h2 : MH, ∀ V2 : Nat → Nat → Int, V2 = m_u V 39 (m_u (V 39) (F 35).toNat (a)) → ∀ h4 : MH, ∀ V4 : Nat → Nat → Int, V4 = m_u V2 40 (m_u (V2 40) (F 35).toNat (b)) → ∀ h7 : MH, ∀ G7 : Nat → Nat → Int64, G7 = m_u G 41 (m_u (G 41) (F 35).toNat ((Int64.ofNat (1 : Fin 2).val) <<< ((Int32.ofInt (F 35)).toInt64 &&& 63))) → ∀ h25 : MH, ∀ G25 : Nat → Nat → Int64, G25 = m_u G7 41 (m_u (G7 41) (F 35).toNat ((G7 41 (F 35).toNat) ||| (G7 41 (a).toNat))) → ∀ h30 : MH, ∀ F30 : Nat → Int, F30 = m_u F 35 ((F 35) + 1) → MX 49 W ρ m A h0 h30 F30 V4 G25 → 0 ≤ F 35 → F 35 ≤ 41 → a ≠ (-1) → b = (-1) → Q none h30)
    (g3 : ∀ h2 : MH, ∀ V2 : Nat → Nat → Int, V2 = m_u V 39 (m_u (V 39) (F 35).toNat (a)) → ∀ h4 : MH, ∀ V4 : Nat → Nat → Int, V4 = m_u V2 40 (m_u (V2 40) (F 35).toNat (b)) → ∀ h7 : MH, ∀ G7 : Nat → Nat → Int64, G7 = m_u G 41 (m_u (G 41) (F 35).toNat ((Int64.ofNat (1 : Fin 2).val) <<< ((Int32.ofInt (F 35)).toInt64 &&& 63))) → ∀ h25 : MH, ∀ G25 : Nat → Nat → Int64, G25 = m_u G7 41 (m_u (G7 41) (F 35).toNat ((G7 41 (F 35).toNat) ||| (G7 41 (a).toNat))) → ∀ h34 : MH, ∀ G34 : Nat → Nat → Int64, G34 = m_u G25 41 (m_u (G25 41) (F 35).toNat ((G25 41 (F 35).toNat) ||| (G25 41 (b).toNat))) → ∀ h38 : MH, ∀ F38 : Nat → Int, F38 = m_u F 35 ((F 35) + 1) → MX 49 W ρ m A h0 h38 F38 V4 G34 → 0 ≤ F 35 → F 35 ≤ 41 → a ≠ (-1) → b ≠ (-1) → Q none h38)
    : HJ 203 34 lv [] h Q := by
  refine hI_al (k := 0) rfl e0 rfl ?_ -- 34
  refine hM_ga M (by decide) rfl rfl (k := 39) (c := 9) rfl rfl rfl (by decide +kernel) rfl ?_ -- 35
  refine hI_al (k := 0) rfl e0 rfl ?_ -- 38
  refine hM_gi M (by decide) rfl rfl rfl (k := 35) (c := 9) (lo := 0) (hi := 41) rfl rfl rfl rfl rfl (fun x1 q1 a1 b1 => ?_) -- 39
  refine hI_il (k := 1) rfl e1 rfl ?_ -- 42
  refine hM_is M (by decide) ok_49 (K := 39) (R2 := 74) (L := 41) (H := 41) (lo := (-1)) (hi := 40) rfl (by decide) rfl rfl rfl (fun _ => rfl) (d_subm hw (by decide +kernel)) rfl q1 lq1 (by omega) (by omega) (by omega) (by omega) rfl (fun h2 V2 f2 M2 => ?_) -- 43
  refine hI_al (k := 0) rfl e0 rfl ?_ -- 44
  refine hM_ga M2 (by decide) rfl rfl (k := 40) (c := 9) rfl rfl rfl (by decide +kernel) rfl ?_ -- 45
  refine hI_al (k := 0) rfl e0 rfl ?_ -- 48
  refine hM_gi M2 (by decide) rfl rfl rfl (k := 35) (c := 9) (lo := 0) (hi := 41) rfl rfl rfl rfl rfl (fun x3 q3 a3 b3 => ?_) -- 49
  refine hI_il (k := 2) rfl e2 rfl ?_ -- 52
  refine hM_is M2 (by decide) ok_49 (K := 40) (R2 := 75) (L := 41) (H := 41) (lo := (-1)) (hi := 40) rfl (by decide) rfl rfl rfl (fun _ => rfl) (d_subm hw (by decide +kernel)) rfl q3 lq2 (by omega) (by omega) (by omega) (by omega) rfl (fun h4 V4 f4 M4 => ?_) -- 53
  refine hI_al (k := 0) rfl e0 rfl ?_ -- 54
  refine hM_ga M4 (by decide) rfl rfl (k := 41) (c := 9) rfl rfl rfl (by decide +kernel) rfl ?_ -- 55
  refine hI_al (k := 0) rfl e0 rfl ?_ -- 58
  refine hM_gi M4 (by decide) rfl rfl rfl (k := 35) (c := 9) (lo := 0) (hi := 41) rfl rfl rfl rfl rfl (fun x5 q5 a5 b5 => ?_) -- 59
  refine hI_lc (n := 1) rfl rfl ?_ -- 62
  refine hI_al (k := 0) rfl e0 rfl ?_ -- 63
  refine hM_gi M4 (by decide) rfl rfl rfl (k := 35) (c := 9) (lo := 0) (hi := 41) rfl rfl rfl rfl rfl (fun x6 q6 a6 b6 => ?_) -- 64
  refine hM_lshl rfl q6 rfl ?_ -- 67
  refine hM_ls M4 (by decide) ok_49 (K := 41) (R2 := 76) (L := 41) (H := 41) rfl (by decide) rfl rfl rfl (d_subm hw (by decide +kernel)) rfl q5 (by omega) (by omega) rfl (fun h7 G7 f7 M7 => ?_) -- 68
  refine hI_il (k := 1) rfl e1 rfl ?_ -- 69
  refine hM_ic (n := (-1)) rfl (by decide) rfl (fun x8 q8 => ?_) -- 70
  refine hM_ceq (off := 21) (t := 92) rfl lq1 q8 (by decide) rfl (fun c71 => ?_) (fun c71 => ?_) -- 71
  · refine hI_il (k := 2) rfl e2 rfl ?_ -- 92
    refine hM_ic (n := (-1)) rfl (by decide) rfl (fun x9 q9 => ?_) -- 93
    refine hM_ceq (off := 21) (t := 115) rfl lq2 q9 (by decide) rfl (fun c94 => ?_) (fun c94 => ?_) -- 94
    · refine hI_al (k := 0) rfl e0 rfl ?_ -- 115
      refine hI_dup rfl rfl rfl ?_ -- 116
      refine hM_gi M7 (by decide) rfl rfl rfl (k := 35) (c := 9) (lo := 0) (hi := 41) rfl rfl rfl rfl rfl (fun x10 q10 a10 b10 => ?_) -- 117
      refine hM_ic (n := 1) rfl (by decide) rfl (fun x11 q11 => ?_) -- 120
      refine hM_add rfl q10 q11 (by omega) (by omega) rfl (fun x12 q12 => ?_) -- 121
      refine hM_pi M7 (by decide) ok_49 rfl rfl (k := 35) (c := 9) (lo := 0) (hi := 41) rfl rfl ⟨by decide, by decide +kernel, rfl⟩ rfl (d_subm hw (by decide +kernel)) q12 (by omega) (by omega) rfl (fun h13 F13 f13 M13 => ?_) -- 122
      refine hI_rv rfl rfl ?_
      exact g0 h2 V2 f2 h4 V4 f4 h7 G7 f7 h13 F13 f13 M13 a1 b1 c71 c94
    · refine hI_al (k := 0) rfl e0 rfl ?_ -- 97
      refine hM_ga M7 (by decide) rfl rfl (k := 41) (c := 9) rfl rfl rfl (by decide +kernel) rfl ?_ -- 98
      refine hI_al (k := 0) rfl e0 rfl ?_ -- 101
      refine hM_gi M7 (by decide) rfl rfl rfl (k := 35) (c := 9) (lo := 0) (hi := 41) rfl rfl rfl rfl rfl (fun x14 q14 a14 b14 => ?_) -- 102
      refine hI_dup2 rfl rfl rfl rfl ?_ -- 105
      refine hM_la M7 (by decide) (K := 41) (R2 := 76) (L := 41) (H := 41) rfl (by decide) rfl rfl rfl q14 (by omega) (by omega) rfl ?_ -- 106
      refine hI_al (k := 0) rfl e0 rfl ?_ -- 107
      refine hM_ga M7 (by decide) rfl rfl (k := 41) (c := 9) rfl rfl rfl (by decide +kernel) rfl ?_ -- 108
      refine hI_il (k := 2) rfl e2 rfl ?_ -- 111
      refine hM_la M7 (by decide) (K := 41) (R2 := 76) (L := 41) (H := 41) rfl (by decide) rfl rfl rfl lq2 (by omega) (by omega) rfl ?_ -- 112
      refine hI_lor rfl rfl ?_ -- 113
      refine hM_ls M7 (by decide) ok_49 (K := 41) (R2 := 76) (L := 41) (H := 41) rfl (by decide) rfl rfl rfl (d_subm hw (by decide +kernel)) rfl q14 (by omega) (by omega) rfl (fun h17 G17 f17 M17 => ?_) -- 114
      refine hI_al (k := 0) rfl e0 rfl ?_ -- 115
      refine hI_dup rfl rfl rfl ?_ -- 116
      refine hM_gi M17 (by decide) rfl rfl rfl (k := 35) (c := 9) (lo := 0) (hi := 41) rfl rfl rfl rfl rfl (fun x18 q18 a18 b18 => ?_) -- 117
      refine hM_ic (n := 1) rfl (by decide) rfl (fun x19 q19 => ?_) -- 120
      refine hM_add rfl q18 q19 (by omega) (by omega) rfl (fun x20 q20 => ?_) -- 121
      refine hM_pi M17 (by decide) ok_49 rfl rfl (k := 35) (c := 9) (lo := 0) (hi := 41) rfl rfl ⟨by decide, by decide +kernel, rfl⟩ rfl (d_subm hw (by decide +kernel)) q20 (by omega) (by omega) rfl (fun h21 F21 f21 M21 => ?_) -- 122
      refine hI_rv rfl rfl ?_
      exact g1 h2 V2 f2 h4 V4 f4 h7 G7 f7 h17 G17 f17 h21 F21 f21 M21 a1 b1 c71 c94
  · refine hI_al (k := 0) rfl e0 rfl ?_ -- 74
    refine hM_ga M7 (by decide) rfl rfl (k := 41) (c := 9) rfl rfl rfl (by decide +kernel) rfl ?_ -- 75
    refine hI_al (k := 0) rfl e0 rfl ?_ -- 78
    refine hM_gi M7 (by decide) rfl rfl rfl (k := 35) (c := 9) (lo := 0) (hi := 41) rfl rfl rfl rfl rfl (fun x22 q22 a22 b22 => ?_) -- 79
    refine hI_dup2 rfl rfl rfl rfl ?_ -- 82
    refine hM_la M7 (by decide) (K := 41) (R2 := 76) (L := 41) (H := 41) rfl (by decide) rfl rfl rfl q22 (by omega) (by omega) rfl ?_ -- 83
    refine hI_al (k := 0) rfl e0 rfl ?_ -- 84
    refine hM_ga M7 (by decide) rfl rfl (k := 41) (c := 9) rfl rfl rfl (by decide +kernel) rfl ?_ -- 85
    refine hI_il (k := 1) rfl e1 rfl ?_ -- 88
    refine hM_la M7 (by decide) (K := 41) (R2 := 76) (L := 41) (H := 41) rfl (by decide) rfl rfl rfl lq1 (by omega) (by omega) rfl ?_ -- 89
    refine hI_lor rfl rfl ?_ -- 90
    refine hM_ls M7 (by decide) ok_49 (K := 41) (R2 := 76) (L := 41) (H := 41) rfl (by decide) rfl rfl rfl (d_subm hw (by decide +kernel)) rfl q22 (by omega) (by omega) rfl (fun h25 G25 f25 M25 => ?_) -- 91
    refine hI_il (k := 2) rfl e2 rfl ?_ -- 92
    refine hM_ic (n := (-1)) rfl (by decide) rfl (fun x26 q26 => ?_) -- 93
    refine hM_ceq (off := 21) (t := 115) rfl lq2 q26 (by decide) rfl (fun c94 => ?_) (fun c94 => ?_) -- 94
    · refine hI_al (k := 0) rfl e0 rfl ?_ -- 115
      refine hI_dup rfl rfl rfl ?_ -- 116
      refine hM_gi M25 (by decide) rfl rfl rfl (k := 35) (c := 9) (lo := 0) (hi := 41) rfl rfl rfl rfl rfl (fun x27 q27 a27 b27 => ?_) -- 117
      refine hM_ic (n := 1) rfl (by decide) rfl (fun x28 q28 => ?_) -- 120
      refine hM_add rfl q27 q28 (by omega) (by omega) rfl (fun x29 q29 => ?_) -- 121
      refine hM_pi M25 (by decide) ok_49 rfl rfl (k := 35) (c := 9) (lo := 0) (hi := 41) rfl rfl ⟨by decide, by decide +kernel, rfl⟩ rfl (d_subm hw (by decide +kernel)) q29 (by omega) (by omega) rfl (fun h30 F30 f30 M30 => ?_) -- 122
      refine hI_rv rfl rfl ?_
      exact g2 h2 V2 f2 h4 V4 f4 h7 G7 f7 h25 G25 f25 h30 F30 f30 M30 a1 b1 c71 c94
    · refine hI_al (k := 0) rfl e0 rfl ?_ -- 97
      refine hM_ga M25 (by decide) rfl rfl (k := 41) (c := 9) rfl rfl rfl (by decide +kernel) rfl ?_ -- 98
      refine hI_al (k := 0) rfl e0 rfl ?_ -- 101
      refine hM_gi M25 (by decide) rfl rfl rfl (k := 35) (c := 9) (lo := 0) (hi := 41) rfl rfl rfl rfl rfl (fun x31 q31 a31 b31 => ?_) -- 102
      refine hI_dup2 rfl rfl rfl rfl ?_ -- 105
      refine hM_la M25 (by decide) (K := 41) (R2 := 76) (L := 41) (H := 41) rfl (by decide) rfl rfl rfl q31 (by omega) (by omega) rfl ?_ -- 106
      refine hI_al (k := 0) rfl e0 rfl ?_ -- 107
      refine hM_ga M25 (by decide) rfl rfl (k := 41) (c := 9) rfl rfl rfl (by decide +kernel) rfl ?_ -- 108
      refine hI_il (k := 2) rfl e2 rfl ?_ -- 111
      refine hM_la M25 (by decide) (K := 41) (R2 := 76) (L := 41) (H := 41) rfl (by decide) rfl rfl rfl lq2 (by omega) (by omega) rfl ?_ -- 112
      refine hI_lor rfl rfl ?_ -- 113
      refine hM_ls M25 (by decide) ok_49 (K := 41) (R2 := 76) (L := 41) (H := 41) rfl (by decide) rfl rfl rfl (d_subm hw (by decide +kernel)) rfl q31 (by omega) (by omega) rfl (fun h34 G34 f34 M34 => ?_) -- 114
      refine hI_al (k := 0) rfl e0 rfl ?_ -- 115
      refine hI_dup rfl rfl rfl ?_ -- 116
      refine hM_gi M34 (by decide) rfl rfl rfl (k := 35) (c := 9) (lo := 0) (hi := 41) rfl rfl rfl rfl rfl (fun x35 q35 a35 b35 => ?_) -- 117
      refine hM_ic (n := 1) rfl (by decide) rfl (fun x36 q36 => ?_) -- 120
      refine hM_add rfl q35 q36 (by omega) (by omega) rfl (fun x37 q37 => ?_) -- 121
      refine hM_pi M34 (by decide) ok_49 rfl rfl (k := 35) (c := 9) (lo := 0) (hi := 41) rfl rfl ⟨by decide, by decide +kernel, rfl⟩ rfl (d_subm hw (by decide +kernel)) q37 (by omega) (by omega) rfl (fun h38 F38 f38 M38 => ?_) -- 122
      refine hI_rv rfl rfl ?_
      exact g3 h2 V2 f2 h4 V4 f4 h7 G7 f7 h25 G25 f25 h34 G34 f34 h38 F38 f38 M38 a1 b1 c71 c94
def g_kp : List (Nat × Nat) := [(71, 1001), (74, 1001), (75, 1001), (76, 1001), (49, 35)]
theorem or_z0 (x : Int64) : x ||| Int64.ofNat (0 : Fin 2).val = x := Int64.or_zero
def ke_P (G G' : Nat → Nat → Int64) (s : Nat) (a b : Int) : Prop := (∀ j, j ≠ s → G' 41 j = G 41 j) ∧ (a < (s : Int) → b < (s : Int) → G' 41 s = bt (s : Int) ||| fo_of (G 41) a ||| fo_of (G 41) b)
theorem fo_N {L : Nat → Int64} {a : Int} (h : a = -1) : fo_of L a = Int64.ofNat (0 : Fin 2).val := if_neg (by omega)
theorem fo_P {L : Nat → Int64} {a : Int} (h : 0 ≤ a) (h' : a < 41) : fo_of L a = L a.toNat := if_pos ⟨h, h'⟩
theorem l_keep {s : Nat} {a b : Int} {xa xb : Int32} {V0 : Nat → Nat → Int} (hw : d_sub g_kp W = true) (fs : F 35 = (s : Int)) (s40 : s ≤ 40) (ha : xa.toInt = a) (hb : xb.toInt = b) (a0 : -1 ≤ a) (a1 : a ≤ 40) (b0 : -1 ≤ b) (b1 : b ≤ 40) (g : ∀ (h' : MH) (F' : Nat → Int) (V' : Nat → Nat → Int) (G' : Nat → Nat → Int64), MX 49 W ρ m A h0 h' F' V' G' → F' = m_u F 35 ((s : Int) + 1) → (∀ r, r < 6 → V' 36 (6 * s + r) = V0 24 r) → (∀ j, j < 6 * s → V' 36 j = V0 36 j) → V' 39 = m_u (V0 39) s a → V' 40 = m_u (V0 40) s b → (∀ K, K ≠ 36 → K ≠ 39 → K ≠ 40 → V' K = V0 K) → (∀ K, K ≠ 41 → G' K = G K) → ke_P G G' s a b → Q none h') : ∀ (d r : Nat) (lv : List (Nat × Value)) (h : MH) (V : Nat → Nat → Int) (xr : Int32), r + d = 6 → MX 49 W ρ m A h0 h F V G → xr.toInt = (r : Int) → (∀ k, k < r → V 36 (6 * s + k) = V0 24 k) → (∀ j, j < 6 * s → V 36 j = V0 36 j) → (∀ K, K ≠ 36 → V K = V0 K) → m_lk lv 0 = some (.ref m) → m_lk lv 1 = some (.int xa) → m_lk lv 2 = some (.int xb) → m_lk lv 3 = some (.int xr) → HJ 203 2 lv [] h Q := by
  have w1 : d_sub [(71, 1001)] W = true := d_subm hw (by decide +kernel)
  have w2 : d_sub [(74, 1001), (75, 1001), (76, 1001), (49, 35)] W = true := d_subm hw (by decide +kernel)
  intro d
  induction d with
  | zero =>
    intro r lv h V xr hd M hr k1 k2 k3 e0 e1 e2 e3
    have r6 : r = 6 := by omega
    subst r6
    refine s_keep2 M e0 e1 ha e2 hb e3 hr (by omega) (by omega) (by omega) w1 (fun _ => ?_) (fun h7 V7 f7 x8 q8 lv8 M7 e8_0 e8_1 e8_2 e8_3 c5 a3 b3 a6 b6 => by omega)
    have fin : ∀ (h' : MH) (F' : Nat → Int) (V2 V4 : Nat → Nat → Int) (G' : Nat → Nat → Int64), V2 = m_u V 39 (m_u (V 39) (F 35).toNat a) → V4 = m_u V2 40 (m_u (V2 40) (F 35).toNat b) → F' = m_u F 35 (F 35 + 1) → MX 49 W ρ m A h0 h' F' V4 G' → (∀ K, K ≠ 41 → G' K = G K) → ke_P G G' s a b → Q none h' := fun h' F' V2 V4 G' p2 p4 pf M' pg pe => by
      rw [fs, Int.toNat_natCast] at p2 p4
      refine g h' F' V4 G' M' (by rw [pf, fs]) (fun r hr => ?_) (fun j hj => ?_) ?_ ?_ (fun K j1 j2 j3 => ?_) pg pe
      · rw [p4, m_uN _ _ _ _ (by decide), p2, m_uN _ _ _ _ (by decide)]
        exact k1 r hr
      · rw [p4, m_uN _ _ _ _ (by decide), p2, m_uN _ _ _ _ (by decide)]
        exact k2 j hj
      · rw [p4, m_uN _ _ _ _ (by decide), p2, m_uE, k3 39 (by decide)]
      · rw [p4, m_uE, p2, m_uN _ _ _ _ (by decide), k3 40 (by decide)]
      · rw [p4, m_uN _ _ _ _ j3, p2, m_uN _ _ _ _ j2, k3 K j1]
    refine s_keep34 M e0 e1 ha e2 hb (by omega) (by omega) a0 a1 b0 b1 w2
      (fun h2 V2 f2 h4 V4 f4 h7 G7 f7 h13 F13 f13 M13 _ _ ca cb => fin _ _ V2 V4 G7 f2 f4 f13 M13 (fun K hK => by rw [f7, m_uN _ _ _ _ hK]) (by
        rw [fs, Int.toNat_natCast] at f7
        refine ⟨fun j hj => by rw [f7, m_uE, m_uN _ _ _ _ hj], fun _ _ => ?_⟩
        rw [f7, m_uE, m_uE, fo_N ca, fo_N cb, or_z0, or_z0]
        rfl))
      (fun h2 V2 f2 h4 V4 f4 h7 G7 f7 h17 G17 f17 h21 F21 f21 M21 _ _ ca cb => fin _ _ V2 V4 G17 f2 f4 f21 M21 (fun K hK => by rw [f17, m_uN _ _ _ _ hK, f7, m_uN _ _ _ _ hK]) (by
        rw [fs, Int.toNat_natCast] at f7 f17
        have e7 : ∀ j, j ≠ s → G7 41 j = G 41 j := fun j hj => by rw [f7, m_uE, m_uN _ _ _ _ hj]
        refine ⟨fun j hj => by rw [f17, m_uE, m_uN _ _ _ _ hj, e7 j hj], fun la lb => ?_⟩
        rw [f17, m_uE, m_uE, e7 b.toNat (by omega), fo_N ca, or_z0, fo_P (a := b) (by omega) (by omega), f7, m_uE, m_uE]
        rfl))
      (fun h2 V2 f2 h4 V4 f4 h7 G7 f7 h17 G17 f17 h21 F21 f21 M21 _ _ ca cb => fin _ _ V2 V4 G17 f2 f4 f21 M21 (fun K hK => by rw [f17, m_uN _ _ _ _ hK, f7, m_uN _ _ _ _ hK]) (by
        rw [fs, Int.toNat_natCast] at f7 f17
        have e7 : ∀ j, j ≠ s → G7 41 j = G 41 j := fun j hj => by rw [f7, m_uE, m_uN _ _ _ _ hj]
        refine ⟨fun j hj => by rw [f17, m_uE, m_uN _ _ _ _ hj, e7 j hj], fun la lb => ?_⟩
        rw [f17, m_uE, m_uE, e7 a.toNat (by omega), fo_N cb, or_z0, fo_P (a := a) (by omega) (by omega), f7, m_uE, m_uE]
        rfl))
      (fun h2 V2 f2 h4 V4 f4 h7 G7 f7 h17 G17 f17 h18 G18 f18 h21 F21 f21 M21 _ _ ca cb => fin _ _ V2 V4 G18 f2 f4 f21 M21 (fun K hK => by rw [f18, m_uN _ _ _ _ hK, f17, m_uN _ _ _ _ hK, f7, m_uN _ _ _ _ hK]) (by
        rw [fs, Int.toNat_natCast] at f7 f17 f18
        have e7 : ∀ j, j ≠ s → G7 41 j = G 41 j := fun j hj => by rw [f7, m_uE, m_uN _ _ _ _ hj]
        have e17 : ∀ j, j ≠ s → G17 41 j = G 41 j := fun j hj => by rw [f17, m_uE, m_uN _ _ _ _ hj, e7 j hj]
        refine ⟨fun j hj => by rw [f18, m_uE, m_uN _ _ _ _ hj, e17 j hj], fun la lb => ?_⟩
        rw [f18, m_uE, m_uE, e17 b.toNat (by omega), fo_P (a := b) (by omega) (by omega), f17, m_uE, m_uE, e7 a.toNat (by omega), fo_P (a := a) (by omega) (by omega), f7, m_uE, m_uE]
        rfl))
  | succ d ih =>
    intro r lv h V xr hd M hr k1 k2 k3 e0 e1 e2 e3
    refine s_keep2 M e0 e1 ha e2 hb e3 hr (by omega) (by omega) (by omega) w1 (fun _ => by omega) (fun h7 V7 f7 x8 q8 lv8 M7 d0 d1 d2 d3 c5 a3 b3 a6 b6 => ?_)
    rw [fs, show (6 * (s : Int) + (r : Int)).toNat = 6 * s + r by omega, Int.toNat_natCast] at f7
    refine ih (r + 1) lv8 h7 V7 x8 (by omega) M7 (by omega) (fun k hk => ?_) (fun j hj => ?_) (fun K hK => by rw [f7, m_uN _ _ _ _ hK, k3 K hK]) d0 d1 d2 d3
    · rw [f7, m_uE]
      by_cases e : k = r
      · rw [e, m_uE, k3 24 (by decide)]
      · rw [m_uN _ _ _ _ (by omega)]
        exact k1 k (by omega)
    · rw [f7, m_uE, m_uN _ _ _ _ (by omega)]
      exact k2 j hj
theorem c_keep {s : Nat} {a b : Int} {xa xb : Int32} (M : MX 49 W ρ m A h0 h F V G) (hw : d_sub g_kp W = true) (fs : F 35 = (s : Int)) (s40 : s ≤ 40) (ha : xa.toInt = a) (hb : xb.toInt = b) (a0 : -1 ≤ a) (a1 : a ≤ 40) (b0 : -1 ≤ b) (b1 : b ≤ 40) (g : ∀ (h' : MH) (F' : Nat → Int) (V' : Nat → Nat → Int) (G' : Nat → Nat → Int64), MX 49 W ρ m A h0 h' F' V' G' → F' = m_u F 35 ((s : Int) + 1) → (∀ r, r < 6 → V' 36 (6 * s + r) = V 24 r) → (∀ j, j < 6 * s → V' 36 j = V 36 j) → V' 39 = m_u (V 39) s a → V' 40 = m_u (V 40) s b → (∀ K, K ≠ 36 → K ≠ 39 → K ≠ 40 → V' K = V K) → (∀ K, K ≠ 41 → G' K = G K) → ke_P G G' s a b → Q none h') : HJ 203 0 (lv_args 0 [.ref m, .int xa, .int xb]) [] h Q := by
  refine s_keep0 M rfl rfl ha rfl hb (fun x1 q1 lv2 e0 e1 e2 e3 => ?_)
  exact l_keep hw fs s40 ha hb a0 a1 b0 b1 g 6 0 lv2 h V x1 rfl M q1 (fun k hk => by omega) (fun _ _ => rfl) (fun _ _ => rfl) e0 e1 e2 e3
-- two versions melded
theorem s_mel0 {a b : Int} (M : MX 49 W ρ m A h0 h F V G) (e0 : m_lk lv 0 = some (.ref m)) {lx1 : Int32} (e1 : m_lk lv 1 = some (.int lx1)) (lq1 : lx1.toInt = a) {lx2 : Int32} (e2 : m_lk lv 2 = some (.int lx2)) (lq2 : lx2.toInt = b) 
    (g0 : HJ 205 0 (lv_args 0 [.ref m, .int lx1]) [] h (fun v h' => HJ 206 5 lv (v.toList ++ []) h' Q))
    : HJ 206 0 lv [] h Q := by
  refine hI_al (k := 0) rfl e0 rfl ?_ -- 0
  refine hI_il (k := 1) rfl e1 rfl ?_ -- 1
  refine hM_iv M (by decide) rfl rfl (by decide) (as := [.int lx1]) (r := []) rfl rfl (by decide +kernel) rfl (by decide +kernel) rfl rfl rfl rfl rfl ?_ -- 2
  exact g0 
theorem s_mel5 {a b z : Int} (M : MX 49 W ρ m A h0 h F V G) (e0 : m_lk lv 0 = some (.ref m)) {lx1 : Int32} (e1 : m_lk lv 1 = some (.int lx1)) (lq1 : lx1.toInt = a) {lx2 : Int32} (e2 : m_lk lv 2 = some (.int lx2)) (lq2 : lx2.toInt = b) {sx0 : Int32} (sq0 : sx0.toInt = z) 
    (g0 : ∀ x1 : Int32, x1.toInt = 0 → z = 0 → Q (some (.int x1)) h)
    (g1 : z ≠ 0 → HJ 205 0 (lv_args 0 [.ref m, .int lx2]) [] h (fun v h' => HJ 206 13 lv (v.toList ++ []) h' Q))
    : HJ 206 5 lv [.int sx0] h Q := by
  refine hM_zeq (off := 27) (t := 32) rfl sq0 (by decide) rfl (fun c5 => ?_) (fun c5 => ?_) -- 5
  · refine hM_ic (n := 0) rfl (by decide) rfl (fun x1 q1 => ?_) -- 32
    refine hM_rb rfl rfl q1 (by omega) (by omega) ?_ -- 33
    exact g0 x1 q1 c5
  · refine hI_al (k := 0) rfl e0 rfl ?_ -- 8
    refine hI_il (k := 2) rfl e2 rfl ?_ -- 9
    refine hM_iv M (by decide) rfl rfl (by decide) (as := [.int lx2]) (r := []) rfl rfl (by decide +kernel) rfl (by decide +kernel) rfl rfl rfl rfl rfl ?_ -- 10
    exact g1 c5
theorem s_mel13 {a b z : Int} (M : MX 49 W ρ m A h0 h F V G) (e0 : m_lk lv 0 = some (.ref m)) {lx1 : Int32} (e1 : m_lk lv 1 = some (.int lx1)) (lq1 : lx1.toInt = a) {lx2 : Int32} (e2 : m_lk lv 2 = some (.int lx2)) (lq2 : lx2.toInt = b) {sx0 : Int32} (sq0 : sx0.toInt = z) 
    (g0 : ∀ x1 : Int32, x1.toInt = 0 → z = 0 → Q (some (.int x1)) h)
    (g1 : z ≠ 0 → HJ 207 0 (lv_args 0 [.ref m, .int lx1]) [] h (fun v h' => HJ 206 21 lv (v.toList ++ []) h' Q))
    : HJ 206 13 lv [.int sx0] h Q := by
  refine hM_zeq (off := 19) (t := 32) rfl sq0 (by decide) rfl (fun c13 => ?_) (fun c13 => ?_) -- 13
  · refine hM_ic (n := 0) rfl (by decide) rfl (fun x1 q1 => ?_) -- 32
    refine hM_rb rfl rfl q1 (by omega) (by omega) ?_ -- 33
    exact g0 x1 q1 c13
  · refine hI_al (k := 0) rfl e0 rfl ?_ -- 16
    refine hI_il (k := 1) rfl e1 rfl ?_ -- 17
    refine hM_iv M (by decide) rfl rfl (by decide) (as := [.int lx1]) (r := []) rfl rfl (by decide +kernel) rfl (by decide +kernel) rfl rfl rfl rfl rfl ?_ -- 18
    exact g1 c13
theorem s_mel21 {a b y : Int} (M : MX 49 W ρ m A h0 h F V G) (e0 : m_lk lv 0 = some (.ref m)) {lx1 : Int32} (e1 : m_lk lv 1 = some (.int lx1)) (lq1 : lx1.toInt = a) {lx2 : Int32} (e2 : m_lk lv 2 = some (.int lx2)) (lq2 : lx2.toInt = b) {sx0 : Int32} (sq0 : sx0.toInt = y) 
    (g0 : HJ 207 0 (lv_args 0 [.ref m, .int lx2]) [] h (fun v h' => HJ 206 26 lv (v.toList ++ [.int sx0]) h' Q))
    : HJ 206 21 lv [.int sx0] h Q := by
  refine hI_al (k := 0) rfl e0 rfl ?_ -- 21
  refine hI_il (k := 2) rfl e2 rfl ?_ -- 22
  refine hM_iv M (by decide) rfl rfl (by decide) (as := [.int lx2]) (r := [.int sx0]) rfl rfl (by decide +kernel) rfl (by decide +kernel) rfl rfl rfl rfl rfl ?_ -- 23
  exact g0 
theorem s_mel26 {a b y z : Int} (M : MX 49 W ρ m A h0 h F V G) (e0 : m_lk lv 0 = some (.ref m)) {lx1 : Int32} (e1 : m_lk lv 1 = some (.int lx1)) (lq1 : lx1.toInt = a) {lx2 : Int32} (e2 : m_lk lv 2 = some (.int lx2)) (lq2 : lx2.toInt = b) {sx0 : Int32} (sq0 : sx0.toInt = y) {sx1 : Int32} (sq1 : sx1.toInt = z) (y0 : 0 ≤ y) (y1 : y ≤ 63) (z0 : 0 ≤ z) (z1 : z ≤ 63)
    (g0 : y + z ≤ 63 → HJ 208 0 (lv_args 0 [.ref m, .int lx1]) [] h (fun v h' => HJ 206 39 lv (v.toList ++ []) h' Q))
    (g1 : ∀ x3 : Int32, x3.toInt = 0 → y + z > 63 → Q (some (.int x3)) h)
    : HJ 206 26 lv [.int sx1, .int sx0] h Q := by
  refine hM_add rfl sq0 sq1 (by omega) (by omega) rfl (fun x1 q1 => ?_) -- 26
  refine hM_bp (n := 63) rfl (by decide) rfl (fun x2 q2 => ?_) -- 27
  refine hM_cle (off := 5) (t := 34) rfl q1 q2 (by decide) rfl (fun c29 => ?_) (fun c29 => ?_) -- 29
  · refine hI_al (k := 0) rfl e0 rfl ?_ -- 34
    refine hI_il (k := 1) rfl e1 rfl ?_ -- 35
    refine hM_iv M (by decide) rfl rfl (by decide) (as := [.int lx1]) (r := []) rfl rfl (by decide +kernel) rfl (by decide +kernel) rfl rfl rfl rfl rfl ?_ -- 36
    exact g0 c29
  · refine hM_ic (n := 0) rfl (by decide) rfl (fun x3 q3 => ?_) -- 32
    refine hM_rb rfl rfl q3 (by omega) (by omega) ?_ -- 33
    exact g1 x3 q3 c29
theorem s_mel39 {a b : Int} (M : MX 49 W ρ m A h0 h F V G) (e0 : m_lk lv 0 = some (.ref m)) {lx1 : Int32} (e1 : m_lk lv 1 = some (.int lx1)) (lq1 : lx1.toInt = a) {lx2 : Int32} (e2 : m_lk lv 2 = some (.int lx2)) (lq2 : lx2.toInt = b) 
    (g0 : ∀ x1 : Int32, x1.toInt = 0 → ∀ lv2 : List (Nat × Value), m_lk lv2 0 = some (.ref m) → m_lk lv2 1 = some (.int lx1) → m_lk lv2 2 = some (.int lx2) → m_lk lv2 3 = some (.int x1) → HJ 206 41 lv2 [] h Q)
    : HJ 206 39 lv [] h Q := by
  refine hM_ic (n := 0) rfl (by decide) rfl (fun x1 q1 => ?_) -- 39
  refine hM_si (k := 3) rfl (by decide +kernel) rfl (fun lv2 e2_3 u2 => ?_) -- 40
  have e2_0 := u2 0 _ (by decide) (Or.inl rfl) e0
  have e2_1 := u2 1 _ (by decide) (Or.inl rfl) e1
  have e2_2 := u2 2 _ (by decide) (Or.inl rfl) e2
  exact g0 x1 q1 lv2 e2_0 e2_1 e2_2 e2_3
theorem s_mel41 {a b r : Int} (M : MX 49 W ρ m A h0 h F V G) (e0 : m_lk lv 0 = some (.ref m)) {lx1 : Int32} (e1 : m_lk lv 1 = some (.int lx1)) (lq1 : lx1.toInt = a) {lx2 : Int32} (e2 : m_lk lv 2 = some (.int lx2)) (lq2 : lx2.toInt = b) {lx3 : Int32} (e3 : m_lk lv 3 = some (.int lx3)) (lq3 : lx3.toInt = r) (r0 : 0 ≤ r) (b0 : 0 ≤ b) (b1 : b ≤ 40)(hw : d_sub [(62, 1001)] W = true)
    (g0 : r ≥ 6 → HJ 209 0 (lv_args 0 [.ref m]) [] h (fun v h' => HJ 206 74 lv (v.toList ++ []) h' Q))
    (g1 : ∀ h6 : MH, ∀ V6 : Nat → Nat → Int, V6 = m_u V 25 (m_u (V 25) (r).toNat (V 36 ((6 * b) + r).toNat)) → ∀ x7 : Int32, x7.toInt = r + 1 → ∀ lv7 : List (Nat × Value), MX 49 W ρ m A h0 h6 F V6 G → m_lk lv7 0 = some (.ref m) → m_lk lv7 1 = some (.int lx1) → m_lk lv7 2 = some (.int lx2) → m_lk lv7 3 = some (.int x7) → r < 6 → (-1) ≤ V 36 ((6 * b) + r).toNat → V 36 ((6 * b) + r).toNat ≤ 15999 → HJ 206 41 lv7 [] h6 Q)
    : HJ 206 41 lv [] h Q := by
  refine hI_il (k := 3) rfl e3 rfl ?_ -- 41
  refine hM_bp (n := 6) rfl (by decide) rfl (fun x1 q1 => ?_) -- 42
  refine hM_cge (off := 26) (t := 70) rfl lq3 q1 (by decide) rfl (fun c44 => ?_) (fun c44 => ?_) -- 44
  · refine hI_al (k := 0) rfl e0 rfl ?_ -- 70
    refine hM_iv M (by decide) rfl rfl (by decide) (as := []) (r := []) rfl rfl (by decide +kernel) rfl (by decide +kernel) rfl rfl rfl rfl rfl ?_ -- 71
    exact g0 c44
  · refine hI_al (k := 0) rfl e0 rfl ?_ -- 47
    refine hM_ga M (by decide) rfl rfl (k := 25) (c := 9) rfl rfl rfl (by decide +kernel) rfl ?_ -- 48
    refine hI_il (k := 3) rfl e3 rfl ?_ -- 51
    refine hI_al (k := 0) rfl e0 rfl ?_ -- 52
    refine hM_ga M (by decide) rfl rfl (k := 36) (c := 9) rfl rfl rfl (by decide +kernel) rfl ?_ -- 53
    refine hM_bp (n := 6) rfl (by decide) rfl (fun x2 q2 => ?_) -- 56
    refine hI_il (k := 2) rfl e2 rfl ?_ -- 58
    refine hM_mul rfl q2 lq2 (by omega) (by omega) rfl (fun x3 q3 => ?_) -- 59
    refine hI_il (k := 3) rfl e3 rfl ?_ -- 60
    refine hM_add rfl q3 lq3 (by omega) (by omega) rfl (fun x4 q4 => ?_) -- 61
    refine hM_ia M (by decide) (K := 36) (R2 := 71) (L := 246) (H := 246) (lo := (-1)) (hi := 15999) rfl (by decide) rfl rfl (fun _ => rfl) rfl q4 (by omega) (by omega) rfl (fun x5 q5 a5 b5 => ?_) -- 62
    refine hM_is M (by decide) ok_49 (K := 25) (R2 := 62) (L := 6) (H := 6) (lo := (-1)) (hi := 15999) rfl (by decide) rfl rfl rfl (fun _ => rfl) (d_subm hw (by decide +kernel)) rfl lq3 q5 (by omega) (by omega) (by omega) (by omega) rfl (fun h6 V6 f6 M6 => ?_) -- 63
    refine hM_inc (k := 3) (z := 1) rfl e3 lq3 (by decide) (by omega) (by omega) (by decide +kernel) rfl (fun lv7 x7 q7 e7_3 u7 => ?_) -- 64
    have e7_0 := u7 0 _ (by decide) (Or.inl rfl) e0
    have e7_1 := u7 1 _ (by decide) (Or.inl rfl) e1
    have e7_2 := u7 2 _ (by decide) (Or.inl rfl) e2
    refine hI_go (pc' := 41) (off := (-26)) rfl (by decide) ?_ -- 67
    exact g1 h6 V6 f6 x7 q7 lv7 M6 e7_0 e7_1 e7_2 e7_3 c44 a5 b5
theorem s_mel74 (M : MX 49 W ρ m A h0 h F V G)  
    (g0 : ∀ x1 : Int32, x1.toInt = 1 → Q (some (.int x1)) h)
    : HJ 206 74 lv [] h Q := by
  refine hM_ic (n := 1) rfl (by decide) rfl (fun x1 q1 => ?_) -- 74
  refine hM_rb rfl rfl q1 (by omega) (by omega) ?_ -- 75
  exact g0 x1 q1
theorem l_melds {b : Nat} {a : Int} {xa xb : Int32} {V0 : Nat → Nat → Int} (hw : d_sub [(62, 1001)] W = true) (b40 : b ≤ 40) (ha : xa.toInt = a) (hb : xb.toInt = (b : Int)) (g : ∀ (lv : List (Nat × Value)) (h : MH) (V : Nat → Nat → Int), MX 49 W ρ m A h0 h F V G → (∀ r, r < 6 → V 25 r = V0 36 (6 * b + r)) → (∀ K, K ≠ 25 → V K = V0 K) → HJ 209 0 (lv_args 0 [.ref m]) [] h (fun v h' => HJ 206 74 lv (v.toList ++ []) h' Q)) : ∀ (d r : Nat) (lv : List (Nat × Value)) (h : MH) (V : Nat → Nat → Int) (xr : Int32), r + d = 6 → MX 49 W ρ m A h0 h F V G → xr.toInt = (r : Int) → (∀ k, k < r → V 25 k = V0 36 (6 * b + k)) → (∀ K, K ≠ 25 → V K = V0 K) → m_lk lv 0 = some (.ref m) → m_lk lv 1 = some (.int xa) → m_lk lv 2 = some (.int xb) → m_lk lv 3 = some (.int xr) → HJ 206 41 lv [] h Q := by
  intro d
  induction d with
  | zero =>
    intro r lv h V xr hd M hr k1 k2 e0 e1 e2 e3
    have r6 : r = 6 := by omega
    subst r6
    exact s_mel41 M e0 e1 ha e2 hb e3 hr (by omega) (by omega) (by omega) hw (fun _ => g lv h V M k1 k2) (fun h6 V6 f6 x7 q7 lv7 M6 e7_0 e7_1 e7_2 e7_3 c44 a5 b5 => by omega)
  | succ d ih =>
    intro r lv h V xr hd M hr k1 k2 e0 e1 e2 e3
    refine s_mel41 M e0 e1 ha e2 hb e3 hr (by omega) (by omega) (by omega) hw (fun _ => by omega) (fun h6 V6 f6 x7 q7 lv7 M6 d0 d1 d2 d3 c44 a5 b5 => ?_)
    rw [show (6 * (b : Int) + (r : Int)).toNat = 6 * b + r by omega, Int.toNat_natCast] at f6
    refine ih (r + 1) lv7 h6 V6 x7 (by omega) M6 (by omega) (fun k hk => ?_) (fun K hK => by rw [f6, m_uN _ _ _ _ hK, k2 K hK]) d0 d1 d2 d3
    rw [f6, m_uE]
    by_cases e : k = r
    · rw [e, m_uE, k2 36 (by decide)]
    · rw [m_uN _ _ _ _ e]
      exact k1 k (by omega)
def ml_P (F : Nat → Int) (V : Nat → Nat → Int) (a b : Int) (F' : Nat → Int) (V' : Nat → Nat → Int) (x : Int) : Prop := ∀ S h s, rs_of F V S → (0 ≤ a → a < F 35 → ∀ r, r < 6 → V 36 (6 * a.toNat + r) = h r) → (0 ≤ b → b < F 35 → ∀ r, r < 6 → V 36 (6 * b.toNat + r) = s r) → (x = 1 ∧ (0 ≤ a ∧ a < F 35) ∧ (0 ≤ b ∧ b < F 35) ∧ p_ws h 6 + p_ws s 6 ≤ 63 ∧ rs_of F' V' (pm_md S h s).1 ∧ hp6 (V' 24) (pm_md S h s).2 ∧ F' 18 = F 18) ∨ (x = 0 ∧ (¬ (0 ≤ a ∧ a < F 35) ∨ ¬ (0 ≤ b ∧ b < F 35) ∨ 63 < p_ws h 6 + p_ws s 6) ∧ F' = F ∧ V' = V)
theorem c_melds {a b : Int} {xa xb : Int32} (M : MX 49 W ρ m A h0 h F V G) (hw : d_sub g_ls W = true) (ha : xa.toInt = a) (hb : xb.toInt = b) (sh : p_sh (F 17) (V 22) (V 23)) (hp : p_hp (F 17) (V 22) (V 24)) (ro : p_ro (F 17) (F 35) (V 22) (V 36)) (n0 : 0 ≤ F 17) (n1 : F 17 + 6 ≤ 16000) (s41 : F 35 ≤ 41) (g : ∀ (x : Int32) (h' : MH) (F' : Nat → Int) (V' : Nat → Nat → Int), 0 ≤ x.toInt → x.toInt ≤ 1 → MX 49 W ρ m A h0 h' F' V' G → g_ex F V F' V' 6 → (x.toInt = 1 → 0 ≤ b ∧ b < F 35) → ml_P F V a b F' V' x.toInt → Q (some (.int x)) h') : HJ 206 0 (lv_args 0 [.ref m, .int xa, .int xb]) [] h Q := by
  have w1 : d_sub [(61, 1001)] W = true := d_subm hw (by decide +kernel)
  have w2 : d_sub [(62, 1001)] W = true := d_subm hw (by decide +kernel)
  have w3 : d_sub g_md W = true := d_subm hw (by decide +kernel)
  refine s_mel0 M rfl rfl ha rfl hb (c_isV M ha (fun z hz => ?_))
  refine s_mel5 (z := z.toInt) M rfl rfl ha rfl hb rfl (fun x1 q1 c5 => g x1 h F V (by omega) (by omega) M (g_exR (by omega) sh hp) (fun y => by omega) (fun S hh s _ _ _ => Or.inr ⟨q1, Or.inl (fun z9 => by omega), rfl, rfl⟩)) (fun c5 => ?_)
  obtain ⟨-, a0, a1⟩ := hz.resolve_right (fun y => c5 y.1)
  refine c_isV M hb (fun z2 hz2 => ?_)
  refine s_mel13 (z := z2.toInt) M rfl rfl ha rfl hb rfl (fun x1 q1 c13 => g x1 h F V (by omega) (by omega) M (g_exR (by omega) sh hp) (fun y => by omega) (fun S hh s _ _ _ => Or.inr ⟨q1, Or.inr (Or.inl (fun z9 => by omega)), rfl, rfl⟩)) (fun c13 => ?_)
  obtain ⟨-, b0, b1⟩ := hz2.resolve_right (fun y => c13 y.1)
  have wa := p_wvL (V 36) a.toNat
  have wb := p_wvL (V 36) b.toNat
  refine c_sizeAt (v := a.toNat) M (by omega) (by omega) (fun x2 q2 => ?_)
  refine s_mel21 (y := (p_wv (V 36) a.toNat : Int)) M rfl rfl ha rfl hb q2 ?_
  refine c_sizeAt (v := b.toNat) M (by omega) (by omega) (fun x3 q3 => ?_)
  refine s_mel26 (y := (p_wv (V 36) a.toNat : Int)) (z := (p_wv (V 36) b.toNat : Int)) M rfl rfl ha rfl hb q2 q3 (by omega) (by omega) (by omega) (by omega) (fun c9 => ?_) (fun x3 q3 c9 => g x3 h F V (by omega) (by omega) M (g_exR (by omega) sh hp) (fun y => by omega) (fun S hh s _ ea eb => Or.inr ⟨q3, Or.inr (Or.inr ?_), rfl, rfl⟩))
  rotate_left
  · have e1 : p_wv (V 36) a.toNat = p_ws hh 6 := p_wsC (fun j hj => ea a0 a1 j hj)
    have e2 : p_wv (V 36) b.toNat = p_ws s 6 := p_wsC (fun j hj => eb b0 b1 j hj)
    omega
  refine c_hand (v := a.toNat) M (by omega) (by omega) w1 (fun h2 V2 M2 k1 k2 => ?_)
  refine s_mel39 M2 rfl rfl ha rfl hb (fun x4 q4 lv4 e0 e1 e2 e3 => ?_)
  refine l_melds (b := b.toNat) (V0 := V2) w2 (by omega) ha (by omega) (fun lv5 h3 V3 M3 j1 j2 => ?_) 6 0 lv4 h2 V2 x4 rfl M2 q4 (fun k hk => by omega) (fun _ _ => rfl) e0 e1 e2 e3
  have vo : ∀ K, K ≠ 24 → K ≠ 25 → V3 K = V K := fun K y1 y2 => (j2 K y2).trans (k2 K y1)
  refine c_meld M3 w3 (by rw [vo 22 (by decide) (by decide), vo 23 (by decide) (by decide)]; exact sh) ?_ ?_ n0 n1 (fun h4 F4 V4 c M4 I R => ?_)
  · rw [vo 22 (by decide) (by decide), j2 24 (by decide)]
    intro r h6
    rw [k1 r h6]
    exact ro a.toNat r (by omega) h6
  · rw [vo 22 (by decide) (by decide)]
    intro r h6
    rw [j1 r h6, k2 36 (by decide)]
    exact ro b.toNat r (by omega) h6
  · obtain ⟨⟨i1, i2, i3⟩, ⟨i4, i5⟩, i6, i7, i8, i9, i10, i11⟩ := I
    refine s_mel74 M4 (fun x q => g x h4 F4 V4 (by omega) (by omega) M4 ⟨⟨i1, i2⟩, ⟨i4, by omega⟩, fun K y1 y2 y3 y4 => i6 K y1 y3, fun v hv => by rw [i7 v hv, vo 22 (by decide) (by decide)], fun K hK => by rw [i8 K (by omega) (by omega) (by omega) (by omega) (by omega), vo K (by omega) (by omega)]⟩ (fun _ => ⟨b0, b1⟩) (fun S hh s aS ea eb => Or.inl ?_))
    have e1 : p_wv (V 36) a.toNat = p_ws hh 6 := p_wsC (fun j hj => ea a0 a1 j hj)
    have e2 : p_wv (V 36) b.toNat = p_ws s 6 := p_wsC (fun j hj => eb b0 b1 j hj)
    obtain ⟨r1, r2⟩ := R S hh s (rs_ofV aS rfl rfl (vo 20 (by decide) (by decide)) (vo 21 (by decide) (by decide)) (vo 22 (by decide) (by decide)) (vo 23 (by decide) (by decide))) (fun j hj => by rw [j2 24 (by decide), k1 j hj]; exact ea a0 a1 j hj) (fun j hj => by rw [j1 j hj, k2 36 (by decide)]; exact eb b0 b1 j hj)
    exact ⟨q, ⟨a0, a1⟩, ⟨b0, b1⟩, by omega, r1, r2, i6 18 (by decide) (by decide)⟩
-- an act
theorem s_do0 {w v a b : Int} (M : MX 49 W ρ m A h0 h F V G) (e0 : m_lk lv 0 = some (.ref m)) {lx1 : Int32} (e1 : m_lk lv 1 = some (.int lx1)) (lq1 : lx1.toInt = w) {lx2 : Int32} (e2 : m_lk lv 2 = some (.int lx2)) (lq2 : lx2.toInt = v) {lx3 : Int32} (e3 : m_lk lv 3 = some (.int lx3)) (lq3 : lx3.toInt = a) {lx4 : Int32} (e4 : m_lk lv 4 = some (.int lx4)) (lq4 : lx4.toInt = b) 
    (g0 : w ≠ 0 → HJ 205 0 (lv_args 0 [.ref m, .int lx2]) [] h (fun v h' => HJ 204 15 lv (v.toList ++ []) h' Q))
    (g1 : w = 0 → HJ 202 0 (lv_args 0 [.ref m]) [] h (fun v h' => HJ 204 8 lv (v.toList ++ []) h' Q))
    : HJ 204 0 lv [] h Q := by
  refine hI_il (k := 1) rfl e1 rfl ?_ -- 0
  refine hM_zne (off := 9) (t := 10) rfl lq1 (by decide) rfl (fun c1 => ?_) (fun c1 => ?_) -- 1
  · refine hI_al (k := 0) rfl e0 rfl ?_ -- 10
    refine hI_il (k := 2) rfl e2 rfl ?_ -- 11
    refine hM_iv M (by decide) rfl rfl (by decide) (as := [.int lx2]) (r := []) rfl rfl (by decide +kernel) rfl (by decide +kernel) rfl rfl rfl rfl rfl ?_ -- 12
    exact g0 c1
  · refine hI_al (k := 0) rfl e0 rfl ?_ -- 4
    refine hM_iv M (by decide) rfl rfl (by decide) (as := []) (r := []) rfl rfl (by decide +kernel) rfl (by decide +kernel) rfl rfl rfl rfl rfl ?_ -- 5
    exact g1 c1
theorem s_do8 (M : MX 49 W ρ m A h0 h F V G)  
    (g0 : ∀ x1 : Int32, x1.toInt = 1 → Q (some (.int x1)) h)
    : HJ 204 8 lv [] h Q := by
  refine hM_ic (n := 1) rfl (by decide) rfl (fun x1 q1 => ?_) -- 8
  refine hM_rb rfl rfl q1 (by omega) (by omega) ?_ -- 9
  exact g0 x1 q1
theorem s_do15 {w v a b z : Int} (M : MX 49 W ρ m A h0 h F V G) (e0 : m_lk lv 0 = some (.ref m)) {lx1 : Int32} (e1 : m_lk lv 1 = some (.int lx1)) (lq1 : lx1.toInt = w) {lx2 : Int32} (e2 : m_lk lv 2 = some (.int lx2)) (lq2 : lx2.toInt = v) {lx3 : Int32} (e3 : m_lk lv 3 = some (.int lx3)) (lq3 : lx3.toInt = a) {lx4 : Int32} (e4 : m_lk lv 4 = some (.int lx4)) (lq4 : lx4.toInt = b) {sx0 : Int32} (sq0 : sx0.toInt = z) 
    (g0 : z ≠ 0 → w ≠ 2 → HJ 208 0 (lv_args 0 [.ref m, .int lx2]) [] h (fun v h' => HJ 204 37 lv (v.toList ++ []) h' Q))
    (g1 : z ≠ 0 → w = 2 → HJ 206 0 (lv_args 0 [.ref m, .int lx2, .int lx3]) [] h (fun v h' => HJ 204 31 lv (v.toList ++ []) h' Q))
    (g2 : ∀ x2 : Int32, x2.toInt = 0 → z = 0 → Q (some (.int x2)) h)
    : HJ 204 15 lv [.int sx0] h Q := by
  refine hM_zne (off := 5) (t := 20) rfl sq0 (by decide) rfl (fun c15 => ?_) (fun c15 => ?_) -- 15
  · refine hI_il (k := 1) rfl e1 rfl ?_ -- 20
    refine hM_ic (n := 2) rfl (by decide) rfl (fun x1 q1 => ?_) -- 21
    refine hM_cne (off := 10) (t := 32) rfl lq1 q1 (by decide) rfl (fun c22 => ?_) (fun c22 => ?_) -- 22
    · refine hI_al (k := 0) rfl e0 rfl ?_ -- 32
      refine hI_il (k := 2) rfl e2 rfl ?_ -- 33
      refine hM_iv M (by decide) rfl rfl (by decide) (as := [.int lx2]) (r := []) rfl rfl (by decide +kernel) rfl (by decide +kernel) rfl rfl rfl rfl rfl ?_ -- 34
      exact g0 c15 c22
    · refine hI_al (k := 0) rfl e0 rfl ?_ -- 25
      refine hI_il (k := 2) rfl e2 rfl ?_ -- 26
      refine hI_il (k := 3) rfl e3 rfl ?_ -- 27
      refine hM_iv M (by decide) rfl rfl (by decide) (as := [.int lx2, .int lx3]) (r := []) rfl rfl (by decide +kernel) rfl (by decide +kernel) rfl rfl rfl rfl rfl ?_ -- 28
      exact g1 c15 c22
  · refine hM_ic (n := 0) rfl (by decide) rfl (fun x2 q2 => ?_) -- 18
    refine hM_rb rfl rfl q2 (by omega) (by omega) ?_ -- 19
    exact g2 x2 q2 c15
theorem s_do31 {z : Int} (M : MX 49 W ρ m A h0 h F V G) {sx0 : Int32} (sq0 : sx0.toInt = z) (z0 : 0 ≤ z) (z1 : z ≤ 1)
    (g0 : Q (some (.int sx0)) h)
    : HJ 204 31 lv [.int sx0] h Q := by
  refine hM_rb rfl rfl sq0 (by omega) (by omega) ?_ -- 31
  exact g0 
theorem s_do37 {w v a b : Int} (M : MX 49 W ρ m A h0 h F V G) (e0 : m_lk lv 0 = some (.ref m)) {lx1 : Int32} (e1 : m_lk lv 1 = some (.int lx1)) (lq1 : lx1.toInt = w) {lx2 : Int32} (e2 : m_lk lv 2 = some (.int lx2)) (lq2 : lx2.toInt = v) {lx3 : Int32} (e3 : m_lk lv 3 = some (.int lx3)) (lq3 : lx3.toInt = a) {lx4 : Int32} (e4 : m_lk lv 4 = some (.int lx4)) (lq4 : lx4.toInt = b) 
    (g0 : w ≠ 1 → w ≠ 3 → w ≠ 4 → HJ 222 0 (lv_args 0 [.ref m, .int lx3]) [] h (fun v h' => HJ 204 82 lv (v.toList ++ []) h' Q))
    (g1 : w ≠ 1 → w ≠ 3 → w = 4 → HJ 218 0 (lv_args 0 [.ref m, .int lx3, .int lx4]) [] h (fun v h' => HJ 204 74 lv (v.toList ++ []) h' Q))
    (g2 : w ≠ 1 → w = 3 → HJ 216 0 (lv_args 0 [.ref m]) [] h (fun v h' => HJ 204 59 lv (v.toList ++ []) h' Q))
    (g3 : w = 1 → HJ 213 0 (lv_args 0 [.ref m, .int lx3]) [] h (fun v h' => HJ 204 47 lv (v.toList ++ []) h' Q))
    : HJ 204 37 lv [] h Q := by
  refine hI_il (k := 1) rfl e1 rfl ?_ -- 37
  refine hM_ic (n := 1) rfl (by decide) rfl (fun x1 q1 => ?_) -- 38
  refine hM_cne (off := 11) (t := 50) rfl lq1 q1 (by decide) rfl (fun c39 => ?_) (fun c39 => ?_) -- 39
  · refine hI_il (k := 1) rfl e1 rfl ?_ -- 50
    refine hM_ic (n := 3) rfl (by decide) rfl (fun x2 q2 => ?_) -- 51
    refine hM_cne (off := 10) (t := 62) rfl lq1 q2 (by decide) rfl (fun c52 => ?_) (fun c52 => ?_) -- 52
    · refine hI_il (k := 1) rfl e1 rfl ?_ -- 62
      refine hM_ic (n := 4) rfl (by decide) rfl (fun x3 q3 => ?_) -- 63
      refine hM_cne (off := 13) (t := 77) rfl lq1 q3 (by decide) rfl (fun c64 => ?_) (fun c64 => ?_) -- 64
      · refine hI_al (k := 0) rfl e0 rfl ?_ -- 77
        refine hI_il (k := 3) rfl e3 rfl ?_ -- 78
        refine hM_iv M (by decide) rfl rfl (by decide) (as := [.int lx3]) (r := []) rfl rfl (by decide +kernel) rfl (by decide +kernel) rfl rfl rfl rfl rfl ?_ -- 79
        exact g0 c39 c52 c64
      · refine hI_al (k := 0) rfl e0 rfl ?_ -- 67
        refine hI_il (k := 3) rfl e3 rfl ?_ -- 68
        refine hI_il2 (k := 4) rfl e4 rfl ?_ -- 69
        refine hM_iv M (by decide) rfl rfl (by decide) (as := [.int lx3, .int lx4]) (r := []) rfl rfl (by decide +kernel) rfl (by decide +kernel) rfl rfl rfl rfl rfl ?_ -- 71
        exact g1 c39 c52 c64
    · refine hI_al (k := 0) rfl e0 rfl ?_ -- 55
      refine hM_iv M (by decide) rfl rfl (by decide) (as := []) (r := []) rfl rfl (by decide +kernel) rfl (by decide +kernel) rfl rfl rfl rfl rfl ?_ -- 56
      exact g2 c39 c52
  · refine hI_al (k := 0) rfl e0 rfl ?_ -- 42
    refine hI_il (k := 3) rfl e3 rfl ?_ -- 43
    refine hM_iv M (by decide) rfl rfl (by decide) (as := [.int lx3]) (r := []) rfl rfl (by decide +kernel) rfl (by decide +kernel) rfl rfl rfl rfl rfl ?_ -- 44
    exact g3 c39
theorem s_do47 {z : Int} (M : MX 49 W ρ m A h0 h F V G) {sx0 : Int32} (sq0 : sx0.toInt = z) (z0 : 0 ≤ z) (z1 : z ≤ 1)
    (g0 : Q (some (.int sx0)) h)
    : HJ 204 47 lv [.int sx0] h Q := by
  refine hI_go (pc' := 82) (off := 35) rfl (by decide) ?_ -- 47
  refine hM_rb rfl rfl sq0 (by omega) (by omega) ?_ -- 82
  exact g0 
theorem s_do59 {z : Int} (M : MX 49 W ρ m A h0 h F V G) {sx0 : Int32} (sq0 : sx0.toInt = z) (z0 : 0 ≤ z) (z1 : z ≤ 1)
    (g0 : Q (some (.int sx0)) h)
    : HJ 204 59 lv [.int sx0] h Q := by
  refine hI_go (pc' := 82) (off := 23) rfl (by decide) ?_ -- 59
  refine hM_rb rfl rfl sq0 (by omega) (by omega) ?_ -- 82
  exact g0 
theorem s_do74 {z : Int} (M : MX 49 W ρ m A h0 h F V G) {sx0 : Int32} (sq0 : sx0.toInt = z) (z0 : 0 ≤ z) (z1 : z ≤ 1)
    (g0 : Q (some (.int sx0)) h)
    : HJ 204 74 lv [.int sx0] h Q := by
  refine hI_go (pc' := 82) (off := 8) rfl (by decide) ?_ -- 74
  refine hM_rb rfl rfl sq0 (by omega) (by omega) ?_ -- 82
  exact g0 
theorem s_do82 {z : Int} (M : MX 49 W ρ m A h0 h F V G) {sx0 : Int32} (sq0 : sx0.toInt = z) (z0 : 0 ≤ z) (z1 : z ≤ 1)
    (g0 : Q (some (.int sx0)) h)
    : HJ 204 82 lv [.int sx0] h Q := by
  refine hM_rb rfl rfl sq0 (by omega) (by omega) ?_ -- 82
  exact g0 
def g_do : List (Nat × Nat) := g_lw ++ [(62, 1001), (49, 18)]
theorem g_exM {F0 F : Nat → Int} {V0 V : Nat → Nat → Int} {k k2 : Int} (h : k ≤ k2) (I : g_ex F0 V0 F V k) : g_ex F0 V0 F V k2 := ⟨I.1, ⟨I.2.1.1, by have := I.2.1.2; omega⟩, I.2.2⟩
-- the reference's picture of a row's run
def ry_of (F : Nat → Int) (V : Nat → Nat → Int) (Y : RYt) : Prop := rs_of F V (ry_s Y) ∧ (F 18 = ry_t Y ∧ 0 ≤ ry_t Y) ∧ F 35 = (ry_v Y : Int) ∧ (∀ j, j < 6 * ry_v Y → V 36 j = ry_r Y j) ∧ (∀ v, v < ry_v Y → V 39 v = ry_a Y v ∧ V 40 v = ry_b Y v) ∧ ∀ k, k + 1 < ry_v Y → V 37 k = ry_m Y k ∧ V 38 k = ry_l Y k
def do_P (Y : RYt) (w v a b : Int) (F' : Nat → Int) (V' : Nat → Nat → Int) (x : Int) : Prop := (x = 0 ∧ ry_do Y w v a b = none ∧ rs_of F' V' (ps_le (ry_s Y) 0) ∧ F' 18 = ry_t Y) ∨ (x = 1 ∧ ∃ X, ry_do Y w v a b = some X ∧ rs_of F' V' X.1 ∧ hp6 (V' 24) X.2.1 ∧ F' 18 = X.2.2 ∧ (X.2.2 = ry_t Y ∨ X.2.2 = ry_t Y + 1))
theorem ry_isT {Y : RYt} {v : Int} (h : 0 ≤ v ∧ v < (ry_v Y : Int)) : ry_is Y v = true := decide_eq_true h
theorem ry_isF {Y : RYt} {v : Int} (h : ¬ (0 ≤ v ∧ v < (ry_v Y : Int))) : ry_is Y v = false := decide_eq_false h
theorem ry_isV {Y : RYt} {v : Int} (h : ry_is Y v = true) : 0 ≤ v ∧ v < (ry_v Y : Int) := of_decide_eq_true h
section
variable {Y : RYt} {w v a b : Int}
theorem ry_doF (w0 : w ≠ 0) (h : ry_is Y v = false) : ry_do Y w v a b = none := by
  simp only [ry_do, if_neg w0, if_pos h]
theorem ry_do0 (w0 : w = 0) : ry_do Y w v a b = some (ps_le (ry_s Y) 0, fun _ => -1, ry_t Y) := by
  simp only [ry_do, if_pos w0]
theorem ry_do2 (w2 : w = 2) (h : ry_is Y v = true) : ry_do Y w v a b = if ry_is Y a = true ∧ p_ws (ry_h Y v) 6 + p_ws (ry_h Y a) 6 ≤ 63 then some ((pm_md (ps_le (ry_s Y) 0) (ry_h Y v) (ry_h Y a)).1, (pm_md (ps_le (ry_s Y) 0) (ry_h Y v) (ry_h Y a)).2, ry_t Y) else none := by
  simp only [ry_do, if_neg (show w ≠ 0 by omega), h, if_pos w2, if_neg (show ¬ (true = false) by decide)]
theorem ry_do1 (w1 : w = 1) (h : ry_is Y v = true) : ry_do Y w v a b = if p_ws (ry_h Y v) 6 = 63 then none else some ((pm_pu (ps_le (ry_s Y) 0) (ry_h Y v) (ry_t Y) a).1, (pm_pu (ps_le (ry_s Y) 0) (ry_h Y v) (ry_t Y) a).2, ry_t Y + 1) := by
  simp only [ry_do, if_neg (show w ≠ 0 by omega), h, if_neg (show w ≠ 2 by omega), if_pos w1, if_neg (show ¬ (true = false) by decide)]
theorem ry_do3 (w3 : w = 3) (h : ry_is Y v = true) : ry_do Y w v a b = if pm_le (ps_le (ry_s Y) 0) (ry_h Y v) 6 = -1 then none else some ((pm_tk (ps_le (ry_s Y) 0, ry_h Y v)).1, (pm_tk (ps_le (ry_s Y) 0, ry_h Y v)).2, ry_t Y) := by
  simp only [ry_do, if_neg (show w ≠ 0 by omega), h, if_neg (show w ≠ 2 by omega), if_neg (show w ≠ 1 by omega), if_pos w3, if_neg (show ¬ (true = false) by decide)]
theorem ry_do4 (w4 : w = 4) (h : ry_is Y v = true) : ry_do Y w v a b = (match lw_do (ps_le (ry_s Y) 0) (ry_h Y v) a b with
    | none => none
    | some X => some (X.1, X.2, ry_t Y)) := by
  simp only [ry_do, if_neg (show w ≠ 0 by omega), h, if_neg (show w ≠ 2 by omega), if_neg (show w ≠ 1 by omega), if_neg (show w ≠ 3 by omega), if_pos w4, if_neg (show ¬ (true = false) by decide)]
  cases lw_do (ps_le (ry_s Y) 0) (ry_h Y v) a b <;> rfl
theorem ry_do5 (w0 : w ≠ 0) (w1 : w ≠ 1) (w2 : w ≠ 2) (w3 : w ≠ 3) (w4 : w ≠ 4) (h : ry_is Y v = true) : ry_do Y w v a b = some ((pm_ct a 63 (ps_le (ry_s Y) 0, ry_h Y v)).1, (pm_ct a 63 (ps_le (ry_s Y) 0, ry_h Y v)).2, ry_t Y) := by
  simp only [ry_do, if_neg w0, h, if_neg w2, if_neg w1, if_neg w3, if_neg w4, if_neg (show ¬ (true = false) by decide)]
end
theorem c_does {w v a b : Int} {xw xv xa xb : Int32} (M : MX 49 W ρ m A h0 h F V G) (b0_ : m_lk lv 0 = some (.ref m)) (b1_ : m_lk lv 1 = some (.int xw)) (b2_ : m_lk lv 2 = some (.int xv)) (b3_ : m_lk lv 3 = some (.int xa)) (b4_ : m_lk lv 4 = some (.int xb)) (hw : d_sub g_do W = true) (qw : xw.toInt = w) (qv : xv.toInt = v) (qa : xa.toInt = a) (qb : xb.toInt = b) (sh : p_sh (F 17) (V 22) (V 23)) (hp : p_hp (F 17) (V 22) (V 24)) (ro : p_ro (F 17) (F 35) (V 22) (V 36)) (n0 : 0 ≤ F 17) (n1 : F 17 + 378 ≤ 16000) (s41 : F 35 ≤ 41) (g : ∀ (x : Int32) (h' : MH) (F' : Nat → Int) (V' : Nat → Nat → Int), 0 ≤ x.toInt → x.toInt ≤ 1 → MX 49 W ρ m A h0 h' F' V' G → g_ex F V F' V' 378 → (x.toInt = 1 → w ≠ 0 → 0 ≤ v ∧ v < F 35) → (x.toInt = 1 → w = 2 → 0 ≤ a ∧ a < F 35) → (∀ Y, ry_of F V Y → F 19 = 0 → ry_t Y ≤ 127 → av_1 w a b → do_P Y w v a b F' V' x.toInt) → Q (some (.int x)) h') : HJ 204 0 lv [] h Q := by
  have st : ∀ Y, ry_of F V Y → F 19 = 0 → rs_of F V (ps_le (ry_s Y) 0) := fun Y y l => ⟨y.1.1, l, ⟨Int.le_refl _, by have := y.1.2.2.1; show (0 : Int) ≤ (ps_n (ry_s Y) : Int); omega⟩, y.1.2.2.2⟩
  have hv : ∀ Y u, ry_of F V Y → 0 ≤ u → u < F 35 → ∀ r, r < 6 → V 36 (6 * u.toNat + r) = ry_h Y u r := fun Y u y u0 u1 r hr => y.2.2.2.1 _ (by have := y.2.2.1; omega)
  have w1 : d_sub [(61, 1001)] W = true := d_subm hw (by decide +kernel)
  have w2 : d_sub g_ls W = true := d_subm hw (by decide +kernel)
  have w3 : d_sub g_pt W = true := d_subm hw (by decide +kernel)
  have w4 : d_sub g_lw W = true := d_subm hw (by decide +kernel)
  refine s_do0 M b0_ b1_ qw b2_ qv b3_ qa b4_ qb (fun c1 => ?_) (fun c1 => ?_)
  · refine c_isV M qv (fun z hz => ?_)
    refine s_do15 (z := z.toInt) M b0_ b1_ qw b2_ qv b3_ qa b4_ qb rfl (fun c15 c22 => ?_) (fun c15 c22 => ?_) (fun x2 q2 c15 => g x2 h F V (by omega) (by omega) M (g_exR (by omega) sh hp) (fun y => by omega) (fun y => by omega) (fun Y y l _ _ => Or.inl ⟨q2, ry_doF c1 (ry_isF (by have := y.2.2.1; omega)), st Y y l, y.2.1.1⟩))
    · obtain ⟨-, v0, v1⟩ := hz.resolve_right (fun y => c15 y.1)
      refine c_hand (v := v.toNat) M (by omega) (by omega) w1 (fun h2 V2 M2 k1 k2 => ?_)
      have sh2 : p_sh (F 17) (V2 22) (V2 23) := by rw [k2 22 (by decide), k2 23 (by decide)]; exact sh
      have hp2 : p_hp (F 17) (V2 22) (V2 24) := by
        rw [k2 22 (by decide)]
        intro r h6
        rw [k1 r h6]
        exact ro v.toNat r (by omega) h6
      have up : ∀ (k : Int) (F' : Nat → Int) (V' : Nat → Nat → Int), k ≤ 378 → g_ex F V2 F' V' k → g_ex F V F' V' 378 := fun k F' V' hk I => by
        obtain ⟨i1, ⟨i2, i3⟩, i4, i5, i6⟩ := I
        exact ⟨i1, ⟨i2, by omega⟩, i4, fun u hu => by rw [i5 u hu, k2 22 (by decide)], fun K hK => by rw [i6 K hK, k2 K (by omega)]⟩
      have st2 : ∀ Y, ry_of F V Y → F 19 = 0 → rs_of F V2 (ps_le (ry_s Y) 0) := fun Y y l => rs_ofV (st Y y l) rfl rfl (k2 20 (by decide)) (k2 21 (by decide)) (k2 22 (by decide)) (k2 23 (by decide))
      have h2v : ∀ Y, ry_of F V Y → hp6 (V2 24) (ry_h Y v) := fun Y y r hr => (k1 r hr).trans (hv Y v y v0 v1 r hr)
      have iv : ∀ Y, ry_of F V Y → ry_is Y v = true := fun Y y => ry_isT (by have := y.2.2.1; omega)
      refine s_do37 M2 b0_ b1_ qw b2_ qv b3_ qa b4_ qb (fun c39 c52 c64 => ?_) (fun c39 c52 c64 => ?_) (fun c39 c52 => ?_) (fun c39 => ?_)
      · exact c_cuts M2 rfl rfl w2 qa sh2 hp2 n0 (by omega) (fun x h3 F3 V3 x1 M3 I R L18 => s_do82 (z := x.toInt) M3 rfl (by omega) (by omega) (g x h3 F3 V3 (by omega) (by omega) M3 (up _ F3 V3 (by omega) I) (fun _ _ => ⟨v0, v1⟩) (fun _ y => by omega) (fun Y y l _ _ => Or.inr ⟨x1, _, ry_do5 c1 c39 c22 c52 c64 (iv Y y), (R _ _ (st2 Y y l) (h2v Y y)).1, (R _ _ (st2 Y y l) (h2v Y y)).2, L18.trans y.2.1.1, Or.inl rfl⟩)))
      · exact c_lowers M2 rfl rfl rfl w4 sh2 hp2 n0 (by omega) (fun x h3 F3 V3 x0 x1 M3 I R L18 => s_do74 (z := x.toInt) M3 rfl x0 x1 (g x h3 F3 V3 x0 x1 M3 (up _ F3 V3 (by omega) I) (fun _ _ => ⟨v0, v1⟩) (fun _ y => by omega) (fun Y y l _ av => by
        have bb := av.2 c64
        rcases R _ _ (st2 Y y l) (h2v Y y) (by omega) (by omega) with ⟨q1, q2, q3⟩ | ⟨q1, X, q2, q3, q4⟩
        · rw [qa, qb] at q2
          exact Or.inl ⟨q1, by rw [ry_do4 c64 (iv Y y), q2], q3, L18.trans y.2.1.1⟩
        · rw [qa, qb] at q2
          exact Or.inr ⟨q1, (X.1, X.2, ry_t Y), by rw [ry_do4 c64 (iv Y y), q2], q3, q4, L18.trans y.2.1.1, Or.inl rfl⟩)))
      · exact c_lessens M2 rfl w2 sh2 hp2 n0 (by omega) (fun x h3 F3 V3 x0 x1 M3 I _ _ R L18 => s_do59 (z := x.toInt) M3 rfl x0 x1 (g x h3 F3 V3 x0 x1 M3 (up _ F3 V3 (by omega) I) (fun _ _ => ⟨v0, v1⟩) (fun _ y => by omega) (fun Y y l _ _ => by
        rcases R _ _ (st2 Y y l) (h2v Y y) with ⟨q1, q2, q3, q4⟩ | ⟨q1, q2, q3, q4⟩
        · exact Or.inr ⟨q1, _, (ry_do3 c52 (iv Y y)).trans (if_neg q2), q3, q4, L18.trans y.2.1.1, Or.inl rfl⟩
        · exact Or.inl ⟨q1, by rw [ry_do3 c52 (iv Y y), if_pos q2], by rw [q3, q4]; exact st2 Y y l, L18.trans y.2.1.1⟩)))
      · exact c_puts M2 rfl rfl w3 qa sh2 hp2 n0 (by omega) (fun x h3 F3 V3 x0 x1 M3 I R => s_do47 (z := x.toInt) M3 rfl x0 x1 (g x h3 F3 V3 x0 x1 M3 (up _ F3 V3 (by omega) I) (fun _ _ => ⟨v0, v1⟩) (fun _ y => by omega) (fun Y y l t1 av => by
        have aa := av.1 c39
        have tt := y.2.1
        rcases R _ _ (st2 Y y l) (h2v Y y) (by omega) (by omega) aa.1 aa.2 with ⟨q1, q2, q3, q4, q5⟩ | ⟨q1, q2, q3, q4⟩
        · rw [tt.1] at q3 q4 q5
          exact Or.inr ⟨q1, _, (ry_do1 c39 (iv Y y)).trans (if_neg q2), q4, q5, q3, Or.inr rfl⟩
        · exact Or.inl ⟨q1, by rw [ry_do1 c39 (iv Y y), if_pos q2], by rw [q3, q4]; exact st2 Y y l, by rw [q3]; exact tt.1⟩)))
    · obtain ⟨-, v0, v1⟩ := hz.resolve_right (fun y => c15 y.1)
      exact c_melds M w2 qv qa sh hp ro n0 (by omega) s41 (fun x h3 F3 V3 x0 x1 M3 I ab R => s_do31 (z := x.toInt) M3 rfl x0 x1 (g x h3 F3 V3 x0 x1 M3 (g_exM (by omega) I) (fun _ _ => ⟨v0, v1⟩) (fun y _ => ab y) (fun Y y l _ _ => by
        have e35 := y.2.2.1
        have iv : ry_is Y v = true := ry_isT (by omega)
        rcases R _ (ry_h Y v) (ry_h Y a) (st Y y l) (hv Y v y) (hv Y a y) with ⟨q1, q2, q3, q4, q5, q6, q7⟩ | ⟨q1, q2, q3, q4⟩
        · exact Or.inr ⟨q1, _, (ry_do2 c22 iv).trans (if_pos ⟨ry_isT (by omega), q4⟩), q5, q6, q7.trans y.2.1.1, Or.inl rfl⟩
        · refine Or.inl ⟨q1, ?_, by rw [q3, q4]; exact st Y y l, by rw [q3]; exact y.2.1.1⟩
          rw [ry_do2 c22 iv, if_neg]
          intro z9
          have := ry_isV z9.1
          rcases q2 with q2 | q2 | q2 <;> omega)))
  · refine c_emp M w1 (fun h2 V2 M2 k1 k2 => ?_)
    refine s_do8 M2 (fun x q => g x h2 F V2 (by omega) (by omega) M2 ⟨⟨by rw [k2 22 (by decide), k2 23 (by decide)]; exact sh, fun r h6 => Or.inl (k1 r h6)⟩, ⟨Int.le_refl _, by omega⟩, fun _ _ _ _ _ => rfl, fun _ _ => by rw [k2 22 (by decide)], fun K hK => k2 K (by omega)⟩ (fun _ y => absurd c1 y) (fun _ y => by omega) (fun Y y l _ _ => Or.inr ⟨q, _, ry_do0 c1, rs_ofV (st Y y l) rfl rfl (k2 20 (by decide)) (k2 21 (by decide)) (k2 22 (by decide)) (k2 23 (by decide)), k1, y.2.1.1, Or.inl rfl⟩))
end
