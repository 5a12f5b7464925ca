section
-- VERSIONS, AND A ROW OF ACTS LAID
section
variable {lv : List (Nat × Value)} {Q : Option Value → MH → Prop} {W : List (Nat × Nat)} {ρ : Nat → Nat} {m : Nat} {A : Nat → Nat} {h0 h : MH} {F : Nat → Int} {V : Nat → Nat → Int} {G : Nat → Nat → Int64}
theorem s_in {x a b : Int} (M : MX 49 W ρ m A h0 h F V G) {lx0 : Int32} (e0 : m_lk lv 0 = some (.int lx0)) (lq0 : lx0.toInt = x) {lx1 : Int32} (e1 : m_lk lv 1 = some (.int lx1)) (lq1 : lx1.toInt = a) {lx2 : Int32} (e2 : m_lk lv 2 = some (.int lx2)) (lq2 : lx2.toInt = b) 
    (g0 : ∀ x1 : Int32, x1.toInt = 0 → x < a → Q (some (.int x1)) h)
    (g1 : ∀ x2 : Int32, x2.toInt = 0 → x ≥ a → x > b → Q (some (.int x2)) h)
    (g2 : ∀ x3 : Int32, x3.toInt = 1 → x ≥ a → x ≤ b → Q (some (.int x3)) h)
    : HJ 186 0 lv [] h Q := by
  refine hI_il (k := 0) rfl e0 rfl ?_ -- 0
  refine hI_il (k := 1) rfl e1 rfl ?_ -- 1
  refine hM_clt (off := 12) (t := 14) rfl lq0 lq1 (by decide) rfl (fun c2 => ?_) (fun c2 => ?_) -- 2
  · refine hM_ic (n := 0) rfl (by decide) rfl (fun x1 q1 => ?_) -- 14
    refine hM_rb rfl rfl q1 (by omega) (by omega) ?_ -- 15
    exact g0 x1 q1 c2
  · refine hI_il (k := 0) rfl e0 rfl ?_ -- 5
    refine hI_il (k := 2) rfl e2 rfl ?_ -- 6
    refine hM_cgt (off := 7) (t := 14) rfl lq0 lq2 (by decide) rfl (fun c7 => ?_) (fun c7 => ?_) -- 7
    · refine hM_ic (n := 0) rfl (by decide) rfl (fun x2 q2 => ?_) -- 14
      refine hM_rb rfl rfl q2 (by omega) (by omega) ?_ -- 15
      exact g1 x2 q2 c2 c7
    · refine hM_ic (n := 1) rfl (by decide) rfl (fun x3 q3 => ?_) -- 10
      refine hI_go (pc' := 15) (off := 4) rfl (by decide) ?_ -- 11
      refine hM_rb rfl rfl q3 (by omega) (by omega) ?_ -- 15
      exact g2 x3 q3 c2 c7
theorem c_in {x a b : Int} {xx xa xb : Int32} (M : MX 49 W ρ m A h0 h F V G) (hx : xx.toInt = x) (ha : xa.toInt = a) (hb : xb.toInt = b) (g : ∀ z : Int32, (z.toInt = 1 ∧ a ≤ x ∧ x ≤ b) ∨ (z.toInt = 0 ∧ (x < a ∨ b < x)) → Q (some (.int z)) h) : HJ 186 0 (lv_args 0 [.int xx, .int xa, .int xb]) [] h Q :=
  s_in M rfl hx rfl ha rfl hb (fun z q _ => g z (Or.inr ⟨q, Or.inl (by omega)⟩)) (fun z q _ _ => g z (Or.inr ⟨q, Or.inr (by omega)⟩)) (fun z q _ _ => g z (Or.inl ⟨q, by omega, by omega⟩))
theorem s_isv0 {v : Int} (M : MX 49 W ρ m A h0 h F V G) (e0 : m_lk lv 0 = some (.ref m)) {lx1 : Int32} (e1 : m_lk lv 1 = some (.int lx1)) (lq1 : lx1.toInt = v) 
    (g0 : ∀ x1 : Int32, x1.toInt = 0 → ∀ x4 : Int32, x4.toInt = (F 35) - 1 → 0 ≤ F 35 → F 35 ≤ 41 → HJ 186 0 (lv_args 0 [.int lx1, .int x1, .int x4]) [] h (fun v h' => HJ 205 11 lv (v.toList ++ []) h' Q))
    : HJ 205 0 lv [] h Q := by
  refine hI_il (k := 1) rfl e1 rfl ?_ -- 0
  refine hM_ic (n := 0) rfl (by decide) rfl (fun x1 q1 => ?_) -- 1
  refine hI_al (k := 0) rfl e0 rfl ?_ -- 2
  refine hM_gi M (by decide) rfl rfl rfl (k := 35) (c := 9) (lo := 0) (hi := 41) rfl rfl rfl rfl rfl (fun x2 q2 a2 b2 => ?_) -- 3
  refine hM_ic (n := 1) rfl (by decide) rfl (fun x3 q3 => ?_) -- 6
  refine hM_sub rfl q2 q3 (by omega) (by omega) rfl (fun x4 q4 => ?_) -- 7
  refine hM_is0 (as := [.int lx1, .int x1, .int x4]) (r := []) rfl rfl (by decide +kernel) rfl rfl rfl rfl rfl ?_ -- 8
  exact g0 x1 q1 x4 q4 a2 b2
theorem s_isv11 {z : Int} (M : MX 49 W ρ m A h0 h F V G) {sx0 : Int32} (sq0 : sx0.toInt = z) (z0 : 0 ≤ z) (z1 : z ≤ 1)
    (g0 : Q (some (.int sx0)) h)
    : HJ 205 11 lv [.int sx0] h Q := by
  refine hM_rb rfl rfl sq0 (by omega) (by omega) ?_ -- 11
  exact g0 
theorem c_isV {v : Int} {xv : Int32} (M : MX 49 W ρ m A h0 h F V G) (hv : xv.toInt = v) (g : ∀ z : Int32, (z.toInt = 1 ∧ 0 ≤ v ∧ v < F 35) ∨ (z.toInt = 0 ∧ (v < 0 ∨ F 35 ≤ v)) → Q (some (.int z)) h) : HJ 205 0 (lv_args 0 [.ref m, .int xv]) [] h Q := by
  refine s_isv0 M rfl rfl hv (fun x1 q1 x4 q4 a2 b2 => c_in M hv q1 q4 (fun z hz => ?_))
  exact s_isv11 (z := z.toInt) M rfl (by omega) (by omega) (g z (by omega))
theorem s_isr0 {r : Int} (M : MX 49 W ρ m A h0 h F V G) (e0 : m_lk lv 0 = some (.ref m)) {lx1 : Int32} (e1 : m_lk lv 1 = some (.int lx1)) (lq1 : lx1.toInt = r) 
    (g0 : ∀ x1 : Int32, x1.toInt = 0 → ∀ x5 : Int32, x5.toInt = (V 5 (0 : Int).toNat) - 1 → 0 ≤ V 5 (0 : Int).toNat → V 5 (0 : Int).toNat ≤ 4 → HJ 186 0 (lv_args 0 [.int lx1, .int x1, .int x5]) [] h (fun v h' => HJ 188 13 lv (v.toList ++ []) h' Q))
    : HJ 188 0 lv [] h Q := by
  refine hI_il (k := 1) rfl e1 rfl ?_ -- 0
  refine hM_ic (n := 0) rfl (by decide) rfl (fun x1 q1 => ?_) -- 1
  refine hI_al (k := 0) rfl e0 rfl ?_ -- 2
  refine hM_ga M (by decide) rfl rfl (k := 5) (c := 9) rfl rfl rfl (by decide +kernel) rfl ?_ -- 3
  refine hM_ic (n := 0) rfl (by decide) rfl (fun x2 q2 => ?_) -- 6
  refine hM_ia M (by decide) (K := 5) (R2 := 54) (L := 4) (H := 4) (lo := 0) (hi := 4) rfl (by decide) rfl rfl (fun _ => rfl) rfl q2 (by omega) (by omega) rfl (fun x3 q3 a3 b3 => ?_) -- 7
  refine hM_ic (n := 1) rfl (by decide) rfl (fun x4 q4 => ?_) -- 8
  refine hM_sub rfl q3 q4 (by omega) (by omega) rfl (fun x5 q5 => ?_) -- 9
  refine hM_is0 (as := [.int lx1, .int x1, .int x5]) (r := []) rfl rfl (by decide +kernel) rfl rfl rfl rfl rfl ?_ -- 10
  exact g0 x1 q1 x5 q5 a3 b3
theorem s_isr13 {z : Int} (M : MX 49 W ρ m A h0 h F V G) {sx0 : Int32} (sq0 : sx0.toInt = z) (z0 : 0 ≤ z) (z1 : z ≤ 1)
    (g0 : Q (some (.int sx0)) h)
    : HJ 188 13 lv [.int sx0] h Q := by
  refine hM_rb rfl rfl sq0 (by omega) (by omega) ?_ -- 13
  exact g0 
theorem c_isR {r : Int} {xr : Int32} (M : MX 49 W ρ m A h0 h F V G) (hr : xr.toInt = r) (g : ∀ z : Int32, (z.toInt = 1 ∧ 0 ≤ r ∧ r ≤ 3 ∧ r < V 5 0) ∨ (z.toInt = 0 ∧ ¬ (0 ≤ r ∧ r < V 5 0)) → Q (some (.int z)) h) : HJ 188 0 (lv_args 0 [.ref m, .int xr]) [] h Q := by
  refine s_isr0 M rfl rfl hr (fun x1 q1 x4 q4 a2 b2 => c_in M hr q1 q4 (fun z hz => ?_))
  have b2 : V 5 0 ≤ 4 := b2
  have hz : (z.toInt = 1 ∧ 0 ≤ r ∧ r ≤ V 5 0 - 1) ∨ (z.toInt = 0 ∧ (r < 0 ∨ V 5 0 - 1 < r)) := hz
  exact s_isr13 (z := z.toInt) M rfl (by omega) (by omega) (g z (by omega))
theorem s_acts {r : Int} (M : MX 49 W ρ m A h0 h F V G) (e0 : m_lk lv 0 = some (.ref m)) {lx1 : Int32} (e1 : m_lk lv 1 = some (.int lx1)) (lq1 : lx1.toInt = r) (r0 : 0 ≤ r) (r1 : r ≤ 3)
    (g0 : ∀ x3 : Int32, x3.toInt = V 6 (161 * r).toNat → Q (some (.int x3)) h)
    : HJ 198 0 lv [] h Q := by
  refine hI_al (k := 0) rfl e0 rfl ?_ -- 0
  refine hM_ga M (by decide) rfl rfl (k := 6) (c := 9) rfl rfl rfl (by decide +kernel) rfl ?_ -- 1
  refine hM_sp (n := 161) rfl (by decide) rfl (fun x1 q1 => ?_) -- 4
  refine hI_il (k := 1) rfl e1 rfl ?_ -- 7
  refine hM_mul rfl q1 lq1 (by omega) (by omega) rfl (fun x2 q2 => ?_) -- 8
  refine hM_ia M (by decide) (K := 6) (R2 := 55) (L := 2576) (H := 2576) (lo := (-2147483648)) (hi := 2147483647) rfl (by decide) rfl rfl (fun _ => rfl) rfl q2 (by omega) (by omega) rfl (fun x3 q3 a3 b3 => ?_) -- 9
  refine hI_ri rfl rfl ?_ -- 10
  exact g0 x3 q3
theorem s_act {r k q : Int} (M : MX 49 W ρ m A h0 h F V G) (e0 : m_lk lv 0 = some (.ref m)) {lx1 : Int32} (e1 : m_lk lv 1 = some (.int lx1)) (lq1 : lx1.toInt = r) {lx2 : Int32} (e2 : m_lk lv 2 = some (.int lx2)) (lq2 : lx2.toInt = k) {lx3 : Int32} (e3 : m_lk lv 3 = some (.int lx3)) (lq3 : lx3.toInt = q) (r0 : 0 ≤ r) (r1 : r ≤ 3) (k0 : 0 ≤ k) (k1 : k ≤ 39) (q0 : 0 ≤ q) (q1 : q ≤ 3)
    (g0 : ∀ x9 : Int32, x9.toInt = V 6 ((((161 * r) + 1) + (4 * k)) + q).toNat → Q (some (.int x9)) h)
    : HJ 199 0 lv [] h Q := by
  refine hI_al (k := 0) rfl e0 rfl ?_ -- 0
  refine hM_ga M (by decide) rfl rfl (k := 6) (c := 9) rfl rfl rfl (by decide +kernel) rfl ?_ -- 1
  refine hM_sp (n := 161) rfl (by decide) rfl (fun x1 q1 => ?_) -- 4
  refine hI_il (k := 1) rfl e1 rfl ?_ -- 7
  refine hM_mul rfl q1 lq1 (by omega) (by omega) rfl (fun x2 q2 => ?_) -- 8
  refine hM_ic (n := 1) rfl (by decide) rfl (fun x3 q3 => ?_) -- 9
  refine hM_add rfl q2 q3 (by omega) (by omega) rfl (fun x4 q4 => ?_) -- 10
  refine hM_ic (n := 4) rfl (by decide) rfl (fun x5 q5 => ?_) -- 11
  refine hI_il (k := 2) rfl e2 rfl ?_ -- 12
  refine hM_mul rfl q5 lq2 (by omega) (by omega) rfl (fun x6 q6 => ?_) -- 13
  refine hM_add rfl q4 q6 (by omega) (by omega) rfl (fun x7 q7 => ?_) -- 14
  refine hI_il (k := 3) rfl e3 rfl ?_ -- 15
  refine hM_add rfl q7 lq3 (by omega) (by omega) rfl (fun x8 q8 => ?_) -- 16
  refine hM_ia M (by decide) (K := 6) (R2 := 55) (L := 2576) (H := 2576) (lo := (-2147483648)) (hi := 2147483647) rfl (by decide) rfl rfl (fun _ => rfl) rfl q8 (by omega) (by omega) rfl (fun x9 q9 a9 b9 => ?_) -- 17
  refine hI_ri rfl rfl ?_ -- 18
  exact g0 x9 q9
theorem c_acts {r : Int} {xr : Int32} (M : MX 49 W ρ m A h0 h F V G) (hr : xr.toInt = r) (r0 : 0 ≤ r) (r1 : r ≤ 3) (g : ∀ z : Int32, z.toInt = V 6 (161 * r).toNat → Q (some (.int z)) h) : HJ 198 0 (lv_args 0 [.ref m, .int xr]) [] h Q := s_acts M rfl rfl hr r0 r1 g
theorem c_act {r k q : Int} {xr xk xq : Int32} (M : MX 49 W ρ m A h0 h F V G) (hr : xr.toInt = r) (hk : xk.toInt = k) (hq : xq.toInt = q) (r0 : 0 ≤ r) (r1 : r ≤ 3) (k0 : 0 ≤ k) (k1 : k ≤ 39) (q0 : 0 ≤ q) (q3 : q ≤ 3) (g : ∀ z : Int32, z.toInt = V 6 (161 * r + 1 + 4 * k + q).toNat → Q (some (.int z)) h) : HJ 199 0 (lv_args 0 [.ref m, .int xr, .int xk, .int xq]) [] h Q := s_act M rfl rfl hr rfl hk rfl hq r0 r1 k0 k1 q0 q3 g
-- a version's size
def p_wv (ro : Nat → Int) (v : Nat) : Nat := p_ws (fun r => ro (6 * v + r)) 6
theorem s_sza0 {v : Int} (M : MX 49 W ρ m A h0 h F V G) (e0 : m_lk lv 0 = some (.ref m)) {lx1 : Int32} (e1 : m_lk lv 1 = some (.int lx1)) (lq1 : lx1.toInt = v) 
    (g0 : ∀ x1 : Int32, x1.toInt = 0 → ∀ x3 : Int32, x3.toInt = 0 → ∀ lv4 : List (Nat × Value), m_lk lv4 0 = some (.ref m) → m_lk lv4 1 = some (.int lx1) → m_lk lv4 2 = some (.int x1) → m_lk lv4 3 = some (.int x3) → HJ 207 4 lv4 [] h Q)
    : HJ 207 0 lv [] h Q := by
  refine hM_ic (n := 0) rfl (by decide) rfl (fun x1 q1 => ?_) -- 0
  refine hM_si (k := 2) rfl (by decide +kernel) rfl (fun lv2 e2_2 u2 => ?_) -- 1
  have e2_0 := u2 0 _ (by decide) (Or.inl rfl) e0
  have e2_1 := u2 1 _ (by decide) (Or.inl rfl) e1
  refine hM_ic (n := 0) rfl (by decide) rfl (fun x3 q3 => ?_) -- 2
  refine hM_si (k := 3) rfl (by decide +kernel) rfl (fun lv4 e4_3 u4 => ?_) -- 3
  have e4_0 := u4 0 _ (by decide) (Or.inl rfl) e2_0
  have e4_1 := u4 1 _ (by decide) (Or.inl rfl) e2_1
  have e4_2 := u4 2 _ (by decide) (Or.inl rfl) e2_2
  exact g0 x1 q1 x3 q3 lv4 e4_0 e4_1 e4_2 e4_3
theorem s_sza4 {v n r : Int} (M : MX 49 W ρ m A h0 h F V G) (e0 : m_lk lv 0 = some (.ref m)) {lx1 : Int32} (e1 : m_lk lv 1 = some (.int lx1)) (lq1 : lx1.toInt = v) {lx2 : Int32} (e2 : m_lk lv 2 = some (.int lx2)) (lq2 : lx2.toInt = n) {lx3 : Int32} (e3 : m_lk lv 3 = some (.int lx3)) (lq3 : lx3.toInt = r) (r0 : 0 ≤ r) (v0 : 0 ≤ v) (v1 : v ≤ 40) (n0 : 0 ≤ n) (n1 : n ≤ 1000) (t0 : 0 ≤ (2 : Int) ^ r.toNat) (t1 : (2 : Int) ^ r.toNat ≤ 64)
    (g0 : r ≥ 6 → Q (some (.int lx2)) h)
    (g1 : ∀ x9 : Int32, x9.toInt = n + ((2 : Int) ^ (r).toNat) → ∀ x11 : Int32, x11.toInt = r + 1 → ∀ lv11 : List (Nat × Value), m_lk lv11 0 = some (.ref m) → m_lk lv11 1 = some (.int lx1) → m_lk lv11 2 = some (.int x9) → m_lk lv11 3 = some (.int x11) → r < 6 → (-1) ≤ V 36 ((6 * v) + r).toNat → V 36 ((6 * v) + r).toNat ≤ 15999 → V 36 ((6 * v) + r).toNat ≠ (-1) → HJ 207 4 lv11 [] h Q)
    (g2 : ∀ x13 : Int32, x13.toInt = n + 0 → ∀ x15 : Int32, x15.toInt = r + 1 → ∀ lv15 : List (Nat × Value), m_lk lv15 0 = some (.ref m) → m_lk lv15 1 = some (.int lx1) → m_lk lv15 2 = some (.int x13) → m_lk lv15 3 = some (.int x15) → r < 6 → (-1) ≤ V 36 ((6 * v) + r).toNat → V 36 ((6 * v) + r).toNat ≤ 15999 → V 36 ((6 * v) + r).toNat = (-1) → HJ 207 4 lv15 [] h Q)
    : HJ 207 4 lv [] h Q := by
  refine hI_il (k := 3) rfl e3 rfl ?_ -- 4
  refine hM_bp (n := 6) rfl (by decide) rfl (fun x1 q1 => ?_) -- 5
  refine hM_cge (off := 34) (t := 41) rfl lq3 q1 (by decide) rfl (fun c7 => ?_) (fun c7 => ?_) -- 7
  · refine hI_il (k := 2) rfl e2 rfl ?_ -- 41
    refine hI_ri rfl rfl ?_ -- 42
    exact g0 c7
  · refine hI_il (k := 2) rfl e2 rfl ?_ -- 10
    refine hI_al (k := 0) rfl e0 rfl ?_ -- 11
    refine hM_ga M (by decide) rfl rfl (k := 36) (c := 9) rfl rfl rfl (by decide +kernel) rfl ?_ -- 12
    refine hM_bp (n := 6) rfl (by decide) rfl (fun x2 q2 => ?_) -- 15
    refine hI_il (k := 1) rfl e1 rfl ?_ -- 17
    refine hM_mul rfl q2 lq1 (by omega) (by omega) rfl (fun x3 q3 => ?_) -- 18
    refine hI_il (k := 3) rfl e3 rfl ?_ -- 19
    refine hM_add rfl q3 lq3 (by omega) (by omega) rfl (fun x4 q4 => ?_) -- 20
    refine hM_ia M (by decide) (K := 36) (R2 := 71) (L := 246) (H := 246) (lo := (-1)) (hi := 15999) rfl (by decide) rfl rfl (fun _ => rfl) rfl q4 (by omega) (by omega) rfl (fun x5 q5 a5 b5 => ?_) -- 21
    refine hM_ic (n := (-1)) rfl (by decide) rfl (fun x6 q6 => ?_) -- 22
    refine hM_cne (off := 7) (t := 30) rfl q5 q6 (by decide) rfl (fun c23 => ?_) (fun c23 => ?_) -- 23
    · refine hM_ic (n := 1) rfl (by decide) rfl (fun x7 q7 => ?_) -- 30
      refine hI_il (k := 3) rfl e3 rfl ?_ -- 31
      refine hM_shl rfl q7 lq3 (by omega) (by omega) rfl (fun x8 q8 => ?_) -- 32
      refine hM_add rfl lq2 q8 (by omega) (by omega) rfl (fun x9 q9 => ?_) -- 33
      refine hM_si (k := 2) rfl (by decide +kernel) rfl (fun lv10 e10_2 u10 => ?_) -- 34
      have e10_0 := u10 0 _ (by decide) (Or.inl rfl) e0
      have e10_1 := u10 1 _ (by decide) (Or.inl rfl) e1
      have e10_3 := u10 3 _ (by decide) (Or.inl rfl) e3
      refine hM_inc (k := 3) (z := 1) rfl e10_3 lq3 (by decide) (by omega) (by omega) (by decide +kernel) rfl (fun lv11 x11 q11 e11_3 u11 => ?_) -- 35
      have e11_0 := u11 0 _ (by decide) (Or.inl rfl) e10_0
      have e11_1 := u11 1 _ (by decide) (Or.inl rfl) e10_1
      have e11_2 := u11 2 _ (by decide) (Or.inl rfl) e10_2
      refine hI_go (pc' := 4) (off := (-34)) rfl (by decide) ?_ -- 38
      exact g1 x9 q9 x11 q11 lv11 e11_0 e11_1 e11_2 e11_3 c7 a5 b5 c23
    · refine hM_ic (n := 0) rfl (by decide) rfl (fun x12 q12 => ?_) -- 26
      refine hI_go (pc' := 33) (off := 6) rfl (by decide) ?_ -- 27
      refine hM_add rfl lq2 q12 (by omega) (by omega) rfl (fun x13 q13 => ?_) -- 33
      refine hM_si (k := 2) rfl (by decide +kernel) rfl (fun lv14 e14_2 u14 => ?_) -- 34
      have e14_0 := u14 0 _ (by decide) (Or.inl rfl) e0
      have e14_1 := u14 1 _ (by decide) (Or.inl rfl) e1
      have e14_3 := u14 3 _ (by decide) (Or.inl rfl) e3
      refine hM_inc (k := 3) (z := 1) rfl e14_3 lq3 (by decide) (by omega) (by omega) (by decide +kernel) rfl (fun lv15 x15 q15 e15_3 u15 => ?_) -- 35
      have e15_0 := u15 0 _ (by decide) (Or.inl rfl) e14_0
      have e15_1 := u15 1 _ (by decide) (Or.inl rfl) e14_1
      have e15_2 := u15 2 _ (by decide) (Or.inl rfl) e14_2
      refine hI_go (pc' := 4) (off := (-34)) rfl (by decide) ?_ -- 38
      exact g2 x13 q13 x15 q15 lv15 e15_0 e15_1 e15_2 e15_3 c7 a5 b5 c23
theorem l_sizeAt {v : Nat} {xv : Int32} (M : MX 49 W ρ m A h0 h F V G) (hv : v ≤ 40) (qv : xv.toInt = (v : Int)) (g : ∀ x : Int32, x.toInt = (p_wv (V 36) v : Int) → Q (some (.int x)) h) : ∀ (d r : Nat) (lv : List (Nat × Value)) (xn xr : Int32), r + d = 6 → xn.toInt = (p_ws (fun r => V 36 (6 * v + r)) r : Int) → xr.toInt = (r : Int) → m_lk lv 0 = some (.ref m) → m_lk lv 1 = some (.int xv) → m_lk lv 2 = some (.int xn) → m_lk lv 3 = some (.int xr) → HJ 207 4 lv [] h Q := by
  intro d
  induction d with
  | zero =>
    intro r lv xn xr hd hn hr e0 e1 e2 e3
    have r6 : r = 6 := by omega
    subst r6
    have b := p_wsL (f := fun r => V 36 (6 * v + r)) 6
    exact s_sza4 M e0 e1 qv e2 hn e3 hr (by omega) (by omega) (by omega) (by omega) (by omega) (by decide) (by decide) (fun _ => g xn hn) (fun x9 q9 x11 q11 lv11 e11_0 e11_1 e11_2 e11_3 c7 a5 b5 c23 => by omega) (fun x9 q9 x11 q11 lv11 e11_0 e11_1 e11_2 e11_3 c7 a5 b5 c23 => by omega)
  | succ d ih =>
    intro r lv xn xr hd hn hr e0 e1 e2 e3
    have b := p_wsL (f := fun r => V 36 (6 * v + r)) r
    have b2 := n_2q (k := r) (by omega)
    have b3 := i_2q (k := r) (by omega)
    have eN : (6 * (v : Int) + (r : Int)).toNat = 6 * v + r := by omega
    refine s_sza4 M e0 e1 qv e2 hn e3 hr (by omega) (by omega) (by omega) (by omega) (by omega) (by rw [Int.toNat_natCast]; omega) (by rw [Int.toNat_natCast]; omega) (fun _ => by omega) (fun x9 q9 x11 q11 lv11 d0 d1 d2 d3 c7 a5 b5 c23 => ?_) (fun x9 q9 x11 q11 lv11 d0 d1 d2 d3 c7 a5 b5 c23 => ?_)
    · rw [eN] at c23
      rw [Int.toNat_natCast] at q9
      refine ih (r + 1) lv11 x9 x11 (by omega) ?_ (by omega) d0 d1 d2 d3
      rw [p_ws, y_tg1 c23]
      omega
    · rw [eN] at c23
      refine ih (r + 1) lv11 x9 x11 (by omega) ?_ (by omega) d0 d1 d2 d3
      rw [p_ws, y_tg0 c23]
      omega
theorem c_sizeAt {v : Nat} {xv : Int32} (M : MX 49 W ρ m A h0 h F V G) (hv : v ≤ 40) (qv : xv.toInt = (v : Int)) (g : ∀ x : Int32, x.toInt = (p_wv (V 36) v : Int) → Q (some (.int x)) h) : HJ 207 0 (lv_args 0 [.ref m, .int xv]) [] h Q := by
  refine s_sza0 M rfl rfl qv (fun x1 q1 x3 q3 lv4 e0 e1 e2 e3 => ?_)
  exact l_sizeAt M hv qv g 6 0 lv4 x1 x3 rfl q1 q3 e0 e1 e2 e3
theorem p_wvL (ro : Nat → Int) (v : Nat) : p_wv ro v ≤ 63 := by
  have := p_wsL (f := fun r => ro (6 * v + r)) 6
  have e : (2 : Nat) ^ 6 = 64 := rfl
  unfold p_wv
  omega
theorem s_emp0 (M : MX 49 W ρ m A h0 h F V G) (e0 : m_lk lv 0 = some (.ref m)) 
    (g0 : ∀ x1 : Int32, x1.toInt = 0 → ∀ lv2 : List (Nat × Value), m_lk lv2 0 = some (.ref m) → m_lk lv2 1 = some (.int x1) → HJ 202 2 lv2 [] h Q)
    : HJ 202 0 lv [] h Q := by
  refine hM_ic (n := 0) rfl (by decide) rfl (fun x1 q1 => ?_) -- 0
  refine hM_si (k := 1) rfl (by decide +kernel) rfl (fun lv2 e2_1 u2 => ?_) -- 1
  have e2_0 := u2 0 _ (by decide) (Or.inl rfl) e0
  exact g0 x1 q1 lv2 e2_0 e2_1
theorem s_emp {r : Int} (M : MX 49 W ρ m A h0 h F V G) (e0 : m_lk lv 0 = some (.ref m)) {lx1 : Int32} (e1 : m_lk lv 1 = some (.int lx1)) (lq1 : lx1.toInt = r) (r0 : 0 ≤ r)(hw : d_sub [(61, 1001)] W = true)
    (g0 : r ≥ 6 → Q none h)
    (g1 : ∀ h3 : MH, ∀ V3 : Nat → Nat → Int, V3 = m_u V 24 (m_u (V 24) (r).toNat ((-1))) → ∀ x4 : Int32, x4.toInt = r + 1 → ∀ lv4 : List (Nat × Value), MX 49 W ρ m A h0 h3 F V3 G → m_lk lv4 0 = some (.ref m) → m_lk lv4 1 = some (.int x4) → r < 6 → HJ 202 2 lv4 [] h3 Q)
    : HJ 202 2 lv [] h Q := by
  refine hI_il (k := 1) rfl e1 rfl ?_ -- 2
  refine hM_bp (n := 6) rfl (by decide) rfl (fun x1 q1 => ?_) -- 3
  refine hM_cge (off := 16) (t := 21) rfl lq1 q1 (by decide) rfl (fun c5 => ?_) (fun c5 => ?_) -- 5
  · refine hI_rv rfl rfl ?_
    exact g0 c5
  · refine hI_al (k := 0) rfl e0 rfl ?_ -- 8
    refine hM_ga M (by decide) rfl rfl (k := 24) (c := 9) rfl rfl rfl (by decide +kernel) rfl ?_ -- 9
    refine hI_il (k := 1) rfl e1 rfl ?_ -- 12
    refine hM_ic (n := (-1)) rfl (by decide) rfl (fun x2 q2 => ?_) -- 13
    refine hM_is M (by decide) ok_49 (K := 24) (R2 := 61) (L := 6) (H := 6) (lo := (-1)) (hi := 15999) rfl (by decide) rfl rfl rfl (fun _ => rfl) (d_subm hw (by decide +kernel)) rfl lq1 q2 (by omega) (by omega) (by omega) (by omega) rfl (fun h3 V3 f3 M3 => ?_) -- 14
    refine hM_inc (k := 1) (z := 1) rfl e1 lq1 (by decide) (by omega) (by omega) (by decide +kernel) rfl (fun lv4 x4 q4 e4_1 u4 => ?_) -- 15
    have e4_0 := u4 0 _ (by decide) (Or.inl rfl) e0
    refine hI_go (pc' := 2) (off := (-16)) rfl (by decide) ?_ -- 18
    exact g1 h3 V3 f3 x4 q4 lv4 M3 e4_0 e4_1 c5
theorem l_emp {V0 : Nat → Nat → Int} (hw : d_sub [(61, 1001)] W = true) (g : ∀ (h' : MH) (V' : Nat → Nat → Int), MX 49 W ρ m A h0 h' F V' G → (∀ r, r < 6 → V' 24 r = -1) → (∀ K, K ≠ 24 → V' K = V0 K) → Q none h') : ∀ (d r : Nat) (lv : List (Nat × Value)) (h : MH) (V : Nat → Nat → Int) (xr : Int32), r + d = 6 → MX 49 W ρ m A h0 h F V G → xr.toInt = (r : Int) → (∀ k, k < r → V 24 k = -1) → (∀ K, K ≠ 24 → V K = V0 K) → m_lk lv 0 = some (.ref m) → m_lk lv 1 = some (.int xr) → HJ 202 2 lv [] h Q := by
  intro d
  induction d with
  | zero =>
    intro r lv h V xr hd M hr k1 k2 e0 e1
    have r6 : r = 6 := by omega
    subst r6
    exact s_emp M e0 e1 hr (by omega) hw (fun _ => g h V M k1 k2) (fun h3 V3 f3 x4 q4 lv4 M3 e4_0 e4_1 c5 => by omega)
  | succ d ih =>
    intro r lv h V xr hd M hr k1 k2 e0 e1
    refine s_emp M e0 e1 hr (by omega) hw (fun _ => by omega) (fun h3 V3 f3 x4 q4 lv4 M3 e4_0 e4_1 c5 => ?_)
    simp only [Int.toNat_natCast] at f3
    refine ih (r + 1) lv4 h3 V3 x4 (by omega) M3 (by omega) (fun k hk => ?_) (fun K hK => by rw [f3, m_uN _ _ _ _ hK, k2 K hK]) e4_0 e4_1
    rw [f3, m_uE]
    by_cases e : k = r
    · rw [e, m_uE]
    · rw [m_uN _ _ _ _ e]
      exact k1 k (by omega)
theorem c_emp (M : MX 49 W ρ m A h0 h F V G) (hw : d_sub [(61, 1001)] W = true) (g : ∀ (h' : MH) (V' : Nat → Nat → Int), MX 49 W ρ m A h0 h' F V' G → (∀ r, r < 6 → V' 24 r = -1) → (∀ K, K ≠ 24 → V' K = V K) → Q none h') : HJ 202 0 (lv_args 0 [.ref m]) [] h Q := by
  refine s_emp0 M rfl (fun x1 q1 lv2 e2_0 e2_1 => ?_)
  exact l_emp hw g 6 0 lv2 h V x1 rfl M q1 (fun k hk => by omega) (fun _ _ => rfl) e2_0 e2_1
theorem s_keep0 {a b : Int} (M : MX 49 W ρ m A h0 h F V G) (e0 : m_lk lv 0 = some (.ref m)) {lx1 : Int32} (e1 : m_lk lv 1 = some (.int lx1)) (lq1 : lx1.toInt = a) {lx2 : Int32} (e2 : m_lk lv 2 = some (.int lx2)) (lq2 : lx2.toInt = b) 
    (g0 : ∀ x1 : Int32, x1.toInt = 0 → ∀ lv2 : List (Nat × Value), m_lk lv2 0 = some (.ref m) → m_lk lv2 1 = some (.int lx1) → m_lk lv2 2 = some (.int lx2) → m_lk lv2 3 = some (.int x1) → HJ 203 2 lv2 [] h Q)
    : HJ 203 0 lv [] h Q := by
  refine hM_ic (n := 0) rfl (by decide) rfl (fun x1 q1 => ?_) -- 0
  refine hM_si (k := 3) rfl (by decide +kernel) rfl (fun lv2 e2_3 u2 => ?_) -- 1
  have e2_0 := u2 0 _ (by decide) (Or.inl rfl) e0
  have e2_1 := u2 1 _ (by decide) (Or.inl rfl) e1
  have e2_2 := u2 2 _ (by decide) (Or.inl rfl) e2
  exact g0 x1 q1 lv2 e2_0 e2_1 e2_2 e2_3
theorem s_keep2 {a b r : Int} (M : MX 49 W ρ m A h0 h F V G) (e0 : m_lk lv 0 = some (.ref m)) {lx1 : Int32} (e1 : m_lk lv 1 = some (.int lx1)) (lq1 : lx1.toInt = a) {lx2 : Int32} (e2 : m_lk lv 2 = some (.int lx2)) (lq2 : lx2.toInt = b) {lx3 : Int32} (e3 : m_lk lv 3 = some (.int lx3)) (lq3 : lx3.toInt = r) (r0 : 0 ≤ r) (s0 : 0 ≤ F 35) (s1 : F 35 ≤ 40)(hw : d_sub [(71, 1001)] W = true)
    (g0 : r ≥ 6 → HJ 203 34 lv [] h Q)
    (g1 : ∀ h7 : MH, ∀ V7 : Nat → Nat → Int, V7 = m_u V 36 (m_u (V 36) ((6 * (F 35)) + r).toNat (V 24 (r).toNat)) → ∀ x8 : Int32, x8.toInt = r + 1 → ∀ lv8 : List (Nat × Value), MX 49 W ρ m A h0 h7 F V7 G → m_lk lv8 0 = some (.ref m) → m_lk lv8 1 = some (.int lx1) → m_lk lv8 2 = some (.int lx2) → m_lk lv8 3 = some (.int x8) → r < 6 → 0 ≤ F 35 → F 35 ≤ 41 → (-1) ≤ V 24 (r).toNat → V 24 (r).toNat ≤ 15999 → HJ 203 2 lv8 [] h7 Q)
    : HJ 203 2 lv [] h Q := by
  refine hI_il (k := 3) rfl e3 rfl ?_ -- 2
  refine hM_bp (n := 6) rfl (by decide) rfl (fun x1 q1 => ?_) -- 3
  refine hM_cge (off := 29) (t := 34) rfl lq3 q1 (by decide) rfl (fun c5 => ?_) (fun c5 => ?_) -- 5
  · exact g0 c5
  · refine hI_al (k := 0) rfl e0 rfl ?_ -- 8
    refine hM_ga M (by decide) rfl rfl (k := 36) (c := 9) rfl rfl rfl (by decide +kernel) rfl ?_ -- 9
    refine hM_bp (n := 6) rfl (by decide) rfl (fun x2 q2 => ?_) -- 12
    refine hI_al (k := 0) rfl e0 rfl ?_ -- 14
    refine hM_gi M (by decide) rfl rfl rfl (k := 35) (c := 9) (lo := 0) (hi := 41) rfl rfl rfl rfl rfl (fun x3 q3 a3 b3 => ?_) -- 15
    refine hM_mul rfl q2 q3 (by omega) (by omega) rfl (fun x4 q4 => ?_) -- 18
    refine hI_il (k := 3) rfl e3 rfl ?_ -- 19
    refine hM_add rfl q4 lq3 (by omega) (by omega) rfl (fun x5 q5 => ?_) -- 20
    refine hI_al (k := 0) rfl e0 rfl ?_ -- 21
    refine hM_ga M (by decide) rfl rfl (k := 24) (c := 9) rfl rfl rfl (by decide +kernel) rfl ?_ -- 22
    refine hI_il (k := 3) rfl e3 rfl ?_ -- 25
    refine hM_ia M (by decide) (K := 24) (R2 := 61) (L := 6) (H := 6) (lo := (-1)) (hi := 15999) rfl (by decide) rfl rfl (fun _ => rfl) rfl lq3 (by omega) (by omega) rfl (fun x6 q6 a6 b6 => ?_) -- 26
    refine hM_is M (by decide) ok_49 (K := 36) (R2 := 71) (L := 246) (H := 246) (lo := (-1)) (hi := 15999) rfl (by decide) rfl rfl rfl (fun _ => rfl) (d_subm hw (by decide +kernel)) rfl q5 q6 (by omega) (by omega) (by omega) (by omega) rfl (fun h7 V7 f7 M7 => ?_) -- 27
    refine hM_inc (k := 3) (z := 1) rfl e3 lq3 (by decide) (by omega) (by omega) (by decide +kernel) rfl (fun lv8 x8 q8 e8_3 u8 => ?_) -- 28
    have e8_0 := u8 0 _ (by decide) (Or.inl rfl) e0
    have e8_1 := u8 1 _ (by decide) (Or.inl rfl) e1
    have e8_2 := u8 2 _ (by decide) (Or.inl rfl) e2
    refine hI_go (pc' := 2) (off := (-29)) rfl (by decide) ?_ -- 31
    exact g1 h7 V7 f7 x8 q8 lv8 M7 e8_0 e8_1 e8_2 e8_3 c5 a3 b3 a6 b6
theorem s_keep34 {a b : Int} (M : MX 49 W ρ m A h0 h F V G) (e0 : m_lk lv 0 = some (.ref m)) {lx1 : Int32} (e1 : m_lk lv 1 = some (.int lx1)) (lq1 : lx1.toInt = a) {lx2 : Int32} (e2 : m_lk lv 2 = some (.int lx2)) (lq2 : lx2.toInt = b) (s0 : 0 ≤ F 35) (s1 : F 35 ≤ 40) (a0 : -1 ≤ a) (a1 : a ≤ 40) (b0 : -1 ≤ b) (b1 : b ≤ 40)(hw : d_sub [(74, 1001), (75, 1001), (76, 1001), (49, 35)] W = true)
    (g0 : ∀ h2 : MH, ∀ V2 : Nat → Nat → Int, V2 = m_u V 39 (m_u (V 39) (F 35).toNat (a)) → ∀ h4 : MH, ∀ V4 : Nat → Nat → Int, V4 = m_u V2 40 (m_u (V2 40) (F 35).toNat (b)) → ∀ h7 : MH, ∀ G7 : Nat → Nat → Int64, G7 = m_u G 41 (m_u (G 41) (F 35).toNat ((Int64.ofNat (1 : Fin 2).val) <<< ((Int32.ofInt (F 35)).toInt64 &&& 63))) → ∀ h13 : MH, ∀ F13 : Nat → Int, F13 = m_u F 35 ((F 35) + 1) → MX 49 W ρ m A h0 h13 F13 V4 G7 → 0 ≤ F 35 → F 35 ≤ 41 → a = (-1) → b = (-1) → Q none h13)
    (g1 : ∀ h2 : MH, ∀ V2 : Nat → Nat → Int, V2 = m_u V 39 (m_u (V 39) (F 35).toNat (a)) → ∀ h4 : MH, ∀ V4 : Nat → Nat → Int, V4 = m_u V2 40 (m_u (V2 40) (F 35).toNat (b)) → ∀ h7 : MH, ∀ G7 : Nat → Nat → Int64, G7 = m_u G 41 (m_u (G 41) (F 35).toNat ((Int64.ofNat (1 : Fin 2).val) <<< ((Int32.ofInt (F 35)).toInt64 &&& 63))) → ∀ h17 : MH, ∀ G17 : Nat → Nat → Int64, G17 = m_u G7 41 (m_u (G7 41) (F 35).toNat ((G7 41 (F 35).toNat) ||| (G7 41 (b).toNat))) → ∀ h21 : MH, ∀ F21 : Nat → Int, F21 = m_u F 35 ((F 35) + 1) → MX 49 W ρ m A h0 h21 F21 V4 G17 → 0 ≤ F 35 → F 35 ≤ 41 → a = (-1) → b ≠ (-1) → Q none h21)
    (g2 : ∀ h2 : MH, ∀ V2 : Nat → Nat → Int, V2 = m_u V 39 (m_u (V 39) (F 35).toNat (a)) → ∀ h4 : MH, ∀ V4 : Nat → Nat → Int, V4 = m_u V2 40 (m_u (V2 40) (F 35).toNat (b)) → ∀ h7 : MH, ∀ G7 : Nat → Nat → Int64, G7 = m_u G 41 (m_u (G 41) (F 35).toNat ((Int64.ofNat (1 : Fin 2).val) <<< ((Int32.ofInt (F 35)).toInt64 &&& 63))) → ∀ h25 : MH, ∀ G25 : Nat → Nat → Int64, G25 = m_u G7 41 (m_u (G7 41) (F 35).toNat ((G7 41 (F 35).toNat) ||| (G7 41 (a).toNat))) → ∀ h30 : MH, ∀ F30 : Nat → Int, F30 = m_u F 35 ((F 35) + 1) → MX 49 W ρ m A h0 h30 F30 V4 G25 → 0 ≤ F 35 → F 35 ≤ 41 → a ≠ (-1) → b = (-1) → Q none h30)
    (g3 : ∀ h2 : MH, ∀ V2 : Nat → Nat → Int, V2 = m_u V 39 (m_u (V 39) (F 35).toNat (a)) → ∀ h4 : MH, ∀ V4 : Nat → Nat → Int, V4 = m_u V2 40 (m_u (V2 40) (F 35).toNat (b)) → ∀ h7 : MH, ∀ G7 : Nat → Nat → Int64, G7 = m_u G 41 (m_u (G 41) (F 35).toNat ((Int64.ofNat (1 : Fin 2).val) <<< ((Int32.ofInt (F 35)).toInt64 &&& 63))) → ∀ h25 : MH, ∀ G25 : Nat → Nat → Int64, G25 = m_u G7 41 (m_u (G7 41) (F 35).toNat ((G7 41 (F 35).toNat) ||| (G7 41 (a).toNat))) → ∀ h34 : MH, ∀ G34 : Nat → Nat → Int64, G34 = m_u G25 41 (m_u (G25 41) (F 35).toNat ((G25 41 (F 35).toNat) ||| (G25 41 (b).toNat))) → ∀ h38 : MH, ∀ F38 : Nat → Int, F38 = m_u F 35 ((F 35) + 1) → MX 49 W ρ m A h0 h38 F38 V4 G34 → 0 ≤ F 35 → F 35 ≤ 41 → a ≠ (-1) → b ≠ (-1) → Q none h38)
    : HJ 203 34 lv [] h Q := by
  refine hI_al (k := 0) rfl e0 rfl ?_ -- 34
  refine hM_ga M (by decide) rfl rfl (k := 39) (c := 9) rfl rfl rfl (by decide +kernel) rfl ?_ -- 35
  refine hI_al (k := 0) rfl e0 rfl ?_ -- 38
  refine hM_gi M (by decide) rfl rfl rfl (k := 35) (c := 9) (lo := 0) (hi := 41) rfl rfl rfl rfl rfl (fun x1 q1 a1 b1 => ?_) -- 39
  refine hI_il (k := 1) rfl e1 rfl ?_ -- 42
  refine hM_is M (by decide) ok_49 (K := 39) (R2 := 74) (L := 41) (H := 41) (lo := (-1)) (hi := 40) rfl (by decide) rfl rfl rfl (fun _ => rfl) (d_subm hw (by decide +kernel)) rfl q1 lq1 (by omega) (by omega) (by omega) (by omega) rfl (fun h2 V2 f2 M2 => ?_) -- 43
  refine hI_al (k := 0) rfl e0 rfl ?_ -- 44
  refine hM_ga M2 (by decide) rfl rfl (k := 40) (c := 9) rfl rfl rfl (by decide +kernel) rfl ?_ -- 45
  refine hI_al (k := 0) rfl e0 rfl ?_ -- 48
  refine hM_gi M2 (by decide) rfl rfl rfl (k := 35) (c := 9) (lo := 0) (hi := 41) rfl rfl rfl rfl rfl (fun x3 q3 a3 b3 => ?_) -- 49
  refine hI_il (k := 2) rfl e2 rfl ?_ -- 52
  refine hM_is M2 (by decide) ok_49 (K := 40) (R2 := 75) (L := 41) (H := 41) (lo := (-1)) (hi := 40) rfl (by decide) rfl rfl rfl (fun _ => rfl) (d_subm hw (by decide +kernel)) rfl q3 lq2 (by omega) (by omega) (by omega) (by omega) rfl (fun h4 V4 f4 M4 => ?_) -- 53
  refine hI_al (k := 0) rfl e0 rfl ?_ -- 54
  refine hM_ga M4 (by decide) rfl rfl (k := 41) (c := 9) rfl rfl rfl (by decide +kernel) rfl ?_ -- 55
  refine hI_al (k := 0) rfl e0 rfl ?_ -- 58
  refine hM_gi M4 (by decide) rfl rfl rfl (k := 35) (c := 9) (lo := 0) (hi := 41) rfl rfl rfl rfl rfl (fun x5 q5 a5 b5 => ?_) -- 59
  refine hI_lc (n := 1) rfl rfl ?_ -- 62
  refine hI_al (k := 0) rfl e0 rfl ?_ -- 63
  refine hM_gi M4 (by decide) rfl rfl rfl (k := 35) (c := 9) (lo := 0) (hi := 41) rfl rfl rfl rfl rfl (fun x6 q6 a6 b6 => ?_) -- 64
  refine hM_lshl rfl q6 rfl ?_ -- 67
  refine hM_ls M4 (by decide) ok_49 (K := 41) (R2 := 76) (L := 41) (H := 41) rfl (by decide) rfl rfl rfl (d_subm hw (by decide +kernel)) rfl q5 (by omega) (by omega) rfl (fun h7 G7 f7 M7 => ?_) -- 68
  refine hI_il (k := 1) rfl e1 rfl ?_ -- 69
  refine hM_ic (n := (-1)) rfl (by decide) rfl (fun x8 q8 => ?_) -- 70
  refine hM_ceq (off := 21) (t := 92) rfl lq1 q8 (by decide) rfl (fun c71 => ?_) (fun c71 => ?_) -- 71
  · refine hI_il (k := 2) rfl e2 rfl ?_ -- 92
    refine hM_ic (n := (-1)) rfl (by decide) rfl (fun x9 q9 => ?_) -- 93
    refine hM_ceq (off := 21) (t := 115) rfl lq2 q9 (by decide) rfl (fun c94 => ?_) (fun c94 => ?_) -- 94
    · refine hI_al (k := 0) rfl e0 rfl ?_ -- 115
      refine hI_dup rfl rfl rfl ?_ -- 116
      refine hM_gi M7 (by decide) rfl rfl rfl (k := 35) (c := 9) (lo := 0) (hi := 41) rfl rfl rfl rfl rfl (fun x10 q10 a10 b10 => ?_) -- 117
      refine hM_ic (n := 1) rfl (by decide) rfl (fun x11 q11 => ?_) -- 120
      refine hM_add rfl q10 q11 (by omega) (by omega) rfl (fun x12 q12 => ?_) -- 121
      refine hM_pi M7 (by decide) ok_49 rfl rfl (k := 35) (c := 9) (lo := 0) (hi := 41) rfl rfl ⟨by decide, by decide +kernel, rfl⟩ rfl (d_subm hw (by decide +kernel)) q12 (by omega) (by omega) rfl (fun h13 F13 f13 M13 => ?_) -- 122
      refine hI_rv rfl rfl ?_
      exact g0 h2 V2 f2 h4 V4 f4 h7 G7 f7 h13 F13 f13 M13 a1 b1 c71 c94
    · refine hI_al (k := 0) rfl e0 rfl ?_ -- 97
      refine hM_ga M7 (by decide) rfl rfl (k := 41) (c := 9) rfl rfl rfl (by decide +kernel) rfl ?_ -- 98
      refine hI_al (k := 0) rfl e0 rfl ?_ -- 101
      refine hM_gi M7 (by decide) rfl rfl rfl (k := 35) (c := 9) (lo := 0) (hi := 41) rfl rfl rfl rfl rfl (fun x14 q14 a14 b14 => ?_) -- 102
      refine hI_dup2 rfl rfl rfl rfl ?_ -- 105
      refine hM_la M7 (by decide) (K := 41) (R2 := 76) (L := 41) (H := 41) rfl (by decide) rfl rfl rfl q14 (by omega) (by omega) rfl ?_ -- 106
      refine hI_al (k := 0) rfl e0 rfl ?_ -- 107
      refine hM_ga M7 (by decide) rfl rfl (k := 41) (c := 9) rfl rfl rfl (by decide +kernel) rfl ?_ -- 108
      refine hI_il (k := 2) rfl e2 rfl ?_ -- 111
      refine hM_la M7 (by decide) (K := 41) (R2 := 76) (L := 41) (H := 41) rfl (by decide) rfl rfl rfl lq2 (by omega) (by omega) rfl ?_ -- 112
      refine hI_lor rfl rfl ?_ -- 113
      refine hM_ls M7 (by decide) ok_49 (K := 41) (R2 := 76) (L := 41) (H := 41) rfl (by decide) rfl rfl rfl (d_subm hw (by decide +kernel)) rfl q14 (by omega) (by omega) rfl (fun h17 G17 f17 M17 => ?_) -- 114
      refine hI_al (k := 0) rfl e0 rfl ?_ -- 115
      refine hI_dup rfl rfl rfl ?_ -- 116
      refine hM_gi M17 (by decide) rfl rfl rfl (k := 35) (c := 9) (lo := 0) (hi := 41) rfl rfl rfl rfl rfl (fun x18 q18 a18 b18 => ?_) -- 117
      refine hM_ic (n := 1) rfl (by decide) rfl (fun x19 q19 => ?_) -- 120
      refine hM_add rfl q18 q19 (by omega) (by omega) rfl (fun x20 q20 => ?_) -- 121
      refine hM_pi M17 (by decide) ok_49 rfl rfl (k := 35) (c := 9) (lo := 0) (hi := 41) rfl rfl ⟨by decide, by decide +kernel, rfl⟩ rfl (d_subm hw (by decide +kernel)) q20 (by omega) (by omega) rfl (fun h21 F21 f21 M21 => ?_) -- 122
      refine hI_rv rfl rfl ?_
      exact g1 h2 V2 f2 h4 V4 f4 h7 G7 f7 h17 G17 f17 h21 F21 f21 M21 a1 b1 c71 c94
  · refine hI_al (k := 0) rfl e0 rfl ?_ -- 74
    refine hM_ga M7 (by decide) rfl rfl (k := 41) (c := 9) rfl rfl rfl (by decide +kernel) rfl ?_ -- 75
    refine hI_al (k := 0) rfl e0 rfl ?_ -- 78
    refine hM_gi M7 (by decide) rfl rfl rfl (k := 35) (c := 9) (lo := 0) (hi := 41) rfl rfl rfl rfl rfl (fun x22 q22 a22 b22 => ?_) -- 79
    refine hI_dup2 rfl rfl rfl rfl ?_ -- 82
    refine hM_la M7 (by decide) (K := 41) (R2 := 76) (L := 41) (H := 41) rfl (by decide) rfl rfl rfl q22 (by omega) (by omega) rfl ?_ -- 83
    refine hI_al (k := 0) rfl e0 rfl ?_ -- 84
    refine hM_ga M7 (by decide) rfl rfl (k := 41) (c := 9) rfl rfl rfl (by decide +kernel) rfl ?_ -- 85
    refine hI_il (k := 1) rfl e1 rfl ?_ -- 88
    refine hM_la M7 (by decide) (K := 41) (R2 := 76) (L := 41) (H := 41) rfl (by decide) rfl rfl rfl lq1 (by omega) (by omega) rfl ?_ -- 89
    refine hI_lor rfl rfl ?_ -- 90
    refine hM_ls M7 (by decide) ok_49 (K := 41) (R2 := 76) (L := 41) (H := 41) rfl (by decide) rfl rfl rfl (d_subm hw (by decide +kernel)) rfl q22 (by omega) (by omega) rfl (fun h25 G25 f25 M25 => ?_) -- 91
    refine hI_il (k := 2) rfl e2 rfl ?_ -- 92
    refine hM_ic (n := (-1)) rfl (by decide) rfl (fun x26 q26 => ?_) -- 93
    refine hM_ceq (off := 21) (t := 115) rfl lq2 q26 (by decide) rfl (fun c94 => ?_) (fun c94 => ?_) -- 94
    · refine hI_al (k := 0) rfl e0 rfl ?_ -- 115
      refine hI_dup rfl rfl rfl ?_ -- 116
      refine hM_gi M25 (by decide) rfl rfl rfl (k := 35) (c := 9) (lo := 0) (hi := 41) rfl rfl rfl rfl rfl (fun x27 q27 a27 b27 => ?_) -- 117
      refine hM_ic (n := 1) rfl (by decide) rfl (fun x28 q28 => ?_) -- 120
      refine hM_add rfl q27 q28 (by omega) (by omega) rfl (fun x29 q29 => ?_) -- 121
      refine hM_pi M25 (by decide) ok_49 rfl rfl (k := 35) (c := 9) (lo := 0) (hi := 41) rfl rfl ⟨by decide, by decide +kernel, rfl⟩ rfl (d_subm hw (by decide +kernel)) q29 (by omega) (by omega) rfl (fun h30 F30 f30 M30 => ?_) -- 122
      refine hI_rv rfl rfl ?_
      exact g2 h2 V2 f2 h4 V4 f4 h7 G7 f7 h25 G25 f25 h30 F30 f30 M30 a1 b1 c71 c94
    · refine hI_al (k := 0) rfl e0 rfl ?_ -- 97
      refine hM_ga M25 (by decide) rfl rfl (k := 41) (c := 9) rfl rfl rfl (by decide +kernel) rfl ?_ -- 98
      refine hI_al (k := 0) rfl e0 rfl ?_ -- 101
      refine hM_gi M25 (by decide) rfl rfl rfl (k := 35) (c := 9) (lo := 0) (hi := 41) rfl rfl rfl rfl rfl (fun x31 q31 a31 b31 => ?_) -- 102
      refine hI_dup2 rfl rfl rfl rfl ?_ -- 105
      refine hM_la M25 (by decide) (K := 41) (R2 := 76) (L := 41) (H := 41) rfl (by decide) rfl rfl rfl q31 (by omega) (by omega) rfl ?_ -- 106
      refine hI_al (k := 0) rfl e0 rfl ?_ -- 107
      refine hM_ga M25 (by decide) rfl rfl (k := 41) (c := 9) rfl rfl rfl (by decide +kernel) rfl ?_ -- 108
      refine hI_il (k := 2) rfl e2 rfl ?_ -- 111
      refine hM_la M25 (by decide) (K := 41) (R2 := 76) (L := 41) (H := 41) rfl (by decide) rfl rfl rfl lq2 (by omega) (by omega) rfl ?_ -- 112
      refine hI_lor rfl rfl ?_ -- 113
      refine hM_ls M25 (by decide) ok_49 (K := 41) (R2 := 76) (L := 41) (H := 41) rfl (by decide) rfl rfl rfl (d_subm hw (by decide +kernel)) rfl q31 (by omega) (by omega) rfl (fun h34 G34 f34 M34 => ?_) -- 114
      refine hI_al (k := 0) rfl e0 rfl ?_ -- 115
      refine hI_dup rfl rfl rfl ?_ -- 116
      refine hM_gi M34 (by decide) rfl rfl rfl (k := 35) (c := 9) (lo := 0) (hi := 41) rfl rfl rfl rfl rfl (fun x35 q35 a35 b35 => ?_) -- 117
      refine hM_ic (n := 1) rfl (by decide) rfl (fun x36 q36 => ?_) -- 120
      refine hM_add rfl q35 q36 (by omega) (by omega) rfl (fun x37 q37 => ?_) -- 121
      refine hM_pi M34 (by decide) ok_49 rfl rfl (k := 35) (c := 9) (lo := 0) (hi := 41) rfl rfl ⟨by decide, by decide +kernel, rfl⟩ rfl (d_subm hw (by decide +kernel)) q37 (by omega) (by omega) rfl (fun h38 F38 f38 M38 => ?_) -- 122
      refine hI_rv rfl rfl ?_
      exact g3 h2 V2 f2 h4 V4 f4 h7 G7 f7 h25 G25 f25 h34 G34 f34 h38 F38 f38 M38 a1 b1 c71 c94
def g_kp : List (Nat × Nat) := [(71, 1001), (74, 1001), (75, 1001), (76, 1001), (49, 35)]
theorem or_z0 (x : Int64) : x ||| Int64.ofNat (0 : Fin 2).val = x := Int64.or_zero
def ke_P (G G' : Nat → Nat → Int64) (s : Nat) (a b : Int) : Prop := (∀ j, j ≠ s → G' 41 j = G 41 j) ∧ (a < (s : Int) → b < (s : Int) → G' 41 s = bt (s : Int) ||| fo_of (G 41) a ||| fo_of (G 41) b)
theorem fo_N {L : Nat → Int64} {a : Int} (h : a = -1) : fo_of L a = Int64.ofNat (0 : Fin 2).val := if_neg (by omega)
theorem fo_P {L : Nat → Int64} {a : Int} (h : 0 ≤ a) (h' : a < 41) : fo_of L a = L a.toNat := if_pos ⟨h, h'⟩
theorem l_keep {s : Nat} {a b : Int} {xa xb : Int32} {V0 : Nat → Nat → Int} (hw : d_sub g_kp W = true) (fs : F 35 = (s : Int)) (s40 : s ≤ 40) (ha : xa.toInt = a) (hb : xb.toInt = b) (a0 : -1 ≤ a) (a1 : a ≤ 40) (b0 : -1 ≤ b) (b1 : b ≤ 40) (g : ∀ (h' : MH) (F' : Nat → Int) (V' : Nat → Nat → Int) (G' : Nat → Nat → Int64), MX 49 W ρ m A h0 h' F' V' G' → F' = m_u F 35 ((s : Int) + 1) → (∀ r, r < 6 → V' 36 (6 * s + r) = V0 24 r) → (∀ j, j < 6 * s → V' 36 j = V0 36 j) → V' 39 = m_u (V0 39) s a → V' 40 = m_u (V0 40) s b → (∀ K, K ≠ 36 → K ≠ 39 → K ≠ 40 → V' K = V0 K) → (∀ K, K ≠ 41 → G' K = G K) → ke_P G G' s a b → Q none h') : ∀ (d r : Nat) (lv : List (Nat × Value)) (h : MH) (V : Nat → Nat → Int) (xr : Int32), r + d = 6 → MX 49 W ρ m A h0 h F V G → xr.toInt = (r : Int) → (∀ k, k < r → V 36 (6 * s + k) = V0 24 k) → (∀ j, j < 6 * s → V 36 j = V0 36 j) → (∀ K, K ≠ 36 → V K = V0 K) → m_lk lv 0 = some (.ref m) → m_lk lv 1 = some (.int xa) → m_lk lv 2 = some (.int xb) → m_lk lv 3 = some (.int xr) → HJ 203 2 lv [] h Q := by
  have w1 : d_sub [(71, 1001)] W = true := d_subm hw (by decide +kernel)
  have w2 : d_sub [(74, 1001), (75, 1001), (76, 1001), (49, 35)] W = true := d_subm hw (by decide +kernel)
  intro d
  induction d with
  | zero =>
    intro r lv h V xr hd M hr k1 k2 k3 e0 e1 e2 e3
    have r6 : r = 6 := by omega
    subst r6
    refine s_keep2 M e0 e1 ha e2 hb e3 hr (by omega) (by omega) (by omega) w1 (fun _ => ?_) (fun h7 V7 f7 x8 q8 lv8 M7 e8_0 e8_1 e8_2 e8_3 c5 a3 b3 a6 b6 => by omega)
    have fin : ∀ (h' : MH) (F' : Nat → Int) (V2 V4 : Nat → Nat → Int) (G' : Nat → Nat → Int64), V2 = m_u V 39 (m_u (V 39) (F 35).toNat a) → V4 = m_u V2 40 (m_u (V2 40) (F 35).toNat b) → F' = m_u F 35 (F 35 + 1) → MX 49 W ρ m A h0 h' F' V4 G' → (∀ K, K ≠ 41 → G' K = G K) → ke_P G G' s a b → Q none h' := fun h' F' V2 V4 G' p2 p4 pf M' pg pe => by
      rw [fs, Int.toNat_natCast] at p2 p4
      refine g h' F' V4 G' M' (by rw [pf, fs]) (fun r hr => ?_) (fun j hj => ?_) ?_ ?_ (fun K j1 j2 j3 => ?_) pg pe
      · rw [p4, m_uN _ _ _ _ (by decide), p2, m_uN _ _ _ _ (by decide)]
        exact k1 r hr
      · rw [p4, m_uN _ _ _ _ (by decide), p2, m_uN _ _ _ _ (by decide)]
        exact k2 j hj
      · rw [p4, m_uN _ _ _ _ (by decide), p2, m_uE, k3 39 (by decide)]
      · rw [p4, m_uE, p2, m_uN _ _ _ _ (by decide), k3 40 (by decide)]
      · rw [p4, m_uN _ _ _ _ j3, p2, m_uN _ _ _ _ j2, k3 K j1]
    refine s_keep34 M e0 e1 ha e2 hb (by omega) (by omega) a0 a1 b0 b1 w2
      (fun h2 V2 f2 h4 V4 f4 h7 G7 f7 h13 F13 f13 M13 _ _ ca cb => fin _ _ V2 V4 G7 f2 f4 f13 M13 (fun K hK => by rw [f7, m_uN _ _ _ _ hK]) (by
        rw [fs, Int.toNat_natCast] at f7
        refine ⟨fun j hj => by rw [f7, m_uE, m_uN _ _ _ _ hj], fun _ _ => ?_⟩
        rw [f7, m_uE, m_uE, fo_N ca, fo_N cb, or_z0, or_z0]
        rfl))
      (fun h2 V2 f2 h4 V4 f4 h7 G7 f7 h17 G17 f17 h21 F21 f21 M21 _ _ ca cb => fin _ _ V2 V4 G17 f2 f4 f21 M21 (fun K hK => by rw [f17, m_uN _ _ _ _ hK, f7, m_uN _ _ _ _ hK]) (by
        rw [fs, Int.toNat_natCast] at f7 f17
        have e7 : ∀ j, j ≠ s → G7 41 j = G 41 j := fun j hj => by rw [f7, m_uE, m_uN _ _ _ _ hj]
        refine ⟨fun j hj => by rw [f17, m_uE, m_uN _ _ _ _ hj, e7 j hj], fun la lb => ?_⟩
        rw [f17, m_uE, m_uE, e7 b.toNat (by omega), fo_N ca, or_z0, fo_P (a := b) (by omega) (by omega), f7, m_uE, m_uE]
        rfl))
      (fun h2 V2 f2 h4 V4 f4 h7 G7 f7 h17 G17 f17 h21 F21 f21 M21 _ _ ca cb => fin _ _ V2 V4 G17 f2 f4 f21 M21 (fun K hK => by rw [f17, m_uN _ _ _ _ hK, f7, m_uN _ _ _ _ hK]) (by
        rw [fs, Int.toNat_natCast] at f7 f17
        have e7 : ∀ j, j ≠ s → G7 41 j = G 41 j := fun j hj => by rw [f7, m_uE, m_uN _ _ _ _ hj]
        refine ⟨fun j hj => by rw [f17, m_uE, m_uN _ _ _ _ hj, e7 j hj], fun la lb => ?_⟩
        rw [f17, m_uE, m_uE, e7 a.toNat (by omega), fo_N cb, or_z0, fo_P (a := a) (by omega) (by omega), f7, m_uE, m_uE]
        rfl))
      (fun h2 V2 f2 h4 V4 f4 h7 G7 f7 h17 G17 f17 h18 G18 f18 h21 F21 f21 M21 _ _ ca cb => fin _ _ V2 V4 G18 f2 f4 f21 M21 (fun K hK => by rw [f18, m_uN _ _ _ _ hK, f17, m_uN _ _ _ _ hK, f7, m_uN _ _ _ _ hK]) (by
        rw [fs, Int.toNat_natCast] at f7 f17 f18
        have e7 : ∀ j, j ≠ s → G7 41 j = G 41 j := fun j hj => by rw [f7, m_uE, m_uN _ _ _ _ hj]
        have e17 : ∀ j, j ≠ s → G17 41 j = G 41 j := fun j hj => by rw [f17, m_uE, m_uN _ _ _ _ hj, e7 j hj]
        refine ⟨fun j hj => by rw [f18, m_uE, m_uN _ _ _ _ hj, e17 j hj], fun la lb => ?_⟩
        rw [f18, m_uE, m_uE, e17 b.toNat (by omega), fo_P (a := b) (by omega) (by omega), f17, m_uE, m_uE, e7 a.toNat (by omega), fo_P (a := a) (by omega) (by omega), f7, m_uE, m_uE]
        rfl))
  | succ d ih =>
    intro r lv h V xr hd M hr k1 k2 k3 e0 e1 e2 e3
    refine s_keep2 M e0 e1 ha e2 hb e3 hr (by omega) (by omega) (by omega) w1 (fun _ => by omega) (fun h7 V7 f7 x8 q8 lv8 M7 d0 d1 d2 d3 c5 a3 b3 a6 b6 => ?_)
    rw [fs, show (6 * (s : Int) + (r : Int)).toNat = 6 * s + r by omega, Int.toNat_natCast] at f7
    refine ih (r + 1) lv8 h7 V7 x8 (by omega) M7 (by omega) (fun k hk => ?_) (fun j hj => ?_) (fun K hK => by rw [f7, m_uN _ _ _ _ hK, k3 K hK]) d0 d1 d2 d3
    · rw [f7, m_uE]
      by_cases e : k = r
      · rw [e, m_uE, k3 24 (by decide)]
      · rw [m_uN _ _ _ _ (by omega)]
        exact k1 k (by omega)
    · rw [f7, m_uE, m_uN _ _ _ _ (by omega)]
      exact k2 j hj
theorem c_keep {s : Nat} {a b : Int} {xa xb : Int32} (M : MX 49 W ρ m A h0 h F V G) (hw : d_sub g_kp W = true) (fs : F 35 = (s : Int)) (s40 : s ≤ 40) (ha : xa.toInt = a) (hb : xb.toInt = b) (a0 : -1 ≤ a) (a1 : a ≤ 40) (b0 : -1 ≤ b) (b1 : b ≤ 40) (g : ∀ (h' : MH) (F' : Nat → Int) (V' : Nat → Nat → Int) (G' : Nat → Nat → Int64), MX 49 W ρ m A h0 h' F' V' G' → F' = m_u F 35 ((s : Int) + 1) → (∀ r, r < 6 → V' 36 (6 * s + r) = V 24 r) → (∀ j, j < 6 * s → V' 36 j = V 36 j) → V' 39 = m_u (V 39) s a → V' 40 = m_u (V 40) s b → (∀ K, K ≠ 36 → K ≠ 39 → K ≠ 40 → V' K = V K) → (∀ K, K ≠ 41 → G' K = G K) → ke_P G G' s a b → Q none h') : HJ 203 0 (lv_args 0 [.ref m, .int xa, .int xb]) [] h Q := by
  refine s_keep0 M rfl rfl ha rfl hb (fun x1 q1 lv2 e0 e1 e2 e3 => ?_)
  exact l_keep hw fs s40 ha hb a0 a1 b0 b1 g 6 0 lv2 h V x1 rfl M q1 (fun k hk => by omega) (fun _ _ => rfl) (fun _ _ => rfl) e0 e1 e2 e3
-- two versions melded
theorem s_mel0 {a b : Int} (M : MX 49 W ρ m A h0 h F V G) (e0 : m_lk lv 0 = some (.ref m)) {lx1 : Int32} (e1 : m_lk lv 1 = some (.int lx1)) (lq1 : lx1.toInt = a) {lx2 : Int32} (e2 : m_lk lv 2 = some (.int lx2)) (lq2 : lx2.toInt = b) 
    (g0 : HJ 205 0 (lv_args 0 [.ref m, .int lx1]) [] h (fun v h' => HJ 206 5 lv (v.toList ++ []) h' Q))
    : HJ 206 0 lv [] h Q := by
  refine hI_al (k := 0) rfl e0 rfl ?_ -- 0
  refine hI_il (k := 1) rfl e1 rfl ?_ -- 1
  refine hM_iv M (by decide) rfl rfl (by decide) (as := [.int lx1]) (r := []) rfl rfl (by decide +kernel) rfl (by decide +kernel) rfl rfl rfl rfl rfl ?_ -- 2
  exact g0 
theorem s_mel5 {a b z : Int} (M : MX 49 W ρ m A h0 h F V G) (e0 : m_lk lv 0 = some (.ref m)) {lx1 : Int32} (e1 : m_lk lv 1 = some (.int lx1)) (lq1 : lx1.toInt = a) {lx2 : Int32} (e2 : m_lk lv 2 = some (.int lx2)) (lq2 : lx2.toInt = b) {sx0 : Int32} (sq0 : sx0.toInt = z) 
    (g0 : ∀ x1 : Int32, x1.toInt = 0 → z = 0 → Q (some (.int x1)) h)
    (g1 : z ≠ 0 → HJ 205 0 (lv_args 0 [.ref m, .int lx2]) [] h (fun v h' => HJ 206 13 lv (v.toList ++ []) h' Q))
    : HJ 206 5 lv [.int sx0] h Q := by
  refine hM_zeq (off := 27) (t := 32) rfl sq0 (by decide) rfl (fun c5 => ?_) (fun c5 => ?_) -- 5
  · refine hM_ic (n := 0) rfl (by decide) rfl (fun x1 q1 => ?_) -- 32
    refine hM_rb rfl rfl q1 (by omega) (by omega) ?_ -- 33
    exact g0 x1 q1 c5
  · refine hI_al (k := 0) rfl e0 rfl ?_ -- 8
    refine hI_il (k := 2) rfl e2 rfl ?_ -- 9
    refine hM_iv M (by decide) rfl rfl (by decide) (as := [.int lx2]) (r := []) rfl rfl (by decide +kernel) rfl (by decide +kernel) rfl rfl rfl rfl rfl ?_ -- 10
    exact g1 c5
theorem s_mel13 {a b z : Int} (M : MX 49 W ρ m A h0 h F V G) (e0 : m_lk lv 0 = some (.ref m)) {lx1 : Int32} (e1 : m_lk lv 1 = some (.int lx1)) (lq1 : lx1.toInt = a) {lx2 : Int32} (e2 : m_lk lv 2 = some (.int lx2)) (lq2 : lx2.toInt = b) {sx0 : Int32} (sq0 : sx0.toInt = z) 
    (g0 : ∀ x1 : Int32, x1.toInt = 0 → z = 0 → Q (some (.int x1)) h)
    (g1 : z ≠ 0 → HJ 207 0 (lv_args 0 [.ref m, .int lx1]) [] h (fun v h' => HJ 206 21 lv (v.toList ++ []) h' Q))
    : HJ 206 13 lv [.int sx0] h Q := by
  refine hM_zeq (off := 19) (t := 32) rfl sq0 (by decide) rfl (fun c13 => ?_) (fun c13 => ?_) -- 13
  · refine hM_ic (n := 0) rfl (by decide) rfl (fun x1 q1 => ?_) -- 32
    refine hM_rb rfl rfl q1 (by omega) (by omega) ?_ -- 33
    exact g0 x1 q1 c13
  · refine hI_al (k := 0) rfl e0 rfl ?_ -- 16
    refine hI_il (k := 1) rfl e1 rfl ?_ -- 17
    refine hM_iv M (by decide) rfl rfl (by decide) (as := [.int lx1]) (r := []) rfl rfl (by decide +kernel) rfl (by decide +kernel) rfl rfl rfl rfl rfl ?_ -- 18
    exact g1 c13
theorem s_mel21 {a b y : Int} (M : MX 49 W ρ m A h0 h F V G) (e0 : m_lk lv 0 = some (.ref m)) {lx1 : Int32} (e1 : m_lk lv 1 = some (.int lx1)) (lq1 : lx1.toInt = a) {lx2 : Int32} (e2 : m_lk lv 2 = some (.int lx2)) (lq2 : lx2.toInt = b) {sx0 : Int32} (sq0 : sx0.toInt = y) 
    (g0 : HJ 207 0 (lv_args 0 [.ref m, .int lx2]) [] h (fun v h' => HJ 206 26 lv (v.toList ++ [.int sx0]) h' Q))
    : HJ 206 21 lv [.int sx0] h Q := by
  refine hI_al (k := 0) rfl e0 rfl ?_ -- 21
  refine hI_il (k := 2) rfl e2 rfl ?_ -- 22
  refine hM_iv M (by decide) rfl rfl (by decide) (as := [.int lx2]) (r := [.int sx0]) rfl rfl (by decide +kernel) rfl (by decide +kernel) rfl rfl rfl rfl rfl ?_ -- 23
  exact g0 
theorem s_mel26 {a b y z : Int} (M : MX 49 W ρ m A h0 h F V G) (e0 : m_lk lv 0 = some (.ref m)) {lx1 : Int32} (e1 : m_lk lv 1 = some (.int lx1)) (lq1 : lx1.toInt = a) {lx2 : Int32} (e2 : m_lk lv 2 = some (.int lx2)) (lq2 : lx2.toInt = b) {sx0 : Int32} (sq0 : sx0.toInt = y) {sx1 : Int32} (sq1 : sx1.toInt = z) (y0 : 0 ≤ y) (y1 : y ≤ 63) (z0 : 0 ≤ z) (z1 : z ≤ 63)
    (g0 : y + z ≤ 63 → HJ 208 0 (lv_args 0 [.ref m, .int lx1]) [] h (fun v h' => HJ 206 39 lv (v.toList ++ []) h' Q))
    (g1 : ∀ x3 : Int32, x3.toInt = 0 → y + z > 63 → Q (some (.int x3)) h)
    : HJ 206 26 lv [.int sx1, .int sx0] h Q := by
  refine hM_add rfl sq0 sq1 (by omega) (by omega) rfl (fun x1 q1 => ?_) -- 26
  refine hM_bp (n := 63) rfl (by decide) rfl (fun x2 q2 => ?_) -- 27
  refine hM_cle (off := 5) (t := 34) rfl q1 q2 (by decide) rfl (fun c29 => ?_) (fun c29 => ?_) -- 29
  · refine hI_al (k := 0) rfl e0 rfl ?_ -- 34
    refine hI_il (k := 1) rfl e1 rfl ?_ -- 35
    refine hM_iv M (by decide) rfl rfl (by decide) (as := [.int lx1]) (r := []) rfl rfl (by decide +kernel) rfl (by decide +kernel) rfl rfl rfl rfl rfl ?_ -- 36
    exact g0 c29
  · refine hM_ic (n := 0) rfl (by decide) rfl (fun x3 q3 => ?_) -- 32
    refine hM_rb rfl rfl q3 (by omega) (by omega) ?_ -- 33
    exact g1 x3 q3 c29
theorem s_mel39 {a b : Int} (M : MX 49 W ρ m A h0 h F V G) (e0 : m_lk lv 0 = some (.ref m)) {lx1 : Int32} (e1 : m_lk lv 1 = some (.int lx1)) (lq1 : lx1.toInt = a) {lx2 : Int32} (e2 : m_lk lv 2 = some (.int lx2)) (lq2 : lx2.toInt = b) 
    (g0 : ∀ x1 : Int32, x1.toInt = 0 → ∀ lv2 : List (Nat × Value), m_lk lv2 0 = some (.ref m) → m_lk lv2 1 = some (.int lx1) → m_lk lv2 2 = some (.int lx2) → m_lk lv2 3 = some (.int x1) → HJ 206 41 lv2 [] h Q)
    : HJ 206 39 lv [] h Q := by
  refine hM_ic (n := 0) rfl (by decide) rfl (fun x1 q1 => ?_) -- 39
  refine hM_si (k := 3) rfl (by decide +kernel) rfl (fun lv2 e2_3 u2 => ?_) -- 40
  have e2_0 := u2 0 _ (by decide) (Or.inl rfl) e0
  have e2_1 := u2 1 _ (by decide) (Or.inl rfl) e1
  have e2_2 := u2 2 _ (by decide) (Or.inl rfl) e2
  exact g0 x1 q1 lv2 e2_0 e2_1 e2_2 e2_3
theorem s_mel41 {a b r : Int} (M : MX 49 W ρ m A h0 h F V G) (e0 : m_lk lv 0 = some (.ref m)) {lx1 : Int32} (e1 : m_lk lv 1 = some (.int lx1)) (lq1 : lx1.toInt = a) {lx2 : Int32} (e2 : m_lk lv 2 = some (.int lx2)) (lq2 : lx2.toInt = b) {lx3 : Int32} (e3 : m_lk lv 3 = some (.int lx3)) (lq3 : lx3.toInt = r) (r0 : 0 ≤ r) (b0 : 0 ≤ b) (b1 : b ≤ 40)(hw : d_sub [(62, 1001)] W = true)
    (g0 : r ≥ 6 → HJ 209 0 (lv_args 0 [.ref m]) [] h (fun v h' => HJ 206 74 lv (v.toList ++ []) h' Q))
    (g1 : ∀ h6 : MH, ∀ V6 : Nat → Nat → Int, V6 = m_u V 25 (m_u (V 25) (r).toNat (V 36 ((6 * b) + r).toNat)) → ∀ x7 : Int32, x7.toInt = r + 1 → ∀ lv7 : List (Nat × Value), MX 49 W ρ m A h0 h6 F V6 G → m_lk lv7 0 = some (.ref m) → m_lk lv7 1 = some (.int lx1) → m_lk lv7 2 = some (.int lx2) → m_lk lv7 3 = some (.int x7) → r < 6 → (-1) ≤ V 36 ((6 * b) + r).toNat → V 36 ((6 * b) + r).toNat ≤ 15999 → HJ 206 41 lv7 [] h6 Q)
    : HJ 206 41 lv [] h Q := by
  refine hI_il (k := 3) rfl e3 rfl ?_ -- 41
  refine hM_bp (n := 6) rfl (by decide) rfl (fun x1 q1 => ?_) -- 42
  refine hM_cge (off := 26) (t := 70) rfl lq3 q1 (by decide) rfl (fun c44 => ?_) (fun c44 => ?_) -- 44
  · refine hI_al (k := 0) rfl e0 rfl ?_ -- 70
    refine hM_iv M (by decide) rfl rfl (by decide) (as := []) (r := []) rfl rfl (by decide +kernel) rfl (by decide +kernel) rfl rfl rfl rfl rfl ?_ -- 71
    exact g0 c44
  · refine hI_al (k := 0) rfl e0 rfl ?_ -- 47
    refine hM_ga M (by decide) rfl rfl (k := 25) (c := 9) rfl rfl rfl (by decide +kernel) rfl ?_ -- 48
    refine hI_il (k := 3) rfl e3 rfl ?_ -- 51
    refine hI_al (k := 0) rfl e0 rfl ?_ -- 52
    refine hM_ga M (by decide) rfl rfl (k := 36) (c := 9) rfl rfl rfl (by decide +kernel) rfl ?_ -- 53
    refine hM_bp (n := 6) rfl (by decide) rfl (fun x2 q2 => ?_) -- 56
    refine hI_il (k := 2) rfl e2 rfl ?_ -- 58
    refine hM_mul rfl q2 lq2 (by omega) (by omega) rfl (fun x3 q3 => ?_) -- 59
    refine hI_il (k := 3) rfl e3 rfl ?_ -- 60
    refine hM_add rfl q3 lq3 (by omega) (by omega) rfl (fun x4 q4 => ?_) -- 61
    refine hM_ia M (by decide) (K := 36) (R2 := 71) (L := 246) (H := 246) (lo := (-1)) (hi := 15999) rfl (by decide) rfl rfl (fun _ => rfl) rfl q4 (by omega) (by omega) rfl (fun x5 q5 a5 b5 => ?_) -- 62
    refine hM_is M (by decide) ok_49 (K := 25) (R2 := 62) (L := 6) (H := 6) (lo := (-1)) (hi := 15999) rfl (by decide) rfl rfl rfl (fun _ => rfl) (d_subm hw (by decide +kernel)) rfl lq3 q5 (by omega) (by omega) (by omega) (by omega) rfl (fun h6 V6 f6 M6 => ?_) -- 63
    refine hM_inc (k := 3) (z := 1) rfl e3 lq3 (by decide) (by omega) (by omega) (by decide +kernel) rfl (fun lv7 x7 q7 e7_3 u7 => ?_) -- 64
    have e7_0 := u7 0 _ (by decide) (Or.inl rfl) e0
    have e7_1 := u7 1 _ (by decide) (Or.inl rfl) e1
    have e7_2 := u7 2 _ (by decide) (Or.inl rfl) e2
    refine hI_go (pc' := 41) (off := (-26)) rfl (by decide) ?_ -- 67
    exact g1 h6 V6 f6 x7 q7 lv7 M6 e7_0 e7_1 e7_2 e7_3 c44 a5 b5
theorem s_mel74 (M : MX 49 W ρ m A h0 h F V G)  
    (g0 : ∀ x1 : Int32, x1.toInt = 1 → Q (some (.int x1)) h)
    : HJ 206 74 lv [] h Q := by
  refine hM_ic (n := 1) rfl (by decide) rfl (fun x1 q1 => ?_) -- 74
  refine hM_rb rfl rfl q1 (by omega) (by omega) ?_ -- 75
  exact g0 x1 q1
theorem l_melds {b : Nat} {a : Int} {xa xb : Int32} {V0 : Nat → Nat → Int} (hw : d_sub [(62, 1001)] W = true) (b40 : b ≤ 40) (ha : xa.toInt = a) (hb : xb.toInt = (b : Int)) (g : ∀ (lv : List (Nat × Value)) (h : MH) (V : Nat → Nat → Int), MX 49 W ρ m A h0 h F V G → (∀ r, r < 6 → V 25 r = V0 36 (6 * b + r)) → (∀ K, K ≠ 25 → V K = V0 K) → HJ 209 0 (lv_args 0 [.ref m]) [] h (fun v h' => HJ 206 74 lv (v.toList ++ []) h' Q)) : ∀ (d r : Nat) (lv : List (Nat × Value)) (h : MH) (V : Nat → Nat → Int) (xr : Int32), r + d = 6 → MX 49 W ρ m A h0 h F V G → xr.toInt = (r : Int) → (∀ k, k < r → V 25 k = V0 36 (6 * b + k)) → (∀ K, K ≠ 25 → V K = V0 K) → m_lk lv 0 = some (.ref m) → m_lk lv 1 = some (.int xa) → m_lk lv 2 = some (.int xb) → m_lk lv 3 = some (.int xr) → HJ 206 41 lv [] h Q := by
  intro d
  induction d with
  | zero =>
    intro r lv h V xr hd M hr k1 k2 e0 e1 e2 e3
    have r6 : r = 6 := by omega
    subst r6
    exact s_mel41 M e0 e1 ha e2 hb e3 hr (by omega) (by omega) (by omega) hw (fun _ => g lv h V M k1 k2) (fun h6 V6 f6 x7 q7 lv7 M6 e7_0 e7_1 e7_2 e7_3 c44 a5 b5 => by omega)
  | succ d ih =>
    intro r lv h V xr hd M hr k1 k2 e0 e1 e2 e3
    refine s_mel41 M e0 e1 ha e2 hb e3 hr (by omega) (by omega) (by omega) hw (fun _ => by omega) (fun h6 V6 f6 x7 q7 lv7 M6 d0 d1 d2 d3 c44 a5 b5 => ?_)
    rw [show (6 * (b : Int) + (r : Int)).toNat = 6 * b + r by omega, Int.toNat_natCast] at f6
    refine ih (r + 1) lv7 h6 V6 x7 (by omega) M6 (by omega) (fun k hk => ?_) (fun K hK => by rw [f6, m_uN _ _ _ _ hK, k2 K hK]) d0 d1 d2 d3
    rw [f6, m_uE]
    by_cases e : k = r
    · rw [e, m_uE, k2 36 (by decide)]
    · rw [m_uN _ _ _ _ e]
      exact k1 k (by omega)
def ml_P (F : Nat → Int) (V : Nat → Nat → Int) (a b : Int) (F' : Nat → Int) (V' : Nat → Nat → Int) (x : Int) : Prop := ∀ S h s, rs_of F V S → (0 ≤ a → a < F 35 → ∀ r, r < 6 → V 36 (6 * a.toNat + r) = h r) → (0 ≤ b → b < F 35 → ∀ r, r < 6 → V 36 (6 * b.toNat + r) = s r) → (x = 1 ∧ (0 ≤ a ∧ a < F 35) ∧ (0 ≤ b ∧ b < F 35) ∧ p_ws h 6 + p_ws s 6 ≤ 63 ∧ rs_of F' V' (pm_md S h s).1 ∧ hp6 (V' 24) (pm_md S h s).2 ∧ F' 18 = F 18) ∨ (x = 0 ∧ (¬ (0 ≤ a ∧ a < F 35) ∨ ¬ (0 ≤ b ∧ b < F 35) ∨ 63 < p_ws h 6 + p_ws s 6) ∧ F' = F ∧ V' = V)
theorem c_melds {a b : Int} {xa xb : Int32} (M : MX 49 W ρ m A h0 h F V G) (hw : d_sub g_ls W = true) (ha : xa.toInt = a) (hb : xb.toInt = b) (sh : p_sh (F 17) (V 22) (V 23)) (hp : p_hp (F 17) (V 22) (V 24)) (ro : p_ro (F 17) (F 35) (V 22) (V 36)) (n0 : 0 ≤ F 17) (n1 : F 17 + 6 ≤ 16000) (s41 : F 35 ≤ 41) (g : ∀ (x : Int32) (h' : MH) (F' : Nat → Int) (V' : Nat → Nat → Int), 0 ≤ x.toInt → x.toInt ≤ 1 → MX 49 W ρ m A h0 h' F' V' G → g_ex F V F' V' 6 → (x.toInt = 1 → 0 ≤ b ∧ b < F 35) → ml_P F V a b F' V' x.toInt → Q (some (.int x)) h') : HJ 206 0 (lv_args 0 [.ref m, .int xa, .int xb]) [] h Q := by
  have w1 : d_sub [(61, 1001)] W = true := d_subm hw (by decide +kernel)
  have w2 : d_sub [(62, 1001)] W = true := d_subm hw (by decide +kernel)
  have w3 : d_sub g_md W = true := d_subm hw (by decide +kernel)
  refine s_mel0 M rfl rfl ha rfl hb (c_isV M ha (fun z hz => ?_))
  refine s_mel5 (z := z.toInt) M rfl rfl ha rfl hb rfl (fun x1 q1 c5 => g x1 h F V (by omega) (by omega) M (g_exR (by omega) sh hp) (fun y => by omega) (fun S hh s _ _ _ => Or.inr ⟨q1, Or.inl (fun z9 => by omega), rfl, rfl⟩)) (fun c5 => ?_)
  obtain ⟨-, a0, a1⟩ := hz.resolve_right (fun y => c5 y.1)
  refine c_isV M hb (fun z2 hz2 => ?_)
  refine s_mel13 (z := z2.toInt) M rfl rfl ha rfl hb rfl (fun x1 q1 c13 => g x1 h F V (by omega) (by omega) M (g_exR (by omega) sh hp) (fun y => by omega) (fun S hh s _ _ _ => Or.inr ⟨q1, Or.inr (Or.inl (fun z9 => by omega)), rfl, rfl⟩)) (fun c13 => ?_)
  obtain ⟨-, b0, b1⟩ := hz2.resolve_right (fun y => c13 y.1)
  have wa := p_wvL (V 36) a.toNat
  have wb := p_wvL (V 36) b.toNat
  refine c_sizeAt (v := a.toNat) M (by omega) (by omega) (fun x2 q2 => ?_)
  refine s_mel21 (y := (p_wv (V 36) a.toNat : Int)) M rfl rfl ha rfl hb q2 ?_
  refine c_sizeAt (v := b.toNat) M (by omega) (by omega) (fun x3 q3 => ?_)
  refine s_mel26 (y := (p_wv (V 36) a.toNat : Int)) (z := (p_wv (V 36) b.toNat : Int)) M rfl rfl ha rfl hb q2 q3 (by omega) (by omega) (by omega) (by omega) (fun c9 => ?_) (fun x3 q3 c9 => g x3 h F V (by omega) (by omega) M (g_exR (by omega) sh hp) (fun y => by omega) (fun S hh s _ ea eb => Or.inr ⟨q3, Or.inr (Or.inr ?_), rfl, rfl⟩))
  rotate_left
  · have e1 : p_wv (V 36) a.toNat = p_ws hh 6 := p_wsC (fun j hj => ea a0 a1 j hj)
    have e2 : p_wv (V 36) b.toNat = p_ws s 6 := p_wsC (fun j hj => eb b0 b1 j hj)
    omega
  refine c_hand (v := a.toNat) M (by omega) (by omega) w1 (fun h2 V2 M2 k1 k2 => ?_)
  refine s_mel39 M2 rfl rfl ha rfl hb (fun x4 q4 lv4 e0 e1 e2 e3 => ?_)
  refine l_melds (b := b.toNat) (V0 := V2) w2 (by omega) ha (by omega) (fun lv5 h3 V3 M3 j1 j2 => ?_) 6 0 lv4 h2 V2 x4 rfl M2 q4 (fun k hk => by omega) (fun _ _ => rfl) e0 e1 e2 e3
  have vo : ∀ K, K ≠ 24 → K ≠ 25 → V3 K = V K := fun K y1 y2 => (j2 K y2).trans (k2 K y1)
  refine c_meld M3 w3 (by rw [vo 22 (by decide) (by decide), vo 23 (by decide) (by decide)]; exact sh) ?_ ?_ n0 n1 (fun h4 F4 V4 c M4 I R => ?_)
  · rw [vo 22 (by decide) (by decide), j2 24 (by decide)]
    intro r h6
    rw [k1 r h6]
    exact ro a.toNat r (by omega) h6
  · rw [vo 22 (by decide) (by decide)]
    intro r h6
    rw [j1 r h6, k2 36 (by decide)]
    exact ro b.toNat r (by omega) h6
  · obtain ⟨⟨i1, i2, i3⟩, ⟨i4, i5⟩, i6, i7, i8, i9, i10, i11⟩ := I
    refine s_mel74 M4 (fun x q => g x h4 F4 V4 (by omega) (by omega) M4 ⟨⟨i1, i2⟩, ⟨i4, by omega⟩, fun K y1 y2 y3 y4 => i6 K y1 y3, fun v hv => by rw [i7 v hv, vo 22 (by decide) (by decide)], fun K hK => by rw [i8 K (by omega) (by omega) (by omega) (by omega) (by omega), vo K (by omega) (by omega)]⟩ (fun _ => ⟨b0, b1⟩) (fun S hh s aS ea eb => Or.inl ?_))
    have e1 : p_wv (V 36) a.toNat = p_ws hh 6 := p_wsC (fun j hj => ea a0 a1 j hj)
    have e2 : p_wv (V 36) b.toNat = p_ws s 6 := p_wsC (fun j hj => eb b0 b1 j hj)
    obtain ⟨r1, r2⟩ := R S hh s (rs_ofV aS rfl rfl (vo 20 (by decide) (by decide)) (vo 21 (by decide) (by decide)) (vo 22 (by decide) (by decide)) (vo 23 (by decide) (by decide))) (fun j hj => by rw [j2 24 (by decide), k1 j hj]; exact ea a0 a1 j hj) (fun j hj => by rw [j1 j hj, k2 36 (by decide)]; exact eb b0 b1 j hj)
    exact ⟨q, ⟨a0, a1⟩, ⟨b0, b1⟩, by omega, r1, r2, i6 18 (by decide) (by decide)⟩
-- an act
theorem s_do0 {w v a b : Int} (M : MX 49 W ρ m A h0 h F V G) (e0 : m_lk lv 0 = some (.ref m)) {lx1 : Int32} (e1 : m_lk lv 1 = some (.int lx1)) (lq1 : lx1.toInt = w) {lx2 : Int32} (e2 : m_lk lv 2 = some (.int lx2)) (lq2 : lx2.toInt = v) {lx3 : Int32} (e3 : m_lk lv 3 = some (.int lx3)) (lq3 : lx3.toInt = a) {lx4 : Int32} (e4 : m_lk lv 4 = some (.int lx4)) (lq4 : lx4.toInt = b) 
    (g0 : w ≠ 0 → HJ 205 0 (lv_args 0 [.ref m, .int lx2]) [] h (fun v h' => HJ 204 15 lv (v.toList ++ []) h' Q))
    (g1 : w = 0 → HJ 202 0 (lv_args 0 [.ref m]) [] h (fun v h' => HJ 204 8 lv (v.toList ++ []) h' Q))
    : HJ 204 0 lv [] h Q := by
  refine hI_il (k := 1) rfl e1 rfl ?_ -- 0
  refine hM_zne (off := 9) (t := 10) rfl lq1 (by decide) rfl (fun c1 => ?_) (fun c1 => ?_) -- 1
  · refine hI_al (k := 0) rfl e0 rfl ?_ -- 10
    refine hI_il (k := 2) rfl e2 rfl ?_ -- 11
    refine hM_iv M (by decide) rfl rfl (by decide) (as := [.int lx2]) (r := []) rfl rfl (by decide +kernel) rfl (by decide +kernel) rfl rfl rfl rfl rfl ?_ -- 12
    exact g0 c1
  · refine hI_al (k := 0) rfl e0 rfl ?_ -- 4
    refine hM_iv M (by decide) rfl rfl (by decide) (as := []) (r := []) rfl rfl (by decide +kernel) rfl (by decide +kernel) rfl rfl rfl rfl rfl ?_ -- 5
    exact g1 c1
theorem s_do8 (M : MX 49 W ρ m A h0 h F V G)  
    (g0 : ∀ x1 : Int32, x1.toInt = 1 → Q (some (.int x1)) h)
    : HJ 204 8 lv [] h Q := by
  refine hM_ic (n := 1) rfl (by decide) rfl (fun x1 q1 => ?_) -- 8
  refine hM_rb rfl rfl q1 (by omega) (by omega) ?_ -- 9
  exact g0 x1 q1
theorem s_do15 {w v a b z : Int} (M : MX 49 W ρ m A h0 h F V G) (e0 : m_lk lv 0 = some (.ref m)) {lx1 : Int32} (e1 : m_lk lv 1 = some (.int lx1)) (lq1 : lx1.toInt = w) {lx2 : Int32} (e2 : m_lk lv 2 = some (.int lx2)) (lq2 : lx2.toInt = v) {lx3 : Int32} (e3 : m_lk lv 3 = some (.int lx3)) (lq3 : lx3.toInt = a) {lx4 : Int32} (e4 : m_lk lv 4 = some (.int lx4)) (lq4 : lx4.toInt = b) {sx0 : Int32} (sq0 : sx0.toInt = z) 
    (g0 : z ≠ 0 → w ≠ 2 → HJ 208 0 (lv_args 0 [.ref m, .int lx2]) [] h (fun v h' => HJ 204 37 lv (v.toList ++ []) h' Q))
    (g1 : z ≠ 0 → w = 2 → HJ 206 0 (lv_args 0 [.ref m, .int lx2, .int lx3]) [] h (fun v h' => HJ 204 31 lv (v.toList ++ []) h' Q))
    (g2 : ∀ x2 : Int32, x2.toInt = 0 → z = 0 → Q (some (.int x2)) h)
    : HJ 204 15 lv [.int sx0] h Q := by
  refine hM_zne (off := 5) (t := 20) rfl sq0 (by decide) rfl (fun c15 => ?_) (fun c15 => ?_) -- 15
  · refine hI_il (k := 1) rfl e1 rfl ?_ -- 20
    refine hM_ic (n := 2) rfl (by decide) rfl (fun x1 q1 => ?_) -- 21
    refine hM_cne (off := 10) (t := 32) rfl lq1 q1 (by decide) rfl (fun c22 => ?_) (fun c22 => ?_) -- 22
    · refine hI_al (k := 0) rfl e0 rfl ?_ -- 32
      refine hI_il (k := 2) rfl e2 rfl ?_ -- 33
      refine hM_iv M (by decide) rfl rfl (by decide) (as := [.int lx2]) (r := []) rfl rfl (by decide +kernel) rfl (by decide +kernel) rfl rfl rfl rfl rfl ?_ -- 34
      exact g0 c15 c22
    · refine hI_al (k := 0) rfl e0 rfl ?_ -- 25
      refine hI_il (k := 2) rfl e2 rfl ?_ -- 26
      refine hI_il (k := 3) rfl e3 rfl ?_ -- 27
      refine hM_iv M (by decide) rfl rfl (by decide) (as := [.int lx2, .int lx3]) (r := []) rfl rfl (by decide +kernel) rfl (by decide +kernel) rfl rfl rfl rfl rfl ?_ -- 28
      exact g1 c15 c22
  · refine hM_ic (n := 0) rfl (by decide) rfl (fun x2 q2 => ?_) -- 18
    refine hM_rb rfl rfl q2 (by omega) (by omega) ?_ -- 19
    exact g2 x2 q2 c15
theorem s_do31 {z : Int} (M : MX 49 W ρ m A h0 h F V G) {sx0 : Int32} (sq0 : sx0.toInt = z) (z0 : 0 ≤ z) (z1 : z ≤ 1)
    (g0 : Q (some (.int sx0)) h)
    : HJ 204 31 lv [.int sx0] h Q := by
  refine hM_rb rfl rfl sq0 (by omega) (by omega) ?_ -- 31
  exact g0 
theorem s_do37 {w v a b : Int} (M : MX 49 W ρ m A h0 h F V G) (e0 : m_lk lv 0 = some (.ref m)) {lx1 : Int32} (e1 : m_lk lv 1 = some (.int lx1)) (lq1 : lx1.toInt = w) {lx2 : Int32} (e2 : m_lk lv 2 = some (.int lx2)) (lq2 : lx2.toInt = v) {lx3 : Int32} (e3 : m_lk lv 3 = some (.int lx3)) (lq3 : lx3.toInt = a) {lx4 : Int32} (e4 : m_lk lv 4 = some (.int lx4)) (lq4 : lx4.toInt = b) 
    (g0 : w ≠ 1 → w ≠ 3 → w ≠ 4 → HJ 222 0 (lv_args 0 [.ref m, .int lx3]) [] h (fun v h' => HJ 204 82 lv (v.toList ++ []) h' Q))
    (g1 : w ≠ 1 → w ≠ 3 → w = 4 → HJ 218 0 (lv_args 0 [.ref m, .int lx3, .int lx4]) [] h (fun v h' => HJ 204 74 lv (v.toList ++ []) h' Q))
    (g2 : w ≠ 1 → w = 3 → HJ 216 0 (lv_args 0 [.ref m]) [] h (fun v h' => HJ 204 59 lv (v.toList ++ []) h' Q))
    (g3 : w = 1 → HJ 213 0 (lv_args 0 [.ref m, .int lx3]) [] h (fun v h' => HJ 204 47 lv (v.toList ++ []) h' Q))
    : HJ 204 37 lv [] h Q := by
  refine hI_il (k := 1) rfl e1 rfl ?_ -- 37
  refine hM_ic (n := 1) rfl (by decide) rfl (fun x1 q1 => ?_) -- 38
  refine hM_cne (off := 11) (t := 50) rfl lq1 q1 (by decide) rfl (fun c39 => ?_) (fun c39 => ?_) -- 39
  · refine hI_il (k := 1) rfl e1 rfl ?_ -- 50
    refine hM_ic (n := 3) rfl (by decide) rfl (fun x2 q2 => ?_) -- 51
    refine hM_cne (off := 10) (t := 62) rfl lq1 q2 (by decide) rfl (fun c52 => ?_) (fun c52 => ?_) -- 52
    · refine hI_il (k := 1) rfl e1 rfl ?_ -- 62
      refine hM_ic (n := 4) rfl (by decide) rfl (fun x3 q3 => ?_) -- 63
      refine hM_cne (off := 13) (t := 77) rfl lq1 q3 (by decide) rfl (fun c64 => ?_) (fun c64 => ?_) -- 64
      · refine hI_al (k := 0) rfl e0 rfl ?_ -- 77
        refine hI_il (k := 3) rfl e3 rfl ?_ -- 78
        refine hM_iv M (by decide) rfl rfl (by decide) (as := [.int lx3]) (r := []) rfl rfl (by decide +kernel) rfl (by decide +kernel) rfl rfl rfl rfl rfl ?_ -- 79
        exact g0 c39 c52 c64
      · refine hI_al (k := 0) rfl e0 rfl ?_ -- 67
        refine hI_il (k := 3) rfl e3 rfl ?_ -- 68
        refine hI_il2 (k := 4) rfl e4 rfl ?_ -- 69
        refine hM_iv M (by decide) rfl rfl (by decide) (as := [.int lx3, .int lx4]) (r := []) rfl rfl (by decide +kernel) rfl (by decide +kernel) rfl rfl rfl rfl rfl ?_ -- 71
        exact g1 c39 c52 c64
    · refine hI_al (k := 0) rfl e0 rfl ?_ -- 55
      refine hM_iv M (by decide) rfl rfl (by decide) (as := []) (r := []) rfl rfl (by decide +kernel) rfl (by decide +kernel) rfl rfl rfl rfl rfl ?_ -- 56
      exact g2 c39 c52
  · refine hI_al (k := 0) rfl e0 rfl ?_ -- 42
    refine hI_il (k := 3) rfl e3 rfl ?_ -- 43
    refine hM_iv M (by decide) rfl rfl (by decide) (as := [.int lx3]) (r := []) rfl rfl (by decide +kernel) rfl (by decide +kernel) rfl rfl rfl rfl rfl ?_ -- 44
    exact g3 c39
theorem s_do47 {z : Int} (M : MX 49 W ρ m A h0 h F V G) {sx0 : Int32} (sq0 : sx0.toInt = z) (z0 : 0 ≤ z) (z1 : z ≤ 1)
    (g0 : Q (some (.int sx0)) h)
    : HJ 204 47 lv [.int sx0] h Q := by
  refine hI_go (pc' := 82) (off := 35) rfl (by decide) ?_ -- 47
  refine hM_rb rfl rfl sq0 (by omega) (by omega) ?_ -- 82
  exact g0 
theorem s_do59 {z : Int} (M : MX 49 W ρ m A h0 h F V G) {sx0 : Int32} (sq0 : sx0.toInt = z) (z0 : 0 ≤ z) (z1 : z ≤ 1)
    (g0 : Q (some (.int sx0)) h)
    : HJ 204 59 lv [.int sx0] h Q := by
  refine hI_go (pc' := 82) (off := 23) rfl (by decide) ?_ -- 59
  refine hM_rb rfl rfl sq0 (by omega) (by omega) ?_ -- 82
  exact g0 
theorem s_do74 {z : Int} (M : MX 49 W ρ m A h0 h F V G) {sx0 : Int32} (sq0 : sx0.toInt = z) (z0 : 0 ≤ z) (z1 : z ≤ 1)
    (g0 : Q (some (.int sx0)) h)
    : HJ 204 74 lv [.int sx0] h Q := by
  refine hI_go (pc' := 82) (off := 8) rfl (by decide) ?_ -- 74
  refine hM_rb rfl rfl sq0 (by omega) (by omega) ?_ -- 82
  exact g0 
theorem s_do82 {z : Int} (M : MX 49 W ρ m A h0 h F V G) {sx0 : Int32} (sq0 : sx0.toInt = z) (z0 : 0 ≤ z) (z1 : z ≤ 1)
    (g0 : Q (some (.int sx0)) h)
    : HJ 204 82 lv [.int sx0] h Q := by
  refine hM_rb rfl rfl sq0 (by omega) (by omega) ?_ -- 82
  exact g0 
def g_do : List (Nat × Nat) := g_lw ++ [(62, 1001), (49, 18)]
theorem g_exM {F0 F : Nat → Int} {V0 V : Nat → Nat → Int} {k k2 : Int} (h : k ≤ k2) (I : g_ex F0 V0 F V k) : g_ex F0 V0 F V k2 := ⟨I.1, ⟨I.2.1.1, by have := I.2.1.2; omega⟩, I.2.2⟩
-- the reference's picture of a row's run
def ry_of (F : Nat → Int) (V : Nat → Nat → Int) (Y : RYt) : Prop := rs_of F V (ry_s Y) ∧ (F 18 = ry_t Y ∧ 0 ≤ ry_t Y) ∧ F 35 = (ry_v Y : Int) ∧ (∀ j, j < 6 * ry_v Y → V 36 j = ry_r Y j) ∧ (∀ v, v < ry_v Y → V 39 v = ry_a Y v ∧ V 40 v = ry_b Y v) ∧ ∀ k, k + 1 < ry_v Y → V 37 k = ry_m Y k ∧ V 38 k = ry_l Y k
def do_P (Y : RYt) (w v a b : Int) (F' : Nat → Int) (V' : Nat → Nat → Int) (x : Int) : Prop := (x = 0 ∧ ry_do Y w v a b = none ∧ rs_of F' V' (ps_le (ry_s Y) 0) ∧ F' 18 = ry_t Y) ∨ (x = 1 ∧ ∃ X, ry_do Y w v a b = some X ∧ rs_of F' V' X.1 ∧ hp6 (V' 24) X.2.1 ∧ F' 18 = X.2.2 ∧ (X.2.2 = ry_t Y ∨ X.2.2 = ry_t Y + 1))
theorem ry_isT {Y : RYt} {v : Int} (h : 0 ≤ v ∧ v < (ry_v Y : Int)) : ry_is Y v = true := decide_eq_true h
theorem ry_isF {Y : RYt} {v : Int} (h : ¬ (0 ≤ v ∧ v < (ry_v Y : Int))) : ry_is Y v = false := decide_eq_false h
theorem ry_isV {Y : RYt} {v : Int} (h : ry_is Y v = true) : 0 ≤ v ∧ v < (ry_v Y : Int) := of_decide_eq_true h
section
variable {Y : RYt} {w v a b : Int}
theorem ry_doF (w0 : w ≠ 0) (h : ry_is Y v = false) : ry_do Y w v a b = none := by
  simp only [ry_do, if_neg w0, if_pos h]
theorem ry_do0 (w0 : w = 0) : ry_do Y w v a b = some (ps_le (ry_s Y) 0, fun _ => -1, ry_t Y) := by
  simp only [ry_do, if_pos w0]
theorem ry_do2 (w2 : w = 2) (h : ry_is Y v = true) : ry_do Y w v a b = if ry_is Y a = true ∧ p_ws (ry_h Y v) 6 + p_ws (ry_h Y a) 6 ≤ 63 then some ((pm_md (ps_le (ry_s Y) 0) (ry_h Y v) (ry_h Y a)).1, (pm_md (ps_le (ry_s Y) 0) (ry_h Y v) (ry_h Y a)).2, ry_t Y) else none := by
  simp only [ry_do, if_neg (show w ≠ 0 by omega), h, if_pos w2, if_neg (show ¬ (true = false) by decide)]
theorem ry_do1 (w1 : w = 1) (h : ry_is Y v = true) : ry_do Y w v a b = if p_ws (ry_h Y v) 6 = 63 then none else some ((pm_pu (ps_le (ry_s Y) 0) (ry_h Y v) (ry_t Y) a).1, (pm_pu (ps_le (ry_s Y) 0) (ry_h Y v) (ry_t Y) a).2, ry_t Y + 1) := by
  simp only [ry_do, if_neg (show w ≠ 0 by omega), h, if_neg (show w ≠ 2 by omega), if_pos w1, if_neg (show ¬ (true = false) by decide)]
theorem ry_do3 (w3 : w = 3) (h : ry_is Y v = true) : ry_do Y w v a b = if pm_le (ps_le (ry_s Y) 0) (ry_h Y v) 6 = -1 then none else some ((pm_tk (ps_le (ry_s Y) 0, ry_h Y v)).1, (pm_tk (ps_le (ry_s Y) 0, ry_h Y v)).2, ry_t Y) := by
  simp only [ry_do, if_neg (show w ≠ 0 by omega), h, if_neg (show w ≠ 2 by omega), if_neg (show w ≠ 1 by omega), if_pos w3, if_neg (show ¬ (true = false) by decide)]
theorem ry_do4 (w4 : w = 4) (h : ry_is Y v = true) : ry_do Y w v a b = (match lw_do (ps_le (ry_s Y) 0) (ry_h Y v) a b with
    | none => none
    | some X => some (X.1, X.2, ry_t Y)) := by
  simp only [ry_do, if_neg (show w ≠ 0 by omega), h, if_neg (show w ≠ 2 by omega), if_neg (show w ≠ 1 by omega), if_neg (show w ≠ 3 by omega), if_pos w4, if_neg (show ¬ (true = false) by decide)]
  cases lw_do (ps_le (ry_s Y) 0) (ry_h Y v) a b <;> rfl
theorem ry_do5 (w0 : w ≠ 0) (w1 : w ≠ 1) (w2 : w ≠ 2) (w3 : w ≠ 3) (w4 : w ≠ 4) (h : ry_is Y v = true) : ry_do Y w v a b = some ((pm_ct a 63 (ps_le (ry_s Y) 0, ry_h Y v)).1, (pm_ct a 63 (ps_le (ry_s Y) 0, ry_h Y v)).2, ry_t Y) := by
  simp only [ry_do, if_neg w0, h, if_neg w2, if_neg w1, if_neg w3, if_neg w4, if_neg (show ¬ (true = false) by decide)]
end
theorem c_does {w v a b : Int} {xw xv xa xb : Int32} (M : MX 49 W ρ m A h0 h F V G) (b0_ : m_lk lv 0 = some (.ref m)) (b1_ : m_lk lv 1 = some (.int xw)) (b2_ : m_lk lv 2 = some (.int xv)) (b3_ : m_lk lv 3 = some (.int xa)) (b4_ : m_lk lv 4 = some (.int xb)) (hw : d_sub g_do W = true) (qw : xw.toInt = w) (qv : xv.toInt = v) (qa : xa.toInt = a) (qb : xb.toInt = b) (sh : p_sh (F 17) (V 22) (V 23)) (hp : p_hp (F 17) (V 22) (V 24)) (ro : p_ro (F 17) (F 35) (V 22) (V 36)) (n0 : 0 ≤ F 17) (n1 : F 17 + 378 ≤ 16000) (s41 : F 35 ≤ 41) (g : ∀ (x : Int32) (h' : MH) (F' : Nat → Int) (V' : Nat → Nat → Int), 0 ≤ x.toInt → x.toInt ≤ 1 → MX 49 W ρ m A h0 h' F' V' G → g_ex F V F' V' 378 → (x.toInt = 1 → w ≠ 0 → 0 ≤ v ∧ v < F 35) → (x.toInt = 1 → w = 2 → 0 ≤ a ∧ a < F 35) → (∀ Y, ry_of F V Y → F 19 = 0 → ry_t Y ≤ 127 → av_1 w a b → do_P Y w v a b F' V' x.toInt) → Q (some (.int x)) h') : HJ 204 0 lv [] h Q := by
  have st : ∀ Y, ry_of F V Y → F 19 = 0 → rs_of F V (ps_le (ry_s Y) 0) := fun Y y l => ⟨y.1.1, l, ⟨Int.le_refl _, by have := y.1.2.2.1; show (0 : Int) ≤ (ps_n (ry_s Y) : Int); omega⟩, y.1.2.2.2⟩
  have hv : ∀ Y u, ry_of F V Y → 0 ≤ u → u < F 35 → ∀ r, r < 6 → V 36 (6 * u.toNat + r) = ry_h Y u r := fun Y u y u0 u1 r hr => y.2.2.2.1 _ (by have := y.2.2.1; omega)
  have w1 : d_sub [(61, 1001)] W = true := d_subm hw (by decide +kernel)
  have w2 : d_sub g_ls W = true := d_subm hw (by decide +kernel)
  have w3 : d_sub g_pt W = true := d_subm hw (by decide +kernel)
  have w4 : d_sub g_lw W = true := d_subm hw (by decide +kernel)
  refine s_do0 M b0_ b1_ qw b2_ qv b3_ qa b4_ qb (fun c1 => ?_) (fun c1 => ?_)
  · refine c_isV M qv (fun z hz => ?_)
    refine s_do15 (z := z.toInt) M b0_ b1_ qw b2_ qv b3_ qa b4_ qb rfl (fun c15 c22 => ?_) (fun c15 c22 => ?_) (fun x2 q2 c15 => g x2 h F V (by omega) (by omega) M (g_exR (by omega) sh hp) (fun y => by omega) (fun y => by omega) (fun Y y l _ _ => Or.inl ⟨q2, ry_doF c1 (ry_isF (by have := y.2.2.1; omega)), st Y y l, y.2.1.1⟩))
    · obtain ⟨-, v0, v1⟩ := hz.resolve_right (fun y => c15 y.1)
      refine c_hand (v := v.toNat) M (by omega) (by omega) w1 (fun h2 V2 M2 k1 k2 => ?_)
      have sh2 : p_sh (F 17) (V2 22) (V2 23) := by rw [k2 22 (by decide), k2 23 (by decide)]; exact sh
      have hp2 : p_hp (F 17) (V2 22) (V2 24) := by
        rw [k2 22 (by decide)]
        intro r h6
        rw [k1 r h6]
        exact ro v.toNat r (by omega) h6
      have up : ∀ (k : Int) (F' : Nat → Int) (V' : Nat → Nat → Int), k ≤ 378 → g_ex F V2 F' V' k → g_ex F V F' V' 378 := fun k F' V' hk I => by
        obtain ⟨i1, ⟨i2, i3⟩, i4, i5, i6⟩ := I
        exact ⟨i1, ⟨i2, by omega⟩, i4, fun u hu => by rw [i5 u hu, k2 22 (by decide)], fun K hK => by rw [i6 K hK, k2 K (by omega)]⟩
      have st2 : ∀ Y, ry_of F V Y → F 19 = 0 → rs_of F V2 (ps_le (ry_s Y) 0) := fun Y y l => rs_ofV (st Y y l) rfl rfl (k2 20 (by decide)) (k2 21 (by decide)) (k2 22 (by decide)) (k2 23 (by decide))
      have h2v : ∀ Y, ry_of F V Y → hp6 (V2 24) (ry_h Y v) := fun Y y r hr => (k1 r hr).trans (hv Y v y v0 v1 r hr)
      have iv : ∀ Y, ry_of F V Y → ry_is Y v = true := fun Y y => ry_isT (by have := y.2.2.1; omega)
      refine s_do37 M2 b0_ b1_ qw b2_ qv b3_ qa b4_ qb (fun c39 c52 c64 => ?_) (fun c39 c52 c64 => ?_) (fun c39 c52 => ?_) (fun c39 => ?_)
      · exact c_cuts M2 rfl rfl w2 qa sh2 hp2 n0 (by omega) (fun x h3 F3 V3 x1 M3 I R L18 => s_do82 (z := x.toInt) M3 rfl (by omega) (by omega) (g x h3 F3 V3 (by omega) (by omega) M3 (up _ F3 V3 (by omega) I) (fun _ _ => ⟨v0, v1⟩) (fun _ y => by omega) (fun Y y l _ _ => Or.inr ⟨x1, _, ry_do5 c1 c39 c22 c52 c64 (iv Y y), (R _ _ (st2 Y y l) (h2v Y y)).1, (R _ _ (st2 Y y l) (h2v Y y)).2, L18.trans y.2.1.1, Or.inl rfl⟩)))
      · exact c_lowers M2 rfl rfl rfl w4 sh2 hp2 n0 (by omega) (fun x h3 F3 V3 x0 x1 M3 I R L18 => s_do74 (z := x.toInt) M3 rfl x0 x1 (g x h3 F3 V3 x0 x1 M3 (up _ F3 V3 (by omega) I) (fun _ _ => ⟨v0, v1⟩) (fun _ y => by omega) (fun Y y l _ av => by
        have bb := av.2 c64
        rcases R _ _ (st2 Y y l) (h2v Y y) (by omega) (by omega) with ⟨q1, q2, q3⟩ | ⟨q1, X, q2, q3, q4⟩
        · rw [qa, qb] at q2
          exact Or.inl ⟨q1, by rw [ry_do4 c64 (iv Y y), q2], q3, L18.trans y.2.1.1⟩
        · rw [qa, qb] at q2
          exact Or.inr ⟨q1, (X.1, X.2, ry_t Y), by rw [ry_do4 c64 (iv Y y), q2], q3, q4, L18.trans y.2.1.1, Or.inl rfl⟩)))
      · exact c_lessens M2 rfl w2 sh2 hp2 n0 (by omega) (fun x h3 F3 V3 x0 x1 M3 I _ _ R L18 => s_do59 (z := x.toInt) M3 rfl x0 x1 (g x h3 F3 V3 x0 x1 M3 (up _ F3 V3 (by omega) I) (fun _ _ => ⟨v0, v1⟩) (fun _ y => by omega) (fun Y y l _ _ => by
        rcases R _ _ (st2 Y y l) (h2v Y y) with ⟨q1, q2, q3, q4⟩ | ⟨q1, q2, q3, q4⟩
        · exact Or.inr ⟨q1, _, (ry_do3 c52 (iv Y y)).trans (if_neg q2), q3, q4, L18.trans y.2.1.1, Or.inl rfl⟩
        · exact Or.inl ⟨q1, by rw [ry_do3 c52 (iv Y y), if_pos q2], by rw [q3, q4]; exact st2 Y y l, L18.trans y.2.1.1⟩)))
      · exact c_puts M2 rfl rfl w3 qa sh2 hp2 n0 (by omega) (fun x h3 F3 V3 x0 x1 M3 I R => s_do47 (z := x.toInt) M3 rfl x0 x1 (g x h3 F3 V3 x0 x1 M3 (up _ F3 V3 (by omega) I) (fun _ _ => ⟨v0, v1⟩) (fun _ y => by omega) (fun Y y l t1 av => by
        have aa := av.1 c39
        have tt := y.2.1
        rcases R _ _ (st2 Y y l) (h2v Y y) (by omega) (by omega) aa.1 aa.2 with ⟨q1, q2, q3, q4, q5⟩ | ⟨q1, q2, q3, q4⟩
        · rw [tt.1] at q3 q4 q5
          exact Or.inr ⟨q1, _, (ry_do1 c39 (iv Y y)).trans (if_neg q2), q4, q5, q3, Or.inr rfl⟩
        · exact Or.inl ⟨q1, by rw [ry_do1 c39 (iv Y y), if_pos q2], by rw [q3, q4]; exact st2 Y y l, by rw [q3]; exact tt.1⟩)))
    · obtain ⟨-, v0, v1⟩ := hz.resolve_right (fun y => c15 y.1)
      exact c_melds M w2 qv qa sh hp ro n0 (by omega) s41 (fun x h3 F3 V3 x0 x1 M3 I ab R => s_do31 (z := x.toInt) M3 rfl x0 x1 (g x h3 F3 V3 x0 x1 M3 (g_exM (by omega) I) (fun _ _ => ⟨v0, v1⟩) (fun y _ => ab y) (fun Y y l _ _ => by
        have e35 := y.2.2.1
        have iv : ry_is Y v = true := ry_isT (by omega)
        rcases R _ (ry_h Y v) (ry_h Y a) (st Y y l) (hv Y v y) (hv Y a y) with ⟨q1, q2, q3, q4, q5, q6, q7⟩ | ⟨q1, q2, q3, q4⟩
        · exact Or.inr ⟨q1, _, (ry_do2 c22 iv).trans (if_pos ⟨ry_isT (by omega), q4⟩), q5, q6, q7.trans y.2.1.1, Or.inl rfl⟩
        · refine Or.inl ⟨q1, ?_, by rw [q3, q4]; exact st Y y l, by rw [q3]; exact y.2.1.1⟩
          rw [ry_do2 c22 iv, if_neg]
          intro z9
          have := ry_isV z9.1
          rcases q2 with q2 | q2 | q2 <;> omega)))
  · refine c_emp M w1 (fun h2 V2 M2 k1 k2 => ?_)
    refine s_do8 M2 (fun x q => g x h2 F V2 (by omega) (by omega) M2 ⟨⟨by rw [k2 22 (by decide), k2 23 (by decide)]; exact sh, fun r h6 => Or.inl (k1 r h6)⟩, ⟨Int.le_refl _, by omega⟩, fun _ _ _ _ _ => rfl, fun _ _ => by rw [k2 22 (by decide)], fun K hK => k2 K (by omega)⟩ (fun _ y => absurd c1 y) (fun _ y => by omega) (fun Y y l _ _ => Or.inr ⟨q, _, ry_do0 c1, rs_ofV (st Y y l) rfl rfl (k2 20 (by decide)) (k2 21 (by decide)) (k2 22 (by decide)) (k2 23 (by decide)), k1, y.2.1.1, Or.inl rfl⟩))
end
end
section
-- A ROW OF ACTS LAID
def g_ly (F : Nat → Int) (V : Nat → Nat → Int) (k : Int) : Prop := (p_sh (F 17) (V 22) (V 23) ∧ p_hp (F 17) (V 22) (V 24) ∧ p_ro (F 17) (F 35) (V 22) (V 36)) ∧ (0 ≤ F 17 ∧ F 17 ≤ 378 * k) ∧ (1 ≤ F 35 ∧ F 35 ≤ k + 1) ∧ V 39 0 = -1 ∧ V 40 0 = -1
theorem g_lyM {F : Nat → Int} {V : Nat → Nat → Int} {k k2 : Int} (h : k ≤ k2) (I : g_ly F V k) : g_ly F V k2 := by
  obtain ⟨i1, i2, i3, i4⟩ := I
  exact ⟨i1, by omega, by omega, i4⟩
-- behind an act: as far as what is kept goes
theorem g_lyD {F F' : Nat → Int} {V V' : Nat → Nat → Int} {k : Int} (I : g_ly F V k) (J : g_ex F V F' V' 378) : g_ly F' V' (k + 1) := by
  obtain ⟨⟨i1, i2, i3⟩, i4, i5, i6, i7⟩ := I
  obtain ⟨⟨j1, j2⟩, ⟨j3, j4⟩, j5, j6, j7⟩ := J
  have e : F' 35 = F 35 := j5 35 (by decide) (by decide) (by decide) (by decide)
  refine ⟨⟨j1, j2, ?_⟩, by omega, by omega, by rw [j7 39 (by decide)]; exact i6, by rw [j7 40 (by decide)]; exact i7⟩
  rw [e, j7 36 (by decide)]
  exact p_roU j3 j6 i3
-- one more version is kept
theorem g_lyK {F F' : Nat → Int} {V V' : Nat → Nat → Int} {k : Int} {s : Nat} {a b : Int} (I : g_ly F V k) (fs : F 35 = (s : Int)) (hk : F 35 ≤ k) (f : F' = m_u F 35 ((s : Int) + 1)) (r1 : ∀ r, r < 6 → V' 36 (6 * s + r) = V 24 r) (r2 : ∀ j, j < 6 * s → V' 36 j = V 36 j) (pa : V' 39 = m_u (V 39) s a) (pb : V' 40 = m_u (V 40) s b) (vo : ∀ K, K ≠ 36 → K ≠ 39 → K ≠ 40 → V' K = V K) : g_ly F' V' k := by
  obtain ⟨⟨i1, i2, i3⟩, i4, i5, i6, i7⟩ := I
  have f17 : F' 17 = F 17 := by rw [f, m_uN _ _ _ _ (by decide)]
  have f35 : F' 35 = (s : Int) + 1 := by rw [f, m_uE]
  have v22 : V' 22 = V 22 := vo 22 (by decide) (by decide) (by decide)
  refine ⟨⟨by rw [f17, v22, vo 23 (by decide) (by decide) (by decide)]; exact i1, by rw [f17, v22, vo 24 (by decide) (by decide) (by decide)]; exact i2, fun w r hw h6 => ?_⟩, by omega, by omega, by rw [pa, m_uN _ _ _ _ (by omega)]; exact i6, by rw [pb, m_uN _ _ _ _ (by omega)]; exact i7⟩
  rw [f17, v22]
  by_cases e : w = s
  · rw [e, r1 r h6]
    exact i2 r h6
  · rw [r2 _ (by omega)]
    exact i3 w r (by omega) h6
-- the pure run beside the rows
theorem rs_z {F : Nat → Int} {V : Nat → Nat → Int} {S : PSt} (I : rs_of F V S) : rs_of (m_u F 19 0) V (ps_le S 0) := by
  obtain ⟨i1, i2, i3, i4⟩ := I
  refine ⟨by rw [m_uN _ _ _ _ (by decide)]; exact i1, m_uE _ _ _, ⟨Int.le_refl _, ?_⟩, i4⟩
  show (0 : Int) ≤ (ps_n S : Int)
  omega
def ly_J (T : Nat → Int) (n : Nat) (F : Nat → Int) (V : Nat → Nat → Int) (k : Nat) (c : Int) : Prop := k ≤ n ∧ ((∀ q, q < n → av_1 (T (4 * q)) (T (4 * q + 2)) (T (4 * q + 3))) → ry_of (m_u F 19 0) V (ry_z (ry_run T k).1) ∧ ry_t (ry_run T k).1 ≤ (k : Int) ∧ ((c ≠ 0 ∧ (ry_run T k).2 = true ∧ ry_v (ry_run T k).1 = k + 1) ∨ (c = 0 ∧ (ry_run T k).2 = false)))
def ly_E (T : Nat → Int) (n : Nat) (F : Nat → Int) (V : Nat → Nat → Int) : Prop := (∀ q, q < n → av_1 (T (4 * q)) (T (4 * q + 2)) (T (4 * q + 3))) → ry_of (m_u F 19 0) V (ry_z (ry_run T n).1)
-- from which versions each comes
def fr_I (Y : RYt) : Prop := ∀ u, u < ry_v Y → (-1 ≤ ry_a Y u ∧ ry_a Y u < (u : Int)) ∧ (-1 ≤ ry_b Y u ∧ ry_b Y u < (u : Int))
def ly_H (T : Nat → Int) (n : Nat) (L : Nat → Int64) (k : Nat) : Prop := (∀ q, q < n → av_1 (T (4 * q)) (T (4 * q + 2)) (T (4 * q + 3))) → fr_I (ry_run T k).1 ∧ fro_of L (ry_run T k).1
theorem fo_C {L L' : Nat → Int64} {s : Nat} {a : Int} (e : ∀ j, j ≠ s → L' j = L j) (h : a < (s : Int)) : fo_of L' a = fo_of L a := by
  unfold fo_of
  split
  · exact e _ (by omega)
  · rfl
theorem ly_HK {Z : RYt} {L L' : Nat → Int64} {X : PSt × (Nat → Int) × Int} {k : Nat} {w v a p q : Int} (I : fr_I Z) (fr : fro_of L Z) (ep : p = if w = 0 then -1 else v) (eq : q = if w = 2 then a else -1) (p0 : -1 ≤ p) (p1 : p < (ry_v Z : Int)) (q0 : -1 ≤ q) (q1 : q < (ry_v Z : Int)) (k1 : ∀ j, j ≠ ry_v Z → L' j = L j) (k2 : L' (ry_v Z) = bt (ry_v Z : Int) ||| fo_of L p ||| fo_of L q) : fr_I (ry_kp Z k w v a X) ∧ fro_of L' (ry_kp Z k w v a X) := by
  have ea : ∀ u, ry_a (ry_kp Z k w v a X) u = m_u (ry_a Z) (ry_v Z) p u := fun u => by rw [ep]; rfl
  have eb : ∀ u, ry_b (ry_kp Z k w v a X) u = m_u (ry_b Z) (ry_v Z) q u := fun u => by rw [eq]; rfl
  refine ⟨fun u hu => ?_, fun u hu => ?_⟩
  · have hu : u < ry_v Z + 1 := hu
    rw [ea, eb]
    by_cases e : u = ry_v Z
    · rw [e, m_uE, m_uE]
      exact ⟨⟨p0, p1⟩, q0, q1⟩
    · rw [m_uN _ _ _ _ e, m_uN _ _ _ _ e]
      exact I u (by omega)
  · have hu : u < ry_v Z + 1 := hu
    rw [ea, eb]
    by_cases e : u = ry_v Z
    · rw [e, m_uE, m_uE, fo_C k1 p1, fo_C k1 q1]
      exact k2
    · have i := I u (by omega)
      rw [m_uN _ _ _ _ e, m_uN _ _ _ _ e, fo_C k1 (by omega), fo_C k1 (by omega), k1 u e]
      exact fr u (by omega)
theorem ry_ofK {F F7 F9 : Nat → Int} {V V8 V9 : Nat → Nat → Int} {Z : RYt} {X : PSt × (Nat → Int) × Int} {k : Nat} {w v a p q : Int} (y : ry_of F V Z) (ev : ry_v Z = k + 1) (rx : rs_of F7 V8 X.1) (hx : hp6 (V8 24) X.2.1) (tx : F7 18 = X.2.2) (t0 : 0 ≤ X.2.2) (v36 : V8 36 = V 36) (v37 : V8 37 = m_u (V 37) k (F7 17 - F 17)) (v38 : V8 38 = m_u (V 38) k (F7 19)) (v39 : V8 39 = V 39) (v40 : V8 40 = V 40) (ep : p = if w = 0 then -1 else v) (eq : q = if w = 2 then a else -1) (f9 : F9 = m_u F7 35 (((k + 1 : Nat) : Int) + 1)) (k1 : ∀ r, r < 6 → V9 36 (6 * (k + 1) + r) = V8 24 r) (k2 : ∀ j, j < 6 * (k + 1) → V9 36 j = V8 36 j) (k3 : V9 39 = m_u (V8 39) (k + 1) p) (k4 : V9 40 = m_u (V8 40) (k + 1) q) (k5 : ∀ K, K ≠ 36 → K ≠ 39 → K ≠ 40 → V9 K = V8 K) : ry_of (m_u F9 19 0) V9 (ry_z (ry_kp Z k w v a X)) := by
  obtain ⟨y1, y2, y3, y4, y5, y6⟩ := y
  have r9 : rs_of F9 V9 X.1 := rs_ofV rx (by rw [f9, m_uN _ _ _ _ (by decide)]) (by rw [f9, m_uN _ _ _ _ (by decide)]) (k5 20 (by decide) (by decide) (by decide)) (k5 21 (by decide) (by decide) (by decide)) (k5 22 (by decide) (by decide) (by decide)) (k5 23 (by decide) (by decide) (by decide))
  have e1 : ry_v (ry_z (ry_kp Z k w v a X)) = k + 1 + 1 := by
    show ry_v Z + 1 = _
    rw [ev]
  refine ⟨rs_z r9, ⟨?_, t0⟩, ?_, fun j hj => ?_, fun u hu => ?_, fun j hj => ?_⟩
  · rw [m_uN _ _ _ _ (by decide), f9, m_uN _ _ _ _ (by decide)]
    exact tx
  · rw [m_uN _ _ _ _ (by decide), f9, m_uE, e1]
    omega
  · rw [e1] at hj
    show V9 36 j = if 6 * ry_v Z ≤ j ∧ j < 6 * ry_v Z + 6 then X.2.1 (j - 6 * ry_v Z) else ry_r Z j
    rw [ev]
    by_cases h : 6 * (k + 1) ≤ j
    · rw [if_pos ⟨h, by omega⟩]
      have := k1 (j - 6 * (k + 1)) (by omega)
      rw [show 6 * (k + 1) + (j - 6 * (k + 1)) = j by omega] at this
      rw [this]
      exact hx _ (by omega)
    · rw [if_neg (fun z => h z.1), k2 j (by omega), v36]
      exact y4 j (by omega)
  · rw [e1] at hu
    show V9 39 u = m_u (ry_a Z) (ry_v Z) (if w = 0 then -1 else v) u ∧ V9 40 u = m_u (ry_b Z) (ry_v Z) (if w = 2 then a else -1) u
    rw [k3, k4, v39, v40, ev, ← ep, ← eq]
    by_cases h : u = k + 1
    · rw [h, m_uE, m_uE, m_uE, m_uE]
      exact ⟨rfl, rfl⟩
    · rw [m_uN _ _ _ _ h, m_uN _ _ _ _ h, m_uN _ _ _ _ h, m_uN _ _ _ _ h]
      exact y5 u (by omega)
  · rw [e1] at hj
    show V9 37 j = m_u (ry_m Z) k ((ps_n X.1 : Int) - (ps_n (ry_s Z) : Int)) j ∧ V9 38 j = m_u (ry_l Z) k (ps_l X.1) j
    rw [k5 37 (by decide) (by decide) (by decide), k5 38 (by decide) (by decide) (by decide), v37, v38, rx.1, rx.2.1, y1.1]
    by_cases h : j = k
    · rw [h, m_uE, m_uE, m_uE, m_uE]
      exact ⟨rfl, rfl⟩
    · rw [m_uN _ _ _ _ h, m_uN _ _ _ _ h, m_uN _ _ _ _ h, m_uN _ _ _ _ h]
      exact y6 j (by omega)
section
variable {lv : List (Nat × Value)} {Q : Option Value → MH → Prop} {W : List (Nat × Nat)} {ρ : Nat → Nat} {m : Nat} {A : Nat → Nat} {h0 h : MH} {F : Nat → Int} {V : Nat → Nat → Int} {G : Nat → Nat → Int64}
theorem s_lay0 {r : Int} (M : MX 49 W ρ m A h0 h F V G) (e0 : m_lk lv 0 = some (.ref m)) {lx1 : Int32} (e1 : m_lk lv 1 = some (.int lx1)) (lq1 : lx1.toInt = r) 
    (g0 : HJ 188 0 (lv_args 0 [.ref m, .int lx1]) [] h (fun v h' => HJ 201 5 lv (v.toList ++ []) h' Q))
    : HJ 201 0 lv [] h Q := by
  refine hI_al (k := 0) rfl e0 rfl ?_ -- 0
  refine hI_il (k := 1) rfl e1 rfl ?_ -- 1
  refine hM_iv M (by decide) rfl rfl (by decide) (as := [.int lx1]) (r := []) rfl rfl (by decide +kernel) rfl (by decide +kernel) rfl rfl rfl rfl rfl ?_ -- 2
  exact g0 
theorem s_lay5 {r z : Int} (M : MX 49 W ρ m A h0 h F V G) (e0 : m_lk lv 0 = some (.ref m)) {lx1 : Int32} (e1 : m_lk lv 1 = some (.int lx1)) (lq1 : lx1.toInt = r) {sx0 : Int32} (sq0 : sx0.toInt = z) (hw : d_sub [(49, 17), (49, 18), (49, 35)] W = true)
    (g0 : ∀ h2 : MH, ∀ F2 : Nat → Int, F2 = m_u F 17 (0) → ∀ h4 : MH, ∀ F4 : Nat → Int, F4 = m_u F2 18 (0) → ∀ h6 : MH, ∀ F6 : Nat → Int, F6 = m_u F4 35 (0) → MX 49 W ρ m A h0 h6 F6 V G → z ≠ 0 → HJ 202 0 (lv_args 0 [.ref m]) [] h6 (fun v h' => HJ 201 29 lv (v.toList ++ []) h' Q))
    (g1 : ∀ x7 : Int32, x7.toInt = 0 → z = 0 → Q (some (.int x7)) h)
    : HJ 201 5 lv [.int sx0] h Q := by
  refine hM_zne (off := 5) (t := 10) rfl sq0 (by decide) rfl (fun c5 => ?_) (fun c5 => ?_) -- 5
  · refine hI_al (k := 0) rfl e0 rfl ?_ -- 10
    refine hM_ic (n := 0) rfl (by decide) rfl (fun x1 q1 => ?_) -- 11
    refine hM_pi M (by decide) ok_49 rfl rfl (k := 17) (c := 9) (lo := 0) (hi := 16000) rfl rfl ⟨by decide, by decide +kernel, rfl⟩ rfl (d_subm hw (by decide +kernel)) q1 (by omega) (by omega) rfl (fun h2 F2 f2 M2 => ?_) -- 12
    refine hI_al (k := 0) rfl e0 rfl ?_ -- 15
    refine hM_ic (n := 0) rfl (by decide) rfl (fun x3 q3 => ?_) -- 16
    refine hM_pi M2 (by decide) ok_49 rfl rfl (k := 18) (c := 9) (lo := (-2147483648)) (hi := 2147483647) rfl rfl ⟨by decide, by decide +kernel, rfl⟩ rfl (d_subm hw (by decide +kernel)) q3 (by omega) (by omega) rfl (fun h4 F4 f4 M4 => ?_) -- 17
    refine hI_al (k := 0) rfl e0 rfl ?_ -- 20
    refine hM_ic (n := 0) rfl (by decide) rfl (fun x5 q5 => ?_) -- 21
    refine hM_pi M4 (by decide) ok_49 rfl rfl (k := 35) (c := 9) (lo := 0) (hi := 41) rfl rfl ⟨by decide, by decide +kernel, rfl⟩ rfl (d_subm hw (by decide +kernel)) q5 (by omega) (by omega) rfl (fun h6 F6 f6 M6 => ?_) -- 22
    refine hI_al (k := 0) rfl e0 rfl ?_ -- 25
    refine hM_iv M6 (by decide) rfl rfl (by decide) (as := []) (r := []) rfl rfl (by decide +kernel) rfl (by decide +kernel) rfl rfl rfl rfl rfl ?_ -- 26
    exact g0 h2 F2 f2 h4 F4 f4 h6 F6 f6 M6 c5
  · refine hM_ic (n := 0) rfl (by decide) rfl (fun x7 q7 => ?_) -- 8
    refine hM_rb rfl rfl q7 (by omega) (by omega) ?_ -- 9
    exact g1 x7 q7 c5
theorem s_lay29 {r : Int} (M : MX 49 W ρ m A h0 h F V G) (e0 : m_lk lv 0 = some (.ref m)) {lx1 : Int32} (e1 : m_lk lv 1 = some (.int lx1)) (lq1 : lx1.toInt = r) 
    (g0 : ∀ x1 : Int32, x1.toInt = (-1) → ∀ x2 : Int32, x2.toInt = (-1) → HJ 203 0 (lv_args 0 [.ref m, .int x1, .int x2]) [] h (fun v h' => HJ 201 35 lv (v.toList ++ []) h' Q))
    : HJ 201 29 lv [] h Q := by
  refine hI_al (k := 0) rfl e0 rfl ?_ -- 29
  refine hM_ic (n := (-1)) rfl (by decide) rfl (fun x1 q1 => ?_) -- 30
  refine hM_ic (n := (-1)) rfl (by decide) rfl (fun x2 q2 => ?_) -- 31
  refine hM_iv M (by decide) rfl rfl (by decide) (as := [.int x1, .int x2]) (r := []) rfl rfl (by decide +kernel) rfl (by decide +kernel) rfl rfl rfl rfl rfl ?_ -- 32
  exact g0 x1 q1 x2 q2
theorem s_lay35 {r : Int} (M : MX 49 W ρ m A h0 h F V G) (e0 : m_lk lv 0 = some (.ref m)) {lx1 : Int32} (e1 : m_lk lv 1 = some (.int lx1)) (lq1 : lx1.toInt = r) 
    (g0 : ∀ x1 : Int32, x1.toInt = 1 → ∀ x3 : Int32, x3.toInt = 0 → ∀ lv4 : List (Nat × Value), m_lk lv4 0 = some (.ref m) → m_lk lv4 1 = some (.int lx1) → m_lk lv4 2 = some (.int x1) → m_lk lv4 3 = some (.int x3) → HJ 201 39 lv4 [] h Q)
    : HJ 201 35 lv [] h Q := by
  refine hM_ic (n := 1) rfl (by decide) rfl (fun x1 q1 => ?_) -- 35
  refine hM_si (k := 2) rfl (by decide +kernel) rfl (fun lv2 e2_2 u2 => ?_) -- 36
  have e2_0 := u2 0 _ (by decide) (Or.inl rfl) e0
  have e2_1 := u2 1 _ (by decide) (Or.inl rfl) e1
  refine hM_ic (n := 0) rfl (by decide) rfl (fun x3 q3 => ?_) -- 37
  refine hM_si (k := 3) rfl (by decide +kernel) rfl (fun lv4 e4_3 u4 => ?_) -- 38
  have e4_0 := u4 0 _ (by decide) (Or.inl rfl) e2_0
  have e4_1 := u4 1 _ (by decide) (Or.inl rfl) e2_1
  have e4_2 := u4 2 _ (by decide) (Or.inl rfl) e2_2
  exact g0 x1 q1 x3 q3 lv4 e4_0 e4_1 e4_2 e4_3
theorem s_lay39 {r c k : Int} (M : MX 49 W ρ m A h0 h F V G) (e0 : m_lk lv 0 = some (.ref m)) {lx1 : Int32} (e1 : m_lk lv 1 = some (.int lx1)) (lq1 : lx1.toInt = r) {lx2 : Int32} (e2 : m_lk lv 2 = some (.int lx2)) (lq2 : lx2.toInt = c) {lx3 : Int32} (e3 : m_lk lv 3 = some (.int lx3)) (lq3 : lx3.toInt = k) 
    (g0 : HJ 198 0 (lv_args 0 [.ref m, .int lx1]) [] h (fun v h' => HJ 201 45 lv (v.toList ++ [.int lx3]) h' Q))
    : HJ 201 39 lv [] h Q := by
  refine hI_il (k := 3) rfl e3 rfl ?_ -- 39
  refine hI_al (k := 0) rfl e0 rfl ?_ -- 40
  refine hI_il (k := 1) rfl e1 rfl ?_ -- 41
  refine hM_iv M (by decide) rfl rfl (by decide) (as := [.int lx1]) (r := [.int lx3]) rfl rfl (by decide +kernel) rfl (by decide +kernel) rfl rfl rfl rfl rfl ?_ -- 42
  exact g0 
theorem s_lay45 {r c k n : Int} (M : MX 49 W ρ m A h0 h F V G) (e0 : m_lk lv 0 = some (.ref m)) {lx1 : Int32} (e1 : m_lk lv 1 = some (.int lx1)) (lq1 : lx1.toInt = r) {lx2 : Int32} (e2 : m_lk lv 2 = some (.int lx2)) (lq2 : lx2.toInt = c) {lx3 : Int32} (e3 : m_lk lv 3 = some (.int lx3)) (lq3 : lx3.toInt = k) {sx0 : Int32} (sq0 : sx0.toInt = k) {sx1 : Int32} (sq1 : sx1.toInt = n) (hw : d_sub [(49, 19)] W = true)
    (g0 : ∀ x1 : Int32, x1.toInt = 1 → k ≥ n → Q (some (.int x1)) h)
    (g1 : ∀ x2 : Int32, x2.toInt = 1 → k < n → c = 0 → Q (some (.int x2)) h)
    (g2 : ∀ x3 : Int32, x3.toInt = F 17 → ∀ h6 : MH, ∀ F6 : Nat → Int, F6 = m_u F 19 (0) → ∀ x7 : Int32, x7.toInt = 0 → ∀ lv4 : List (Nat × Value), MX 49 W ρ m A h0 h6 F6 V G → m_lk lv4 0 = some (.ref m) → m_lk lv4 1 = some (.int lx1) → m_lk lv4 2 = some (.int lx2) → m_lk lv4 3 = some (.int lx3) → m_lk lv4 4 = some (.int x3) → k < n → c ≠ 0 → 0 ≤ F 17 → F 17 ≤ 16000 → HJ 199 0 (lv_args 0 [.ref m, .int lx1, .int lx3, .int x7]) [] h6 (fun v h' => HJ 201 70 lv4 (v.toList ++ []) h' Q))
    : HJ 201 45 lv [.int sx1, .int sx0] h Q := by
  refine hM_cge (off := 124) (t := 169) rfl sq0 sq1 (by decide) rfl (fun c45 => ?_) (fun c45 => ?_) -- 45
  · refine hM_ic (n := 1) rfl (by decide) rfl (fun x1 q1 => ?_) -- 169
    refine hM_rb rfl rfl q1 (by omega) (by omega) ?_ -- 170
    exact g0 x1 q1 c45
  · refine hI_il (k := 2) rfl e2 rfl ?_ -- 48
    refine hM_zeq (off := 120) (t := 169) rfl lq2 (by decide) rfl (fun c49 => ?_) (fun c49 => ?_) -- 49
    · refine hM_ic (n := 1) rfl (by decide) rfl (fun x2 q2 => ?_) -- 169
      refine hM_rb rfl rfl q2 (by omega) (by omega) ?_ -- 170
      exact g1 x2 q2 c45 c49
    · refine hI_al (k := 0) rfl e0 rfl ?_ -- 52
      refine hM_gi M (by decide) rfl rfl rfl (k := 17) (c := 9) (lo := 0) (hi := 16000) rfl rfl rfl rfl rfl (fun x3 q3 a3 b3 => ?_) -- 53
      refine hM_si2 (k := 4) rfl (by decide +kernel) rfl (fun lv4 e4_4 u4 => ?_) -- 56
      have e4_0 := u4 0 _ (by decide) (Or.inl rfl) e0
      have e4_1 := u4 1 _ (by decide) (Or.inl rfl) e1
      have e4_2 := u4 2 _ (by decide) (Or.inl rfl) e2
      have e4_3 := u4 3 _ (by decide) (Or.inl rfl) e3
      refine hI_al (k := 0) rfl e4_0 rfl ?_ -- 58
      refine hM_ic (n := 0) rfl (by decide) rfl (fun x5 q5 => ?_) -- 59
      refine hM_pi M (by decide) ok_49 rfl rfl (k := 19) (c := 9) (lo := (-2147483648)) (hi := 2147483647) rfl rfl ⟨by decide, by decide +kernel, rfl⟩ rfl (d_subm hw (by decide +kernel)) q5 (by omega) (by omega) rfl (fun h6 F6 f6 M6 => ?_) -- 60
      refine hI_al (k := 0) rfl e4_0 rfl ?_ -- 63
      refine hI_il (k := 1) rfl e4_1 rfl ?_ -- 64
      refine hI_il (k := 3) rfl e4_3 rfl ?_ -- 65
      refine hM_ic (n := 0) rfl (by decide) rfl (fun x7 q7 => ?_) -- 66
      refine hM_iv M6 (by decide) rfl rfl (by decide) (as := [.int lx1, .int lx3, .int x7]) (r := []) rfl rfl (by decide +kernel) rfl (by decide +kernel) rfl rfl rfl rfl rfl ?_ -- 67
      exact g2 x3 q3 h6 F6 f6 x7 q7 lv4 M6 e4_0 e4_1 e4_2 e4_3 e4_4 c45 c49 a3 b3
theorem s_lay70 {r c k b w : Int} (M : MX 49 W ρ m A h0 h F V G) (e0 : m_lk lv 0 = some (.ref m)) {lx1 : Int32} (e1 : m_lk lv 1 = some (.int lx1)) (lq1 : lx1.toInt = r) {lx2 : Int32} (e2 : m_lk lv 2 = some (.int lx2)) (lq2 : lx2.toInt = c) {lx3 : Int32} (e3 : m_lk lv 3 = some (.int lx3)) (lq3 : lx3.toInt = k) {lx4 : Int32} (e4 : m_lk lv 4 = some (.int lx4)) (lq4 : lx4.toInt = b) {sx0 : Int32} (sq0 : sx0.toInt = w) 
    (g0 : ∀ x2 : Int32, x2.toInt = 1 → ∀ lv1 : List (Nat × Value), m_lk lv1 0 = some (.ref m) → m_lk lv1 1 = some (.int lx1) → m_lk lv1 2 = some (.int lx2) → m_lk lv1 3 = some (.int lx3) → m_lk lv1 4 = some (.int lx4) → m_lk lv1 5 = some (.int sx0) → HJ 199 0 (lv_args 0 [.ref m, .int lx1, .int lx3, .int x2]) [] h (fun v h' => HJ 201 79 lv1 (v.toList ++ []) h' Q))
    : HJ 201 70 lv [.int sx0] h Q := by
  refine hM_si2 (k := 5) rfl (by decide +kernel) rfl (fun lv1 e1_5 u1 => ?_) -- 70
  have e1_0 := u1 0 _ (by decide) (Or.inl rfl) e0
  have e1_1 := u1 1 _ (by decide) (Or.inl rfl) e1
  have e1_2 := u1 2 _ (by decide) (Or.inl rfl) e2
  have e1_3 := u1 3 _ (by decide) (Or.inl rfl) e3
  have e1_4 := u1 4 _ (by decide) (Or.inl rfl) e4
  refine hI_al (k := 0) rfl e1_0 rfl ?_ -- 72
  refine hI_il (k := 1) rfl e1_1 rfl ?_ -- 73
  refine hI_il (k := 3) rfl e1_3 rfl ?_ -- 74
  refine hM_ic (n := 1) rfl (by decide) rfl (fun x2 q2 => ?_) -- 75
  refine hM_iv M (by decide) rfl rfl (by decide) (as := [.int lx1, .int lx3, .int x2]) (r := []) rfl rfl (by decide +kernel) rfl (by decide +kernel) rfl rfl rfl rfl rfl ?_ -- 76
  exact g0 x2 q2 lv1 e1_0 e1_1 e1_2 e1_3 e1_4 e1_5
theorem s_lay79 {r c k b w v : Int} (M : MX 49 W ρ m A h0 h F V G) (e0 : m_lk lv 0 = some (.ref m)) {lx1 : Int32} (e1 : m_lk lv 1 = some (.int lx1)) (lq1 : lx1.toInt = r) {lx2 : Int32} (e2 : m_lk lv 2 = some (.int lx2)) (lq2 : lx2.toInt = c) {lx3 : Int32} (e3 : m_lk lv 3 = some (.int lx3)) (lq3 : lx3.toInt = k) {lx4 : Int32} (e4 : m_lk lv 4 = some (.int lx4)) (lq4 : lx4.toInt = b) {lx5 : Int32} (e5 : m_lk lv 5 = some (.int lx5)) (lq5 : lx5.toInt = w) {sx0 : Int32} (sq0 : sx0.toInt = v) 
    (g0 : ∀ x2 : Int32, x2.toInt = 2 → ∀ lv1 : List (Nat × Value), m_lk lv1 0 = some (.ref m) → m_lk lv1 1 = some (.int lx1) → m_lk lv1 2 = some (.int lx2) → m_lk lv1 3 = some (.int lx3) → m_lk lv1 4 = some (.int lx4) → m_lk lv1 5 = some (.int lx5) → m_lk lv1 6 = some (.int sx0) → HJ 199 0 (lv_args 0 [.ref m, .int lx1, .int lx3, .int x2]) [] h (fun v h' => HJ 201 93 lv1 (v.toList ++ [.int sx0, .int lx5, .ref m]) h' Q))
    : HJ 201 79 lv [.int sx0] h Q := by
  refine hM_si2 (k := 6) rfl (by decide +kernel) rfl (fun lv1 e1_6 u1 => ?_) -- 79
  have e1_0 := u1 0 _ (by decide) (Or.inl rfl) e0
  have e1_1 := u1 1 _ (by decide) (Or.inl rfl) e1
  have e1_2 := u1 2 _ (by decide) (Or.inl rfl) e2
  have e1_3 := u1 3 _ (by decide) (Or.inl rfl) e3
  have e1_4 := u1 4 _ (by decide) (Or.inl rfl) e4
  have e1_5 := u1 5 _ (by decide) (Or.inl rfl) e5
  refine hI_al (k := 0) rfl e1_0 rfl ?_ -- 81
  refine hI_il2 (k := 5) rfl e1_5 rfl ?_ -- 82
  refine hI_il2 (k := 6) rfl e1_6 rfl ?_ -- 84
  refine hI_al (k := 0) rfl e1_0 rfl ?_ -- 86
  refine hI_il (k := 1) rfl e1_1 rfl ?_ -- 87
  refine hI_il (k := 3) rfl e1_3 rfl ?_ -- 88
  refine hM_ic (n := 2) rfl (by decide) rfl (fun x2 q2 => ?_) -- 89
  refine hM_iv M (by decide) rfl rfl (by decide) (as := [.int lx1, .int lx3, .int x2]) (r := [.int sx0, .int lx5, .ref m]) rfl rfl (by decide +kernel) rfl (by decide +kernel) rfl rfl rfl rfl rfl ?_ -- 90
  exact g0 x2 q2 lv1 e1_0 e1_1 e1_2 e1_3 e1_4 e1_5 e1_6
theorem s_lay93 {r c k b w v x : Int} (M : MX 49 W ρ m A h0 h F V G) (e0 : m_lk lv 0 = some (.ref m)) {lx1 : Int32} (e1 : m_lk lv 1 = some (.int lx1)) (lq1 : lx1.toInt = r) {lx2 : Int32} (e2 : m_lk lv 2 = some (.int lx2)) (lq2 : lx2.toInt = c) {lx3 : Int32} (e3 : m_lk lv 3 = some (.int lx3)) (lq3 : lx3.toInt = k) {lx4 : Int32} (e4 : m_lk lv 4 = some (.int lx4)) (lq4 : lx4.toInt = b) {lx5 : Int32} (e5 : m_lk lv 5 = some (.int lx5)) (lq5 : lx5.toInt = w) {lx6 : Int32} (e6 : m_lk lv 6 = some (.int lx6)) (lq6 : lx6.toInt = v) {sx1 : Int32} (sq1 : sx1.toInt = w) {sx2 : Int32} (sq2 : sx2.toInt = v) {sx3 : Int32} (sq3 : sx3.toInt = x) 
    (g0 : ∀ x1 : Int32, x1.toInt = 3 → HJ 199 0 (lv_args 0 [.ref m, .int lx1, .int lx3, .int x1]) [] h (fun v h' => HJ 201 100 lv (v.toList ++ [.int sx3, .int sx2, .int sx1, .ref m]) h' Q))
    : HJ 201 93 lv [.int sx3, .int sx2, .int sx1, .ref m] h Q := by
  refine hI_al (k := 0) rfl e0 rfl ?_ -- 93
  refine hI_il (k := 1) rfl e1 rfl ?_ -- 94
  refine hI_il (k := 3) rfl e3 rfl ?_ -- 95
  refine hM_ic (n := 3) rfl (by decide) rfl (fun x1 q1 => ?_) -- 96
  refine hM_iv M (by decide) rfl rfl (by decide) (as := [.int lx1, .int lx3, .int x1]) (r := [.int sx3, .int sx2, .int sx1, .ref m]) rfl rfl (by decide +kernel) rfl (by decide +kernel) rfl rfl rfl rfl rfl ?_ -- 97
  exact g0 x1 q1
theorem s_lay100 {r c k b w v x y : Int} (M : MX 49 W ρ m A h0 h F V G) (e0 : m_lk lv 0 = some (.ref m)) {lx1 : Int32} (e1 : m_lk lv 1 = some (.int lx1)) (lq1 : lx1.toInt = r) {lx2 : Int32} (e2 : m_lk lv 2 = some (.int lx2)) (lq2 : lx2.toInt = c) {lx3 : Int32} (e3 : m_lk lv 3 = some (.int lx3)) (lq3 : lx3.toInt = k) {lx4 : Int32} (e4 : m_lk lv 4 = some (.int lx4)) (lq4 : lx4.toInt = b) {lx5 : Int32} (e5 : m_lk lv 5 = some (.int lx5)) (lq5 : lx5.toInt = w) {lx6 : Int32} (e6 : m_lk lv 6 = some (.int lx6)) (lq6 : lx6.toInt = v) {sx1 : Int32} (sq1 : sx1.toInt = w) {sx2 : Int32} (sq2 : sx2.toInt = v) {sx3 : Int32} (sq3 : sx3.toInt = x) {sx4 : Int32} (sq4 : sx4.toInt = y) 
    (g0 : HJ 204 0 (lv_args 0 [.ref m, .int sx1, .int sx2, .int sx3, .int sx4]) [] h (fun v h' => HJ 201 103 lv (v.toList ++ []) h' Q))
    : HJ 201 100 lv [.int sx4, .int sx3, .int sx2, .int sx1, .ref m] h Q := by
  refine hM_iv M (by decide) rfl rfl (by decide) (as := [.int sx1, .int sx2, .int sx3, .int sx4]) (r := []) rfl rfl (by decide +kernel) rfl (by decide +kernel) rfl rfl rfl rfl rfl ?_ -- 100
  exact g0 
theorem s_lay103 {r c k b w v z : Int} (M : MX 49 W ρ m A h0 h F V G) (e0 : m_lk lv 0 = some (.ref m)) {lx1 : Int32} (e1 : m_lk lv 1 = some (.int lx1)) (lq1 : lx1.toInt = r) {lx2 : Int32} (e2 : m_lk lv 2 = some (.int lx2)) (lq2 : lx2.toInt = c) {lx3 : Int32} (e3 : m_lk lv 3 = some (.int lx3)) (lq3 : lx3.toInt = k) {lx4 : Int32} (e4 : m_lk lv 4 = some (.int lx4)) (lq4 : lx4.toInt = b) {lx5 : Int32} (e5 : m_lk lv 5 = some (.int lx5)) (lq5 : lx5.toInt = w) {lx6 : Int32} (e6 : m_lk lv 6 = some (.int lx6)) (lq6 : lx6.toInt = v) {sx0 : Int32} (sq0 : sx0.toInt = z) (k0 : 0 ≤ k) (k1 : k ≤ 39) (b0 : 0 ≤ b) (b1 : b ≤ 16000)(hw : d_sub [(72, 1001), (73, 1001)] W = true)
    (g0 : ∀ x2 : Int32, x2.toInt = k + 1 → ∀ lv2 : List (Nat × Value), m_lk lv2 0 = some (.ref m) → m_lk lv2 1 = some (.int lx1) → m_lk lv2 2 = some (.int sx0) → m_lk lv2 3 = some (.int x2) → z = 0 → HJ 201 39 lv2 [] h Q)
    (g1 : ∀ h5 : MH, ∀ V5 : Nat → Nat → Int, V5 = m_u V 37 (m_u (V 37) (k).toNat ((F 17) - b)) → ∀ h7 : MH, ∀ V7 : Nat → Nat → Int, V7 = m_u V5 38 (m_u (V5 38) (k).toNat (F 19)) → ∀ x9 : Int32, x9.toInt = (-1) → ∀ lv1 : List (Nat × Value), MX 49 W ρ m A h0 h7 F V7 G → m_lk lv1 0 = some (.ref m) → m_lk lv1 1 = some (.int lx1) → m_lk lv1 2 = some (.int sx0) → m_lk lv1 3 = some (.int lx3) → z ≠ 0 → 0 ≤ F 17 → F 17 ≤ 16000 → (-2147483648) ≤ F 19 → F 19 ≤ 2147483647 → w ≠ 0 → w ≠ 2 → HJ 203 0 (lv_args 0 [.ref m, .int lx6, .int x9]) [] h7 (fun v h' => HJ 201 163 lv1 (v.toList ++ []) h' Q))
    (g2 : ∀ h5 : MH, ∀ V5 : Nat → Nat → Int, V5 = m_u V 37 (m_u (V 37) (k).toNat ((F 17) - b)) → ∀ h7 : MH, ∀ V7 : Nat → Nat → Int, V7 = m_u V5 38 (m_u (V5 38) (k).toNat (F 19)) → ∀ x10 : Int32, x10.toInt = 2 → ∀ lv1 : List (Nat × Value), MX 49 W ρ m A h0 h7 F V7 G → m_lk lv1 0 = some (.ref m) → m_lk lv1 1 = some (.int lx1) → m_lk lv1 2 = some (.int sx0) → m_lk lv1 3 = some (.int lx3) → z ≠ 0 → 0 ≤ F 17 → F 17 ≤ 16000 → (-2147483648) ≤ F 19 → F 19 ≤ 2147483647 → w ≠ 0 → w = 2 → HJ 199 0 (lv_args 0 [.ref m, .int lx1, .int lx3, .int x10]) [] h7 (fun v h' => HJ 201 156 lv1 (v.toList ++ [.int lx6, .ref m]) h' Q))
    (g3 : ∀ h5 : MH, ∀ V5 : Nat → Nat → Int, V5 = m_u V 37 (m_u (V 37) (k).toNat ((F 17) - b)) → ∀ h7 : MH, ∀ V7 : Nat → Nat → Int, V7 = m_u V5 38 (m_u (V5 38) (k).toNat (F 19)) → ∀ x11 : Int32, x11.toInt = (-1) → ∀ x13 : Int32, x13.toInt = (-1) → ∀ lv1 : List (Nat × Value), MX 49 W ρ m A h0 h7 F V7 G → m_lk lv1 0 = some (.ref m) → m_lk lv1 1 = some (.int lx1) → m_lk lv1 2 = some (.int sx0) → m_lk lv1 3 = some (.int lx3) → z ≠ 0 → 0 ≤ F 17 → F 17 ≤ 16000 → (-2147483648) ≤ F 19 → F 19 ≤ 2147483647 → w = 0 → w ≠ 2 → HJ 203 0 (lv_args 0 [.ref m, .int x11, .int x13]) [] h7 (fun v h' => HJ 201 163 lv1 (v.toList ++ []) h' Q))
    (g4 : ∀ h5 : MH, ∀ V5 : Nat → Nat → Int, V5 = m_u V 37 (m_u (V 37) (k).toNat ((F 17) - b)) → ∀ h7 : MH, ∀ V7 : Nat → Nat → Int, V7 = m_u V5 38 (m_u (V5 38) (k).toNat (F 19)) → ∀ x11 : Int32, x11.toInt = (-1) → ∀ x14 : Int32, x14.toInt = 2 → ∀ lv1 : List (Nat × Value), MX 49 W ρ m A h0 h7 F V7 G → m_lk lv1 0 = some (.ref m) → m_lk lv1 1 = some (.int lx1) → m_lk lv1 2 = some (.int sx0) → m_lk lv1 3 = some (.int lx3) → z ≠ 0 → 0 ≤ F 17 → F 17 ≤ 16000 → (-2147483648) ≤ F 19 → F 19 ≤ 2147483647 → w = 0 → w = 2 → HJ 199 0 (lv_args 0 [.ref m, .int lx1, .int lx3, .int x14]) [] h7 (fun v h' => HJ 201 156 lv1 (v.toList ++ [.int x11, .ref m]) h' Q))
    : HJ 201 103 lv [.int sx0] h Q := by
  refine hM_si (k := 2) rfl (by decide +kernel) rfl (fun lv1 e1_2 u1 => ?_) -- 103
  have e1_0 := u1 0 _ (by decide) (Or.inl rfl) e0
  have e1_1 := u1 1 _ (by decide) (Or.inl rfl) e1
  have e1_3 := u1 3 _ (by decide) (Or.inl rfl) e3
  have e1_4 := u1 4 _ (by decide) (Or.inl rfl) e4
  have e1_5 := u1 5 _ (by decide) (Or.inl rfl) e5
  have e1_6 := u1 6 _ (by decide) (Or.inl rfl) e6
  refine hI_il (k := 2) rfl e1_2 rfl ?_ -- 104
  refine hM_zeq (off := 58) (t := 163) rfl sq0 (by decide) rfl (fun c105 => ?_) (fun c105 => ?_) -- 105
  · refine hM_inc (k := 3) (z := 1) rfl e1_3 lq3 (by decide) (by omega) (by omega) (by decide +kernel) rfl (fun lv2 x2 q2 e2_3 u2 => ?_) -- 163
    have e2_0 := u2 0 _ (by decide) (Or.inl rfl) e1_0
    have e2_1 := u2 1 _ (by decide) (Or.inl rfl) e1_1
    have e2_4 := u2 4 _ (by decide) (Or.inl rfl) e1_4
    have e2_5 := u2 5 _ (by decide) (Or.inl rfl) e1_5
    have e2_6 := u2 6 _ (by decide) (Or.inl rfl) e1_6
    have e2_2 := u2 2 _ (by decide) (Or.inl rfl) e1_2
    refine hI_go (pc' := 39) (off := (-127)) rfl (by decide) ?_ -- 166
    exact g0 x2 q2 lv2 e2_0 e2_1 e2_2 e2_3 c105
  · refine hI_al (k := 0) rfl e1_0 rfl ?_ -- 108
    refine hM_ga M (by decide) rfl rfl (k := 37) (c := 9) rfl rfl rfl (by decide +kernel) rfl ?_ -- 109
    refine hI_il (k := 3) rfl e1_3 rfl ?_ -- 112
    refine hI_al (k := 0) rfl e1_0 rfl ?_ -- 113
    refine hM_gi M (by decide) rfl rfl rfl (k := 17) (c := 9) (lo := 0) (hi := 16000) rfl rfl rfl rfl rfl (fun x3 q3 a3 b3 => ?_) -- 114
    refine hI_il2 (k := 4) rfl e1_4 rfl ?_ -- 117
    refine hM_sub rfl q3 lq4 (by omega) (by omega) rfl (fun x4 q4 => ?_) -- 119
    refine hM_is M (by decide) ok_49 (K := 37) (R2 := 72) (L := 40) (H := 40) (lo := (-2147483648)) (hi := 2147483647) rfl (by decide) rfl rfl rfl (fun _ => rfl) (d_subm hw (by decide +kernel)) rfl lq3 q4 (by omega) (by omega) (by omega) (by omega) rfl (fun h5 V5 f5 M5 => ?_) -- 120
    refine hI_al (k := 0) rfl e1_0 rfl ?_ -- 121
    refine hM_ga M5 (by decide) rfl rfl (k := 38) (c := 9) rfl rfl rfl (by decide +kernel) rfl ?_ -- 122
    refine hI_il (k := 3) rfl e1_3 rfl ?_ -- 125
    refine hI_al (k := 0) rfl e1_0 rfl ?_ -- 126
    refine hM_gi M5 (by decide) rfl rfl rfl (k := 19) (c := 9) (lo := (-2147483648)) (hi := 2147483647) rfl rfl rfl rfl rfl (fun x6 q6 a6 b6 => ?_) -- 127
    refine hM_is M5 (by decide) ok_49 (K := 38) (R2 := 73) (L := 40) (H := 40) (lo := (-2147483648)) (hi := 2147483647) rfl (by decide) rfl rfl rfl (fun _ => rfl) (d_subm hw (by decide +kernel)) rfl lq3 q6 (by omega) (by omega) (by omega) (by omega) rfl (fun h7 V7 f7 M7 => ?_) -- 130
    refine hI_al (k := 0) rfl e1_0 rfl ?_ -- 131
    refine hI_il2 (k := 5) rfl e1_5 rfl ?_ -- 132
    refine hM_zne (off := 7) (t := 141) rfl lq5 (by decide) rfl (fun c134 => ?_) (fun c134 => ?_) -- 134
    · refine hI_il2 (k := 6) rfl e1_6 rfl ?_ -- 141
      refine hI_il2 (k := 5) rfl e1_5 rfl ?_ -- 143
      refine hM_ic (n := 2) rfl (by decide) rfl (fun x8 q8 => ?_) -- 145
      refine hM_cne (off := 13) (t := 159) rfl lq5 q8 (by decide) rfl (fun c146 => ?_) (fun c146 => ?_) -- 146
      · refine hM_ic (n := (-1)) rfl (by decide) rfl (fun x9 q9 => ?_) -- 159
        refine hM_iv M7 (by decide) rfl rfl (by decide) (as := [.int lx6, .int x9]) (r := []) rfl rfl (by decide +kernel) rfl (by decide +kernel) rfl rfl rfl rfl rfl ?_ -- 160
        exact g1 h5 V5 f5 h7 V7 f7 x9 q9 lv1 M7 e1_0 e1_1 e1_2 e1_3 c105 a3 b3 a6 b6 c134 c146
      · refine hI_al (k := 0) rfl e1_0 rfl ?_ -- 149
        refine hI_il (k := 1) rfl e1_1 rfl ?_ -- 150
        refine hI_il (k := 3) rfl e1_3 rfl ?_ -- 151
        refine hM_ic (n := 2) rfl (by decide) rfl (fun x10 q10 => ?_) -- 152
        refine hM_iv M7 (by decide) rfl rfl (by decide) (as := [.int lx1, .int lx3, .int x10]) (r := [.int lx6, .ref m]) rfl rfl (by decide +kernel) rfl (by decide +kernel) rfl rfl rfl rfl rfl ?_ -- 153
        exact g2 h5 V5 f5 h7 V7 f7 x10 q10 lv1 M7 e1_0 e1_1 e1_2 e1_3 c105 a3 b3 a6 b6 c134 c146
    · refine hM_ic (n := (-1)) rfl (by decide) rfl (fun x11 q11 => ?_) -- 137
      refine hI_go (pc' := 143) (off := 5) rfl (by decide) ?_ -- 138
      refine hI_il2 (k := 5) rfl e1_5 rfl ?_ -- 143
      refine hM_ic (n := 2) rfl (by decide) rfl (fun x12 q12 => ?_) -- 145
      refine hM_cne (off := 13) (t := 159) rfl lq5 q12 (by decide) rfl (fun c146 => ?_) (fun c146 => ?_) -- 146
      · refine hM_ic (n := (-1)) rfl (by decide) rfl (fun x13 q13 => ?_) -- 159
        refine hM_iv M7 (by decide) rfl rfl (by decide) (as := [.int x11, .int x13]) (r := []) rfl rfl (by decide +kernel) rfl (by decide +kernel) rfl rfl rfl rfl rfl ?_ -- 160
        exact g3 h5 V5 f5 h7 V7 f7 x11 q11 x13 q13 lv1 M7 e1_0 e1_1 e1_2 e1_3 c105 a3 b3 a6 b6 c134 c146
      · refine hI_al (k := 0) rfl e1_0 rfl ?_ -- 149
        refine hI_il (k := 1) rfl e1_1 rfl ?_ -- 150
        refine hI_il (k := 3) rfl e1_3 rfl ?_ -- 151
        refine hM_ic (n := 2) rfl (by decide) rfl (fun x14 q14 => ?_) -- 152
        refine hM_iv M7 (by decide) rfl rfl (by decide) (as := [.int lx1, .int lx3, .int x14]) (r := [.int x11, .ref m]) rfl rfl (by decide +kernel) rfl (by decide +kernel) rfl rfl rfl rfl rfl ?_ -- 153
        exact g4 h5 V5 f5 h7 V7 f7 x11 q11 x14 q14 lv1 M7 e1_0 e1_1 e1_2 e1_3 c105 a3 b3 a6 b6 c134 c146
theorem s_lay156 {r c k p q : Int} (M : MX 49 W ρ m A h0 h F V G) (e0 : m_lk lv 0 = some (.ref m)) {lx1 : Int32} (e1 : m_lk lv 1 = some (.int lx1)) (lq1 : lx1.toInt = r) {lx2 : Int32} (e2 : m_lk lv 2 = some (.int lx2)) (lq2 : lx2.toInt = c) {lx3 : Int32} (e3 : m_lk lv 3 = some (.int lx3)) (lq3 : lx3.toInt = k) {sx1 : Int32} (sq1 : sx1.toInt = p) {sx2 : Int32} (sq2 : sx2.toInt = q) 
    (g0 : HJ 203 0 (lv_args 0 [.ref m, .int sx1, .int sx2]) [] h (fun v h' => HJ 201 163 lv (v.toList ++ []) h' Q))
    : HJ 201 156 lv [.int sx2, .int sx1, .ref m] h Q := by
  refine hI_go (pc' := 160) (off := 4) rfl (by decide) ?_ -- 156
  refine hM_iv M (by decide) rfl rfl (by decide) (as := [.int sx1, .int sx2]) (r := []) rfl rfl (by decide +kernel) rfl (by decide +kernel) rfl rfl rfl rfl rfl ?_ -- 160
  exact g0 
theorem s_lay163 {r c k : Int} (M : MX 49 W ρ m A h0 h F V G) (e0 : m_lk lv 0 = some (.ref m)) {lx1 : Int32} (e1 : m_lk lv 1 = some (.int lx1)) (lq1 : lx1.toInt = r) {lx2 : Int32} (e2 : m_lk lv 2 = some (.int lx2)) (lq2 : lx2.toInt = c) {lx3 : Int32} (e3 : m_lk lv 3 = some (.int lx3)) (lq3 : lx3.toInt = k) (k1 : k ≤ 39) (k0 : 0 ≤ k)
    (g0 : ∀ x1 : Int32, x1.toInt = k + 1 → ∀ lv1 : List (Nat × Value), m_lk lv1 0 = some (.ref m) → m_lk lv1 1 = some (.int lx1) → m_lk lv1 2 = some (.int lx2) → m_lk lv1 3 = some (.int x1) → HJ 201 39 lv1 [] h Q)
    : HJ 201 163 lv [] h Q := by
  refine hM_inc (k := 3) (z := 1) rfl e3 lq3 (by decide) (by omega) (by omega) (by decide +kernel) rfl (fun lv1 x1 q1 e1_3 u1 => ?_) -- 163
  have e1_0 := u1 0 _ (by decide) (Or.inl rfl) e0
  have e1_1 := u1 1 _ (by decide) (Or.inl rfl) e1
  have e1_2 := u1 2 _ (by decide) (Or.inl rfl) e2
  refine hI_go (pc' := 39) (off := (-127)) rfl (by decide) ?_ -- 166
  exact g0 x1 q1 lv1 e1_0 e1_1 e1_2 e1_3
def g_la : List (Nat × Nat) := g_do ++ g_kp ++ [(72, 1001), (73, 1001)]
theorem l_lay {r : Int} {xr : Int32} {R6 T : Nat → Int} {n : Nat} (hT : ∀ j, R6 (161 * r.toNat + 1 + j) = T j) (hn : R6 (161 * r).toNat = (n : Int)) (hw : d_sub g_la W = true) (qr : xr.toInt = r) (r0 : 0 ≤ r) (r3 : r ≤ 3) (n40 : R6 (161 * r).toNat ≤ 40) (g : ∀ (x : Int32) (h' : MH) (F' : Nat → Int) (V' : Nat → Nat → Int) (G' : Nat → Nat → Int64), x.toInt = 1 → MX 49 W ρ m A h0 h' F' V' G' → g_ly F' V' 40 → ly_E T n F' V' → ly_H T n (G' 41) n → Q (some (.int x)) h') : ∀ (d k : Nat) (c : Int) (lv : List (Nat × Value)) (h : MH) (F : Nat → Int) (V : Nat → Nat → Int) (G : Nat → Nat → Int64) (xc xk : Int32), k + d = 40 → MX 49 W ρ m A h0 h F V G → V 6 = R6 → g_ly F V k → ly_J T n F V k c → ly_H T n (G 41) k → xc.toInt = c → xk.toInt = (k : Int) → m_lk lv 0 = some (.ref m) → m_lk lv 1 = some (.int xr) → m_lk lv 2 = some (.int xc) → m_lk lv 3 = some (.int xk) → HJ 201 39 lv [] h Q := by
  have w1 : d_sub g_do W = true := d_subm hw (by decide +kernel)
  have w2 : d_sub g_kp W = true := d_subm hw (by decide +kernel)
  have w3 : d_sub [(49, 19)] W = true := d_subm hw (by decide +kernel)
  have w4 : d_sub [(72, 1001), (73, 1001)] W = true := d_subm hw (by decide +kernel)
  have stop : ∀ (F : Nat → Int) (V : Nat → Nat → Int) (k : Nat) (c : Int), ly_J T n F V k c → ((k : Int) ≥ R6 (161 * r).toNat ∨ c = 0) → ly_E T n F V := fun F V k c J s av => by
    obtain ⟨y, -, f⟩ := J.2 av
    have e : ry_run T n = ry_run T k := by
      rcases f with ⟨f1, -, -⟩ | ⟨-, f2⟩
      · rcases s with s | s
        · rw [show n = k by have := J.1; omega]
        · exact absurd s f1
      · have := ry_runE f2 (n - k)
        rw [show k + (n - k) = n by have := J.1; omega] at this
        exact this
    rw [e]
    exact y
  have stopH : ∀ (F : Nat → Int) (V : Nat → Nat → Int) (L : Nat → Int64) (k : Nat) (c : Int), ly_J T n F V k c → ly_H T n L k → ((k : Int) ≥ R6 (161 * r).toNat ∨ c = 0) → ly_H T n L n := fun F V L k c J JG s av => by
    obtain ⟨y, -, f⟩ := J.2 av
    have e : ry_run T n = ry_run T k := by
      rcases f with ⟨f1, -, -⟩ | ⟨-, f2⟩
      · rcases s with s | s
        · rw [show n = k by have := J.1; omega]
        · exact absurd s f1
      · have := ry_runE f2 (n - k)
        rw [show k + (n - k) = n by have := J.1; omega] at this
        exact this
    rw [e]
    exact JG av
  intro d
  induction d with
  | zero =>
    intro k c lv h F V G xc xk hd M v6 I JL JG hc hk e0 e1 e2 e3
    refine s_lay39 M e0 e1 qr e2 hc e3 hk (c_acts M qr r0 r3 (fun xn qn => ?_))
    rw [v6] at qn
    refine s_lay45 (k := (k : Int)) (n := R6 (161 * r).toNat) M e0 e1 qr e2 hc e3 hk hk qn w3 (fun x1 q1 c45 => g x1 h F V G q1 M (g_lyM (by omega) I) (stop F V k c JL (Or.inl c45)) (stopH F V _ k c JL JG (Or.inl c45))) (fun x1 q1 _ c49 => g x1 h F V G q1 M (g_lyM (by omega) I) (stop F V k c JL (Or.inr c49)) (stopH F V _ k c JL JG (Or.inr c49))) (fun x3 q3 h6 F6 f6 x7 q7 lv4 M6 e4_0 e4_1 e4_2 e4_3 e4_4 c45 c49 a3 b3 => by omega)
  | succ d ih =>
    intro k c lv h F V G xc xk hd M v6 I JL JG hc hk e0 e1 e2 e3
    refine s_lay39 M e0 e1 qr e2 hc e3 hk (c_acts M qr r0 r3 (fun xn qn => ?_))
    rw [v6] at qn
    refine s_lay45 (k := (k : Int)) (n := R6 (161 * r).toNat) M e0 e1 qr e2 hc e3 hk hk qn w3 (fun x1 q1 c45 => g x1 h F V G q1 M (g_lyM (by omega) I) (stop F V k c JL (Or.inl c45)) (stopH F V _ k c JL JG (Or.inl c45))) (fun x1 q1 _ c49 => g x1 h F V G q1 M (g_lyM (by omega) I) (stop F V k c JL (Or.inr c49)) (stopH F V _ k c JL JG (Or.inr c49))) (fun x3 q3 h6 F6 f6 x7 q7 lv4 M6 a0 a1 a2 a3 a4 c45 c49 _ _ => ?_)
    have g17 : F6 17 = F 17 := by rw [f6, m_uN _ _ _ _ (by decide)]
    have g35 : F6 35 = F 35 := by rw [f6, m_uN _ _ _ _ (by decide)]
    have I6 : g_ly F6 V k := by
      unfold g_ly
      rw [g17, g35]
      exact I
    have I6' := I6
    obtain ⟨⟨i1, i2, i3⟩, i4, i5, i6, i7⟩ := I6'
    refine c_act M6 qr hk q7 r0 r3 (by omega) (by omega) (by omega) (by omega) (fun xw qw => ?_)
    refine s_lay70 M6 a0 a1 qr a2 hc a3 hk a4 q3 qw (fun x8 q8 lv5 b0 b1 b2 b3 b4 b5 => ?_)
    refine c_act M6 qr hk q8 r0 r3 (by omega) (by omega) (by omega) (by omega) (fun xv qv => ?_)
    refine s_lay79 M6 b0 b1 qr b2 hc b3 hk b4 q3 b5 qw qv (fun x9 q9 lv6 d0 d1 d2 d3 d4 d5 d6 => ?_)
    refine c_act M6 qr hk q9 r0 r3 (by omega) (by omega) (by omega) (by omega) (fun xa qa => ?_)
    refine s_lay93 M6 d0 d1 qr d2 hc d3 hk d4 q3 d5 qw d6 qv qw qv qa (fun x10 q10 => ?_)
    refine c_act M6 qr hk q10 r0 r3 (by omega) (by omega) (by omega) (by omega) (fun xb qb => ?_)
    refine s_lay100 M6 d0 d1 qr d2 hc d3 hk d4 q3 d5 qw d6 qv qw qv qa qb ?_
    refine c_does M6 rfl rfl rfl rfl rfl w1 qw qv qa qb i1 i2 i3 i4.1 (by omega) (by omega) (fun z h7 F7 V7 z0 z1 M7 J jv ja R => ?_)
    have J6 := g_lyD I6 J
    have e35 : F7 35 = F6 35 := J.2.2.1 35 (by decide) (by decide) (by decide) (by decide)
    have v7 : V7 6 = R6 := by rw [J.2.2.2.2 6 (by decide), v6]
    have rr : ∀ u : Nat, (161 * r + 1 + 4 * (k : Int) + (u : Int)).toNat = 161 * r.toNat + 1 + (4 * k + u) := fun u => by omega
    have ew : V 6 (161 * r + 1 + 4 * (k : Int) + 0).toNat = T (4 * k) := by
      rw [v6, ← hT]
      exact congrArg R6 (rr 0)
    have ev : V 6 (161 * r + 1 + 4 * (k : Int) + 1).toNat = T (4 * k + 1) := by
      rw [v6, ← hT]
      exact congrArg R6 (rr 1)
    have ea : V 6 (161 * r + 1 + 4 * (k : Int) + 2).toNat = T (4 * k + 2) := by
      rw [v6, ← hT]
      exact congrArg R6 (rr 2)
    have eb : V 6 (161 * r + 1 + 4 * (k : Int) + 3).toNat = T (4 * k + 3) := by
      rw [v6, ← hT]
      exact congrArg R6 (rr 3)
    have DP : (∀ q, q < n → av_1 (T (4 * q)) (T (4 * q + 2)) (T (4 * q + 3))) → ((ry_run T k).2 = true ∧ ry_v (ry_run T k).1 = k + 1) ∧ ry_of F6 V (ry_z (ry_run T k).1) ∧ ry_t (ry_run T k).1 ≤ (k : Int) ∧ do_P (ry_z (ry_run T k).1) (T (4 * k)) (T (4 * k + 1)) (T (4 * k + 2)) (T (4 * k + 3)) F7 V7 z.toInt := fun av => by
      obtain ⟨y, t, f⟩ := JL.2 av
      obtain ⟨-, f1, f2⟩ := f.resolve_right (fun z9 => c49 z9.1)
      rw [← f6] at y
      have d := R _ y (by rw [f6, m_uE]) (by show ry_t (ry_run T k).1 ≤ 127; omega) (by rw [ew, ea, eb]; exact av k (by omega))
      rw [ew, ev, ea, eb] at d
      exact ⟨⟨f1, f2⟩, y, t, d⟩
    -- what is kept
    have kp : ∀ (p q : Int) (xp xq : Int32) (V8 : Nat → Nat → Int) (h8 : MH) (lv8 : List (Nat × Value)), z.toInt ≠ 0 → xp.toInt = p → xq.toInt = q → -1 ≤ p → p ≤ 40 → p < F7 35 → -1 ≤ q → q ≤ 40 → q < F7 35 → (∀ K, K ≠ 37 → K ≠ 38 → V8 K = V7 K) → V8 37 = m_u (V7 37) k (F7 17 - F 17) → V8 38 = m_u (V7 38) k (F7 19) → p = (if T (4 * k) = 0 then -1 else T (4 * k + 1)) → q = (if T (4 * k) = 2 then T (4 * k + 2) else -1) → MX 49 W ρ m A h0 h8 F7 V8 G → m_lk lv8 0 = some (.ref m) → m_lk lv8 1 = some (.int xr) → m_lk lv8 2 = some (.int z) → m_lk lv8 3 = some (.int xk) → HJ 203 0 (lv_args 0 [.ref m, .int xp, .int xq]) [] h8 (fun v h' => HJ 201 163 lv8 (v.toList ++ []) h' Q)   := fun p q xp xq V8 h8 lv8 zn qp qq p0 p1 p7 q0 q1 q7 vo v37 v38 ep eq M8 b0 b1 b2 b3 => by
      have I8 : g_ly F7 V8 (k + 1) := by
        unfold g_ly
        rw [vo 22 (by decide) (by decide), vo 23 (by decide) (by decide), vo 24 (by decide) (by decide), vo 36 (by decide) (by decide), vo 39 (by decide) (by decide), vo 40 (by decide) (by decide)]
        exact J6
      have s7 : F7 35 = (((F7 35).toNat : Nat) : Int) := by omega
      refine c_keep (s := (F7 35).toNat) M8 w2 s7 (by omega) qp qq p0 p1 q0 q1 (fun h9 F9 V9 G9 M9 f9 k1 k2 k3 k4 k5 k6 k7 => ?_)
      have I9 := g_lyK I8 s7 (by omega) f9 k1 k2 k3 k4 k5
      refine s_lay163 (c := z.toInt) M9 b0 b1 qr b2 rfl b3 hk (by omega) (by omega) (fun x1 q1 lv1 c0 c1 c2 c3 => ?_)
      refine ih (k + 1) z.toInt lv1 h9 F9 V9 G9 z x1 (by omega) M9 (by rw [k5 6 (by decide) (by decide) (by decide), vo 6 (by decide) (by decide), v7]) I9 ⟨by omega, fun av => ?_⟩ (fun av => ?_) rfl (by omega) c0 c1 c2 c3
      rotate_left
      · obtain ⟨⟨r1, r2⟩, y, t, d⟩ := DP av
        obtain ⟨-, X, d1, -⟩ := d.resolve_left (fun z9 => zn z9.1)
        obtain ⟨fI, fr⟩ := JG av
        have e9 : F6 35 = ((ry_v (ry_run T k).1 : Nat) : Int) := y.2.2.1
        have sN : (F7 35).toNat = ry_v (ry_run T k).1 := by omega
        have sI : F7 35 = ((ry_v (ry_run T k).1 : Nat) : Int) := by omega
        rw [sN] at k7
        have pZ : p < ((ry_v (ry_run T k).1 : Nat) : Int) := by omega
        have qZ : q < ((ry_v (ry_run T k).1 : Nat) : Int) := by omega
        rw [ry_run1 r1 d1]
        exact ly_HK (Z := ry_z (ry_run T k).1) fI fr ep eq p0 pZ q0 qZ k7.1 (k7.2 pZ qZ)
      obtain ⟨⟨r1, r2⟩, y, t, d⟩ := DP av
      obtain ⟨-, X, d1, d2, d3, d4, d5⟩ := d.resolve_left (fun z9 => zn z9.1)
      have tz : ry_t (ry_z (ry_run T k).1) = ry_t (ry_run T k).1 := rfl
      have t0 := y.2.1.2
      have sN : (F7 35).toNat = k + 1 := by
        have e9 : F6 35 = ((ry_v (ry_run T k).1 : Nat) : Int) := y.2.2.1
        omega
      rw [sN] at f9 k1 k2 k3 k4
      have o7 : ∀ K, 34 < K → V7 K = V K := fun K hK => J.2.2.2.2 K (Or.inr hK)
      have o8 : ∀ K, 34 < K → K ≠ 37 → K ≠ 38 → V8 K = V K := fun K hK h7 h8 => (vo K h7 h8).trans (o7 K hK)
      rw [ry_run1 r1 d1]
      refine ⟨ry_ofK (p := p) (q := q) y r2 (rs_ofV d2 rfl rfl (vo 20 (by decide) (by decide)) (vo 21 (by decide) (by decide)) (vo 22 (by decide) (by decide)) (vo 23 (by decide) (by decide))) (by rw [vo 24 (by decide) (by decide)]; exact d3) d4 (by omega) (o8 36 (by decide) (by decide) (by decide)) (by rw [v37, o7 37 (by decide), g17]) (by rw [v38, o7 38 (by decide)]) (o8 39 (by decide) (by decide) (by decide)) (o8 40 (by decide) (by decide) (by decide)) ep eq f9 k1 k2 k3 k4 k5, ?_, Or.inl ⟨zn, rfl, ?_⟩⟩
      · show X.2.2 ≤ _
        omega
      · show ry_v (ry_z (ry_run T k).1) + 1 = k + 1 + 1
        show ry_v (ry_run T k).1 + 1 = k + 1 + 1
        rw [r2]
    refine s_lay103 (z := z.toInt) M7 d0 d1 qr d2 hc d3 hk d4 q3 d5 qw d6 qv rfl (by omega) (by omega) (by omega) (by omega) w4 (fun x2 q2 lv2 b0 b1 b2 b3 c105 => ?_) (fun h5 V5 f5 h7 V8 f8 x9 q9 lv1 M8 b0 b1 b2 b3 c105 _ _ _ _ c134 c146 => ?_) (fun h5 V5 f5 h7 V8 f8 x10 q10 lv1 M8 b0 b1 b2 b3 c105 _ _ _ _ c134 c146 => ?_) (fun h5 V5 f5 h7 V8 f8 x11 q11 x13 q13 lv1 M8 b0 b1 b2 b3 c105 _ _ _ _ c134 c146 => ?_) (fun h5 V5 f5 h7 V8 f8 x11 q11 x14 q14 lv1 M8 b0 b1 b2 b3 c105 _ _ _ _ c134 c146 => ?_)
    · refine ih (k + 1) z.toInt lv2 h7 F7 V7 G z x2 (by omega) M7 v7 J6 ⟨by omega, fun av => ?_⟩ (fun av => ?_) rfl (by omega) b0 b1 b2 b3
      rotate_left
      · obtain ⟨⟨r1, r2⟩, y, t, d⟩ := DP av
        obtain ⟨-, d1, d2, d3⟩ := d.resolve_right (fun z9 => by omega)
        rw [ry_run0 r1 d1]
        exact JG av
      obtain ⟨⟨r1, r2⟩, y, t, d⟩ := DP av
      obtain ⟨-, d1, d2, d3⟩ := d.resolve_right (fun z9 => by omega)
      have o7 : ∀ K, 34 < K → V7 K = V K := fun K hK => J.2.2.2.2 K (Or.inr hK)
      obtain ⟨y1, y2, y3, y4, y5, y6⟩ := y
      rw [ry_run0 r1 d1]
      refine ⟨⟨rs_z d2, ⟨by rw [m_uN _ _ _ _ (by decide)]; exact d3, y2.2⟩, by rw [m_uN _ _ _ _ (by decide), e35]; exact y3, ?_, ?_, ?_⟩, by show ry_t (ry_run T k).1 ≤ _; omega, Or.inr ⟨c105, rfl⟩⟩
      · rw [o7 36 (by decide)]
        exact y4
      · rw [o7 39 (by decide), o7 40 (by decide)]
        exact y5
      · rw [o7 37 (by decide), o7 38 (by decide)]
        exact y6
    · have v := jv (by omega) c134
      exact kp _ _ xv x9 V8 h7 lv1 c105 qv q9 (by omega) (by omega) (by omega) (by omega) (by omega) (by omega) (fun K j1 j2 => by rw [f8, m_uN _ _ _ _ j2, f5, m_uN _ _ _ _ j1]) (by rw [f8, m_uN _ _ _ _ (by decide), f5, m_uE, Int.toNat_natCast]) (by rw [f8, m_uE, f5, m_uN _ _ _ _ (by decide), Int.toNat_natCast]) (by rw [if_neg (by rw [← ew]; exact c134)]; exact ev) (by rw [if_neg (by rw [← ew]; exact c146)]) M8 b0 b1 b2 b3
    · have v := jv (by omega) c134
      have a := ja (by omega) c146
      have v8 : V8 6 = V 6 := by rw [f8, m_uN _ _ _ _ (by decide), f5, m_uN _ _ _ _ (by decide), J.2.2.2.2 6 (by decide)]
      refine c_act M8 qr hk q10 r0 r3 (by omega) (by omega) (by omega) (by omega) (fun xa2 qa2 => ?_)
      rw [v8] at qa2
      refine s_lay156 M8 b0 b1 qr b2 rfl b3 hk qv qa2 ?_
      exact kp _ _ xv xa2 V8 h7 lv1 c105 qv qa2 (by omega) (by omega) (by omega) (by omega) (by omega) (by omega) (fun K j1 j2 => by rw [f8, m_uN _ _ _ _ j2, f5, m_uN _ _ _ _ j1]) (by rw [f8, m_uN _ _ _ _ (by decide), f5, m_uE, Int.toNat_natCast]) (by rw [f8, m_uE, f5, m_uN _ _ _ _ (by decide), Int.toNat_natCast]) (by rw [if_neg (by rw [← ew]; exact c134)]; exact ev) (by rw [if_pos (by rw [← ew]; exact c146)]; exact ea) M8 b0 b1 b2 b3
    · exact kp _ _ x11 x13 V8 h7 lv1 c105 q11 q13 (by omega) (by omega) (by omega) (by omega) (by omega) (by omega) (fun K j1 j2 => by rw [f8, m_uN _ _ _ _ j2, f5, m_uN _ _ _ _ j1]) (by rw [f8, m_uN _ _ _ _ (by decide), f5, m_uE, Int.toNat_natCast]) (by rw [f8, m_uE, f5, m_uN _ _ _ _ (by decide), Int.toNat_natCast]) (by rw [if_pos (by rw [← ew]; exact c134)]) (by rw [if_neg (by rw [← ew]; exact c146)]) M8 b0 b1 b2 b3
    · omega
theorem c_layG {r : Int} {xr : Int32} (M : MX 49 W ρ m A h0 h F V G) (b0_ : m_lk lv 0 = some (.ref m)) (b1_ : m_lk lv 1 = some (.int xr)) (hw : d_sub g_la W = true) (qr : xr.toInt = r) (rw_ : p_rw (V 6)) (g : ∀ (x : Int32) (h' : MH) (F' : Nat → Int) (V' : Nat → Nat → Int) (G' : Nat → Nat → Int64), MX 49 W ρ m A h0 h' F' V' G' → ((x.toInt = 0 ∧ ¬ (0 ≤ r ∧ r < V 5 0)) ∨ (x.toInt = 1 ∧ g_ly F' V' 40 ∧ 0 ≤ r ∧ r < V 5 0 ∧ ly_E (fun j => V 6 (161 * r.toNat + 1 + j)) (V 6 (161 * r).toNat).toNat F' V' ∧ ly_H (fun j => V 6 (161 * r.toNat + 1 + j)) (V 6 (161 * r).toNat).toNat (G' 41) (V 6 (161 * r).toNat).toNat)) → Q (some (.int x)) h') : HJ 201 0 lv [] h Q := by
  have w1 : d_sub [(61, 1001)] W = true := d_subm hw (by decide +kernel)
  have w2 : d_sub g_kp W = true := d_subm hw (by decide +kernel)
  have w3 : d_sub [(49, 17), (49, 18), (49, 35)] W = true := d_subm hw (by decide +kernel)
  refine s_lay0 M b0_ b1_ qr (c_isR M qr (fun z hz => ?_))
  refine s_lay5 (z := z.toInt) M b0_ b1_ qr rfl w3 (fun h2 F2 f2 h4 F4 f4 h6 F6 f6 M6 c5 => ?_) (fun x7 q7 c5 => g x7 h F V G M (Or.inl ⟨q7, (hz.resolve_left (fun z9 => by omega)).2⟩))
  obtain ⟨-, r0, r3, r5⟩ := hz.resolve_right (fun z9 => c5 z9.1)
  refine c_emp M6 w1 (fun h7 V7 M7 k1 k2 => ?_)
  refine s_lay29 M7 b0_ b1_ qr (fun x1 q1 x2 q2 => ?_)
  have f17 : F6 17 = 0 := by rw [f6, m_uN _ _ _ _ (by decide), f4, m_uN _ _ _ _ (by decide), f2, m_uE]
  have f35 : F6 35 = 0 := by rw [f6, m_uE]
  refine c_keep (s := 0) M7 w2 f35 (by omega) q1 q2 (by omega) (by omega) (by omega) (by omega) (fun h8 F8 V8 G8 M8 f8 k3 k4 k5 k6 k7 k8 k9 => ?_)
  have n40 := rw_ r.toNat (by omega)
  have v6 : V8 6 = V 6 := by rw [k7 6 (by decide) (by decide) (by decide), k2 6 (by decide)]
  refine s_lay35 M8 b0_ b1_ qr (fun x3 q3 x4 q4 lv4 e0 e1 e2 e3 => ?_)
  have nn : (161 * r).toNat = 161 * r.toNat := by omega
  refine l_lay (R6 := V 6) (T := fun j => V 6 (161 * r.toNat + 1 + j)) (n := (V 6 (161 * r).toNat).toNat) (fun _ => rfl) (by rw [nn]; omega) hw qr r0 r3 (by rw [nn]; exact n40.2) (fun x h' F' V' G' q M' I E EG => g x h' F' V' G' M' (Or.inr ⟨q, I, r0, r5, E, EG⟩)) 40 0 1 lv4 h8 F8 V8 G8 x3 x4 rfl M8 v6 ?_ ⟨Nat.zero_le _, fun _ => ?_⟩ (fun _ => ⟨fun u hu => ?_, fun u hu => ?_⟩) q3 q4 e0 e1 e2 e3
  rotate_left 2
  · have hu : u < 1 := hu
    have u0 : u = 0 := by omega
    subst u0
    exact ⟨⟨Int.le_refl _, (show (-1 : Int) < 0 by decide)⟩, Int.le_refl _, (show (-1 : Int) < 0 by decide)⟩
  · have hu : u < 1 := hu
    have u0 : u = 0 := by omega
    subst u0
    have e := k9.2 (by decide) (by decide)
    rw [fo_N rfl] at e
    rw [e]
    show _ = bt ((0 : Nat) : Int) ||| fo_of (G8 41) (-1) ||| fo_of (G8 41) (-1)
    rw [fo_N rfl]
  rotate_left
  · have g17 : F8 17 = 0 := by rw [f8, m_uN _ _ _ _ (by decide), f17]
    have g18 : F8 18 = 0 := by rw [f8, m_uN _ _ _ _ (by decide), f6, m_uN _ _ _ _ (by decide), f4, m_uE]
    have g35 : F8 35 = 1 := by rw [f8, m_uE]; rfl
    refine ⟨⟨⟨by rw [m_uN _ _ _ _ (by decide)]; exact g17, m_uE _ _ _, ⟨Int.le_refl _, Int.le_refl _⟩, fun v hv => absurd hv (Nat.not_lt_zero v)⟩, ⟨by rw [m_uN _ _ _ _ (by decide)]; exact g18, Int.le_refl _⟩, by rw [m_uN _ _ _ _ (by decide)]; exact g35, fun j hj => ?_, fun v hv => ?_, fun k hk => ?_⟩, Int.le_refl _, Or.inl ⟨by decide, rfl, rfl⟩⟩
    · have hj : j < 6 * 1 := hj
      have := k3 j (by omega)
      rw [show 6 * 0 + j = j by omega] at this
      rw [this]
      exact k1 j (by omega)
    · have hv : v < 1 := hv
      rw [show v = 0 by omega, k5, k6, m_uE, m_uE]
      exact ⟨rfl, rfl⟩
    · have hk : k + 1 < 1 := hk
      omega
  have g17 : F8 17 = 0 := by rw [f8, m_uN _ _ _ _ (by decide), f17]
  have g35 : F8 35 = 1 := by rw [f8, m_uE]; rfl
  refine ⟨⟨fun v hv => by omega, fun r h6 => Or.inl (by rw [k7 24 (by decide) (by decide) (by decide)]; exact k1 r h6), fun w r hw h6 => Or.inl ?_⟩, by omega, by omega, by rw [k5, m_uE], by rw [k6, m_uE]⟩
  have w0 : w = 0 := by omega
  subst w0
  exact (k3 r h6).trans (k1 r h6)
theorem c_lay {r : Int} {xr : Int32} (M : MX 49 W ρ m A h0 h F V G) (b0_ : m_lk lv 0 = some (.ref m)) (b1_ : m_lk lv 1 = some (.int xr)) (hw : d_sub g_la W = true) (qr : xr.toInt = r) (rw_ : p_rw (V 6)) (g : ∀ (x : Int32) (h' : MH) (F' : Nat → Int) (V' : Nat → Nat → Int) (G' : Nat → Nat → Int64), MX 49 W ρ m A h0 h' F' V' G' → ((x.toInt = 0 ∧ ¬ (0 ≤ r ∧ r < V 5 0)) ∨ (x.toInt = 1 ∧ g_ly F' V' 40 ∧ 0 ≤ r ∧ r < V 5 0 ∧ ly_E (fun j => V 6 (161 * r.toNat + 1 + j)) (V 6 (161 * r).toNat).toNat F' V')) → Q (some (.int x)) h') : HJ 201 0 lv [] h Q :=
  c_layG M b0_ b1_ hw qr rw_ (fun x h' F' V' G' M' hx => g x h' F' V' G' M' (hx.imp id (fun ⟨a1, a2, a3, a4, a5, _⟩ => ⟨a1, a2, a3, a4, a5⟩)))
end
end
section
-- FROM CONTRACTS IN WHOLE NUMBERS TO SUMMARIES
theorem V_of {j : Nat} {sm : SM} (H : ∀ (ρ : Nat → Nat) (K : List Int) (KA : List Nat) (lv : List (Nat × Value)) (h : MH), CCok c_CC ρ → TS c_sp ρ K KA sm.1.1 lv [] h → (∀ t ∈ sm.1.2, c_PT t ρ h) → HJ j 0 lv [] h (fun v h' => FS ρ sm.2.1 h h' ∧ ∃ P ∈ sm.2.2, TS c_sp ρ K KA P.1 [] v.toList h' ∧ ∀ t ∈ P.2, c_PT t ρ h')) : V_ok c_sp c_CC c_PT j sm := fun ρ K KA lv h hC hS hT => by
  obtain ⟨v, h', ⟨n, g1⟩, f, P, mP, t, T⟩ := H ρ K KA lv h hC hS hT
  exact ⟨n, v, h', ρ, g1, f.fq, P, mP, t, T⟩
section
variable {σ : Nat → Int} {α ρ : Nat → Nat} {h : MH} {lv : List (Nat × Value)}
theorem hv_ref {L : List (Nat × AT)} (w6 : t_lv σ α ρ L lv) {k o R : Nat} (hm : (k, (.inr (.inr (o, (R, true))) : AT)) ∈ L) : m_lk lv k = some (.ref (α o)) ∧ ρ (α o) = R := by
  obtain ⟨x, h1, h2, h3⟩ := w6 _ hm
  rw [h2] at h1
  exact ⟨h1, (t_nn h3).2⟩
theorem hv_int {L : List (Nat × AT)} (w6 : t_lv σ α ρ L lv) {k n : Nat} (hm : (k, (.inl (le_s n) : AT)) ∈ L) : ∃ x : Int32, m_lk lv k = some (.int x) ∧ x.toInt = σ n := by
  obtain ⟨v, h1, x, h2, h3⟩ := w6 _ hm
  rw [h2] at h1
  exact ⟨x, h1, by rw [h3, le_sE]⟩
theorem hv_lng {L : List (Nat × AT)} (w6 : t_lv σ α ρ L lv) {k : Nat} (hm : (k, (.inr (.inl ()) : AT)) ∈ L) : ∃ x : Int64, m_lk lv k = some (.long x) := by
  obtain ⟨v, h1, x, h2⟩ := w6 _ hm
  rw [h2] at h1
  exact ⟨x, h1⟩
theorem hv_K {np : Nat} {σ' : Nat → Int} {K : List Int} (w4 : (k_pins np).map (le_ev σ) = K) (hs : ∀ k, k < np → σ' k = σ k) : (k_pins np).map (le_ev σ') = K := by
  rw [← w4]
  unfold k_pins
  rw [List.map_map, List.map_map]
  refine List.map_congr_left (fun k hk => ?_)
  show le_ev σ' (le_s k) = le_ev σ (le_s k)
  rw [le_sE, le_sE]
  exact hs k (List.mem_range.mp hk)
end
section
variable {R : Nat} {W : List (Nat × Nat)} {ρ : Nat → Nat} {m : Nat} {A : Nat → Nat} {h0 h : MH} {F : Nat → Int} {V : Nat → Nat → Int} {G : Nat → Nat → Int64}
theorem MX.v (M : MX R W ρ m A h0 h F V G) {K : Nat} (hK : rg_a R K ≠ 0) : (fun j => (h_i h (h_r h m K) j).toInt) = V K := funext (fun j => by rw [(M.2.2 K hK).1, ((M.2.2 K hK).2 j).1])
-- tokens, of what stands
theorem hv_3 (M : MX 49 W ρ m A h0 h F V G) (um : t_um ρ) (sh : p_sh (F 17) (V 22) (V 23)) : c_PT 3 ρ h := ⟨um, fun m' hm' => by
  rw [um m' m hm' M.1.2.1, show v_n h m = F 17 from M.2.1 17, show v_rk h m = V 22 from M.v (by decide +kernel), show v_bl h m = V 23 from M.v (by decide +kernel)]
  exact sh⟩
theorem hv_4 (M : MX 49 W ρ m A h0 h F V G) (um : t_um ρ) (hp : p_hp (F 17) (V 22) (V 24)) : c_PT 4 ρ h := ⟨um, fun m' hm' => by
  rw [um m' m hm' M.1.2.1, show v_n h m = F 17 from M.2.1 17, show v_rk h m = V 22 from M.v (by decide +kernel), show v_hp h m = V 24 from M.v (by decide +kernel)]
  exact hp⟩
theorem hv_6 (M : MX 49 W ρ m A h0 h F V G) (um : t_um ρ) (ro : p_ro (F 17) (F 35) (V 22) (V 36)) : c_PT 6 ρ h := ⟨um, fun m' hm' => by
  rw [um m' m hm' M.1.2.1, show v_n h m = F 17 from M.2.1 17, show v_vs h m = F 35 from M.2.1 35, show v_rk h m = V 22 from M.v (by decide +kernel), show v_ro h m = V 36 from M.v (by decide +kernel)]
  exact ro⟩
theorem hv_8 (M : MX 49 W ρ m A h0 h F V G) (um : t_um ρ) (p : V 39 0 = -1 ∧ V 40 0 = -1) : c_PT 8 ρ h := ⟨um, fun m' hm' => by
  rw [um m' m hm' M.1.2.1, show v_pa h m = V 39 from M.v (by decide +kernel), show v_pb h m = V 40 from M.v (by decide +kernel)]
  exact p⟩
theorem hv_9 (M : MX 49 W ρ m A h0 h F V G) (um : t_um ρ) (X : w_X (F 17) (V 22) (V 27) (V 29) (V 28) (F 26).toNat) : c_PT 9 ρ h := ⟨um, fun m' hm' => by
  rw [um m' m hm' M.1.2.1, show v_n h m = F 17 from M.2.1 17, show v_wd h m = F 26 from M.2.1 26, show v_rk h m = V 22 from M.v (by decide +kernel), show v_at h m = V 27 from M.v (by decide +kernel), show v_up h m = V 29 from M.v (by decide +kernel), show v_dp h m = V 28 from M.v (by decide +kernel)]
  exact X⟩
theorem hv_346 (M : MX 49 W ρ m A h0 h F V G) (um : t_um ρ) (sh : p_sh (F 17) (V 22) (V 23)) (hp : p_hp (F 17) (V 22) (V 24)) (ro : p_ro (F 17) (F 35) (V 22) (V 36)) : ∀ t ∈ [3, 4, 6], c_PT t ρ h := by
  intro t mt
  rcases List.mem_cons.mp mt with e | mt
  · rw [e]
    exact hv_3 M um sh
  · rcases List.mem_cons.mp mt with e | mt
    · rw [e]
      exact hv_4 M um hp
    · rw [List.mem_singleton.mp mt]
      exact hv_6 M um ro
-- an act's answer and the nodes
theorem hv_pA {np nn : Nat} {k : Int} {σ : Nat → Int} {α : Nat → Nat} {K : List Int} {KA : List Nat} {x : Int32} (M : MX 49 W ρ (α 0) A h0 h F V G) (h0n : nn < np) (w4 : (k_pins np).map (le_ev σ) = K) (w5 : (List.range np).map α = KA) (x0 : 0 ≤ x.toInt) (x1 : x.toInt ≤ 1) (n0 : σ nn ≤ F 17) (n1 : F 17 ≤ σ nn + k) : TS c_sp ρ K KA (([(np, (0, 1)), (np + 1, (0, 16000))], [([(nn, (-1)), (np + 1, 1)], (-k)), ([(nn, 1), (np + 1, (-1))], 0)]), ([((0, (49, 17)), .inl ([(np + 1, 1)], 0))], ((k_pins np, List.range np), (np + 2, ([], [.inl ([(np, 1)], 0)]))))) [] [.int x] h := by
  have nb := M.fi (by decide) (k := 17) (lo := 0) (hi := 16000) rfl rfl rfl
  have s1 : s_up (s_up σ np x.toInt) (np + 1) (F 17) np = x.toInt := by
    unfold s_up
    rw [if_neg (by omega), if_pos rfl]
  have s2 : s_up (s_up σ np x.toInt) (np + 1) (F 17) (np + 1) = F 17 := if_pos rfl
  have s3 : ∀ q, q < np → s_up (s_up σ np x.toInt) (np + 1) (F 17) q = σ q := fun q hq => by
    unfold s_up
    rw [if_neg (by omega), if_neg (by omega)]
  have nm : ρ (α 0) = 49 := M.1.2.1
  refine ⟨M.1.1, s_up (s_up σ np x.toInt) (np + 1) (F 17), α, fun q hq => ?_, fun e he => ?_, fun q hq => ?_, hv_K w4 s3, w5, fun q hq => (by cases hq), ⟨⟨x, rfl, ?_⟩, trivial⟩⟩
  · rcases List.mem_cons.mp hq with e | hq
    · rw [e]
      show 0 ≤ s_up _ _ _ np ∧ s_up _ _ _ np ≤ 1
      rw [s1]
      exact ⟨x0, x1⟩
    · rw [List.mem_singleton.mp hq]
      show 0 ≤ s_up _ _ _ (np + 1) ∧ s_up _ _ _ (np + 1) ≤ 16000
      rw [s2]
      exact nb
  · rcases List.mem_cons.mp he with e9 | he
    · rw [e9]
      show -1 * s_up _ _ _ nn + (1 * s_up _ _ _ (np + 1) + 0) + -k ≤ 0
      rw [s2, s3 nn h0n]
      omega
    · rw [List.mem_singleton.mp he]
      show 1 * s_up _ _ _ nn + (-1 * s_up _ _ _ (np + 1) + 0) + 0 ≤ 0
      rw [s2, s3 nn h0n]
      omega
  · rw [List.mem_singleton.mp hq]
    refine ⟨⟨fun z => ?_, nm⟩, ?_⟩
    · have := M.1.1.1
      rw [show α 0 = 0 from z, this] at nm
      cases nm
    · show (h_i h (α 0) 17).toInt = 1 * s_up _ _ _ (np + 1) + 0 + 0
      rw [s2, M.2.1 17]
      omega
  · show x.toInt = 1 * s_up _ _ _ np + 0 + 0
    rw [s1]
    omega
theorem hv_ro {F0 : Nat → Int} {V0 : Nat → Nat → Int} {k : Int} (I : g_ex F0 V0 F V k) (ro : p_ro (F0 17) (F0 35) (V0 22) (V0 36)) : p_ro (F 17) (F 35) (V 22) (V 36) := by
  obtain ⟨-, ⟨j3, -⟩, j5, j6, j7⟩ := I
  rw [j5 35 (by decide) (by decide) (by decide) (by decide), j7 36 (by decide)]
  exact p_roU j3 j6 ro
end
end
section
-- LOOKED FOR
def z_ct (f : Nat → Int) : Nat → Nat
  | 0 => 0
  | n + 1 => z_ct f n + (if f n = 0 then 0 else 1)
theorem z_ctA {f : Nat → Int} : ∀ {n : Nat}, (∀ i, i < n → f i ≠ 0) → z_ct f n = n
  | 0, _ => rfl
  | n + 1, h => by rw [z_ct, z_ctA (n := n) (fun i hi => h i (by omega)), if_neg (h n (by omega))]
theorem z_ct0 {f : Nat → Int} : ∀ {n : Nat}, (∀ i, i < n → f i = 0) → z_ct f n = 0
  | 0, _ => rfl
  | n + 1, h => by rw [z_ct, z_ct0 (n := n) (fun i hi => h i (by omega)), if_pos (h n (by omega))]
theorem z_ctL (f : Nat → Int) : ∀ n : Nat, (∀ i, i < n → f i ≠ 0) ∨ ∃ i, i < n ∧ f i = 0 ∧ ∀ j, j < i → f j ≠ 0
  | 0 => Or.inl (fun i hi => absurd hi (Nat.not_lt_zero i))
  | n + 1 => by
    rcases z_ctL f n with z | ⟨i, z1, z2, z3⟩
    · by_cases e : f n = 0
      · exact Or.inr ⟨n, by omega, e, z⟩
      · refine Or.inl (fun i hi => ?_)
        by_cases e2 : i = n
        · rw [e2]
          exact e
        · exact z i (by omega)
    · exact Or.inr ⟨i, by omega, z2, z3⟩
theorem z_ctC {f f' : Nat → Int} : ∀ {n : Nat}, (∀ i, i < n → f' i = f i) → z_ct f' n = z_ct f n
  | 0, _ => rfl
  | n + 1, h => by rw [z_ct, z_ct, z_ctC (n := n) (fun i hi => h i (by omega)), h n (by omega)]
theorem z_ctU {f : Nat → Int} {g : Nat} {x : Int} : ∀ n : Nat, z_ct (m_u f g x) n ≤ z_ct f n + 1
  | 0 => by
    rw [z_ct]
    omega
  | n + 1 => by
    by_cases e : n = g
    · rw [z_ct, z_ct, z_ctC (f := f) (fun i hi => m_uN _ _ _ _ (by omega))]
      split <;> split <;> omega
    · have := z_ctU (f := f) (g := g) (x := x) n
      rw [z_ct, z_ct, m_uN _ _ _ _ e]
      omega
def z_cl (L T U : Nat → Int) (w : Nat) : Prop := ∀ i, i < w → (U i = -1 ∨ (0 ≤ U i ∧ T (U i).toNat ≠ 0)) → L i ≠ 0
theorem z_key {L T U : Nat → Int} {w : Nat} (hU : ∀ i, i < w → U i = -1 ∨ (0 ≤ U i ∧ U i < i)) (cl : z_cl L T U w) (hc : z_ct T w < w) : ∃ i, i < w ∧ L i ≠ 0 ∧ T i = 0 := by
  rcases z_ctL T w with z | ⟨i, z1, z2, z3⟩
  · rw [z_ctA z] at hc
    omega
  · refine ⟨i, z1, cl i z1 ?_, z2⟩
    rcases hU i z1 with y | ⟨y1, y2⟩
    · exact Or.inl y
    · exact Or.inr ⟨y1, z3 _ (by omega)⟩
section
variable {lv : List (Nat × Value)} {Q : Option Value → MH → Prop} {W : List (Nat × Nat)} {ρ : Nat → Nat} {m : Nat} {A : Nat → Nat} {h0 h : MH} {F : Nat → Int} {V : Nat → Nat → Int} {G : Nat → Nat → Int64}
theorem s_nx0 (M : MX 49 W ρ m A h0 h F V G) (e0 : m_lk lv 0 = some (.ref m)) 
    (g0 : ∀ x1 : Int32, x1.toInt = (-1) → ∀ x3 : Int32, x3.toInt = 0 → ∀ lv4 : List (Nat × Value), m_lk lv4 0 = some (.ref m) → m_lk lv4 1 = some (.int x1) → m_lk lv4 2 = some (.int x3) → HJ 279 4 lv4 [] h Q)
    : HJ 279 0 lv [] h Q := by
  refine hM_ic (n := (-1)) rfl (by decide) rfl (fun x1 q1 => ?_) -- 0
  refine hM_si (k := 1) rfl (by decide +kernel) rfl (fun lv2 e2_1 u2 => ?_) -- 1
  have e2_0 := u2 0 _ (by decide) (Or.inl rfl) e0
  refine hM_ic (n := 0) rfl (by decide) rfl (fun x3 q3 => ?_) -- 2
  refine hM_si (k := 2) rfl (by decide +kernel) rfl (fun lv4 e4_2 u4 => ?_) -- 3
  have e4_0 := u4 0 _ (by decide) (Or.inl rfl) e2_0
  have e4_1 := u4 1 _ (by decide) (Or.inl rfl) e2_1
  exact g0 x1 q1 x3 q3 lv4 e4_0 e4_1 e4_2
theorem s_nx4 {b i : Int} (M : MX 49 W ρ m A h0 h F V G) (e0 : m_lk lv 0 = some (.ref m)) {lx1 : Int32} (e1 : m_lk lv 1 = some (.int lx1)) (lq1 : lx1.toInt = b) {lx2 : Int32} (e2 : m_lk lv 2 = some (.int lx2)) (lq2 : lx2.toInt = i) (i0 : 0 ≤ i) (b0 : -1 ≤ b) (b1 : b < 63) (w1 : F 26 ≤ 63)
    (g0 : 0 ≤ F 26 → F 26 ≤ 63 → i ≥ F 26 → Q (some (.int lx1)) h)
    (g1 : ∀ x4 : Int32, x4.toInt = i + 1 → ∀ lv4 : List (Nat × Value), m_lk lv4 0 = some (.ref m) → m_lk lv4 1 = some (.int lx1) → m_lk lv4 2 = some (.int x4) → 0 ≤ F 26 → F 26 ≤ 63 → i < F 26 → V 63 (i).toNat = 0 → HJ 279 4 lv4 [] h Q)
    (g2 : ∀ x7 : Int32, x7.toInt = i + 1 → ∀ lv7 : List (Nat × Value), m_lk lv7 0 = some (.ref m) → m_lk lv7 1 = some (.int lx1) → m_lk lv7 2 = some (.int x7) → 0 ≤ F 26 → F 26 ≤ 63 → i < F 26 → V 63 (i).toNat ≠ 0 → V 64 (i).toNat ≠ 0 → HJ 279 4 lv7 [] h Q)
    (g3 : ∀ x10 : Int32, x10.toInt = i + 1 → ∀ lv10 : List (Nat × Value), m_lk lv10 0 = some (.ref m) → m_lk lv10 1 = some (.int lx2) → m_lk lv10 2 = some (.int x10) → 0 ≤ F 26 → F 26 ≤ 63 → i < F 26 → V 63 (i).toNat ≠ 0 → V 64 (i).toNat = 0 → b = (-1) → HJ 279 4 lv10 [] h Q)
    (g4 : ∀ x11 : Int32, x11.toInt = V 27 (i).toNat → ∀ x12 : Int32, x12.toInt = V 27 (b).toNat → 0 ≤ F 26 → F 26 ≤ 63 → i < F 26 → V 63 (i).toNat ≠ 0 → V 64 (i).toNat = 0 → b ≠ (-1) → 0 ≤ V 27 (i).toNat → V 27 (i).toNat ≤ 15999 → 0 ≤ V 27 (b).toNat → V 27 (b).toNat ≤ 15999 → HJ 211 0 (lv_args 0 [.ref m, .int x11, .int x12]) [] h (fun v h' => HJ 279 51 lv (v.toList ++ []) h' Q))
    : HJ 279 4 lv [] h Q := by
  refine hI_il (k := 2) rfl e2 rfl ?_ -- 4
  refine hI_al (k := 0) rfl e0 rfl ?_ -- 5
  refine hM_gi M (by decide) rfl rfl rfl (k := 26) (c := 9) (lo := 0) (hi := 63) rfl rfl rfl rfl rfl (fun x1 q1 a1 b1 => ?_) -- 6
  refine hM_cge (off := 57) (t := 66) rfl lq2 q1 (by decide) rfl (fun c9 => ?_) (fun c9 => ?_) -- 9
  · refine hI_il (k := 1) rfl e1 rfl ?_ -- 66
    refine hI_ri rfl rfl ?_ -- 67
    exact g0 a1 b1 c9
  · refine hI_al (k := 0) rfl e0 rfl ?_ -- 12
    refine hM_ga M (by decide) rfl rfl (k := 63) (c := 9) rfl rfl rfl (by decide +kernel) rfl ?_ -- 13
    refine hI_il (k := 2) rfl e2 rfl ?_ -- 16
    refine hM_ba M (by decide) (K := 63) (R2 := 92) (L := 64) (H := 64) (lo := (-2147483648)) (hi := 2147483647) rfl (by decide) rfl rfl (Or.inr rfl) (fun _ => rfl) rfl lq2 (by omega) (by omega) rfl (fun x2 q2 a2 b2 => ?_) -- 17
    refine hM_zeq (off := 40) (t := 58) rfl q2 (by decide) rfl (fun c18 => ?_) (fun c18 => ?_) -- 18
    · refine hI_il (k := 1) rfl e1 rfl ?_ -- 58
      refine hM_si (k := 1) rfl (by decide +kernel) rfl (fun lv3 e3_1 u3 => ?_) -- 59
      have e3_0 := u3 0 _ (by decide) (Or.inl rfl) e0
      have e3_2 := u3 2 _ (by decide) (Or.inl rfl) e2
      refine hM_inc (k := 2) (z := 1) rfl e3_2 lq2 (by decide) (by omega) (by omega) (by decide +kernel) rfl (fun lv4 x4 q4 e4_2 u4 => ?_) -- 60
      have e4_0 := u4 0 _ (by decide) (Or.inl rfl) e3_0
      have e4_1 := u4 1 _ (by decide) (Or.inl rfl) e3_1
      refine hI_go (pc' := 4) (off := (-59)) rfl (by decide) ?_ -- 63
      exact g1 x4 q4 lv4 e4_0 e4_1 e4_2 a1 b1 c9 c18
    · refine hI_al (k := 0) rfl e0 rfl ?_ -- 21
      refine hM_ga M (by decide) rfl rfl (k := 64) (c := 9) rfl rfl rfl (by decide +kernel) rfl ?_ -- 22
      refine hI_il (k := 2) rfl e2 rfl ?_ -- 25
      refine hM_ba M (by decide) (K := 64) (R2 := 93) (L := 64) (H := 64) (lo := (-2147483648)) (hi := 2147483647) rfl (by decide) rfl rfl (Or.inr rfl) (fun _ => rfl) rfl lq2 (by omega) (by omega) rfl (fun x5 q5 a5 b5 => ?_) -- 26
      refine hM_zne (off := 31) (t := 58) rfl q5 (by decide) rfl (fun c27 => ?_) (fun c27 => ?_) -- 27
      · refine hI_il (k := 1) rfl e1 rfl ?_ -- 58
        refine hM_si (k := 1) rfl (by decide +kernel) rfl (fun lv6 e6_1 u6 => ?_) -- 59
        have e6_0 := u6 0 _ (by decide) (Or.inl rfl) e0
        have e6_2 := u6 2 _ (by decide) (Or.inl rfl) e2
        refine hM_inc (k := 2) (z := 1) rfl e6_2 lq2 (by decide) (by omega) (by omega) (by decide +kernel) rfl (fun lv7 x7 q7 e7_2 u7 => ?_) -- 60
        have e7_0 := u7 0 _ (by decide) (Or.inl rfl) e6_0
        have e7_1 := u7 1 _ (by decide) (Or.inl rfl) e6_1
        refine hI_go (pc' := 4) (off := (-59)) rfl (by decide) ?_ -- 63
        exact g2 x7 q7 lv7 e7_0 e7_1 e7_2 a1 b1 c9 c18 c27
      · refine hI_il (k := 1) rfl e1 rfl ?_ -- 30
        refine hM_ic (n := (-1)) rfl (by decide) rfl (fun x8 q8 => ?_) -- 31
        refine hM_ceq (off := 22) (t := 54) rfl lq1 q8 (by decide) rfl (fun c32 => ?_) (fun c32 => ?_) -- 32
        · refine hI_il (k := 2) rfl e2 rfl ?_ -- 54
          refine hI_go (pc' := 59) (off := 4) rfl (by decide) ?_ -- 55
          refine hM_si (k := 1) rfl (by decide +kernel) rfl (fun lv9 e9_1 u9 => ?_) -- 59
          have e9_0 := u9 0 _ (by decide) (Or.inl rfl) e0
          have e9_2 := u9 2 _ (by decide) (Or.inl rfl) e2
          refine hM_inc (k := 2) (z := 1) rfl e9_2 lq2 (by decide) (by omega) (by omega) (by decide +kernel) rfl (fun lv10 x10 q10 e10_2 u10 => ?_) -- 60
          have e10_0 := u10 0 _ (by decide) (Or.inl rfl) e9_0
          have e10_1 := u10 1 _ (by decide) (Or.inl rfl) e9_1
          refine hI_go (pc' := 4) (off := (-59)) rfl (by decide) ?_ -- 63
          exact g3 x10 q10 lv10 e10_0 e10_1 e10_2 a1 b1 c9 c18 c27 c32
        · refine hI_al (k := 0) rfl e0 rfl ?_ -- 35
          refine hI_al (k := 0) rfl e0 rfl ?_ -- 36
          refine hM_ga M (by decide) rfl rfl (k := 27) (c := 9) rfl rfl rfl (by decide +kernel) rfl ?_ -- 37
          refine hI_il (k := 2) rfl e2 rfl ?_ -- 40
          refine hM_ia M (by decide) (K := 27) (R2 := 63) (L := 64) (H := 64) (lo := 0) (hi := 15999) rfl (by decide) rfl rfl (fun _ => rfl) rfl lq2 (by omega) (by omega) rfl (fun x11 q11 a11 b11 => ?_) -- 41
          refine hI_al (k := 0) rfl e0 rfl ?_ -- 42
          refine hM_ga M (by decide) rfl rfl (k := 27) (c := 9) rfl rfl rfl (by decide +kernel) rfl ?_ -- 43
          refine hI_il (k := 1) rfl e1 rfl ?_ -- 46
          refine hM_ia M (by decide) (K := 27) (R2 := 63) (L := 64) (H := 64) (lo := 0) (hi := 15999) rfl (by decide) rfl rfl (fun _ => rfl) rfl lq1 (by omega) (by omega) rfl (fun x12 q12 a12 b12 => ?_) -- 47
          refine hM_iv M (by decide) rfl rfl (by decide) (as := [.int x11, .int x12]) (r := []) rfl rfl (by decide +kernel) rfl (by decide +kernel) rfl rfl rfl rfl rfl ?_ -- 48
          exact g4 x11 q11 x12 q12 a1 b1 c9 c18 c27 c32 a11 b11 a12 b12
theorem s_nx51 {b i z : Int} (M : MX 49 W ρ m A h0 h F V G) (e0 : m_lk lv 0 = some (.ref m)) {lx1 : Int32} (e1 : m_lk lv 1 = some (.int lx1)) (lq1 : lx1.toInt = b) {lx2 : Int32} (e2 : m_lk lv 2 = some (.int lx2)) (lq2 : lx2.toInt = i) {sx0 : Int32} (sq0 : sx0.toInt = z) (i0 : 0 ≤ i) (i1 : i < 63)
    (g0 : ∀ x2 : Int32, x2.toInt = i + 1 → ∀ lv2 : List (Nat × Value), m_lk lv2 0 = some (.ref m) → m_lk lv2 1 = some (.int lx1) → m_lk lv2 2 = some (.int x2) → z = 0 → HJ 279 4 lv2 [] h Q)
    (g1 : ∀ x4 : Int32, x4.toInt = i + 1 → ∀ lv4 : List (Nat × Value), m_lk lv4 0 = some (.ref m) → m_lk lv4 1 = some (.int lx2) → m_lk lv4 2 = some (.int x4) → z ≠ 0 → HJ 279 4 lv4 [] h Q)
    : HJ 279 51 lv [.int sx0] h Q := by
  refine hM_zeq (off := 7) (t := 58) rfl sq0 (by decide) rfl (fun c51 => ?_) (fun c51 => ?_) -- 51
  · refine hI_il (k := 1) rfl e1 rfl ?_ -- 58
    refine hM_si (k := 1) rfl (by decide +kernel) rfl (fun lv1 e1_1 u1 => ?_) -- 59
    have e1_0 := u1 0 _ (by decide) (Or.inl rfl) e0
    have e1_2 := u1 2 _ (by decide) (Or.inl rfl) e2
    refine hM_inc (k := 2) (z := 1) rfl e1_2 lq2 (by decide) (by omega) (by omega) (by decide +kernel) rfl (fun lv2 x2 q2 e2_2 u2 => ?_) -- 60
    have e2_0 := u2 0 _ (by decide) (Or.inl rfl) e1_0
    have e2_1 := u2 1 _ (by decide) (Or.inl rfl) e1_1
    refine hI_go (pc' := 4) (off := (-59)) rfl (by decide) ?_ -- 63
    exact g0 x2 q2 lv2 e2_0 e2_1 e2_2 c51
  · refine hI_il (k := 2) rfl e2 rfl ?_ -- 54
    refine hI_go (pc' := 59) (off := 4) rfl (by decide) ?_ -- 55
    refine hM_si (k := 1) rfl (by decide +kernel) rfl (fun lv3 e3_1 u3 => ?_) -- 59
    have e3_0 := u3 0 _ (by decide) (Or.inl rfl) e0
    have e3_2 := u3 2 _ (by decide) (Or.inl rfl) e2
    refine hM_inc (k := 2) (z := 1) rfl e3_2 lq2 (by decide) (by omega) (by omega) (by decide +kernel) rfl (fun lv4 x4 q4 e4_2 u4 => ?_) -- 60
    have e4_0 := u4 0 _ (by decide) (Or.inl rfl) e3_0
    have e4_1 := u4 1 _ (by decide) (Or.inl rfl) e3_1
    refine hI_go (pc' := 4) (off := (-59)) rfl (by decide) ?_ -- 63
    exact g1 x4 q4 lv4 e4_0 e4_1 e4_2 c51
def z_nx (L T : Nat → Int) (i : Nat) (b : Int) : Prop := (b = -1 ∧ ∀ j, j < i → L j = 0 ∨ T j ≠ 0) ∨ (0 ≤ b ∧ b < i)
theorem l_nx4 {w : Nat} (M : MX 49 W ρ m A h0 h F V G) (fw : F 26 = (w : Int)) (w63 : w ≤ 63) (at_ : ∀ i, i < w → 0 ≤ V 27 i ∧ V 27 i < 16000) (g : ∀ x : Int32, z_nx (V 63) (V 64) w x.toInt → Q (some (.int x)) h) : ∀ (d i : Nat) (lv : List (Nat × Value)) (xb xi : Int32), i + d = w → z_nx (V 63) (V 64) i xb.toInt → xi.toInt = (i : Int) → m_lk lv 0 = some (.ref m) → m_lk lv 1 = some (.int xb) → m_lk lv 2 = some (.int xi) → HJ 279 4 lv [] h Q := by
  intro d
  induction d with
  | zero =>
    intro i lv xb xi hd I hi e0 e1 e2
    have iw : i = w := by omega
    subst iw
    have bb : -1 ≤ xb.toInt ∧ xb.toInt < 63 := by rcases I with z | z <;> omega
    exact s_nx4 M e0 e1 rfl e2 hi (by omega) bb.1 bb.2 (by omega) (fun _ _ _ => g xb I) (fun x4 q4 lv4 e4_0 e4_1 e4_2 a1 b1 c9 c18 => by omega) (fun x4 q4 lv4 e4_0 e4_1 e4_2 a1 b1 c9 c18 c27 => by omega) (fun x4 q4 lv4 e4_0 e4_1 e4_2 a1 b1 c9 c18 c27 c32 => by omega) (fun x11 q11 x12 q12 a1 b1 c9 c18 c27 c32 a11 b11 a12 b12 => by omega)
  | succ d ih =>
    intro i lv xb xi hd I hi e0 e1 e2
    have bb : -1 ≤ xb.toInt ∧ xb.toInt < 63 := by rcases I with z | z <;> omega
    have keep : (V 63 i = 0 ∨ V 64 i ≠ 0) ∨ xb.toInt ≠ -1 → z_nx (V 63) (V 64) (i + 1) xb.toInt := fun f => by
      rcases I with ⟨z1, z2⟩ | ⟨z1, z2⟩
      · refine Or.inl ⟨z1, fun k hk => ?_⟩
        by_cases e : k = i
        · rw [e]
          exact f.resolve_right (fun y => y z1)
        · exact z2 k (by omega)
      · exact Or.inr ⟨z1, by omega⟩
    have take : z_nx (V 63) (V 64) (i + 1) xi.toInt := Or.inr (by omega)
    refine s_nx4 M e0 e1 rfl e2 hi (by omega) bb.1 bb.2 (by omega) (fun _ _ _ => by omega) (fun x4 q4 lv4 d0 d1 d2 a1 b1 c9 c18 => ?_) (fun x4 q4 lv4 d0 d1 d2 a1 b1 c9 c18 c27 => ?_) (fun x4 q4 lv4 d0 d1 d2 a1 b1 c9 c18 c27 c32 => ?_) (fun x11 q11 x12 q12 a1 b1 c9 c18 c27 c32 a11 b11 a12 b12 => ?_)
    · rw [Int.toNat_natCast] at c18
      exact ih (i + 1) lv4 xb x4 (by omega) (keep (Or.inl (Or.inl c18))) (by omega) d0 d1 d2
    · rw [Int.toNat_natCast] at c27
      exact ih (i + 1) lv4 xb x4 (by omega) (keep (Or.inl (Or.inr c27))) (by omega) d0 d1 d2
    · exact ih (i + 1) lv4 xi x4 (by omega) take (by omega) d0 d1 d2
    · rw [Int.toNat_natCast] at q11
      have a := at_ i (by omega)
      refine c_less M q11 q12 (by omega) (by omega) (by omega) (by omega) (fun z z0 z1 _ => ?_)
      exact s_nx51 (z := z.toInt) M e0 e1 rfl e2 hi rfl (by omega) (by omega)
        (fun x2 q2 lv2 d0 d1 d2 _ => ih (i + 1) lv2 xb x2 (by omega) (keep (Or.inr c32)) (by omega) d0 d1 d2)
        (fun x2 q2 lv2 d0 d1 d2 _ => ih (i + 1) lv2 xi x2 (by omega) take (by omega) d0 d1 d2)
theorem c_next {w : Nat} (M : MX 49 W ρ m A h0 h F V G) (fw : F 26 = (w : Int)) (w63 : w ≤ 63) (at_ : ∀ i, i < w → 0 ≤ V 27 i ∧ V 27 i < 16000) (g : ∀ x : Int32, z_nx (V 63) (V 64) w x.toInt → Q (some (.int x)) h) : HJ 279 0 (lv_args 0 [.ref m]) [] h Q := by
  refine s_nx0 M rfl (fun x1 q1 x3 q3 lv4 e0 e1 e2 => ?_)
  exact l_nx4 M fw w63 at_ g w 0 lv4 x1 x3 (by omega) (Or.inl ⟨q1, fun j hj => absurd hj (Nat.not_lt_zero j)⟩) q3 e0 e1 e2
theorem s_lf0 {k : Int} (M : MX 49 W ρ m A h0 h F V G) (e0 : m_lk lv 0 = some (.ref m)) {lx1 : Int32} (e1 : m_lk lv 1 = some (.int lx1)) (lq1 : lx1.toInt = k) 
    (g0 : ∀ x1 : Int32, x1.toInt = 0 → ∀ lv2 : List (Nat × Value), m_lk lv2 0 = some (.ref m) → m_lk lv2 1 = some (.int lx1) → m_lk lv2 2 = some (.int x1) → HJ 278 2 lv2 [] h Q)
    : HJ 278 0 lv [] h Q := by
  refine hM_ic (n := 0) rfl (by decide) rfl (fun x1 q1 => ?_) -- 0
  refine hM_si (k := 2) rfl (by decide +kernel) rfl (fun lv2 e2_2 u2 => ?_) -- 1
  have e2_0 := u2 0 _ (by decide) (Or.inl rfl) e0
  have e2_1 := u2 1 _ (by decide) (Or.inl rfl) e1
  exact g0 x1 q1 lv2 e2_0 e2_1 e2_2
theorem s_lf2 {k i : Int} (M : MX 49 W ρ m A h0 h F V G) (e0 : m_lk lv 0 = some (.ref m)) {lx1 : Int32} (e1 : m_lk lv 1 = some (.int lx1)) (lq1 : lx1.toInt = k) {lx2 : Int32} (e2 : m_lk lv 2 = some (.int lx2)) (lq2 : lx2.toInt = i) (i0 : 0 ≤ i) (w1 : F 26 ≤ 63)(hw : d_sub [(92, 1001), (93, 1001)] W = true)
    (g0 : ∀ x2 : Int32, x2.toInt = 0 → ∀ lv3 : List (Nat × Value), m_lk lv3 0 = some (.ref m) → m_lk lv3 1 = some (.int lx1) → m_lk lv3 2 = some (.int x2) → 0 ≤ F 26 → F 26 ≤ 63 → i ≥ F 26 → HJ 278 46 lv3 [] h Q)
    (g1 : ∀ h7 : MH, ∀ V7 : Nat → Nat → Int, V7 = m_u V 63 (m_u (V 63) (i).toNat (0)) → ∀ h9 : MH, ∀ V9 : Nat → Nat → Int, V9 = m_u V7 64 (m_u (V7 64) (i).toNat (0)) → ∀ x10 : Int32, x10.toInt = i + 1 → ∀ lv10 : List (Nat × Value), MX 49 W ρ m A h0 h9 F V9 G → m_lk lv10 0 = some (.ref m) → m_lk lv10 1 = some (.int lx1) → m_lk lv10 2 = some (.int x10) → 0 ≤ F 26 → F 26 ≤ 63 → i < F 26 → (-1) ≤ V 29 (i).toNat → V 29 (i).toNat ≤ 62 → V 29 (i).toNat ≠ (-1) → HJ 278 2 lv10 [] h9 Q)
    (g2 : ∀ h12 : MH, ∀ V12 : Nat → Nat → Int, V12 = m_u V 63 (m_u (V 63) (i).toNat (1)) → ∀ h14 : MH, ∀ V14 : Nat → Nat → Int, V14 = m_u V12 64 (m_u (V12 64) (i).toNat (0)) → ∀ x15 : Int32, x15.toInt = i + 1 → ∀ lv15 : List (Nat × Value), MX 49 W ρ m A h0 h14 F V14 G → m_lk lv15 0 = some (.ref m) → m_lk lv15 1 = some (.int lx1) → m_lk lv15 2 = some (.int x15) → 0 ≤ F 26 → F 26 ≤ 63 → i < F 26 → (-1) ≤ V 29 (i).toNat → V 29 (i).toNat ≤ 62 → V 29 (i).toNat = (-1) → HJ 278 2 lv15 [] h14 Q)
    : HJ 278 2 lv [] h Q := by
  refine hI_il (k := 2) rfl e2 rfl ?_ -- 2
  refine hI_al (k := 0) rfl e0 rfl ?_ -- 3
  refine hM_gi M (by decide) rfl rfl rfl (k := 26) (c := 9) (lo := 0) (hi := 63) rfl rfl rfl rfl rfl (fun x1 q1 a1 b1 => ?_) -- 4
  refine hM_cge (off := 37) (t := 44) rfl lq2 q1 (by decide) rfl (fun c7 => ?_) (fun c7 => ?_) -- 7
  · refine hM_ic (n := 0) rfl (by decide) rfl (fun x2 q2 => ?_) -- 44
    refine hM_si (k := 2) rfl (by decide +kernel) rfl (fun lv3 e3_2 u3 => ?_) -- 45
    have e3_0 := u3 0 _ (by decide) (Or.inl rfl) e0
    have e3_1 := u3 1 _ (by decide) (Or.inl rfl) e1
    exact g0 x2 q2 lv3 e3_0 e3_1 e3_2 a1 b1 c7
  · refine hI_al (k := 0) rfl e0 rfl ?_ -- 10
    refine hM_ga M (by decide) rfl rfl (k := 63) (c := 9) rfl rfl rfl (by decide +kernel) rfl ?_ -- 11
    refine hI_il (k := 2) rfl e2 rfl ?_ -- 14
    refine hI_al (k := 0) rfl e0 rfl ?_ -- 15
    refine hM_ga M (by decide) rfl rfl (k := 29) (c := 9) rfl rfl rfl (by decide +kernel) rfl ?_ -- 16
    refine hI_il (k := 2) rfl e2 rfl ?_ -- 19
    refine hM_ia M (by decide) (K := 29) (R2 := 65) (L := 64) (H := 64) (lo := (-1)) (hi := 62) rfl (by decide) rfl rfl (fun _ => rfl) rfl lq2 (by omega) (by omega) rfl (fun x4 q4 a4 b4 => ?_) -- 20
    refine hM_ic (n := (-1)) rfl (by decide) rfl (fun x5 q5 => ?_) -- 21
    refine hM_cne (off := 7) (t := 29) rfl q4 q5 (by decide) rfl (fun c22 => ?_) (fun c22 => ?_) -- 22
    · refine hM_ic (n := 0) rfl (by decide) rfl (fun x6 q6 => ?_) -- 29
      refine hM_zs M (by decide) ok_49 (K := 63) (R2 := 92) (L := 64) (H := 64) rfl (by decide) rfl rfl rfl (fun _ => rfl) (d_subm hw (by decide +kernel)) rfl lq2 q6 (by omega) (by omega) (by omega) (by omega) rfl (fun h7 V7 f7 M7 => ?_) -- 30
      refine hI_al (k := 0) rfl e0 rfl ?_ -- 31
      refine hM_ga M7 (by decide) rfl rfl (k := 64) (c := 9) rfl rfl rfl (by decide +kernel) rfl ?_ -- 32
      refine hI_il (k := 2) rfl e2 rfl ?_ -- 35
      refine hM_ic (n := 0) rfl (by decide) rfl (fun x8 q8 => ?_) -- 36
      refine hM_zs M7 (by decide) ok_49 (K := 64) (R2 := 93) (L := 64) (H := 64) rfl (by decide) rfl rfl rfl (fun _ => rfl) (d_subm hw (by decide +kernel)) rfl lq2 q8 (by omega) (by omega) (by omega) (by omega) rfl (fun h9 V9 f9 M9 => ?_) -- 37
      refine hM_inc (k := 2) (z := 1) rfl e2 lq2 (by decide) (by omega) (by omega) (by decide +kernel) rfl (fun lv10 x10 q10 e10_2 u10 => ?_) -- 38
      have e10_0 := u10 0 _ (by decide) (Or.inl rfl) e0
      have e10_1 := u10 1 _ (by decide) (Or.inl rfl) e1
      refine hI_go (pc' := 2) (off := (-39)) rfl (by decide) ?_ -- 41
      exact g1 h7 V7 f7 h9 V9 f9 x10 q10 lv10 M9 e10_0 e10_1 e10_2 a1 b1 c7 a4 b4 c22
    · refine hM_ic (n := 1) rfl (by decide) rfl (fun x11 q11 => ?_) -- 25
      refine hI_go (pc' := 30) (off := 4) rfl (by decide) ?_ -- 26
      refine hM_zs M (by decide) ok_49 (K := 63) (R2 := 92) (L := 64) (H := 64) rfl (by decide) rfl rfl rfl (fun _ => rfl) (d_subm hw (by decide +kernel)) rfl lq2 q11 (by omega) (by omega) (by omega) (by omega) rfl (fun h12 V12 f12 M12 => ?_) -- 30
      refine hI_al (k := 0) rfl e0 rfl ?_ -- 31
      refine hM_ga M12 (by decide) rfl rfl (k := 64) (c := 9) rfl rfl rfl (by decide +kernel) rfl ?_ -- 32
      refine hI_il (k := 2) rfl e2 rfl ?_ -- 35
      refine hM_ic (n := 0) rfl (by decide) rfl (fun x13 q13 => ?_) -- 36
      refine hM_zs M12 (by decide) ok_49 (K := 64) (R2 := 93) (L := 64) (H := 64) rfl (by decide) rfl rfl rfl (fun _ => rfl) (d_subm hw (by decide +kernel)) rfl lq2 q13 (by omega) (by omega) (by omega) (by omega) rfl (fun h14 V14 f14 M14 => ?_) -- 37
      refine hM_inc (k := 2) (z := 1) rfl e2 lq2 (by decide) (by omega) (by omega) (by decide +kernel) rfl (fun lv15 x15 q15 e15_2 u15 => ?_) -- 38
      have e15_0 := u15 0 _ (by decide) (Or.inl rfl) e0
      have e15_1 := u15 1 _ (by decide) (Or.inl rfl) e1
      refine hI_go (pc' := 2) (off := (-39)) rfl (by decide) ?_ -- 41
      exact g2 h12 V12 f12 h14 V14 f14 x15 q15 lv15 M14 e15_0 e15_1 e15_2 a1 b1 c7 a4 b4 c22
theorem s_lf46 {k n : Int} (M : MX 49 W ρ m A h0 h F V G) (e0 : m_lk lv 0 = some (.ref m)) {lx1 : Int32} (e1 : m_lk lv 1 = some (.int lx1)) (lq1 : lx1.toInt = k) {lx2 : Int32} (e2 : m_lk lv 2 = some (.int lx2)) (lq2 : lx2.toInt = n) 
    (g0 : ∀ x1 : Int32, x1.toInt = 0 → ∀ x3 : Int32, x3.toInt = 0 → ∀ lv4 : List (Nat × Value), m_lk lv4 0 = some (.ref m) → m_lk lv4 2 = some (.int x1) → m_lk lv4 3 = some (.int x3) → n ≥ k → HJ 278 124 lv4 [] h Q)
    (g1 : n < k → HJ 279 0 (lv_args 0 [.ref m]) [] h (fun v h' => HJ 278 55 lv (v.toList ++ []) h' Q))
    : HJ 278 46 lv [] h Q := by
  refine hI_il (k := 2) rfl e2 rfl ?_ -- 46
  refine hI_il (k := 1) rfl e1 rfl ?_ -- 47
  refine hM_cge (off := 72) (t := 120) rfl lq2 lq1 (by decide) rfl (fun c48 => ?_) (fun c48 => ?_) -- 48
  · refine hM_ic (n := 0) rfl (by decide) rfl (fun x1 q1 => ?_) -- 120
    refine hM_si (k := 2) rfl (by decide +kernel) rfl (fun lv2 e2_2 u2 => ?_) -- 121
    have e2_0 := u2 0 _ (by decide) (Or.inl rfl) e0
    have e2_1 := u2 1 _ (by decide) (Or.inl rfl) e1
    refine hM_ic (n := 0) rfl (by decide) rfl (fun x3 q3 => ?_) -- 122
    refine hM_si (k := 3) rfl (by decide +kernel) rfl (fun lv4 e4_3 u4 => ?_) -- 123
    have e4_0 := u4 0 _ (by decide) (Or.inl rfl) e2_0
    have e4_1 := u4 1 _ (by decide) (Or.inl rfl) e2_1
    have e4_2 := u4 2 _ (by decide) (Or.inl rfl) e2_2
    exact g0 x1 q1 x3 q3 lv4 e4_0 e4_2 e4_3 c48
  · refine hI_al (k := 0) rfl e0 rfl ?_ -- 51
    refine hM_iv M (by decide) rfl rfl (by decide) (as := []) (r := []) rfl rfl (by decide +kernel) rfl (by decide +kernel) rfl rfl rfl rfl rfl ?_ -- 52
    exact g1 c48
theorem s_lf55 {k n x : Int} (M : MX 49 W ρ m A h0 h F V G) (e0 : m_lk lv 0 = some (.ref m)) {lx1 : Int32} (e1 : m_lk lv 1 = some (.int lx1)) (lq1 : lx1.toInt = k) {lx2 : Int32} (e2 : m_lk lv 2 = some (.int lx2)) (lq2 : lx2.toInt = n) {sx0 : Int32} (sq0 : sx0.toInt = x) (x0 : 0 ≤ x) (x1 : x < 63)(hw : d_sub [(93, 1001)] W = true)
    (g0 : ∀ h3 : MH, ∀ V3 : Nat → Nat → Int, V3 = m_u V 64 (m_u (V 64) (x).toNat (1)) → ∀ x4 : Int32, x4.toInt = 0 → ∀ lv5 : List (Nat × Value), MX 49 W ρ m A h0 h3 F V3 G → m_lk lv5 0 = some (.ref m) → m_lk lv5 1 = some (.int lx1) → m_lk lv5 2 = some (.int lx2) → m_lk lv5 3 = some (.int sx0) → m_lk lv5 4 = some (.int x4) → HJ 278 66 lv5 [] h3 Q)
    : HJ 278 55 lv [.int sx0] h Q := by
  refine hM_si (k := 3) rfl (by decide +kernel) rfl (fun lv1 e1_3 u1 => ?_) -- 55
  have e1_0 := u1 0 _ (by decide) (Or.inl rfl) e0
  have e1_1 := u1 1 _ (by decide) (Or.inl rfl) e1
  have e1_2 := u1 2 _ (by decide) (Or.inl rfl) e2
  refine hI_al (k := 0) rfl e1_0 rfl ?_ -- 56
  refine hM_ga M (by decide) rfl rfl (k := 64) (c := 9) rfl rfl rfl (by decide +kernel) rfl ?_ -- 57
  refine hI_il (k := 3) rfl e1_3 rfl ?_ -- 60
  refine hM_ic (n := 1) rfl (by decide) rfl (fun x2 q2 => ?_) -- 61
  refine hM_zs M (by decide) ok_49 (K := 64) (R2 := 93) (L := 64) (H := 64) rfl (by decide) rfl rfl rfl (fun _ => rfl) (d_subm hw (by decide +kernel)) rfl sq0 q2 (by omega) (by omega) (by omega) (by omega) rfl (fun h3 V3 f3 M3 => ?_) -- 62
  refine hM_ic (n := 0) rfl (by decide) rfl (fun x4 q4 => ?_) -- 63
  refine hM_si2 (k := 4) rfl (by decide +kernel) rfl (fun lv5 e5_4 u5 => ?_) -- 64
  have e5_0 := u5 0 _ (by decide) (Or.inl rfl) e1_0
  have e5_1 := u5 1 _ (by decide) (Or.inl rfl) e1_1
  have e5_2 := u5 2 _ (by decide) (Or.inl rfl) e1_2
  have e5_3 := u5 3 _ (by decide) (Or.inl rfl) e1_3
  exact g0 h3 V3 f3 x4 q4 lv5 M3 e5_0 e5_1 e5_2 e5_3 e5_4
theorem s_lf66 {k n x i : Int} (M : MX 49 W ρ m A h0 h F V G) (e0 : m_lk lv 0 = some (.ref m)) {lx1 : Int32} (e1 : m_lk lv 1 = some (.int lx1)) (lq1 : lx1.toInt = k) {lx2 : Int32} (e2 : m_lk lv 2 = some (.int lx2)) (lq2 : lx2.toInt = n) {lx3 : Int32} (e3 : m_lk lv 3 = some (.int lx3)) (lq3 : lx3.toInt = x) {lx4 : Int32} (e4 : m_lk lv 4 = some (.int lx4)) (lq4 : lx4.toInt = i) (i0 : 0 ≤ i) (n0 : 0 ≤ n) (n1 : n ≤ 63) (w1 : F 26 ≤ 63)(hw : d_sub [(92, 1001)] W = true)
    (g0 : ∀ x2 : Int32, x2.toInt = n + 1 → ∀ lv2 : List (Nat × Value), m_lk lv2 0 = some (.ref m) → m_lk lv2 1 = some (.int lx1) → m_lk lv2 2 = some (.int x2) → m_lk lv2 3 = some (.int lx3) → m_lk lv2 4 = some (.int lx4) → 0 ≤ F 26 → F 26 ≤ 63 → i ≥ F 26 → HJ 278 46 lv2 [] h Q)
    (g1 : ∀ h5 : MH, ∀ V5 : Nat → Nat → Int, V5 = m_u V 63 (m_u (V 63) (i).toNat (1)) → ∀ x6 : Int32, x6.toInt = i + 1 → ∀ lv6 : List (Nat × Value), MX 49 W ρ m A h0 h5 F V5 G → m_lk lv6 0 = some (.ref m) → m_lk lv6 1 = some (.int lx1) → m_lk lv6 2 = some (.int lx2) → m_lk lv6 3 = some (.int lx3) → m_lk lv6 4 = some (.int x6) → 0 ≤ F 26 → F 26 ≤ 63 → i < F 26 → V 63 (i).toNat ≠ 0 → HJ 278 66 lv6 [] h5 Q)
    (g2 : ∀ h9 : MH, ∀ V9 : Nat → Nat → Int, V9 = m_u V 63 (m_u (V 63) (i).toNat (0)) → ∀ x10 : Int32, x10.toInt = i + 1 → ∀ lv10 : List (Nat × Value), MX 49 W ρ m A h0 h9 F V9 G → m_lk lv10 0 = some (.ref m) → m_lk lv10 1 = some (.int lx1) → m_lk lv10 2 = some (.int lx2) → m_lk lv10 3 = some (.int lx3) → m_lk lv10 4 = some (.int x10) → 0 ≤ F 26 → F 26 ≤ 63 → i < F 26 → V 63 (i).toNat = 0 → (-1) ≤ V 29 (i).toNat → V 29 (i).toNat ≤ 62 → V 29 (i).toNat ≠ x → HJ 278 66 lv10 [] h9 Q)
    (g3 : ∀ h12 : MH, ∀ V12 : Nat → Nat → Int, V12 = m_u V 63 (m_u (V 63) (i).toNat (1)) → ∀ x13 : Int32, x13.toInt = i + 1 → ∀ lv13 : List (Nat × Value), MX 49 W ρ m A h0 h12 F V12 G → m_lk lv13 0 = some (.ref m) → m_lk lv13 1 = some (.int lx1) → m_lk lv13 2 = some (.int lx2) → m_lk lv13 3 = some (.int lx3) → m_lk lv13 4 = some (.int x13) → 0 ≤ F 26 → F 26 ≤ 63 → i < F 26 → V 63 (i).toNat = 0 → (-1) ≤ V 29 (i).toNat → V 29 (i).toNat ≤ 62 → V 29 (i).toNat = x → HJ 278 66 lv13 [] h12 Q)
    : HJ 278 66 lv [] h Q := by
  refine hI_il2 (k := 4) rfl e4 rfl ?_ -- 66
  refine hI_al (k := 0) rfl e0 rfl ?_ -- 68
  refine hM_gi M (by decide) rfl rfl rfl (k := 26) (c := 9) (lo := 0) (hi := 63) rfl rfl rfl rfl rfl (fun x1 q1 a1 b1 => ?_) -- 69
  refine hM_cge (off := 42) (t := 114) rfl lq4 q1 (by decide) rfl (fun c72 => ?_) (fun c72 => ?_) -- 72
  · refine hM_inc (k := 2) (z := 1) rfl e2 lq2 (by decide) (by omega) (by omega) (by decide +kernel) rfl (fun lv2 x2 q2 e2_2 u2 => ?_) -- 114
    have e2_0 := u2 0 _ (by decide) (Or.inl rfl) e0
    have e2_1 := u2 1 _ (by decide) (Or.inl rfl) e1
    have e2_3 := u2 3 _ (by decide) (Or.inl rfl) e3
    have e2_4 := u2 4 _ (by decide) (Or.inl rfl) e4
    refine hI_go (pc' := 46) (off := (-71)) rfl (by decide) ?_ -- 117
    exact g0 x2 q2 lv2 e2_0 e2_1 e2_2 e2_3 e2_4 a1 b1 c72
  · refine hI_al (k := 0) rfl e0 rfl ?_ -- 75
    refine hM_ga M (by decide) rfl rfl (k := 63) (c := 9) rfl rfl rfl (by decide +kernel) rfl ?_ -- 76
    refine hI_il2 (k := 4) rfl e4 rfl ?_ -- 79
    refine hI_al (k := 0) rfl e0 rfl ?_ -- 81
    refine hM_ga M (by decide) rfl rfl (k := 63) (c := 9) rfl rfl rfl (by decide +kernel) rfl ?_ -- 82
    refine hI_il2 (k := 4) rfl e4 rfl ?_ -- 85
    refine hM_ba M (by decide) (K := 63) (R2 := 92) (L := 64) (H := 64) (lo := (-2147483648)) (hi := 2147483647) rfl (by decide) rfl rfl (Or.inr rfl) (fun _ => rfl) rfl lq4 (by omega) (by omega) rfl (fun x3 q3 a3 b3 => ?_) -- 87
    refine hM_zne (off := 14) (t := 102) rfl q3 (by decide) rfl (fun c88 => ?_) (fun c88 => ?_) -- 88
    · refine hM_ic (n := 1) rfl (by decide) rfl (fun x4 q4 => ?_) -- 102
      refine hI_go (pc' := 107) (off := 4) rfl (by decide) ?_ -- 103
      refine hM_zs M (by decide) ok_49 (K := 63) (R2 := 92) (L := 64) (H := 64) rfl (by decide) rfl rfl rfl (fun _ => rfl) (d_subm hw (by decide +kernel)) rfl lq4 q4 (by omega) (by omega) (by omega) (by omega) rfl (fun h5 V5 f5 M5 => ?_) -- 107
      refine hM_inc (k := 4) (z := 1) rfl e4 lq4 (by decide) (by omega) (by omega) (by decide +kernel) rfl (fun lv6 x6 q6 e6_4 u6 => ?_) -- 108
      have e6_0 := u6 0 _ (by decide) (Or.inl rfl) e0
      have e6_1 := u6 1 _ (by decide) (Or.inl rfl) e1
      have e6_2 := u6 2 _ (by decide) (Or.inl rfl) e2
      have e6_3 := u6 3 _ (by decide) (Or.inl rfl) e3
      refine hI_go (pc' := 66) (off := (-45)) rfl (by decide) ?_ -- 111
      exact g1 h5 V5 f5 x6 q6 lv6 M5 e6_0 e6_1 e6_2 e6_3 e6_4 a1 b1 c72 c88
    · refine hI_al (k := 0) rfl e0 rfl ?_ -- 91
      refine hM_ga M (by decide) rfl rfl (k := 29) (c := 9) rfl rfl rfl (by decide +kernel) rfl ?_ -- 92
      refine hI_il2 (k := 4) rfl e4 rfl ?_ -- 95
      refine hM_ia M (by decide) (K := 29) (R2 := 65) (L := 64) (H := 64) (lo := (-1)) (hi := 62) rfl (by decide) rfl rfl (fun _ => rfl) rfl lq4 (by omega) (by omega) rfl (fun x7 q7 a7 b7 => ?_) -- 97
      refine hI_il (k := 3) rfl e3 rfl ?_ -- 98
      refine hM_cne (off := 7) (t := 106) rfl q7 lq3 (by decide) rfl (fun c99 => ?_) (fun c99 => ?_) -- 99
      · refine hM_ic (n := 0) rfl (by decide) rfl (fun x8 q8 => ?_) -- 106
        refine hM_zs M (by decide) ok_49 (K := 63) (R2 := 92) (L := 64) (H := 64) rfl (by decide) rfl rfl rfl (fun _ => rfl) (d_subm hw (by decide +kernel)) rfl lq4 q8 (by omega) (by omega) (by omega) (by omega) rfl (fun h9 V9 f9 M9 => ?_) -- 107
        refine hM_inc (k := 4) (z := 1) rfl e4 lq4 (by decide) (by omega) (by omega) (by decide +kernel) rfl (fun lv10 x10 q10 e10_4 u10 => ?_) -- 108
        have e10_0 := u10 0 _ (by decide) (Or.inl rfl) e0
        have e10_1 := u10 1 _ (by decide) (Or.inl rfl) e1
        have e10_2 := u10 2 _ (by decide) (Or.inl rfl) e2
        have e10_3 := u10 3 _ (by decide) (Or.inl rfl) e3
        refine hI_go (pc' := 66) (off := (-45)) rfl (by decide) ?_ -- 111
        exact g2 h9 V9 f9 x10 q10 lv10 M9 e10_0 e10_1 e10_2 e10_3 e10_4 a1 b1 c72 c88 a7 b7 c99
      · refine hM_ic (n := 1) rfl (by decide) rfl (fun x11 q11 => ?_) -- 102
        refine hI_go (pc' := 107) (off := 4) rfl (by decide) ?_ -- 103
        refine hM_zs M (by decide) ok_49 (K := 63) (R2 := 92) (L := 64) (H := 64) rfl (by decide) rfl rfl rfl (fun _ => rfl) (d_subm hw (by decide +kernel)) rfl lq4 q11 (by omega) (by omega) (by omega) (by omega) rfl (fun h12 V12 f12 M12 => ?_) -- 107
        refine hM_inc (k := 4) (z := 1) rfl e4 lq4 (by decide) (by omega) (by omega) (by decide +kernel) rfl (fun lv13 x13 q13 e13_4 u13 => ?_) -- 108
        have e13_0 := u13 0 _ (by decide) (Or.inl rfl) e0
        have e13_1 := u13 1 _ (by decide) (Or.inl rfl) e1
        have e13_2 := u13 2 _ (by decide) (Or.inl rfl) e2
        have e13_3 := u13 3 _ (by decide) (Or.inl rfl) e3
        refine hI_go (pc' := 66) (off := (-45)) rfl (by decide) ?_ -- 111
        exact g3 h12 V12 f12 x13 q13 lv13 M12 e13_0 e13_1 e13_2 e13_3 e13_4 a1 b1 c72 c88 a7 b7 c99
theorem s_lf124 {a i : Int} (M : MX 49 W ρ m A h0 h F V G) (e0 : m_lk lv 0 = some (.ref m)) {lx2 : Int32} (e2 : m_lk lv 2 = some (.int lx2)) (lq2 : lx2.toInt = a) {lx3 : Int32} (e3 : m_lk lv 3 = some (.int lx3)) (lq3 : lx3.toInt = i) (i0 : 0 ≤ i) (a0 : 0 ≤ a) (a1 : a ≤ i) (w1 : F 26 ≤ 63)
    (g0 : 0 ≤ F 26 → F 26 ≤ 63 → i ≥ F 26 → Q (some (.int lx2)) h)
    (g1 : ∀ x4 : Int32, x4.toInt = a + 0 → ∀ x6 : Int32, x6.toInt = i + 1 → ∀ lv6 : List (Nat × Value), m_lk lv6 0 = some (.ref m) → m_lk lv6 2 = some (.int x4) → m_lk lv6 3 = some (.int x6) → 0 ≤ F 26 → F 26 ≤ 63 → i < F 26 → V 63 (i).toNat = 0 → HJ 278 124 lv6 [] h Q)
    (g2 : ∀ x8 : Int32, x8.toInt = a + 1 → ∀ x10 : Int32, x10.toInt = i + 1 → ∀ lv10 : List (Nat × Value), m_lk lv10 0 = some (.ref m) → m_lk lv10 2 = some (.int x8) → m_lk lv10 3 = some (.int x10) → 0 ≤ F 26 → F 26 ≤ 63 → i < F 26 → V 63 (i).toNat ≠ 0 → HJ 278 124 lv10 [] h Q)
    : HJ 278 124 lv [] h Q := by
  refine hI_il (k := 3) rfl e3 rfl ?_ -- 124
  refine hI_al (k := 0) rfl e0 rfl ?_ -- 125
  refine hM_gi M (by decide) rfl rfl rfl (k := 26) (c := 9) (lo := 0) (hi := 63) rfl rfl rfl rfl rfl (fun x1 q1 a1 b1 => ?_) -- 126
  refine hM_cge (off := 26) (t := 155) rfl lq3 q1 (by decide) rfl (fun c129 => ?_) (fun c129 => ?_) -- 129
  · refine hI_il (k := 2) rfl e2 rfl ?_ -- 155
    refine hI_ri rfl rfl ?_ -- 156
    exact g0 a1 b1 c129
  · refine hI_il (k := 2) rfl e2 rfl ?_ -- 132
    refine hI_al (k := 0) rfl e0 rfl ?_ -- 133
    refine hM_ga M (by decide) rfl rfl (k := 63) (c := 9) rfl rfl rfl (by decide +kernel) rfl ?_ -- 134
    refine hI_il (k := 3) rfl e3 rfl ?_ -- 137
    refine hM_ba M (by decide) (K := 63) (R2 := 92) (L := 64) (H := 64) (lo := (-2147483648)) (hi := 2147483647) rfl (by decide) rfl rfl (Or.inr rfl) (fun _ => rfl) rfl lq3 (by omega) (by omega) rfl (fun x2 q2 a2 b2 => ?_) -- 138
    refine hM_zeq (off := 7) (t := 146) rfl q2 (by decide) rfl (fun c139 => ?_) (fun c139 => ?_) -- 139
    · refine hM_ic (n := 0) rfl (by decide) rfl (fun x3 q3 => ?_) -- 146
      refine hM_add rfl lq2 q3 (by omega) (by omega) rfl (fun x4 q4 => ?_) -- 147
      refine hM_si (k := 2) rfl (by decide +kernel) rfl (fun lv5 e5_2 u5 => ?_) -- 148
      have e5_0 := u5 0 _ (by decide) (Or.inl rfl) e0
      have e5_3 := u5 3 _ (by decide) (Or.inl rfl) e3
      refine hM_inc (k := 3) (z := 1) rfl e5_3 lq3 (by decide) (by omega) (by omega) (by decide +kernel) rfl (fun lv6 x6 q6 e6_3 u6 => ?_) -- 149
      have e6_0 := u6 0 _ (by decide) (Or.inl rfl) e5_0
      have e6_2 := u6 2 _ (by decide) (Or.inl rfl) e5_2
      refine hI_go (pc' := 124) (off := (-28)) rfl (by decide) ?_ -- 152
      exact g1 x4 q4 x6 q6 lv6 e6_0 e6_2 e6_3 a1 b1 c129 c139
    · refine hM_ic (n := 1) rfl (by decide) rfl (fun x7 q7 => ?_) -- 142
      refine hI_go (pc' := 147) (off := 4) rfl (by decide) ?_ -- 143
      refine hM_add rfl lq2 q7 (by omega) (by omega) rfl (fun x8 q8 => ?_) -- 147
      refine hM_si (k := 2) rfl (by decide +kernel) rfl (fun lv9 e9_2 u9 => ?_) -- 148
      have e9_0 := u9 0 _ (by decide) (Or.inl rfl) e0
      have e9_3 := u9 3 _ (by decide) (Or.inl rfl) e3
      refine hM_inc (k := 3) (z := 1) rfl e9_3 lq3 (by decide) (by omega) (by omega) (by decide +kernel) rfl (fun lv10 x10 q10 e10_3 u10 => ?_) -- 149
      have e10_0 := u10 0 _ (by decide) (Or.inl rfl) e9_0
      have e10_2 := u10 2 _ (by decide) (Or.inl rfl) e9_2
      refine hI_go (pc' := 124) (off := (-28)) rfl (by decide) ?_ -- 152
      exact g2 x8 q8 x10 q10 lv10 e10_0 e10_2 e10_3 a1 b1 c129 c139
def z_o (V V0 : Nat → Nat → Int) : Prop := ∀ K, K ≠ 63 → K ≠ 64 → V K = V0 K
theorem l_lf124 {w : Nat} (M : MX 49 W ρ m A h0 h F V G) (fw : F 26 = (w : Int)) (w63 : w ≤ 63) (g : ∀ x : Int32, Q (some (.int x)) h) : ∀ (d i : Nat) (a : Int) (lv : List (Nat × Value)) (xa xi : Int32), i + d = w → 0 ≤ a → a ≤ i → xa.toInt = a → xi.toInt = (i : Int) → m_lk lv 0 = some (.ref m) → m_lk lv 2 = some (.int xa) → m_lk lv 3 = some (.int xi) → HJ 278 124 lv [] h Q := by
  intro d
  induction d with
  | zero =>
    intro i a lv xa xi hd a0 a1 ha hi e0 e2 e3
    exact s_lf124 M e0 e2 ha e3 hi (by omega) a0 a1 (by omega) (fun _ _ _ => g xa) (fun x4 q4 x6 q6 lv6 e6_0 e6_2 e6_3 a1 b1 c129 c139 => by omega) (fun x4 q4 x6 q6 lv6 e6_0 e6_2 e6_3 a1 b1 c129 c139 => by omega)
  | succ d ih =>
    intro i a lv xa xi hd a0 a1 ha hi e0 e2 e3
    exact s_lf124 M e0 e2 ha e3 hi (by omega) a0 a1 (by omega) (fun _ _ _ => g xa) (fun x4 q4 x6 q6 lv6 d0 d2 d3 _ _ _ _ => ih (i + 1) _ lv6 x4 x6 (by omega) (by omega) (by omega) q4 (by omega) d0 d2 d3) (fun x4 q4 x6 q6 lv6 d0 d2 d3 _ _ _ _ => ih (i + 1) _ lv6 x4 x6 (by omega) (by omega) (by omega) q4 (by omega) d0 d2 d3)
theorem l_lf66 {w n x : Nat} {k : Int} {xk xn xx : Int32} {V1 : Nat → Nat → Int} (hw : d_sub [(92, 1001)] W = true) (fw : F 26 = (w : Int)) (w63 : w ≤ 63) (n63 : n ≤ 63) (hk : xk.toInt = k) (hn : xn.toInt = (n : Int)) (hx : xx.toInt = (x : Int)) (g : ∀ (lv : List (Nat × Value)) (h : MH) (V : Nat → Nat → Int) (xn' : Int32), MX 49 W ρ m A h0 h F V G → (∀ K, K ≠ 63 → V K = V1 K) → (∀ j, j < w → V1 63 j ≠ 0 ∨ V1 29 j = x → V 63 j ≠ 0) → xn'.toInt = (n : Int) + 1 → m_lk lv 0 = some (.ref m) → m_lk lv 1 = some (.int xk) → m_lk lv 2 = some (.int xn') → HJ 278 46 lv [] h Q) : ∀ (d i : Nat) (lv : List (Nat × Value)) (h : MH) (V : Nat → Nat → Int) (xi : Int32), i + d = w → MX 49 W ρ m A h0 h F V G → (∀ K, K ≠ 63 → V K = V1 K) → (∀ j, j < i → V1 63 j ≠ 0 ∨ V1 29 j = x → V 63 j ≠ 0) → (∀ j, i ≤ j → V 63 j = V1 63 j) → xi.toInt = (i : Int) → m_lk lv 0 = some (.ref m) → m_lk lv 1 = some (.int xk) → m_lk lv 2 = some (.int xn) → m_lk lv 3 = some (.int xx) → m_lk lv 4 = some (.int xi) → HJ 278 66 lv [] h Q := by
  intro d
  induction d with
  | zero =>
    intro i lv h V xi hd M vo k1 k2 hi e0 e1 e2 e3 e4
    have iw : i = w := by omega
    subst iw
    exact s_lf66 M e0 e1 hk e2 hn e3 hx e4 hi (by omega) (by omega) (by omega) (by omega) hw (fun x2 q2 lv2 d0 d1 d2 d3 d4 _ _ _ => g lv2 h V x2 M vo k1 q2 d0 d1 d2) (fun h5 V5 f5 x6 q6 lv6 M5 e6_0 e6_1 e6_2 e6_3 e6_4 a1 b1 c72 c88 => by omega) (fun h9 V9 f9 x10 q10 lv10 M9 e10_0 e10_1 e10_2 e10_3 e10_4 a1 b1 c72 c88 a7 b7 c99 => by omega) (fun h9 V9 f9 x10 q10 lv10 M9 e10_0 e10_1 e10_2 e10_3 e10_4 a1 b1 c72 c88 a7 b7 c99 => by omega)
  | succ d ih =>
    intro i lv h V xi hd M vo k1 k2 hi e0 e1 e2 e3 e4
    have nx : ∀ (y : Int) (V2 : Nat → Nat → Int), V2 = m_u V 63 (m_u (V 63) i y) → (V1 63 i ≠ 0 ∨ V1 29 i = x → y ≠ 0) → (∀ K, K ≠ 63 → V2 K = V1 K) ∧ (∀ j, j < i + 1 → V1 63 j ≠ 0 ∨ V1 29 j = x → V2 63 j ≠ 0) ∧ (∀ j, i + 1 ≤ j → V2 63 j = V1 63 j) := fun y V2 p hy => by
      refine ⟨fun K hK => by rw [p, m_uN _ _ _ _ hK, vo K hK], fun j hj hh => ?_, fun j hj => ?_⟩
      · rw [p, m_uE]
        by_cases e : j = i
        · rw [e, m_uE]
          rw [e] at hh
          exact hy hh
        · rw [m_uN _ _ _ _ e]
          exact k1 j (by omega) hh
      · rw [p, m_uE, m_uN _ _ _ _ (by omega)]
        exact k2 j (by omega)
    have u29 : V 29 = V1 29 := vo 29 (by decide)
    have u63 : V 63 i = V1 63 i := k2 i (Nat.le_refl i)
    refine s_lf66 M e0 e1 hk e2 hn e3 hx e4 hi (by omega) (by omega) (by omega) (by omega) hw (fun x2 q2 lv2 d0 d1 d2 d3 d4 _ _ _ => by omega) (fun h5 V5 f5 x6 q6 lv6 M5 d0 d1 d2 d3 d4 a1 b1 c72 c88 => ?_) (fun h9 V9 f9 x10 q10 lv10 M9 d0 d1 d2 d3 d4 a1 b1 c72 c88 a7 b7 c99 => ?_) (fun h9 V9 f9 x10 q10 lv10 M9 d0 d1 d2 d3 d4 a1 b1 c72 c88 a7 b7 c99 => ?_)
    · rw [Int.toNat_natCast] at f5
      obtain ⟨p1, p2, p3⟩ := nx 1 V5 f5 (fun _ => by decide)
      exact ih (i + 1) lv6 h5 V5 x6 (by omega) M5 p1 p2 p3 (by omega) d0 d1 d2 d3 d4
    · rw [Int.toNat_natCast] at f9 c88 c99
      rw [u29] at c99
      rw [u63] at c88
      obtain ⟨p1, p2, p3⟩ := nx 0 V9 f9 (fun y => by
        rcases y with y | y
        · exact absurd c88 y
        · exact absurd y c99)
      exact ih (i + 1) lv10 h9 V9 x10 (by omega) M9 p1 p2 p3 (by omega) d0 d1 d2 d3 d4
    · rw [Int.toNat_natCast] at f9
      obtain ⟨p1, p2, p3⟩ := nx 1 V9 f9 (fun _ => by decide)
      exact ih (i + 1) lv10 h9 V9 x10 (by omega) M9 p1 p2 p3 (by omega) d0 d1 d2 d3 d4
theorem l_lf46 {w k : Nat} {xk : Int32} {V0 : Nat → Nat → Int} (hw : d_sub [(92, 1001), (93, 1001)] W = true) (fw : F 26 = (w : Int)) (w63 : w ≤ 63) (kw : k ≤ w) (at_ : ∀ i, i < w → 0 ≤ V0 27 i ∧ V0 27 i < 16000) (hU : ∀ i, i < w → V0 29 i = -1 ∨ (0 ≤ V0 29 i ∧ V0 29 i < i)) (hk : xk.toInt = (k : Int)) (g : ∀ (x : Int32) (h' : MH) (V' : Nat → Nat → Int), MX 49 W ρ m A h0 h' F V' G → Q (some (.int x)) h') : ∀ (d n : Nat) (lv : List (Nat × Value)) (h : MH) (V : Nat → Nat → Int) (xn : Int32), n + d = k → MX 49 W ρ m A h0 h F V G → z_o V V0 → z_cl (V 63) (V 64) (V 29) w → z_ct (V 64) w ≤ n → xn.toInt = (n : Int) → m_lk lv 0 = some (.ref m) → m_lk lv 1 = some (.int xk) → m_lk lv 2 = some (.int xn) → HJ 278 46 lv [] h Q := by
  have w1 : d_sub [(92, 1001)] W = true := d_subm hw (by decide +kernel)
  have w2 : d_sub [(93, 1001)] W = true := d_subm hw (by decide +kernel)
  intro d
  induction d with
  | zero =>
    intro n lv h V xn hd M vo cl ct hn e0 e1 e2
    refine s_lf46 M e0 e1 hk e2 hn (fun x1 q1 x3 q3 lv4 d0 d2 d3 _ => ?_) (fun c48 => by omega)
    exact l_lf124 M fw w63 (fun x => g x h V M) w 0 0 lv4 x1 x3 (by omega) (by omega) (by omega) q1 q3 d0 d2 d3
  | succ d ih =>
    intro n lv h V xn hd M vo cl ct hn e0 e1 e2
    refine s_lf46 M e0 e1 hk e2 hn (fun x1 q1 x3 q3 lv4 d0 d2 d3 _ => by omega) (fun c48 => ?_)
    refine c_next (w := w) M fw w63 (fun i hi => by rw [vo 27 (by decide) (by decide)]; exact at_ i hi) (fun xx I => ?_)
    have gx : 0 ≤ xx.toInt ∧ xx.toInt < w := by
      rcases I with ⟨z1, z2⟩ | z
      · obtain ⟨i, y1, y2, y3⟩ := z_key (fun i hi => by rw [vo 29 (by decide) (by decide)]; exact hU i hi) cl (by omega)
        rcases z2 i y1 with y | y
        · exact absurd y y2
        · exact absurd y3 y
      · exact z
    refine s_lf55 (x := xx.toInt) M e0 e1 hk e2 hn rfl gx.1 (by omega) w2 (fun h3 V3 f3 x4 q4 lv5 M3 d0 d1 d2 d3 d4 => ?_)
    have vo3 : ∀ K, K ≠ 64 → V3 K = V K := fun K hK => by rw [f3, m_uN _ _ _ _ hK]
    have t3 : V3 64 = m_u (V 64) xx.toInt.toNat 1 := by rw [f3, m_uE]
    refine l_lf66 (w := w) (n := n) (x := xx.toInt.toNat) (V1 := V3) w1 fw w63 (by omega) hk hn (by omega) (fun lv6 h4 V4 xn' M4 o4 k4 q4' b0 b1 b2 => ?_) w 0 lv5 h3 V3 x4 (by omega) M3 (fun _ _ => rfl) (fun j hj => absurd hj (Nat.not_lt_zero j)) (fun _ _ => rfl) q4 d0 d1 d2 d3 d4
    have e64 : V4 64 = m_u (V 64) xx.toInt.toNat 1 := by rw [o4 64 (by decide), t3]
    have e29 : V4 29 = V 29 := by rw [o4 29 (by decide), vo3 29 (by decide)]
    refine ih (n + 1) lv6 h4 V4 xn' (by omega) M4 (fun K j1 j2 => by rw [o4 K j1, vo3 K j2, vo K j1 j2]) (fun i hi hh => ?_) ?_ (by omega) b0 b1 b2
    · refine k4 i hi ?_
      rw [e29, e64] at hh
      rw [vo3 63 (by decide), vo3 29 (by decide)]
      rcases hh with y | ⟨y1, y2⟩
      · exact Or.inl (cl i hi (Or.inl y))
      · by_cases e : (V 29 i).toNat = xx.toInt.toNat
        · exact Or.inr (by omega)
        · rw [m_uN _ _ _ _ e] at y2
          exact Or.inl (cl i hi (Or.inr ⟨y1, y2⟩))
    · rw [e64]
      have := z_ctU (f := V 64) (g := xx.toInt.toNat) (x := 1) w
      omega
theorem l_lf2 {w : Nat} {k : Int} {xk : Int32} {V0 : Nat → Nat → Int} (hw : d_sub [(92, 1001), (93, 1001)] W = true) (fw : F 26 = (w : Int)) (w63 : w ≤ 63) (hk : xk.toInt = k) (g : ∀ (lv : List (Nat × Value)) (h : MH) (V : Nat → Nat → Int) (xn : Int32), MX 49 W ρ m A h0 h F V G → z_o V V0 → (∀ j, j < w → V0 29 j = -1 → V 63 j ≠ 0) → (∀ j, j < w → V 64 j = 0) → xn.toInt = 0 → m_lk lv 0 = some (.ref m) → m_lk lv 1 = some (.int xk) → m_lk lv 2 = some (.int xn) → HJ 278 46 lv [] h Q) : ∀ (d i : Nat) (lv : List (Nat × Value)) (h : MH) (V : Nat → Nat → Int) (xi : Int32), i + d = w → MX 49 W ρ m A h0 h F V G → z_o V V0 → (∀ j, j < i → V0 29 j = -1 → V 63 j ≠ 0) → (∀ j, j < i → V 64 j = 0) → xi.toInt = (i : Int) → m_lk lv 0 = some (.ref m) → m_lk lv 1 = some (.int xk) → m_lk lv 2 = some (.int xi) → HJ 278 2 lv [] h Q := by
  intro d
  induction d with
  | zero =>
    intro i lv h V xi hd M vo k1 k2 hi e0 e1 e2
    have iw : i = w := by omega
    subst iw
    exact s_lf2 M e0 e1 hk e2 hi (by omega) (by omega) hw (fun x2 q2 lv3 d0 d1 d2 _ _ _ => g lv3 h V x2 M vo k1 k2 q2 d0 d1 d2) (fun h7 V7 f7 h9 V9 f9 x10 q10 lv10 M9 e10_0 e10_1 e10_2 a1 b1 c7 a4 b4 c22 => by omega) (fun h7 V7 f7 h9 V9 f9 x10 q10 lv10 M9 e10_0 e10_1 e10_2 a1 b1 c7 a4 b4 c22 => by omega)
  | succ d ih =>
    intro i lv h V xi hd M vo k1 k2 hi e0 e1 e2
    have nx : ∀ (y : Int) (V2 V3 : Nat → Nat → Int), V2 = m_u V 63 (m_u (V 63) i y) → V3 = m_u V2 64 (m_u (V2 64) i 0) → (V0 29 i = -1 → y ≠ 0) → z_o V3 V0 ∧ (∀ j, j < i + 1 → V0 29 j = -1 → V3 63 j ≠ 0) ∧ (∀ j, j < i + 1 → V3 64 j = 0) := fun y V2 V3 p2 p3 hy => by
      refine ⟨fun K j1 j2 => by rw [p3, m_uN _ _ _ _ j2, p2, m_uN _ _ _ _ j1, vo K j1 j2], fun j hj hh => ?_, fun j hj => ?_⟩
      · rw [p3, m_uN _ _ _ _ (by decide), p2, m_uE]
        by_cases e : j = i
        · rw [e, m_uE]
          rw [e] at hh
          exact hy hh
        · rw [m_uN _ _ _ _ e]
          exact k1 j (by omega) hh
      · rw [p3, m_uE]
        by_cases e : j = i
        · rw [e, m_uE]
        · rw [m_uN _ _ _ _ e, p2, m_uN _ _ _ _ (by decide)]
          exact k2 j (by omega)
    have u29 : V 29 = V0 29 := vo 29 (by decide) (by decide)
    refine s_lf2 M e0 e1 hk e2 hi (by omega) (by omega) hw (fun x2 q2 lv3 d0 d1 d2 _ _ _ => by omega) (fun h7 V7 f7 h9 V9 f9 x10 q10 lv10 M9 d0 d1 d2 a1 b1 c7 a4 b4 c22 => ?_) (fun h7 V7 f7 h9 V9 f9 x10 q10 lv10 M9 d0 d1 d2 a1 b1 c7 a4 b4 c22 => ?_)
    · rw [Int.toNat_natCast] at f7 f9 c22
      rw [u29] at c22
      obtain ⟨p1, p2, p3⟩ := nx _ V7 V9 f7 f9 (fun y => absurd y c22)
      exact ih (i + 1) lv10 h9 V9 x10 (by omega) M9 p1 p2 p3 (by omega) d0 d1 d2
    · rw [Int.toNat_natCast] at f7 f9
      obtain ⟨p1, p2, p3⟩ := nx _ V7 V9 f7 f9 (fun _ => by decide)
      exact ih (i + 1) lv10 h9 V9 x10 (by omega) M9 p1 p2 p3 (by omega) d0 d1 d2
theorem c_looked {k : Nat} {xk : Int32} (M : MX 49 W ρ m A h0 h F V G) (b0_ : m_lk lv 0 = some (.ref m)) (b1_ : m_lk lv 1 = some (.int xk)) (hw : d_sub [(92, 1001), (93, 1001)] W = true) (X : w_X (F 17) (V 22) (V 27) (V 29) (V 28) (F 26).toNat) (hk : xk.toInt = (k : Int)) (kw : (k : Int) ≤ F 26) (g : ∀ (x : Int32) (h' : MH) (V' : Nat → Nat → Int), MX 49 W ρ m A h0 h' F V' G → Q (some (.int x)) h') : HJ 278 0 lv [] h Q := by
  have wb := M.fi (by decide) (k := 26) (lo := 0) (hi := 63) rfl rfl rfl
  have nb := M.fi (by decide) (k := 17) (lo := 0) (hi := 16000) rfl rfl rfl
  have fw : F 26 = (((F 26).toNat : Nat) : Int) := by omega
  refine s_lf0 M b0_ b1_ hk (fun x1 q1 lv2 e0 e1 e2 => ?_)
  refine l_lf2 (w := (F 26).toNat) (V0 := V) hw fw (by omega) hk (fun lv3 h3 V3 xn M3 vo k1 k2 qn d0 d1 d2 => ?_) (F 26).toNat 0 lv2 h V x1 (by omega) M (fun _ _ _ => rfl) (fun j hj => absurd hj (Nat.not_lt_zero j)) (fun j hj => absurd hj (Nat.not_lt_zero j)) q1 e0 e1 e2
  refine l_lf46 (w := (F 26).toNat) (V0 := V) hw fw (by omega) (by omega) (fun i hi => ?_) (fun i hi => ?_) hk g k 0 lv3 h3 V3 xn (by omega) M3 vo (fun i hi hh => ?_) ?_ qn d0 d1 d2
  · have := (X i hi).1
    omega
  · rcases (X i hi).2 with y | y
    · exact Or.inl y.1
    · exact Or.inr ⟨y.1, y.2.1⟩
  · rw [vo 29 (by decide) (by decide)] at hh
    refine k1 i hi ?_
    rcases hh with y | ⟨y1, y2⟩
    · exact y
    · refine absurd (k2 _ ?_) y2
      rcases (X i hi).2 with z | z <;> omega
  · rw [z_ct0 k2]
    omega
end
end
section
-- FEWEST STEPS
theorem i_nb {x : Int32} {n : Nat} (hn : n ≤ 4096) (h : x.toBitVec.toNat < n) : 0 ≤ x.toInt ∧ x.toInt < n := by
  have e : x.toInt = x.toBitVec.toInt := rfl
  have e2 := BitVec.toInt_eq_toNat_of_lt (x := x.toBitVec) (by omega)
  omega
theorem i_bn {x : Int32} {n : Nat} (h0 : 0 ≤ x.toInt) (h1 : x.toInt < n) : x.toBitVec.toNat < n := by
  have e : x.toInt = x.toBitVec.toInt := rfl
  have e2 := BitVec.toInt_eq_toNat_cond x.toBitVec
  have e3 := x.toBitVec.isLt
  split at e2 <;> omega
theorem i_and3 (y : Int32) : 0 ≤ (y &&& Int32.ofInt 3).toInt ∧ (y &&& Int32.ofInt 3).toInt ≤ 3 := by
  have : (y &&& Int32.ofInt 3).toBitVec.toNat < 4 := by
    rw [Int32.toBitVec_and, BitVec.toNat_and]
    have h : y.toBitVec.toNat &&& (Int32.ofInt 3).toBitVec.toNat ≤ (Int32.ofInt 3).toBitVec.toNat := Nat.and_le_right
    have e : (Int32.ofInt 3).toBitVec.toNat = 3 := by decide
    omega
  have := i_nb (n := 4) (by omega) this
  omega
theorem i_digF : ∀ (d : Fin 4) (i : Fin 6), (Int32.ofInt (d.val : Int) <<< ((Int32.ofInt 2 * Int32.ofInt (i.val : Int)) &&& 31)).toBitVec.toNat < 4096 := by decide +kernel
theorem i_with {s i d b : Int32} (s0 : 0 ≤ s.toInt) (s1 : s.toInt < 4096) (i0 : 0 ≤ i.toInt) (i1 : i.toInt ≤ 5) (d0 : 0 ≤ d.toInt) (d1 : d.toInt ≤ 3) : 0 ≤ ((s &&& b) ||| (d <<< ((Int32.ofInt 2 * i) &&& 31))).toInt ∧ ((s &&& b) ||| (d <<< ((Int32.ofInt 2 * i) &&& 31))).toInt < 4096 := by
  have ei : i = Int32.ofInt ((i.toInt.toNat : Nat) : Int) := by
    rw [show ((i.toInt.toNat : Nat) : Int) = i.toInt by omega, Int32.ofInt_toInt]
  have ed : d = Int32.ofInt ((d.toInt.toNat : Nat) : Int) := by
    rw [show ((d.toInt.toNat : Nat) : Int) = d.toInt by omega, Int32.ofInt_toInt]
  have a1 : (s &&& b).toBitVec.toNat < 2 ^ 12 := by
    rw [Int32.toBitVec_and, BitVec.toNat_and]
    have h1 : s.toBitVec.toNat &&& b.toBitVec.toNat ≤ s.toBitVec.toNat := Nat.and_le_left
    have h2 := i_bn (n := 4096) s0 s1
    have e : (2 : Nat) ^ 12 = 4096 := rfl
    omega
  have a2 : (d <<< ((Int32.ofInt 2 * i) &&& 31)).toBitVec.toNat < 2 ^ 12 := by
    rw [ei, ed]
    exact i_digF ⟨d.toInt.toNat, by omega⟩ ⟨i.toInt.toNat, by omega⟩
  refine i_nb (n := 4096) (Nat.le_refl _) ?_
  rw [Int32.toBitVec_or, BitVec.toNat_or]
  exact Nat.or_lt_two_pow a1 a2
-- how many are told
def z_cm (f : Nat → Int) : Nat → Nat
  | 0 => 0
  | n + 1 => z_cm f n + y_tg (f n)
theorem y_tgL (x : Int) : y_tg x ≤ 1 := by
  unfold y_tg
  split <;> omega
theorem z_cmL {f : Nat → Int} : ∀ n : Nat, z_cm f n ≤ n
  | 0 => Nat.le_refl _
  | n + 1 => by
    have a := z_cmL (f := f) n
    have b := y_tgL (f n)
    rw [z_cm]
    omega
theorem z_cmC {f f' : Nat → Int} : ∀ {n : Nat}, (∀ i, i < n → f' i = f i) → z_cm f' n = z_cm f n
  | 0, _ => rfl
  | n + 1, h => by rw [z_cm, z_cm, z_cmC (n := n) (fun i hi => h i (by omega)), h n (by omega)]
theorem z_cmU {f : Nat → Int} {s : Nat} {x : Int} (hs : f s = -1) (hx : x ≠ -1) : ∀ {n : Nat}, s < n → z_cm (m_u f s x) n = z_cm f n + 1
  | 0, h => by omega
  | n + 1, h => by
    rw [z_cm, z_cm]
    by_cases e : s = n
    · subst e
      rw [m_uE, y_tg1 hx, y_tg0 hs, z_cmC (f := f) (fun i hi => m_uN _ _ _ _ (by omega))]
    · rw [m_uN _ _ _ _ (by omega), z_cmU (n := n) hs hx (by omega)]
      omega
theorem z_cmS {f : Nat → Int} {s : Nat} (hs : f s = -1) {n : Nat} (h : s < n) : z_cm f n < n := by
  have a := z_cmU (f := f) (x := 0) hs (by decide) h
  have b := z_cmL (f := m_u f s 0) n
  omega
section
variable {lv : List (Nat × Value)} {Q : Option Value → MH → Prop} {W : List (Nat × Nat)} {ρ : Nat → Nat} {m : Nat} {A : Nat → Nat} {h0 h : MH} {F : Nat → Int} {V : Nat → Nat → Int} {G : Nat → Nat → Int64}
-- bits of a state
theorem c_dig {s i : Int32} (g : ∀ z : Int32, 0 ≤ z.toInt → z.toInt ≤ 3 → Q (some (.int z)) h) : HJ 259 0 (lv_args 0 [.int s, .int i]) [] h Q := by
  refine hI_il (k := 0) rfl rfl rfl ?_
  refine hI_ic (n := 2) rfl rfl ?_
  refine hI_il (k := 1) rfl rfl rfl ?_
  refine hI_mul rfl rfl ?_
  refine hI_ishr rfl rfl ?_
  refine hI_ic (n := 3) rfl rfl ?_
  refine hI_iand rfl rfl ?_
  exact hI_ri rfl rfl (g _ (i_and3 _).1 (i_and3 _).2)
theorem c_with {s i d : Int32} (s0 : 0 ≤ s.toInt) (s1 : s.toInt < 4096) (i0 : 0 ≤ i.toInt) (i1 : i.toInt ≤ 5) (d0 : 0 ≤ d.toInt) (d1 : d.toInt ≤ 3) (g : ∀ z : Int32, 0 ≤ z.toInt → z.toInt < 4096 → Q (some (.int z)) h) : HJ 256 0 (lv_args 0 [.int s, .int i, .int d]) [] h Q := by
  refine hI_il (k := 0) rfl rfl rfl ?_
  refine hI_ic (n := 3) rfl rfl ?_
  refine hI_ic (n := 2) rfl rfl ?_
  refine hI_il (k := 1) rfl rfl rfl ?_
  refine hI_mul rfl rfl ?_
  refine hI_ishl rfl rfl ?_
  refine hI_ic (n := -1) rfl rfl ?_
  refine hI_ixor rfl rfl ?_
  refine hI_iand rfl rfl ?_
  refine hI_il (k := 2) rfl rfl rfl ?_
  refine hI_ic (n := 2) rfl rfl ?_
  refine hI_il (k := 1) rfl rfl rfl ?_
  refine hI_mul rfl rfl ?_
  refine hI_ishl rfl rfl ?_
  refine hI_ior rfl rfl ?_
  exact hI_ri rfl rfl (g _ (i_with s0 s1 i0 i1 d0 d1).1 (i_with s0 s1 i0 i1 d0 d1).2)
theorem s_key {i d : Int} (M : MX 49 W ρ m A h0 h F V G) (e0 : m_lk lv 0 = some (.ref m)) {lx1 : Int32} (e1 : m_lk lv 1 = some (.int lx1)) (lq1 : lx1.toInt = i) {lx2 : Int32} (e2 : m_lk lv 2 = some (.int lx2)) (lq2 : lx2.toInt = d) (i0 : 0 ≤ i) (i1 : i ≤ 5)
    (g0 : ∀ x3 : Int32, x3.toInt = (-1) → d ≠ 1 → d ≠ 2 → Q (some (.int x3)) h)
    (g1 : ∀ x4 : Int32, x4.toInt = V 54 (i).toNat → d ≠ 1 → d = 2 → Q (some (.int x4)) h)
    (g2 : ∀ x5 : Int32, x5.toInt = V 53 (i).toNat → d = 1 → Q (some (.int x5)) h)
    : HJ 260 0 lv [] h Q := by
  refine hI_il (k := 2) rfl e2 rfl ?_ -- 0
  refine hM_ic (n := 1) rfl (by decide) rfl (fun x1 q1 => ?_) -- 1
  refine hM_cne (off := 12) (t := 14) rfl lq2 q1 (by decide) rfl (fun c2 => ?_) (fun c2 => ?_) -- 2
  · refine hI_il (k := 2) rfl e2 rfl ?_ -- 14
    refine hM_ic (n := 2) rfl (by decide) rfl (fun x2 q2 => ?_) -- 15
    refine hM_cne (off := 12) (t := 28) rfl lq2 q2 (by decide) rfl (fun c16 => ?_) (fun c16 => ?_) -- 16
    · refine hM_ic (n := (-1)) rfl (by decide) rfl (fun x3 q3 => ?_) -- 28
      refine hI_ri rfl rfl ?_ -- 29
      exact g0 x3 q3 c2 c16
    · refine hI_al (k := 0) rfl e0 rfl ?_ -- 19
      refine hM_ga M (by decide) rfl rfl (k := 54) (c := 9) rfl rfl rfl (by decide +kernel) rfl ?_ -- 20
      refine hI_il (k := 1) rfl e1 rfl ?_ -- 23
      refine hM_ia M (by decide) (K := 54) (R2 := 85) (L := 6) (H := 6) (lo := (-2147483648)) (hi := 2147483647) rfl (by decide) rfl rfl (fun _ => rfl) rfl lq1 (by omega) (by omega) rfl (fun x4 q4 a4 b4 => ?_) -- 24
      refine hI_go (pc' := 29) (off := 4) rfl (by decide) ?_ -- 25
      refine hI_ri rfl rfl ?_ -- 29
      exact g1 x4 q4 c2 c16
  · refine hI_al (k := 0) rfl e0 rfl ?_ -- 5
    refine hM_ga M (by decide) rfl rfl (k := 53) (c := 9) rfl rfl rfl (by decide +kernel) rfl ?_ -- 6
    refine hI_il (k := 1) rfl e1 rfl ?_ -- 9
    refine hM_ia M (by decide) (K := 53) (R2 := 84) (L := 6) (H := 6) (lo := (-2147483648)) (hi := 2147483647) rfl (by decide) rfl rfl (fun _ => rfl) rfl lq1 (by omega) (by omega) rfl (fun x5 q5 a5 b5 => ?_) -- 10
    refine hI_go (pc' := 29) (off := 18) rfl (by decide) ?_ -- 11
    refine hI_ri rfl rfl ?_ -- 29
    exact g2 x5 q5 c2
theorem c_key {i d : Int} {xi xd : Int32} (M : MX 49 W ρ m A h0 h F V G) (hi : xi.toInt = i) (hd : xd.toInt = d) (i0 : 0 ≤ i) (i1 : i ≤ 5) (g : ∀ x : Int32, Q (some (.int x)) h) : HJ 260 0 (lv_args 0 [.ref m, .int xi, .int xd]) [] h Q := s_key M rfl rfl hi rfl hd i0 i1 (fun x _ _ _ => g x) (fun x _ _ _ => g x) (fun x _ _ => g x)
theorem s_it0 {s : Int} (M : MX 49 W ρ m A h0 h F V G) (e0 : m_lk lv 0 = some (.ref m)) {lx1 : Int32} (e1 : m_lk lv 1 = some (.int lx1)) (lq1 : lx1.toInt = s) 
    (g0 : ∀ x1 : Int32, x1.toInt = 0 → ∀ lv2 : List (Nat × Value), m_lk lv2 0 = some (.ref m) → m_lk lv2 1 = some (.int lx1) → m_lk lv2 2 = some (.int x1) → HJ 258 2 lv2 [] h Q)
    : HJ 258 0 lv [] h Q := by
  refine hM_ic (n := 0) rfl (by decide) rfl (fun x1 q1 => ?_) -- 0
  refine hM_si (k := 2) rfl (by decide +kernel) rfl (fun lv2 e2_2 u2 => ?_) -- 1
  have e2_0 := u2 0 _ (by decide) (Or.inl rfl) e0
  have e2_1 := u2 1 _ (by decide) (Or.inl rfl) e1
  exact g0 x1 q1 lv2 e2_0 e2_1 e2_2
theorem s_it2 {s i : Int} (M : MX 49 W ρ m A h0 h F V G) (e0 : m_lk lv 0 = some (.ref m)) {lx1 : Int32} (e1 : m_lk lv 1 = some (.int lx1)) (lq1 : lx1.toInt = s) {lx2 : Int32} (e2 : m_lk lv 2 = some (.int lx2)) (lq2 : lx2.toInt = i) 
    (g0 : ∀ x2 : Int32, x2.toInt = 1 → 0 ≤ F 51 → F 51 ≤ 6 → i ≥ F 51 → Q (some (.int x2)) h)
    (g1 : 0 ≤ F 51 → F 51 ≤ 6 → i < F 51 → HJ 259 0 (lv_args 0 [.int lx1, .int lx2]) [] h (fun v h' => HJ 258 15 lv (v.toList ++ []) h' Q))
    : HJ 258 2 lv [] h Q := by
  refine hI_il (k := 2) rfl e2 rfl ?_ -- 2
  refine hI_al (k := 0) rfl e0 rfl ?_ -- 3
  refine hM_gi M (by decide) rfl rfl rfl (k := 51) (c := 9) (lo := 0) (hi := 6) rfl rfl rfl rfl rfl (fun x1 q1 a1 b1 => ?_) -- 4
  refine hM_cge (off := 53) (t := 60) rfl lq2 q1 (by decide) rfl (fun c7 => ?_) (fun c7 => ?_) -- 7
  · refine hM_ic (n := 1) rfl (by decide) rfl (fun x2 q2 => ?_) -- 60
    refine hM_rb rfl rfl q2 (by omega) (by omega) ?_ -- 61
    exact g0 x2 q2 a1 b1 c7
  · refine hI_il (k := 1) rfl e1 rfl ?_ -- 10
    refine hI_il (k := 2) rfl e2 rfl ?_ -- 11
    refine hM_is0 (as := [.int lx1, .int lx2]) (r := []) rfl rfl (by decide +kernel) rfl rfl rfl rfl rfl ?_ -- 12
    exact g1 a1 b1 c7
theorem s_it15 {s i d : Int} (M : MX 49 W ρ m A h0 h F V G) (e0 : m_lk lv 0 = some (.ref m)) {lx1 : Int32} (e1 : m_lk lv 1 = some (.int lx1)) (lq1 : lx1.toInt = s) {lx2 : Int32} (e2 : m_lk lv 2 = some (.int lx2)) (lq2 : lx2.toInt = i) {sx0 : Int32} (sq0 : sx0.toInt = d) (i0 : 0 ≤ i) (i1 : i ≤ 5)
    (g0 : ∀ x4 : Int32, x4.toInt = 0 → ∀ lv1 : List (Nat × Value), V 54 (i).toNat ≠ (-1) → d = 0 → Q (some (.int x4)) h)
    (g1 : ∀ lv1 : List (Nat × Value), m_lk lv1 0 = some (.ref m) → m_lk lv1 1 = some (.int lx1) → m_lk lv1 2 = some (.int lx2) → V 54 (i).toNat ≠ (-1) → d ≠ 0 → HJ 260 0 (lv_args 0 [.ref m, .int lx2, .int sx0]) [] h (fun v h' => HJ 258 43 lv1 (v.toList ++ []) h' Q))
    (g2 : ∀ x5 : Int32, x5.toInt = i + 1 → ∀ lv5 : List (Nat × Value), m_lk lv5 0 = some (.ref m) → m_lk lv5 1 = some (.int lx1) → m_lk lv5 2 = some (.int x5) → V 54 (i).toNat = (-1) → d = 0 → HJ 258 2 lv5 [] h Q)
    (g3 : ∀ x6 : Int32, x6.toInt = 0 → ∀ lv1 : List (Nat × Value), V 54 (i).toNat = (-1) → d ≠ 0 → Q (some (.int x6)) h)
    : HJ 258 15 lv [.int sx0] h Q := by
  refine hM_si (k := 3) rfl (by decide +kernel) rfl (fun lv1 e1_3 u1 => ?_) -- 15
  have e1_0 := u1 0 _ (by decide) (Or.inl rfl) e0
  have e1_1 := u1 1 _ (by decide) (Or.inl rfl) e1
  have e1_2 := u1 2 _ (by decide) (Or.inl rfl) e2
  refine hI_al (k := 0) rfl e1_0 rfl ?_ -- 16
  refine hM_ga M (by decide) rfl rfl (k := 54) (c := 9) rfl rfl rfl (by decide +kernel) rfl ?_ -- 17
  refine hI_il (k := 2) rfl e1_2 rfl ?_ -- 20
  refine hM_ia M (by decide) (K := 54) (R2 := 85) (L := 6) (H := 6) (lo := (-2147483648)) (hi := 2147483647) rfl (by decide) rfl rfl (fun _ => rfl) rfl lq2 (by omega) (by omega) rfl (fun x2 q2 a2 b2 => ?_) -- 21
  refine hM_ic (n := (-1)) rfl (by decide) rfl (fun x3 q3 => ?_) -- 22
  refine hM_cne (off := 10) (t := 33) rfl q2 q3 (by decide) rfl (fun c23 => ?_) (fun c23 => ?_) -- 23
  · refine hI_il (k := 3) rfl e1_3 rfl ?_ -- 33
    refine hM_zeq (off := 18) (t := 52) rfl sq0 (by decide) rfl (fun c34 => ?_) (fun c34 => ?_) -- 34
    · refine hM_ic (n := 0) rfl (by decide) rfl (fun x4 q4 => ?_) -- 52
      refine hM_rb rfl rfl q4 (by omega) (by omega) ?_ -- 53
      exact g0 x4 q4 lv1 c23 c34
    · refine hI_al (k := 0) rfl e1_0 rfl ?_ -- 37
      refine hI_il (k := 2) rfl e1_2 rfl ?_ -- 38
      refine hI_il (k := 3) rfl e1_3 rfl ?_ -- 39
      refine hM_iv M (by decide) rfl rfl (by decide) (as := [.int lx2, .int sx0]) (r := []) rfl rfl (by decide +kernel) rfl (by decide +kernel) rfl rfl rfl rfl rfl ?_ -- 40
      exact g1 lv1 e1_0 e1_1 e1_2 c23 c34
  · refine hI_il (k := 3) rfl e1_3 rfl ?_ -- 26
    refine hM_zeq (off := 27) (t := 54) rfl sq0 (by decide) rfl (fun c27 => ?_) (fun c27 => ?_) -- 27
    · refine hM_inc (k := 2) (z := 1) rfl e1_2 lq2 (by decide) (by omega) (by omega) (by decide +kernel) rfl (fun lv5 x5 q5 e5_2 u5 => ?_) -- 54
      have e5_0 := u5 0 _ (by decide) (Or.inl rfl) e1_0
      have e5_1 := u5 1 _ (by decide) (Or.inl rfl) e1_1
      have e5_3 := u5 3 _ (by decide) (Or.inl rfl) e1_3
      refine hI_go (pc' := 2) (off := (-55)) rfl (by decide) ?_ -- 57
      exact g2 x5 q5 lv5 e5_0 e5_1 e5_2 c23 c27
    · refine hI_go (pc' := 52) (off := 22) rfl (by decide) ?_ -- 30
      refine hM_ic (n := 0) rfl (by decide) rfl (fun x6 q6 => ?_) -- 52
      refine hM_rb rfl rfl q6 (by omega) (by omega) ?_ -- 53
      exact g3 x6 q6 lv1 c23 c27
theorem s_it43 {s i y : Int} (M : MX 49 W ρ m A h0 h F V G) (e0 : m_lk lv 0 = some (.ref m)) {lx1 : Int32} (e1 : m_lk lv 1 = some (.int lx1)) (lq1 : lx1.toInt = s) {lx2 : Int32} (e2 : m_lk lv 2 = some (.int lx2)) (lq2 : lx2.toInt = i) {sx0 : Int32} (sq0 : sx0.toInt = y) (i0 : 0 ≤ i) (i1 : i ≤ 5)
    (g0 : ∀ x2 : Int32, x2.toInt = i + 1 → ∀ lv2 : List (Nat × Value), m_lk lv2 0 = some (.ref m) → m_lk lv2 1 = some (.int lx1) → m_lk lv2 2 = some (.int x2) → y = V 54 (i).toNat → HJ 258 2 lv2 [] h Q)
    (g1 : ∀ x3 : Int32, x3.toInt = 0 → y ≠ V 54 (i).toNat → Q (some (.int x3)) h)
    : HJ 258 43 lv [.int sx0] h Q := by
  refine hI_al (k := 0) rfl e0 rfl ?_ -- 43
  refine hM_ga M (by decide) rfl rfl (k := 54) (c := 9) rfl rfl rfl (by decide +kernel) rfl ?_ -- 44
  refine hI_il (k := 2) rfl e2 rfl ?_ -- 47
  refine hM_ia M (by decide) (K := 54) (R2 := 85) (L := 6) (H := 6) (lo := (-2147483648)) (hi := 2147483647) rfl (by decide) rfl rfl (fun _ => rfl) rfl lq2 (by omega) (by omega) rfl (fun x1 q1 a1 b1 => ?_) -- 48
  refine hM_ceq (off := 5) (t := 54) rfl sq0 q1 (by decide) rfl (fun c49 => ?_) (fun c49 => ?_) -- 49
  · refine hM_inc (k := 2) (z := 1) rfl e2 lq2 (by decide) (by omega) (by omega) (by decide +kernel) rfl (fun lv2 x2 q2 e2_2 u2 => ?_) -- 54
    have e2_0 := u2 0 _ (by decide) (Or.inl rfl) e0
    have e2_1 := u2 1 _ (by decide) (Or.inl rfl) e1
    refine hI_go (pc' := 2) (off := (-55)) rfl (by decide) ?_ -- 57
    exact g0 x2 q2 lv2 e2_0 e2_1 e2_2 c49
  · refine hM_ic (n := 0) rfl (by decide) rfl (fun x3 q3 => ?_) -- 52
    refine hM_rb rfl rfl q3 (by omega) (by omega) ?_ -- 53
    exact g1 x3 q3 c49
theorem l_it {s : Int} {xs : Int32} (M : MX 49 W ρ m A h0 h F V G) (hs : xs.toInt = s) (g : ∀ x : Int32, Q (some (.int x)) h) : ∀ (d i : Nat) (lv : List (Nat × Value)) (xi : Int32), i + d = 6 → xi.toInt = (i : Int) → m_lk lv 0 = some (.ref m) → m_lk lv 1 = some (.int xs) → m_lk lv 2 = some (.int xi) → HJ 258 2 lv [] h Q := by
  intro d
  induction d with
  | zero =>
    intro i lv xi hd hi e0 e1 e2
    exact s_it2 M e0 e1 hs e2 hi (fun x _ _ _ _ => g x) (fun a1 b1 c7 => by omega)
  | succ d ih =>
    intro i lv xi hd hi e0 e1 e2
    refine s_it2 M e0 e1 hs e2 hi (fun x _ _ _ _ => g x) (fun a1 b1 c7 => c_dig (fun z z0 z1 => ?_))
    refine s_it15 (d := z.toInt) M e0 e1 hs e2 hi rfl (by omega) (by omega) (fun x _ _ _ _ => g x) (fun lv1 d0 d1 d2 _ _ => ?_) (fun x5 q5 lv5 d0 d1 d2 _ _ => ih (i + 1) lv5 x5 (by omega) (by omega) d0 d1 d2) (fun x _ _ _ _ => g x)
    refine c_key M hi rfl (by omega) (by omega) (fun y => ?_)
    exact s_it43 (y := y.toInt) M d0 d1 hs d2 hi rfl (by omega) (by omega) (fun x2 q2 lv2 b0 b1 b2 _ => ih (i + 1) lv2 x2 (by omega) (by omega) b0 b1 b2) (fun x _ _ => g x)
theorem c_isThere {s : Int} {xs : Int32} (M : MX 49 W ρ m A h0 h F V G) (hs : xs.toInt = s) (g : ∀ x : Int32, Q (some (.int x)) h) : HJ 258 0 (lv_args 0 [.ref m, .int xs]) [] h Q :=
  s_it0 M rfl rfl hs (fun x1 q1 lv2 e0 e1 e2 => l_it M hs g 6 0 lv2 x1 rfl q1 e0 e1 e2)
theorem s_le0 {s : Int} (M : MX 49 W ρ m A h0 h F V G) (e0 : m_lk lv 0 = some (.ref m)) {lx1 : Int32} (e1 : m_lk lv 1 = some (.int lx1)) (lq1 : lx1.toInt = s) 
    (g0 : ∀ x1 : Int32, x1.toInt = (-1) → ∀ x3 : Int32, x3.toInt = 0 → ∀ lv4 : List (Nat × Value), m_lk lv4 0 = some (.ref m) → m_lk lv4 1 = some (.int lx1) → m_lk lv4 2 = some (.int x1) → m_lk lv4 3 = some (.int x3) → HJ 261 4 lv4 [] h Q)
    : HJ 261 0 lv [] h Q := by
  refine hM_ic (n := (-1)) rfl (by decide) rfl (fun x1 q1 => ?_) -- 0
  refine hM_si (k := 2) rfl (by decide +kernel) rfl (fun lv2 e2_2 u2 => ?_) -- 1
  have e2_0 := u2 0 _ (by decide) (Or.inl rfl) e0
  have e2_1 := u2 1 _ (by decide) (Or.inl rfl) e1
  refine hM_ic (n := 0) rfl (by decide) rfl (fun x3 q3 => ?_) -- 2
  refine hM_si (k := 3) rfl (by decide +kernel) rfl (fun lv4 e4_3 u4 => ?_) -- 3
  have e4_0 := u4 0 _ (by decide) (Or.inl rfl) e2_0
  have e4_1 := u4 1 _ (by decide) (Or.inl rfl) e2_1
  have e4_2 := u4 2 _ (by decide) (Or.inl rfl) e2_2
  exact g0 x1 q1 x3 q3 lv4 e4_0 e4_1 e4_2 e4_3
theorem s_le4 {s b i : Int} (M : MX 49 W ρ m A h0 h F V G) (e0 : m_lk lv 0 = some (.ref m)) {lx1 : Int32} (e1 : m_lk lv 1 = some (.int lx1)) (lq1 : lx1.toInt = s) {lx2 : Int32} (e2 : m_lk lv 2 = some (.int lx2)) (lq2 : lx2.toInt = b) {lx3 : Int32} (e3 : m_lk lv 3 = some (.int lx3)) (lq3 : lx3.toInt = i) 
    (g0 : ∀ x3 : Int32, x3.toInt = 0 → 0 ≤ F 51 → F 51 ≤ 6 → i ≥ F 51 → b ≠ (-1) → HJ 256 0 (lv_args 0 [.int lx1, .int lx2, .int x3]) [] h (fun v h' => HJ 261 105 lv (v.toList ++ []) h' Q))
    (g1 : 0 ≤ F 51 → F 51 ≤ 6 → i ≥ F 51 → b = (-1) → Q (some (.int lx1)) h)
    (g2 : 0 ≤ F 51 → F 51 ≤ 6 → i < F 51 → HJ 259 0 (lv_args 0 [.int lx1, .int lx3]) [] h (fun v h' => HJ 261 17 lv (v.toList ++ []) h' Q))
    : HJ 261 4 lv [] h Q := by
  refine hI_il (k := 3) rfl e3 rfl ?_ -- 4
  refine hI_al (k := 0) rfl e0 rfl ?_ -- 5
  refine hM_gi M (by decide) rfl rfl rfl (k := 51) (c := 9) (lo := 0) (hi := 6) rfl rfl rfl rfl rfl (fun x1 q1 a1 b1 => ?_) -- 6
  refine hM_cge (off := 81) (t := 90) rfl lq3 q1 (by decide) rfl (fun c9 => ?_) (fun c9 => ?_) -- 9
  · refine hI_il (k := 2) rfl e2 rfl ?_ -- 90
    refine hM_ic (n := (-1)) rfl (by decide) rfl (fun x2 q2 => ?_) -- 91
    refine hM_cne (off := 7) (t := 99) rfl lq2 q2 (by decide) rfl (fun c92 => ?_) (fun c92 => ?_) -- 92
    · refine hI_il (k := 1) rfl e1 rfl ?_ -- 99
      refine hI_il (k := 2) rfl e2 rfl ?_ -- 100
      refine hM_ic (n := 0) rfl (by decide) rfl (fun x3 q3 => ?_) -- 101
      refine hM_is0 (as := [.int lx1, .int lx2, .int x3]) (r := []) rfl rfl (by decide +kernel) rfl rfl rfl rfl rfl ?_ -- 102
      exact g0 x3 q3 a1 b1 c9 c92
    · refine hI_il (k := 1) rfl e1 rfl ?_ -- 95
      refine hI_go (pc' := 105) (off := 9) rfl (by decide) ?_ -- 96
      refine hI_ri rfl rfl ?_ -- 105
      exact g1 a1 b1 c9 c92
  · refine hI_il (k := 1) rfl e1 rfl ?_ -- 12
    refine hI_il (k := 3) rfl e3 rfl ?_ -- 13
    refine hM_is0 (as := [.int lx1, .int lx3]) (r := []) rfl rfl (by decide +kernel) rfl rfl rfl rfl rfl ?_ -- 14
    exact g2 a1 b1 c9
theorem s_le17 {s b i d : Int} (M : MX 49 W ρ m A h0 h F V G) (e0 : m_lk lv 0 = some (.ref m)) {lx1 : Int32} (e1 : m_lk lv 1 = some (.int lx1)) (lq1 : lx1.toInt = s) {lx2 : Int32} (e2 : m_lk lv 2 = some (.int lx2)) (lq2 : lx2.toInt = b) {lx3 : Int32} (e3 : m_lk lv 3 = some (.int lx3)) (lq3 : lx3.toInt = i) {sx0 : Int32} (sq0 : sx0.toInt = d) (i0 : 0 ≤ i) (i1 : i ≤ 5)
    (g0 : ∀ x2 : Int32, x2.toInt = i + 1 → ∀ lv2 : List (Nat × Value), m_lk lv2 0 = some (.ref m) → m_lk lv2 1 = some (.int lx1) → m_lk lv2 2 = some (.int lx2) → m_lk lv2 3 = some (.int x2) → d = 0 → HJ 261 4 lv2 [] h Q)
    (g1 : ∀ lv1 : List (Nat × Value), m_lk lv1 0 = some (.ref m) → m_lk lv1 1 = some (.int lx1) → m_lk lv1 2 = some (.int lx2) → m_lk lv1 3 = some (.int lx3) → d ≠ 0 → b ≠ (-1) → HJ 260 0 (lv_args 0 [.ref m, .int lx3, .int sx0]) [] h (fun v h' => HJ 261 40 lv1 (v.toList ++ []) h' Q))
    (g2 : ∀ x7 : Int32, x7.toInt = i + 1 → ∀ lv7 : List (Nat × Value), m_lk lv7 0 = some (.ref m) → m_lk lv7 1 = some (.int lx1) → m_lk lv7 2 = some (.int lx3) → m_lk lv7 3 = some (.int x7) → d ≠ 0 → b = (-1) → HJ 261 4 lv7 [] h Q)
    : HJ 261 17 lv [.int sx0] h Q := by
  refine hM_si2 (k := 4) rfl (by decide +kernel) rfl (fun lv1 e1_4 u1 => ?_) -- 17
  have e1_0 := u1 0 _ (by decide) (Or.inl rfl) e0
  have e1_1 := u1 1 _ (by decide) (Or.inl rfl) e1
  have e1_2 := u1 2 _ (by decide) (Or.inl rfl) e2
  have e1_3 := u1 3 _ (by decide) (Or.inl rfl) e3
  refine hI_il2 (k := 4) rfl e1_4 rfl ?_ -- 19
  refine hM_zeq (off := 63) (t := 84) rfl sq0 (by decide) rfl (fun c21 => ?_) (fun c21 => ?_) -- 21
  · refine hM_inc (k := 3) (z := 1) rfl e1_3 lq3 (by decide) (by omega) (by omega) (by decide +kernel) rfl (fun lv2 x2 q2 e2_3 u2 => ?_) -- 84
    have e2_0 := u2 0 _ (by decide) (Or.inl rfl) e1_0
    have e2_1 := u2 1 _ (by decide) (Or.inl rfl) e1_1
    have e2_2 := u2 2 _ (by decide) (Or.inl rfl) e1_2
    have e2_4 := u2 4 _ (by decide) (Or.inl rfl) e1_4
    refine hI_go (pc' := 4) (off := (-83)) rfl (by decide) ?_ -- 87
    exact g0 x2 q2 lv2 e2_0 e2_1 e2_2 e2_3 c21
  · refine hI_il (k := 2) rfl e1_2 rfl ?_ -- 24
    refine hM_ic (n := (-1)) rfl (by decide) rfl (fun x3 q3 => ?_) -- 25
    refine hM_cne (off := 7) (t := 33) rfl lq2 q3 (by decide) rfl (fun c26 => ?_) (fun c26 => ?_) -- 26
    · refine hI_al (k := 0) rfl e1_0 rfl ?_ -- 33
      refine hI_il (k := 3) rfl e1_3 rfl ?_ -- 34
      refine hI_il2 (k := 4) rfl e1_4 rfl ?_ -- 35
      refine hM_iv M (by decide) rfl rfl (by decide) (as := [.int lx3, .int sx0]) (r := []) rfl rfl (by decide +kernel) rfl (by decide +kernel) rfl rfl rfl rfl rfl ?_ -- 37
      exact g1 lv1 e1_0 e1_1 e1_2 e1_3 c21 c26
    · refine hM_ic (n := (-1)) rfl (by decide) rfl (fun x4 q4 => ?_) -- 29
      refine hI_go (pc' := 51) (off := 21) rfl (by decide) ?_ -- 30
      refine hM_si2 (k := 5) rfl (by decide +kernel) rfl (fun lv5 e5_5 u5 => ?_) -- 51
      have e5_0 := u5 0 _ (by decide) (Or.inl rfl) e1_0
      have e5_1 := u5 1 _ (by decide) (Or.inl rfl) e1_1
      have e5_2 := u5 2 _ (by decide) (Or.inl rfl) e1_2
      have e5_3 := u5 3 _ (by decide) (Or.inl rfl) e1_3
      have e5_4 := u5 4 _ (by decide) (Or.inl rfl) e1_4
      refine hI_il2 (k := 5) rfl e5_5 rfl ?_ -- 53
      refine hM_zlt (off := 23) (t := 78) rfl q4 (by decide) rfl (fun c55 => ?_) (fun c55 => ?_) -- 55
      · refine hI_il (k := 3) rfl e5_3 rfl ?_ -- 78
        refine hI_go (pc' := 83) (off := 4) rfl (by decide) ?_ -- 79
        refine hM_si (k := 2) rfl (by decide +kernel) rfl (fun lv6 e6_2 u6 => ?_) -- 83
        have e6_0 := u6 0 _ (by decide) (Or.inl rfl) e5_0
        have e6_1 := u6 1 _ (by decide) (Or.inl rfl) e5_1
        have e6_3 := u6 3 _ (by decide) (Or.inl rfl) e5_3
        have e6_4 := u6 4 _ (by decide) (Or.inl rfl) e5_4
        have e6_5 := u6 5 _ (by decide) (Or.inl rfl) e5_5
        refine hM_inc (k := 3) (z := 1) rfl e6_3 lq3 (by decide) (by omega) (by omega) (by decide +kernel) rfl (fun lv7 x7 q7 e7_3 u7 => ?_) -- 84
        have e7_0 := u7 0 _ (by decide) (Or.inl rfl) e6_0
        have e7_1 := u7 1 _ (by decide) (Or.inl rfl) e6_1
        have e7_4 := u7 4 _ (by decide) (Or.inl rfl) e6_4
        have e7_5 := u7 5 _ (by decide) (Or.inl rfl) e6_5
        have e7_2 := u7 2 _ (by decide) (Or.inl rfl) e6_2
        refine hI_go (pc' := 4) (off := (-83)) rfl (by decide) ?_ -- 87
        exact g2 x7 q7 lv7 e7_0 e7_1 e7_2 e7_3 c21 c26
      · exfalso; omega
theorem s_le40 {s b i y : Int} (M : MX 49 W ρ m A h0 h F V G) (e0 : m_lk lv 0 = some (.ref m)) {lx1 : Int32} (e1 : m_lk lv 1 = some (.int lx1)) (lq1 : lx1.toInt = s) {lx2 : Int32} (e2 : m_lk lv 2 = some (.int lx2)) (lq2 : lx2.toInt = b) {lx3 : Int32} (e3 : m_lk lv 3 = some (.int lx3)) (lq3 : lx3.toInt = i) {sx0 : Int32} (sq0 : sx0.toInt = y) 
    (g0 : HJ 259 0 (lv_args 0 [.int lx1, .int lx2]) [] h (fun v h' => HJ 261 47 lv (v.toList ++ [.int lx2, .ref m, .int sx0]) h' Q))
    : HJ 261 40 lv [.int sx0] h Q := by
  refine hI_al (k := 0) rfl e0 rfl ?_ -- 40
  refine hI_il (k := 2) rfl e2 rfl ?_ -- 41
  refine hI_il (k := 1) rfl e1 rfl ?_ -- 42
  refine hI_il (k := 2) rfl e2 rfl ?_ -- 43
  refine hM_is0 (as := [.int lx1, .int lx2]) (r := [.int lx2, .ref m, .int sx0]) rfl rfl (by decide +kernel) rfl rfl rfl rfl rfl ?_ -- 44
  exact g0 
theorem s_le47 {s b i y d : Int} (M : MX 49 W ρ m A h0 h F V G) (e0 : m_lk lv 0 = some (.ref m)) {lx1 : Int32} (e1 : m_lk lv 1 = some (.int lx1)) (lq1 : lx1.toInt = s) {lx2 : Int32} (e2 : m_lk lv 2 = some (.int lx2)) (lq2 : lx2.toInt = b) {lx3 : Int32} (e3 : m_lk lv 3 = some (.int lx3)) (lq3 : lx3.toInt = i) {sx0 : Int32} (sq0 : sx0.toInt = y) {sx2 : Int32} (sq2 : sx2.toInt = b) {sx3 : Int32} (sq3 : sx3.toInt = d) 
    (g0 : HJ 260 0 (lv_args 0 [.ref m, .int sx2, .int sx3]) [] h (fun v h' => HJ 261 50 lv (v.toList ++ [.int sx0]) h' Q))
    : HJ 261 47 lv [.int sx3, .int sx2, .ref m, .int sx0] h Q := by
  refine hM_iv M (by decide) rfl rfl (by decide) (as := [.int sx2, .int sx3]) (r := [.int sx0]) rfl rfl (by decide +kernel) rfl (by decide +kernel) rfl rfl rfl rfl rfl ?_ -- 47
  exact g0 
theorem s_le50 {s b i y z : Int} (M : MX 49 W ρ m A h0 h F V G) (e0 : m_lk lv 0 = some (.ref m)) {lx1 : Int32} (e1 : m_lk lv 1 = some (.int lx1)) (lq1 : lx1.toInt = s) {lx2 : Int32} (e2 : m_lk lv 2 = some (.int lx2)) (lq2 : lx2.toInt = b) {lx3 : Int32} (e3 : m_lk lv 3 = some (.int lx3)) (lq3 : lx3.toInt = i) {sx0 : Int32} (sq0 : sx0.toInt = y) {sx1 : Int32} (sq1 : sx1.toInt = z) (i0 : 0 ≤ i) (i1 : i ≤ 5) (b0 : 0 ≤ b) (b1 : b ≤ 5)
    (g0 : ∀ z1 : Int, -2147483648 ≤ z1 → z1 ≤ 2147483647 → ∀ x4 : Int32, x4.toInt = i + 1 → ∀ lv4 : List (Nat × Value), m_lk lv4 0 = some (.ref m) → m_lk lv4 1 = some (.int lx1) → m_lk lv4 2 = some (.int lx3) → m_lk lv4 3 = some (.int x4) → z1 < 0 → HJ 261 4 lv4 [] h Q)
    (g1 : ∀ z1 : Int, -2147483648 ≤ z1 → z1 ≤ 2147483647 → ∀ x6 : Int32, x6.toInt = i + 1 → ∀ lv6 : List (Nat × Value), m_lk lv6 0 = some (.ref m) → m_lk lv6 1 = some (.int lx1) → m_lk lv6 2 = some (.int lx2) → m_lk lv6 3 = some (.int x6) → z1 ≥ 0 → z1 ≠ 0 → HJ 261 4 lv6 [] h Q)
    (g2 : ∀ z1 : Int, -2147483648 ≤ z1 → z1 ≤ 2147483647 → ∀ x10 : Int32, x10.toInt = i + 1 → ∀ lv10 : List (Nat × Value), m_lk lv10 0 = some (.ref m) → m_lk lv10 1 = some (.int lx1) → m_lk lv10 2 = some (.int lx2) → m_lk lv10 3 = some (.int x10) → z1 ≥ 0 → z1 = 0 → V 52 (i).toNat ≥ V 52 (b).toNat → HJ 261 4 lv10 [] h Q)
    (g3 : ∀ z1 : Int, -2147483648 ≤ z1 → z1 ≤ 2147483647 → ∀ x12 : Int32, x12.toInt = i + 1 → ∀ lv12 : List (Nat × Value), m_lk lv12 0 = some (.ref m) → m_lk lv12 1 = some (.int lx1) → m_lk lv12 2 = some (.int lx3) → m_lk lv12 3 = some (.int x12) → z1 ≥ 0 → z1 = 0 → V 52 (i).toNat < V 52 (b).toNat → HJ 261 4 lv12 [] h Q)
    : HJ 261 50 lv [.int sx1, .int sx0] h Q := by
  refine hM_subw rfl rfl (fun x1 z1 q1 a1 b1 => ?_) -- 50
  refine hM_si2 (k := 5) rfl (by decide +kernel) rfl (fun lv2 e2_5 u2 => ?_) -- 51
  have e2_0 := u2 0 _ (by decide) (Or.inl rfl) e0
  have e2_1 := u2 1 _ (by decide) (Or.inl rfl) e1
  have e2_2 := u2 2 _ (by decide) (Or.inl rfl) e2
  have e2_3 := u2 3 _ (by decide) (Or.inl rfl) e3
  refine hI_il2 (k := 5) rfl e2_5 rfl ?_ -- 53
  refine hM_zlt (off := 23) (t := 78) rfl q1 (by decide) rfl (fun c55 => ?_) (fun c55 => ?_) -- 55
  · refine hI_il (k := 3) rfl e2_3 rfl ?_ -- 78
    refine hI_go (pc' := 83) (off := 4) rfl (by decide) ?_ -- 79
    refine hM_si (k := 2) rfl (by decide +kernel) rfl (fun lv3 e3_2 u3 => ?_) -- 83
    have e3_0 := u3 0 _ (by decide) (Or.inl rfl) e2_0
    have e3_1 := u3 1 _ (by decide) (Or.inl rfl) e2_1
    have e3_3 := u3 3 _ (by decide) (Or.inl rfl) e2_3
    have e3_5 := u3 5 _ (by decide) (Or.inl rfl) e2_5
    refine hM_inc (k := 3) (z := 1) rfl e3_3 lq3 (by decide) (by omega) (by omega) (by decide +kernel) rfl (fun lv4 x4 q4 e4_3 u4 => ?_) -- 84
    have e4_0 := u4 0 _ (by decide) (Or.inl rfl) e3_0
    have e4_1 := u4 1 _ (by decide) (Or.inl rfl) e3_1
    have e4_5 := u4 5 _ (by decide) (Or.inl rfl) e3_5
    have e4_2 := u4 2 _ (by decide) (Or.inl rfl) e3_2
    refine hI_go (pc' := 4) (off := (-83)) rfl (by decide) ?_ -- 87
    exact g0 z1 a1 b1 x4 q4 lv4 e4_0 e4_1 e4_2 e4_3 c55
  · refine hI_il2 (k := 5) rfl e2_5 rfl ?_ -- 58
    refine hM_zne (off := 22) (t := 82) rfl q1 (by decide) rfl (fun c60 => ?_) (fun c60 => ?_) -- 60
    · refine hI_il (k := 2) rfl e2_2 rfl ?_ -- 82
      refine hM_si (k := 2) rfl (by decide +kernel) rfl (fun lv5 e5_2 u5 => ?_) -- 83
      have e5_0 := u5 0 _ (by decide) (Or.inl rfl) e2_0
      have e5_1 := u5 1 _ (by decide) (Or.inl rfl) e2_1
      have e5_3 := u5 3 _ (by decide) (Or.inl rfl) e2_3
      have e5_5 := u5 5 _ (by decide) (Or.inl rfl) e2_5
      refine hM_inc (k := 3) (z := 1) rfl e5_3 lq3 (by decide) (by omega) (by omega) (by decide +kernel) rfl (fun lv6 x6 q6 e6_3 u6 => ?_) -- 84
      have e6_0 := u6 0 _ (by decide) (Or.inl rfl) e5_0
      have e6_1 := u6 1 _ (by decide) (Or.inl rfl) e5_1
      have e6_5 := u6 5 _ (by decide) (Or.inl rfl) e5_5
      have e6_2 := u6 2 _ (by decide) (Or.inl rfl) e5_2
      refine hI_go (pc' := 4) (off := (-83)) rfl (by decide) ?_ -- 87
      exact g1 z1 a1 b1 x6 q6 lv6 e6_0 e6_1 e6_2 e6_3 c55 c60
    · refine hI_al (k := 0) rfl e2_0 rfl ?_ -- 63
      refine hM_ga M (by decide) rfl rfl (k := 52) (c := 9) rfl rfl rfl (by decide +kernel) rfl ?_ -- 64
      refine hI_il (k := 3) rfl e2_3 rfl ?_ -- 67
      refine hM_ia M (by decide) (K := 52) (R2 := 83) (L := 6) (H := 6) (lo := (-2147483648)) (hi := 2147483647) rfl (by decide) rfl rfl (fun _ => rfl) rfl lq3 (by omega) (by omega) rfl (fun x7 q7 a7 b7 => ?_) -- 68
      refine hI_al (k := 0) rfl e2_0 rfl ?_ -- 69
      refine hM_ga M (by decide) rfl rfl (k := 52) (c := 9) rfl rfl rfl (by decide +kernel) rfl ?_ -- 70
      refine hI_il (k := 2) rfl e2_2 rfl ?_ -- 73
      refine hM_ia M (by decide) (K := 52) (R2 := 83) (L := 6) (H := 6) (lo := (-2147483648)) (hi := 2147483647) rfl (by decide) rfl rfl (fun _ => rfl) rfl lq2 (by omega) (by omega) rfl (fun x8 q8 a8 b8 => ?_) -- 74
      refine hM_cge (off := 7) (t := 82) rfl q7 q8 (by decide) rfl (fun c75 => ?_) (fun c75 => ?_) -- 75
      · refine hI_il (k := 2) rfl e2_2 rfl ?_ -- 82
        refine hM_si (k := 2) rfl (by decide +kernel) rfl (fun lv9 e9_2 u9 => ?_) -- 83
        have e9_0 := u9 0 _ (by decide) (Or.inl rfl) e2_0
        have e9_1 := u9 1 _ (by decide) (Or.inl rfl) e2_1
        have e9_3 := u9 3 _ (by decide) (Or.inl rfl) e2_3
        have e9_5 := u9 5 _ (by decide) (Or.inl rfl) e2_5
        refine hM_inc (k := 3) (z := 1) rfl e9_3 lq3 (by decide) (by omega) (by omega) (by decide +kernel) rfl (fun lv10 x10 q10 e10_3 u10 => ?_) -- 84
        have e10_0 := u10 0 _ (by decide) (Or.inl rfl) e9_0
        have e10_1 := u10 1 _ (by decide) (Or.inl rfl) e9_1
        have e10_5 := u10 5 _ (by decide) (Or.inl rfl) e9_5
        have e10_2 := u10 2 _ (by decide) (Or.inl rfl) e9_2
        refine hI_go (pc' := 4) (off := (-83)) rfl (by decide) ?_ -- 87
        exact g2 z1 a1 b1 x10 q10 lv10 e10_0 e10_1 e10_2 e10_3 c55 c60 c75
      · refine hI_il (k := 3) rfl e2_3 rfl ?_ -- 78
        refine hI_go (pc' := 83) (off := 4) rfl (by decide) ?_ -- 79
        refine hM_si (k := 2) rfl (by decide +kernel) rfl (fun lv11 e11_2 u11 => ?_) -- 83
        have e11_0 := u11 0 _ (by decide) (Or.inl rfl) e2_0
        have e11_1 := u11 1 _ (by decide) (Or.inl rfl) e2_1
        have e11_3 := u11 3 _ (by decide) (Or.inl rfl) e2_3
        have e11_5 := u11 5 _ (by decide) (Or.inl rfl) e2_5
        refine hM_inc (k := 3) (z := 1) rfl e11_3 lq3 (by decide) (by omega) (by omega) (by decide +kernel) rfl (fun lv12 x12 q12 e12_3 u12 => ?_) -- 84
        have e12_0 := u12 0 _ (by decide) (Or.inl rfl) e11_0
        have e12_1 := u12 1 _ (by decide) (Or.inl rfl) e11_1
        have e12_5 := u12 5 _ (by decide) (Or.inl rfl) e11_5
        have e12_2 := u12 2 _ (by decide) (Or.inl rfl) e11_2
        refine hI_go (pc' := 4) (off := (-83)) rfl (by decide) ?_ -- 87
        exact g3 z1 a1 b1 x12 q12 lv12 e12_0 e12_1 e12_2 e12_3 c55 c60 c75
theorem s_le105 {z : Int} (M : MX 49 W ρ m A h0 h F V G) {sx0 : Int32} (sq0 : sx0.toInt = z) 
    (g0 : Q (some (.int sx0)) h)
    : HJ 261 105 lv [.int sx0] h Q := by
  refine hI_ri rfl rfl ?_ -- 105
  exact g0 
theorem l_le {xs : Int32} (M : MX 49 W ρ m A h0 h F V G) (s0 : 0 ≤ xs.toInt) (s1 : xs.toInt < 4096) (g : ∀ x : Int32, 0 ≤ x.toInt → x.toInt < 4096 → Q (some (.int x)) h) : ∀ (d i : Nat) (lv : List (Nat × Value)) (xb xi : Int32), i + d = 6 → -1 ≤ xb.toInt → xb.toInt ≤ 5 → xi.toInt = (i : Int) → m_lk lv 0 = some (.ref m) → m_lk lv 1 = some (.int xs) → m_lk lv 2 = some (.int xb) → m_lk lv 3 = some (.int xi) → HJ 261 4 lv [] h Q := by
  intro d
  induction d with
  | zero =>
    intro i lv xb xi hd b0 b1 hi e0 e1 e2 e3
    refine s_le4 M e0 e1 rfl e2 rfl e3 hi (fun x3 q3 a1 b1 c9 c92 => ?_) (fun _ _ _ _ => g xs s0 s1) (fun a1 b1 c9 => by omega)
    exact c_with s0 s1 (by omega) (by omega) (by omega) (by omega) (fun z z0 z1 => s_le105 (z := z.toInt) M rfl (g z z0 z1))
  | succ d ih =>
    intro i lv xb xi hd b0 b1 hi e0 e1 e2 e3
    refine s_le4 M e0 e1 rfl e2 rfl e3 hi (fun x3 q3 a1 b1 c9 c92 => ?_) (fun _ _ _ _ => g xs s0 s1) (fun a1 b1 c9 => c_dig (fun z z0 z1 => ?_))
    · exact c_with s0 s1 (by omega) (by omega) (by omega) (by omega) (fun z z0 z1 => s_le105 (z := z.toInt) M rfl (g z z0 z1))
    · refine s_le17 (d := z.toInt) M e0 e1 rfl e2 rfl e3 hi rfl (by omega) (by omega) (fun x2 q2 lv2 d0 d1 d2 d3 _ => ih (i + 1) lv2 xb x2 (by omega) b0 (by omega) (by omega) d0 d1 d2 d3) (fun lv1 d0 d1 d2 d3 _ c26 => ?_) (fun x7 q7 lv7 d0 d1 d2 d3 _ _ => ih (i + 1) lv7 xi x7 (by omega) (by omega) (by omega) (by omega) d0 d1 d2 d3)
      refine c_key M hi rfl (by omega) (by omega) (fun y => ?_)
      refine s_le40 (y := y.toInt) M d0 d1 rfl d2 rfl d3 hi rfl (c_dig (fun z2 z20 z21 => ?_))
      refine s_le47 (y := y.toInt) (d := z2.toInt) M d0 d1 rfl d2 rfl d3 hi rfl rfl rfl ?_
      refine c_key M rfl rfl (by omega) (by omega) (fun y2 => ?_)
      exact s_le50 (y := y.toInt) (z := y2.toInt) M d0 d1 rfl d2 rfl d3 hi rfl rfl (by omega) (by omega) (by omega) (by omega)
        (fun z1 a1 b1 x4 q4 lv4 k0 k1 k2 k3 _ => ih (i + 1) lv4 xi x4 (by omega) (by omega) (by omega) (by omega) k0 k1 k2 k3)
        (fun z1 a1 b1 x4 q4 lv4 k0 k1 k2 k3 _ _ => ih (i + 1) lv4 xb x4 (by omega) b0 (by omega) (by omega) k0 k1 k2 k3)
        (fun z1 a1 b1 x4 q4 lv4 k0 k1 k2 k3 _ _ _ => ih (i + 1) lv4 xb x4 (by omega) b0 (by omega) (by omega) k0 k1 k2 k3)
        (fun z1 a1 b1 x4 q4 lv4 k0 k1 k2 k3 _ _ _ => ih (i + 1) lv4 xi x4 (by omega) (by omega) (by omega) (by omega) k0 k1 k2 k3)
theorem c_lessOf {xs : Int32} (M : MX 49 W ρ m A h0 h F V G) (s0 : 0 ≤ xs.toInt) (s1 : xs.toInt < 4096) (g : ∀ x : Int32, 0 ≤ x.toInt → x.toInt < 4096 → Q (some (.int x)) h) : HJ 261 0 (lv_args 0 [.ref m, .int xs]) [] h Q :=
  s_le0 M rfl rfl rfl (fun x1 q1 x3 q3 lv4 e0 e1 e2 e3 => l_le M s0 s1 g 6 0 lv4 x1 x3 rfl (by omega) (by omega) q3 e0 e1 e2 e3)
-- what the queue is known for
def z_q (F : Nat → Int) (V : Nat → Nat → Int) : Prop := F 57 ≤ z_cm (V 55) 4096 ∧ 0 ≤ F 57 ∧ ∀ j, j < 4096 → V 55 j = -1 ∨ (0 ≤ V 55 j ∧ V 55 j ≤ F 57)
theorem s_ct {s y : Int} (M : MX 49 W ρ m A h0 h F V G) (e0 : m_lk lv 0 = some (.ref m)) {lx1 : Int32} (e1 : m_lk lv 1 = some (.int lx1)) (lq1 : lx1.toInt = s) {lx2 : Int32} (e2 : m_lk lv 2 = some (.int lx2)) (lq2 : lx2.toInt = y) (s0 : 0 ≤ s) (s1 : s < 4096) (q0 : V 55 s.toNat = -1 → F 57 < 4096) (q1 : 0 ≤ F 57) (y0 : -2147483648 ≤ y ∧ y ≤ 2147483647)(hw : d_sub [(86, 1001), (87, 1001), (49, 57)] W = true)
    (g0 : V 55 (s).toNat ≠ (-1) → Q none h)
    (g1 : ∀ h3 : MH, ∀ V3 : Nat → Nat → Int, V3 = m_u V 55 (m_u (V 55) (s).toNat (y)) → ∀ h5 : MH, ∀ V5 : Nat → Nat → Int, V5 = m_u V3 56 (m_u (V3 56) (F 57).toNat (s)) → ∀ h9 : MH, ∀ F9 : Nat → Int, F9 = m_u F 57 ((F 57) + 1) → MX 49 W ρ m A h0 h9 F9 V5 G → V 55 (s).toNat = (-1) → 0 ≤ F 57 → F 57 ≤ 4096 → Q none h9)
    : HJ 257 0 lv [] h Q := by
  refine hI_al (k := 0) rfl e0 rfl ?_ -- 0
  refine hM_ga M (by decide) rfl rfl (k := 55) (c := 9) rfl rfl rfl (by decide +kernel) rfl ?_ -- 1
  refine hI_il (k := 1) rfl e1 rfl ?_ -- 4
  refine hM_ia M (by decide) (K := 55) (R2 := 86) (L := 4096) (H := 4096) (lo := (-2147483648)) (hi := 2147483647) rfl (by decide) rfl rfl (fun _ => rfl) rfl lq1 (by omega) (by omega) rfl (fun x1 q1 a1 b1 => ?_) -- 5
  refine hM_ic (n := (-1)) rfl (by decide) rfl (fun x2 q2 => ?_) -- 6
  refine hM_cne (off := 30) (t := 37) rfl q1 q2 (by decide) rfl (fun c7 => ?_) (fun c7 => ?_) -- 7
  · refine hI_rv rfl rfl ?_
    exact g0 c7
  · refine hI_al (k := 0) rfl e0 rfl ?_ -- 10
    refine hM_ga M (by decide) rfl rfl (k := 55) (c := 9) rfl rfl rfl (by decide +kernel) rfl ?_ -- 11
    refine hI_il (k := 1) rfl e1 rfl ?_ -- 14
    refine hI_il (k := 2) rfl e2 rfl ?_ -- 15
    refine hM_is M (by decide) ok_49 (K := 55) (R2 := 86) (L := 4096) (H := 4096) (lo := (-2147483648)) (hi := 2147483647) rfl (by decide) rfl rfl rfl (fun _ => rfl) (d_subm hw (by decide +kernel)) rfl lq1 lq2 (by omega) (by omega) (by omega) (by omega) rfl (fun h3 V3 f3 M3 => ?_) -- 16
    refine hI_al (k := 0) rfl e0 rfl ?_ -- 17
    refine hM_ga M3 (by decide) rfl rfl (k := 56) (c := 9) rfl rfl rfl (by decide +kernel) rfl ?_ -- 18
    refine hI_al (k := 0) rfl e0 rfl ?_ -- 21
    refine hM_gi M3 (by decide) rfl rfl rfl (k := 57) (c := 9) (lo := 0) (hi := 4096) rfl rfl rfl rfl rfl (fun x4 q4 a4 b4 => ?_) -- 22
    refine hI_il (k := 1) rfl e1 rfl ?_ -- 25
    refine hM_is M3 (by decide) ok_49 (K := 56) (R2 := 87) (L := 4096) (H := 4096) (lo := 0) (hi := 4095) rfl (by decide) rfl rfl rfl (fun _ => rfl) (d_subm hw (by decide +kernel)) rfl q4 lq1 (by omega) (by omega) (by omega) (by omega) rfl (fun h5 V5 f5 M5 => ?_) -- 26
    refine hI_al (k := 0) rfl e0 rfl ?_ -- 27
    refine hI_dup rfl rfl rfl ?_ -- 28
    refine hM_gi M5 (by decide) rfl rfl rfl (k := 57) (c := 9) (lo := 0) (hi := 4096) rfl rfl rfl rfl rfl (fun x6 q6 a6 b6 => ?_) -- 29
    refine hM_ic (n := 1) rfl (by decide) rfl (fun x7 q7 => ?_) -- 32
    refine hM_add rfl q6 q7 (by omega) (by omega) rfl (fun x8 q8 => ?_) -- 33
    refine hM_pi M5 (by decide) ok_49 rfl rfl (k := 57) (c := 9) (lo := 0) (hi := 4096) rfl rfl ⟨by decide, by decide +kernel, rfl⟩ rfl (d_subm hw (by decide +kernel)) q8 (by omega) (by omega) rfl (fun h9 F9 f9 M9 => ?_) -- 34
    refine hI_rv rfl rfl ?_
    exact g1 h3 V3 f3 h5 V5 f5 h9 F9 f9 M9 c7 a4 b4
def g_cts : List (Nat × Nat) := [(86, 1001), (87, 1001), (49, 57)]
theorem c_comes {xs xy : Int32} (M : MX 49 W ρ m A h0 h F V G) (hw : d_sub g_cts W = true) (I : z_q F V) (s0 : 0 ≤ xs.toInt) (s1 : xs.toInt < 4096) (y0 : 0 ≤ xy.toInt) (y1 : xy.toInt ≤ F 57 + 1) (g : ∀ (h' : MH) (F' : Nat → Int) (V' : Nat → Nat → Int), MX 49 W ρ m A h0 h' F' V' G → z_q F' V' → F 57 ≤ F' 57 → (∀ K, K ≠ 57 → F' K = F K) → Q none h') : HJ 257 0 (lv_args 0 [.ref m, .int xs, .int xy]) [] h Q := by
  obtain ⟨i1, i2, i3⟩ := I
  have yT : -2147483648 ≤ xy.toInt ∧ xy.toInt ≤ 2147483647 := g_iT xy
  refine s_ct M rfl rfl rfl rfl rfl s0 s1 (fun z => ?_) i2 yT hw (fun _ => g h F V M ⟨i1, i2, i3⟩ (Int.le_refl _) (fun _ _ => rfl)) (fun h3 V3 f3 h5 V5 f5 h9 F9 f9 M9 c7 _ _ => ?_)
  · have := z_cmS (n := 4096) z (by omega)
    omega
  · have f57 : F9 57 = F 57 + 1 := by rw [f9, m_uE]
    have v55 : V5 55 = m_u (V 55) xs.toInt.toNat xy.toInt := by rw [f5, m_uN _ _ _ _ (by decide), f3, m_uE]
    refine g h9 F9 V5 M9 ⟨?_, by omega, fun j hj => ?_⟩ (by omega) (fun K hK => by rw [f9, m_uN _ _ _ _ hK])
    · rw [v55, z_cmU c7 (by omega) (by omega), f57]
      omega
    · rw [v55, f57]
      by_cases e : j = xs.toInt.toNat
      · rw [e, m_uE]
        exact Or.inr (by omega)
      · rw [m_uN _ _ _ _ e]
        rcases i3 j hj with z | z
        · exact Or.inl z
        · exact Or.inr (by omega)
theorem s_fs0 (M : MX 49 W ρ m A h0 h F V G) (e0 : m_lk lv 0 = some (.ref m)) 
    (g0 : ∀ x1 : Int32, x1.toInt = 0 → ∀ lv2 : List (Nat × Value), m_lk lv2 0 = some (.ref m) → m_lk lv2 1 = some (.int x1) → HJ 255 2 lv2 [] h Q)
    : HJ 255 0 lv [] h Q := by
  refine hM_ic (n := 0) rfl (by decide) rfl (fun x1 q1 => ?_) -- 0
  refine hM_si (k := 1) rfl (by decide +kernel) rfl (fun lv2 e2_1 u2 => ?_) -- 1
  have e2_0 := u2 0 _ (by decide) (Or.inl rfl) e0
  exact g0 x1 q1 lv2 e2_0 e2_1
theorem s_fs2 {i : Int} (M : MX 49 W ρ m A h0 h F V G) (e0 : m_lk lv 0 = some (.ref m)) {lx1 : Int32} (e1 : m_lk lv 1 = some (.int lx1)) (lq1 : lx1.toInt = i) (i0 : 0 ≤ i)(hw : d_sub [(86, 1001)] W = true)
    (g0 : ∀ x2 : Int32, x2.toInt = 0 → ∀ x4 : Int32, x4.toInt = 0 → ∀ lv5 : List (Nat × Value), m_lk lv5 0 = some (.ref m) → m_lk lv5 1 = some (.int x2) → m_lk lv5 2 = some (.int x4) → i ≥ 4096 → HJ 255 26 lv5 [] h Q)
    (g1 : ∀ h7 : MH, ∀ V7 : Nat → Nat → Int, V7 = m_u V 55 (m_u (V 55) (i).toNat ((-1))) → ∀ x8 : Int32, x8.toInt = i + 1 → ∀ lv8 : List (Nat × Value), MX 49 W ρ m A h0 h7 F V7 G → m_lk lv8 0 = some (.ref m) → m_lk lv8 1 = some (.int x8) → i < 4096 → HJ 255 2 lv8 [] h7 Q)
    : HJ 255 2 lv [] h Q := by
  refine hI_il (k := 1) rfl e1 rfl ?_ -- 2
  refine hM_sp (n := 4096) rfl (by decide) rfl (fun x1 q1 => ?_) -- 3
  refine hM_cge (off := 16) (t := 22) rfl lq1 q1 (by decide) rfl (fun c6 => ?_) (fun c6 => ?_) -- 6
  · refine hM_ic (n := 0) rfl (by decide) rfl (fun x2 q2 => ?_) -- 22
    refine hM_si (k := 1) rfl (by decide +kernel) rfl (fun lv3 e3_1 u3 => ?_) -- 23
    have e3_0 := u3 0 _ (by decide) (Or.inl rfl) e0
    refine hM_ic (n := 0) rfl (by decide) rfl (fun x4 q4 => ?_) -- 24
    refine hM_si (k := 2) rfl (by decide +kernel) rfl (fun lv5 e5_2 u5 => ?_) -- 25
    have e5_0 := u5 0 _ (by decide) (Or.inl rfl) e3_0
    have e5_1 := u5 1 _ (by decide) (Or.inl rfl) e3_1
    exact g0 x2 q2 x4 q4 lv5 e5_0 e5_1 e5_2 c6
  · refine hI_al (k := 0) rfl e0 rfl ?_ -- 9
    refine hM_ga M (by decide) rfl rfl (k := 55) (c := 9) rfl rfl rfl (by decide +kernel) rfl ?_ -- 10
    refine hI_il (k := 1) rfl e1 rfl ?_ -- 13
    refine hM_ic (n := (-1)) rfl (by decide) rfl (fun x6 q6 => ?_) -- 14
    refine hM_is M (by decide) ok_49 (K := 55) (R2 := 86) (L := 4096) (H := 4096) (lo := (-2147483648)) (hi := 2147483647) rfl (by decide) rfl rfl rfl (fun _ => rfl) (d_subm hw (by decide +kernel)) rfl lq1 q6 (by omega) (by omega) (by omega) (by omega) rfl (fun h7 V7 f7 M7 => ?_) -- 15
    refine hM_inc (k := 1) (z := 1) rfl e1 lq1 (by decide) (by omega) (by omega) (by decide +kernel) rfl (fun lv8 x8 q8 e8_1 u8 => ?_) -- 16
    have e8_0 := u8 0 _ (by decide) (Or.inl rfl) e0
    refine hI_go (pc' := 2) (off := (-17)) rfl (by decide) ?_ -- 19
    exact g1 h7 V7 f7 x8 q8 lv8 M7 e8_0 e8_1 c6
theorem s_fs26 {b i : Int} (M : MX 49 W ρ m A h0 h F V G) (e0 : m_lk lv 0 = some (.ref m)) {lx1 : Int32} (e1 : m_lk lv 1 = some (.int lx1)) (lq1 : lx1.toInt = b) {lx2 : Int32} (e2 : m_lk lv 2 = some (.int lx2)) (lq2 : lx2.toInt = i) 
    (g0 : 0 ≤ F 51 → F 51 ≤ 6 → i ≥ F 51 → HJ 255 47 lv [] h Q)
    (g1 : ∀ x2 : Int32, x2.toInt = 1 → 0 ≤ F 51 → F 51 ≤ 6 → i < F 51 → HJ 256 0 (lv_args 0 [.int lx1, .int lx2, .int x2]) [] h (fun v h' => HJ 255 40 lv (v.toList ++ []) h' Q))
    : HJ 255 26 lv [] h Q := by
  refine hI_il (k := 2) rfl e2 rfl ?_ -- 26
  refine hI_al (k := 0) rfl e0 rfl ?_ -- 27
  refine hM_gi M (by decide) rfl rfl rfl (k := 51) (c := 9) (lo := 0) (hi := 6) rfl rfl rfl rfl rfl (fun x1 q1 a1 b1 => ?_) -- 28
  refine hM_cge (off := 16) (t := 47) rfl lq2 q1 (by decide) rfl (fun c31 => ?_) (fun c31 => ?_) -- 31
  · exact g0 a1 b1 c31
  · refine hI_il (k := 1) rfl e1 rfl ?_ -- 34
    refine hI_il (k := 2) rfl e2 rfl ?_ -- 35
    refine hM_ic (n := 1) rfl (by decide) rfl (fun x2 q2 => ?_) -- 36
    refine hM_is0 (as := [.int lx1, .int lx2, .int x2]) (r := []) rfl rfl (by decide +kernel) rfl rfl rfl rfl rfl ?_ -- 37
    exact g1 x2 q2 a1 b1 c31
theorem s_fs40 {i z : Int} (M : MX 49 W ρ m A h0 h F V G) (e0 : m_lk lv 0 = some (.ref m)) {lx2 : Int32} (e2 : m_lk lv 2 = some (.int lx2)) (lq2 : lx2.toInt = i) {sx0 : Int32} (sq0 : sx0.toInt = z) (i0 : 0 ≤ i) (i1 : i ≤ 6)
    (g0 : ∀ x2 : Int32, x2.toInt = i + 1 → ∀ lv2 : List (Nat × Value), m_lk lv2 0 = some (.ref m) → m_lk lv2 1 = some (.int sx0) → m_lk lv2 2 = some (.int x2) → HJ 255 26 lv2 [] h Q)
    : HJ 255 40 lv [.int sx0] h Q := by
  refine hM_si (k := 1) rfl (by decide +kernel) rfl (fun lv1 e1_1 u1 => ?_) -- 40
  have e1_0 := u1 0 _ (by decide) (Or.inl rfl) e0
  have e1_2 := u1 2 _ (by decide) (Or.inl rfl) e2
  refine hM_inc (k := 2) (z := 1) rfl e1_2 lq2 (by decide) (by omega) (by omega) (by decide +kernel) rfl (fun lv2 x2 q2 e2_2 u2 => ?_) -- 41
  have e2_0 := u2 0 _ (by decide) (Or.inl rfl) e1_0
  have e2_1 := u2 1 _ (by decide) (Or.inl rfl) e1_1
  refine hI_go (pc' := 26) (off := (-18)) rfl (by decide) ?_ -- 44
  exact g0 x2 q2 lv2 e2_0 e2_1 e2_2
theorem s_fs47 {b : Int} (M : MX 49 W ρ m A h0 h F V G) (e0 : m_lk lv 0 = some (.ref m)) {lx1 : Int32} (e1 : m_lk lv 1 = some (.int lx1)) (lq1 : lx1.toInt = b) (hw : d_sub [(49, 57)] W = true)
    (g0 : ∀ h2 : MH, ∀ F2 : Nat → Int, F2 = m_u F 57 (0) → ∀ x3 : Int32, x3.toInt = 0 → MX 49 W ρ m A h0 h2 F2 V G → HJ 257 0 (lv_args 0 [.ref m, .int lx1, .int x3]) [] h2 (fun v h' => HJ 255 58 lv (v.toList ++ []) h' Q))
    : HJ 255 47 lv [] h Q := by
  refine hI_al (k := 0) rfl e0 rfl ?_ -- 47
  refine hM_ic (n := 0) rfl (by decide) rfl (fun x1 q1 => ?_) -- 48
  refine hM_pi M (by decide) ok_49 rfl rfl (k := 57) (c := 9) (lo := 0) (hi := 4096) rfl rfl ⟨by decide, by decide +kernel, rfl⟩ rfl (d_subm hw (by decide +kernel)) q1 (by omega) (by omega) rfl (fun h2 F2 f2 M2 => ?_) -- 49
  refine hI_al (k := 0) rfl e0 rfl ?_ -- 52
  refine hI_il (k := 1) rfl e1 rfl ?_ -- 53
  refine hM_ic (n := 0) rfl (by decide) rfl (fun x3 q3 => ?_) -- 54
  refine hM_iv M2 (by decide) rfl rfl (by decide) (as := [.int lx1, .int x3]) (r := []) rfl rfl (by decide +kernel) rfl (by decide +kernel) rfl rfl rfl rfl rfl ?_ -- 55
  exact g0 h2 F2 f2 x3 q3 M2
theorem s_fs58 (M : MX 49 W ρ m A h0 h F V G) (e0 : m_lk lv 0 = some (.ref m)) 
    (g0 : ∀ x1 : Int32, x1.toInt = 0 → ∀ lv2 : List (Nat × Value), m_lk lv2 0 = some (.ref m) → m_lk lv2 2 = some (.int x1) → HJ 255 60 lv2 [] h Q)
    : HJ 255 58 lv [] h Q := by
  refine hM_ic (n := 0) rfl (by decide) rfl (fun x1 q1 => ?_) -- 58
  refine hM_si (k := 2) rfl (by decide +kernel) rfl (fun lv2 e2_2 u2 => ?_) -- 59
  have e2_0 := u2 0 _ (by decide) (Or.inl rfl) e0
  exact g0 x1 q1 lv2 e2_0 e2_2
theorem s_fs60 {k : Int} (M : MX 49 W ρ m A h0 h F V G) (e0 : m_lk lv 0 = some (.ref m)) {lx2 : Int32} (e2 : m_lk lv 2 = some (.int lx2)) (lq2 : lx2.toInt = k) (k0 : 0 ≤ k) (k1 : F 57 ≤ 4096) (s1 : ∀ j, j < 4096 → -1 ≤ V 55 j ∧ V 55 j ≤ 4096)
    (g0 : ∀ x2 : Int32, x2.toInt = (-1) → 0 ≤ F 57 → F 57 ≤ 4096 → k ≥ F 57 → Q (some (.int x2)) h)
    (g1 : ∀ x3 : Int32, x3.toInt = V 56 (k).toNat → ∀ x7 : Int32, x7.toInt = (V 55 (V 56 (k).toNat).toNat) + 1 → ∀ lv8 : List (Nat × Value), m_lk lv8 0 = some (.ref m) → m_lk lv8 2 = some (.int lx2) → m_lk lv8 3 = some (.int x3) → m_lk lv8 4 = some (.int x7) → 0 ≤ F 57 → F 57 ≤ 4096 → k < F 57 → 0 ≤ V 56 (k).toNat → V 56 (k).toNat ≤ 4095 → HJ 258 0 (lv_args 0 [.ref m, .int x3]) [] h (fun v h' => HJ 255 90 lv8 (v.toList ++ []) h' Q))
    : HJ 255 60 lv [] h Q := by
  refine hI_il (k := 2) rfl e2 rfl ?_ -- 60
  refine hI_al (k := 0) rfl e0 rfl ?_ -- 61
  refine hM_gi M (by decide) rfl rfl rfl (k := 57) (c := 9) (lo := 0) (hi := 4096) rfl rfl rfl rfl rfl (fun x1 q1 a1 b1 => ?_) -- 62
  refine hM_cge (off := 141) (t := 206) rfl lq2 q1 (by decide) rfl (fun c65 => ?_) (fun c65 => ?_) -- 65
  · refine hM_ic (n := (-1)) rfl (by decide) rfl (fun x2 q2 => ?_) -- 206
    refine hI_ri rfl rfl ?_ -- 207
    exact g0 x2 q2 a1 b1 c65
  · refine hI_al (k := 0) rfl e0 rfl ?_ -- 68
    refine hM_ga M (by decide) rfl rfl (k := 56) (c := 9) rfl rfl rfl (by decide +kernel) rfl ?_ -- 69
    refine hI_il (k := 2) rfl e2 rfl ?_ -- 72
    refine hM_ia M (by decide) (K := 56) (R2 := 87) (L := 4096) (H := 4096) (lo := 0) (hi := 4095) rfl (by decide) rfl rfl (fun _ => rfl) rfl lq2 (by omega) (by omega) rfl (fun x3 q3 a3 b3 => ?_) -- 73
    refine hM_si (k := 3) rfl (by decide +kernel) rfl (fun lv4 e4_3 u4 => ?_) -- 74
    have e4_0 := u4 0 _ (by decide) (Or.inl rfl) e0
    have e4_2 := u4 2 _ (by decide) (Or.inl rfl) e2
    refine hI_al (k := 0) rfl e4_0 rfl ?_ -- 75
    refine hM_ga M (by decide) rfl rfl (k := 55) (c := 9) rfl rfl rfl (by decide +kernel) rfl ?_ -- 76
    refine hI_il (k := 3) rfl e4_3 rfl ?_ -- 79
    refine hM_ia M (by decide) (K := 55) (R2 := 86) (L := 4096) (H := 4096) (lo := (-2147483648)) (hi := 2147483647) rfl (by decide) rfl rfl (fun _ => rfl) rfl q3 (by omega) (by omega) rfl (fun x5 q5 a5 b5 => ?_) -- 80
    have hs := s1 (V 56 (k).toNat).toNat (by omega)
    refine hM_ic (n := 1) rfl (by decide) rfl (fun x6 q6 => ?_) -- 81
    refine hM_add rfl q5 q6 (by omega) (by omega) rfl (fun x7 q7 => ?_) -- 82
    refine hM_si2 (k := 4) rfl (by decide +kernel) rfl (fun lv8 e8_4 u8 => ?_) -- 83
    have e8_0 := u8 0 _ (by decide) (Or.inl rfl) e4_0
    have e8_2 := u8 2 _ (by decide) (Or.inl rfl) e4_2
    have e8_3 := u8 3 _ (by decide) (Or.inl rfl) e4_3
    refine hI_al (k := 0) rfl e8_0 rfl ?_ -- 85
    refine hI_il (k := 3) rfl e8_3 rfl ?_ -- 86
    refine hM_iv M (by decide) rfl rfl (by decide) (as := [.int x3]) (r := []) rfl rfl (by decide +kernel) rfl (by decide +kernel) rfl rfl rfl rfl rfl ?_ -- 87
    exact g1 x3 q3 x7 q7 lv8 e8_0 e8_2 e8_3 e8_4 a1 b1 c65 a3 b3
theorem s_fs90 {k s y z : Int} (M : MX 49 W ρ m A h0 h F V G) (e0 : m_lk lv 0 = some (.ref m)) {lx2 : Int32} (e2 : m_lk lv 2 = some (.int lx2)) (lq2 : lx2.toInt = k) {lx3 : Int32} (e3 : m_lk lv 3 = some (.int lx3)) (lq3 : lx3.toInt = s) {lx4 : Int32} (e4 : m_lk lv 4 = some (.int lx4)) (lq4 : lx4.toInt = y) {sx0 : Int32} (sq0 : sx0.toInt = z) (y0 : 0 ≤ y) (y1 : y ≤ 5000)
    (g0 : z = 0 → HJ 261 0 (lv_args 0 [.ref m, .int lx3]) [] h (fun v h' => HJ 255 104 lv (v.toList ++ [.ref m]) h' Q))
    (g1 : ∀ x2 : Int32, x2.toInt = y - 1 → z ≠ 0 → Q (some (.int x2)) h)
    : HJ 255 90 lv [.int sx0] h Q := by
  refine hM_zeq (off := 8) (t := 98) rfl sq0 (by decide) rfl (fun c90 => ?_) (fun c90 => ?_) -- 90
  · refine hI_al (k := 0) rfl e0 rfl ?_ -- 98
    refine hI_al (k := 0) rfl e0 rfl ?_ -- 99
    refine hI_il (k := 3) rfl e3 rfl ?_ -- 100
    refine hM_iv M (by decide) rfl rfl (by decide) (as := [.int lx3]) (r := [.ref m]) rfl rfl (by decide +kernel) rfl (by decide +kernel) rfl rfl rfl rfl rfl ?_ -- 101
    exact g0 c90
  · refine hI_il2 (k := 4) rfl e4 rfl ?_ -- 93
    refine hM_ic (n := 1) rfl (by decide) rfl (fun x1 q1 => ?_) -- 95
    refine hM_sub rfl lq4 q1 (by omega) (by omega) rfl (fun x2 q2 => ?_) -- 96
    refine hI_ri rfl rfl ?_ -- 97
    exact g1 x2 q2 c90
theorem s_fs104 {k s y z : Int} (M : MX 49 W ρ m A h0 h F V G) (e0 : m_lk lv 0 = some (.ref m)) {lx2 : Int32} (e2 : m_lk lv 2 = some (.int lx2)) (lq2 : lx2.toInt = k) {lx3 : Int32} (e3 : m_lk lv 3 = some (.int lx3)) (lq3 : lx3.toInt = s) {lx4 : Int32} (e4 : m_lk lv 4 = some (.int lx4)) (lq4 : lx4.toInt = y) {sx1 : Int32} (sq1 : sx1.toInt = z) 
    (g0 : HJ 257 0 (lv_args 0 [.ref m, .int sx1, .int lx4]) [] h (fun v h' => HJ 255 109 lv (v.toList ++ []) h' Q))
    : HJ 255 104 lv [.int sx1, .ref m] h Q := by
  refine hI_il2 (k := 4) rfl e4 rfl ?_ -- 104
  refine hM_iv M (by decide) rfl rfl (by decide) (as := [.int sx1, .int lx4]) (r := []) rfl rfl (by decide +kernel) rfl (by decide +kernel) rfl rfl rfl rfl rfl ?_ -- 106
  exact g0 
theorem s_fs109 {k s y : Int} (M : MX 49 W ρ m A h0 h F V G) (e0 : m_lk lv 0 = some (.ref m)) {lx2 : Int32} (e2 : m_lk lv 2 = some (.int lx2)) (lq2 : lx2.toInt = k) {lx3 : Int32} (e3 : m_lk lv 3 = some (.int lx3)) (lq3 : lx3.toInt = s) {lx4 : Int32} (e4 : m_lk lv 4 = some (.int lx4)) (lq4 : lx4.toInt = y) 
    (g0 : ∀ x1 : Int32, x1.toInt = 0 → ∀ lv2 : List (Nat × Value), m_lk lv2 0 = some (.ref m) → m_lk lv2 2 = some (.int lx2) → m_lk lv2 3 = some (.int lx3) → m_lk lv2 4 = some (.int lx4) → m_lk lv2 5 = some (.int x1) → HJ 255 112 lv2 [] h Q)
    : HJ 255 109 lv [] h Q := by
  refine hM_ic (n := 0) rfl (by decide) rfl (fun x1 q1 => ?_) -- 109
  refine hM_si2 (k := 5) rfl (by decide +kernel) rfl (fun lv2 e2_5 u2 => ?_) -- 110
  have e2_0 := u2 0 _ (by decide) (Or.inl rfl) e0
  have e2_2 := u2 2 _ (by decide) (Or.inl rfl) e2
  have e2_3 := u2 3 _ (by decide) (Or.inl rfl) e3
  have e2_4 := u2 4 _ (by decide) (Or.inl rfl) e4
  exact g0 x1 q1 lv2 e2_0 e2_2 e2_3 e2_4 e2_5
theorem s_fs112 {k s y i : Int} (M : MX 49 W ρ m A h0 h F V G) (e0 : m_lk lv 0 = some (.ref m)) {lx2 : Int32} (e2 : m_lk lv 2 = some (.int lx2)) (lq2 : lx2.toInt = k) {lx3 : Int32} (e3 : m_lk lv 3 = some (.int lx3)) (lq3 : lx3.toInt = s) {lx4 : Int32} (e4 : m_lk lv 4 = some (.int lx4)) (lq4 : lx4.toInt = y) {lx5 : Int32} (e5 : m_lk lv 5 = some (.int lx5)) (lq5 : lx5.toInt = i) (k0 : 0 ≤ k) (k1 : k ≤ 4096)
    (g0 : ∀ x2 : Int32, x2.toInt = k + 1 → ∀ lv2 : List (Nat × Value), m_lk lv2 0 = some (.ref m) → m_lk lv2 2 = some (.int x2) → 0 ≤ F 51 → F 51 ≤ 6 → i ≥ F 51 → HJ 255 60 lv2 [] h Q)
    (g1 : 0 ≤ F 51 → F 51 ≤ 6 → i < F 51 → HJ 259 0 (lv_args 0 [.int lx3, .int lx5]) [] h (fun v h' => HJ 255 127 lv (v.toList ++ []) h' Q))
    : HJ 255 112 lv [] h Q := by
  refine hI_il2 (k := 5) rfl e5 rfl ?_ -- 112
  refine hI_al (k := 0) rfl e0 rfl ?_ -- 114
  refine hM_gi M (by decide) rfl rfl rfl (k := 51) (c := 9) (lo := 0) (hi := 6) rfl rfl rfl rfl rfl (fun x1 q1 a1 b1 => ?_) -- 115
  refine hM_cge (off := 82) (t := 200) rfl lq5 q1 (by decide) rfl (fun c118 => ?_) (fun c118 => ?_) -- 118
  · refine hM_inc (k := 2) (z := 1) rfl e2 lq2 (by decide) (by omega) (by omega) (by decide +kernel) rfl (fun lv2 x2 q2 e2_2 u2 => ?_) -- 200
    have e2_0 := u2 0 _ (by decide) (Or.inl rfl) e0
    have e2_3 := u2 3 _ (by decide) (Or.inl rfl) e3
    have e2_4 := u2 4 _ (by decide) (Or.inl rfl) e4
    have e2_5 := u2 5 _ (by decide) (Or.inl rfl) e5
    refine hI_go (pc' := 60) (off := (-143)) rfl (by decide) ?_ -- 203
    exact g0 x2 q2 lv2 e2_0 e2_2 a1 b1 c118
  · refine hI_il (k := 3) rfl e3 rfl ?_ -- 121
    refine hI_il2 (k := 5) rfl e5 rfl ?_ -- 122
    refine hM_is0 (as := [.int lx3, .int lx5]) (r := []) rfl rfl (by decide +kernel) rfl rfl rfl rfl rfl ?_ -- 124
    exact g1 a1 b1 c118
theorem s_fs127 {k s y i d : Int} (M : MX 49 W ρ m A h0 h F V G) (e0 : m_lk lv 0 = some (.ref m)) {lx2 : Int32} (e2 : m_lk lv 2 = some (.int lx2)) (lq2 : lx2.toInt = k) {lx3 : Int32} (e3 : m_lk lv 3 = some (.int lx3)) (lq3 : lx3.toInt = s) {lx4 : Int32} (e4 : m_lk lv 4 = some (.int lx4)) (lq4 : lx4.toInt = y) {lx5 : Int32} (e5 : m_lk lv 5 = some (.int lx5)) (lq5 : lx5.toInt = i) {sx0 : Int32} (sq0 : sx0.toInt = d) 
    (g0 : ∀ lv1 : List (Nat × Value), m_lk lv1 0 = some (.ref m) → m_lk lv1 2 = some (.int lx2) → m_lk lv1 3 = some (.int lx3) → m_lk lv1 4 = some (.int lx4) → m_lk lv1 5 = some (.int lx5) → m_lk lv1 6 = some (.int sx0) → d = 0 → HJ 255 147 lv1 [] h Q)
    (g1 : ∀ x2 : Int32, x2.toInt = 3 → ∀ lv1 : List (Nat × Value), m_lk lv1 0 = some (.ref m) → m_lk lv1 2 = some (.int lx2) → m_lk lv1 3 = some (.int lx3) → m_lk lv1 4 = some (.int lx4) → m_lk lv1 5 = some (.int lx5) → m_lk lv1 6 = some (.int sx0) → d ≠ 0 → HJ 256 0 (lv_args 0 [.int lx3, .int lx5, .int x2]) [] h (fun v h' => HJ 255 142 lv1 (v.toList ++ [.ref m]) h' Q))
    : HJ 255 127 lv [.int sx0] h Q := by
  refine hM_si2 (k := 6) rfl (by decide +kernel) rfl (fun lv1 e1_6 u1 => ?_) -- 127
  have e1_0 := u1 0 _ (by decide) (Or.inl rfl) e0
  have e1_2 := u1 2 _ (by decide) (Or.inl rfl) e2
  have e1_3 := u1 3 _ (by decide) (Or.inl rfl) e3
  have e1_4 := u1 4 _ (by decide) (Or.inl rfl) e4
  have e1_5 := u1 5 _ (by decide) (Or.inl rfl) e5
  refine hI_il2 (k := 6) rfl e1_6 rfl ?_ -- 129
  refine hM_zeq (off := 16) (t := 147) rfl sq0 (by decide) rfl (fun c131 => ?_) (fun c131 => ?_) -- 131
  · exact g0 lv1 e1_0 e1_2 e1_3 e1_4 e1_5 e1_6 c131
  · refine hI_al (k := 0) rfl e1_0 rfl ?_ -- 134
    refine hI_il (k := 3) rfl e1_3 rfl ?_ -- 135
    refine hI_il2 (k := 5) rfl e1_5 rfl ?_ -- 136
    refine hM_ic (n := 3) rfl (by decide) rfl (fun x2 q2 => ?_) -- 138
    refine hM_is0 (as := [.int lx3, .int lx5, .int x2]) (r := [.ref m]) rfl rfl (by decide +kernel) rfl rfl rfl rfl rfl ?_ -- 139
    exact g1 x2 q2 lv1 e1_0 e1_2 e1_3 e1_4 e1_5 e1_6 c131
theorem s_fs142 {k s y i d z : Int} (M : MX 49 W ρ m A h0 h F V G) (e0 : m_lk lv 0 = some (.ref m)) {lx2 : Int32} (e2 : m_lk lv 2 = some (.int lx2)) (lq2 : lx2.toInt = k) {lx3 : Int32} (e3 : m_lk lv 3 = some (.int lx3)) (lq3 : lx3.toInt = s) {lx4 : Int32} (e4 : m_lk lv 4 = some (.int lx4)) (lq4 : lx4.toInt = y) {lx5 : Int32} (e5 : m_lk lv 5 = some (.int lx5)) (lq5 : lx5.toInt = i) {lx6 : Int32} (e6 : m_lk lv 6 = some (.int lx6)) (lq6 : lx6.toInt = d) {sx1 : Int32} (sq1 : sx1.toInt = z) 
    (g0 : HJ 257 0 (lv_args 0 [.ref m, .int sx1, .int lx4]) [] h (fun v h' => HJ 255 147 lv (v.toList ++ []) h' Q))
    : HJ 255 142 lv [.int sx1, .ref m] h Q := by
  refine hI_il2 (k := 4) rfl e4 rfl ?_ -- 142
  refine hM_iv M (by decide) rfl rfl (by decide) (as := [.int sx1, .int lx4]) (r := []) rfl rfl (by decide +kernel) rfl (by decide +kernel) rfl rfl rfl rfl rfl ?_ -- 144
  exact g0 
theorem s_fs147 {k s y i d : Int} (M : MX 49 W ρ m A h0 h F V G) (e0 : m_lk lv 0 = some (.ref m)) {lx2 : Int32} (e2 : m_lk lv 2 = some (.int lx2)) (lq2 : lx2.toInt = k) {lx3 : Int32} (e3 : m_lk lv 3 = some (.int lx3)) (lq3 : lx3.toInt = s) {lx4 : Int32} (e4 : m_lk lv 4 = some (.int lx4)) (lq4 : lx4.toInt = y) {lx5 : Int32} (e5 : m_lk lv 5 = some (.int lx5)) (lq5 : lx5.toInt = i) {lx6 : Int32} (e6 : m_lk lv 6 = some (.int lx6)) (lq6 : lx6.toInt = d) (i0 : 0 ≤ i) (i1 : i ≤ 5)
    (g0 : ∀ x3 : Int32, x3.toInt = i + 1 → ∀ lv3 : List (Nat × Value), m_lk lv3 0 = some (.ref m) → m_lk lv3 2 = some (.int lx2) → m_lk lv3 3 = some (.int lx3) → m_lk lv3 4 = some (.int lx4) → m_lk lv3 5 = some (.int x3) → V 54 (i).toNat = (-1) → HJ 255 112 lv3 [] h Q)
    (g1 : ∀ x4 : Int32, x4.toInt = 2 → V 54 (i).toNat ≠ (-1) → d = 0 → HJ 256 0 (lv_args 0 [.int lx3, .int lx5, .int x4]) [] h (fun v h' => HJ 255 189 lv (v.toList ++ [.ref m]) h' Q))
    (g2 : V 54 (i).toNat ≠ (-1) → d ≠ 0 → HJ 260 0 (lv_args 0 [.ref m, .int lx5, .int lx6]) [] h (fun v h' => HJ 255 171 lv (v.toList ++ []) h' Q))
    : HJ 255 147 lv [] h Q := by
  refine hI_al (k := 0) rfl e0 rfl ?_ -- 147
  refine hM_ga M (by decide) rfl rfl (k := 54) (c := 9) rfl rfl rfl (by decide +kernel) rfl ?_ -- 148
  refine hI_il2 (k := 5) rfl e5 rfl ?_ -- 151
  refine hM_ia M (by decide) (K := 54) (R2 := 85) (L := 6) (H := 6) (lo := (-2147483648)) (hi := 2147483647) rfl (by decide) rfl rfl (fun _ => rfl) rfl lq5 (by omega) (by omega) rfl (fun x1 q1 a1 b1 => ?_) -- 153
  refine hM_ic (n := (-1)) rfl (by decide) rfl (fun x2 q2 => ?_) -- 154
  refine hM_ceq (off := 39) (t := 194) rfl q1 q2 (by decide) rfl (fun c155 => ?_) (fun c155 => ?_) -- 155
  · refine hM_inc (k := 5) (z := 1) rfl e5 lq5 (by decide) (by omega) (by omega) (by decide +kernel) rfl (fun lv3 x3 q3 e3_5 u3 => ?_) -- 194
    have e3_0 := u3 0 _ (by decide) (Or.inl rfl) e0
    have e3_2 := u3 2 _ (by decide) (Or.inl rfl) e2
    have e3_3 := u3 3 _ (by decide) (Or.inl rfl) e3
    have e3_4 := u3 4 _ (by decide) (Or.inl rfl) e4
    have e3_6 := u3 6 _ (by decide) (Or.inl rfl) e6
    refine hI_go (pc' := 112) (off := (-85)) rfl (by decide) ?_ -- 197
    exact g0 x3 q3 lv3 e3_0 e3_2 e3_3 e3_4 e3_5 c155
  · refine hI_il2 (k := 6) rfl e6 rfl ?_ -- 158
    refine hM_zeq (off := 21) (t := 181) rfl lq6 (by decide) rfl (fun c160 => ?_) (fun c160 => ?_) -- 160
    · refine hI_al (k := 0) rfl e0 rfl ?_ -- 181
      refine hI_il (k := 3) rfl e3 rfl ?_ -- 182
      refine hI_il2 (k := 5) rfl e5 rfl ?_ -- 183
      refine hM_ic (n := 2) rfl (by decide) rfl (fun x4 q4 => ?_) -- 185
      refine hM_is0 (as := [.int lx3, .int lx5, .int x4]) (r := [.ref m]) rfl rfl (by decide +kernel) rfl rfl rfl rfl rfl ?_ -- 186
      exact g1 x4 q4 c155 c160
    · refine hI_al (k := 0) rfl e0 rfl ?_ -- 163
      refine hI_il2 (k := 5) rfl e5 rfl ?_ -- 164
      refine hI_il2 (k := 6) rfl e6 rfl ?_ -- 166
      refine hM_iv M (by decide) rfl rfl (by decide) (as := [.int lx5, .int lx6]) (r := []) rfl rfl (by decide +kernel) rfl (by decide +kernel) rfl rfl rfl rfl rfl ?_ -- 168
      exact g2 c155 c160
theorem s_fs171 {k s y i d z : Int} (M : MX 49 W ρ m A h0 h F V G) (e0 : m_lk lv 0 = some (.ref m)) {lx2 : Int32} (e2 : m_lk lv 2 = some (.int lx2)) (lq2 : lx2.toInt = k) {lx3 : Int32} (e3 : m_lk lv 3 = some (.int lx3)) (lq3 : lx3.toInt = s) {lx4 : Int32} (e4 : m_lk lv 4 = some (.int lx4)) (lq4 : lx4.toInt = y) {lx5 : Int32} (e5 : m_lk lv 5 = some (.int lx5)) (lq5 : lx5.toInt = i) {lx6 : Int32} (e6 : m_lk lv 6 = some (.int lx6)) (lq6 : lx6.toInt = d) {sx0 : Int32} (sq0 : sx0.toInt = z) (i0 : 0 ≤ i) (i1 : i ≤ 5)
    (g0 : ∀ x2 : Int32, x2.toInt = i + 1 → ∀ lv2 : List (Nat × Value), m_lk lv2 0 = some (.ref m) → m_lk lv2 2 = some (.int lx2) → m_lk lv2 3 = some (.int lx3) → m_lk lv2 4 = some (.int lx4) → m_lk lv2 5 = some (.int x2) → z < V 54 (i).toNat → HJ 255 112 lv2 [] h Q)
    (g1 : ∀ x3 : Int32, x3.toInt = 2 → z ≥ V 54 (i).toNat → HJ 256 0 (lv_args 0 [.int lx3, .int lx5, .int x3]) [] h (fun v h' => HJ 255 189 lv (v.toList ++ [.ref m]) h' Q))
    : HJ 255 171 lv [.int sx0] h Q := by
  refine hI_al (k := 0) rfl e0 rfl ?_ -- 171
  refine hM_ga M (by decide) rfl rfl (k := 54) (c := 9) rfl rfl rfl (by decide +kernel) rfl ?_ -- 172
  refine hI_il2 (k := 5) rfl e5 rfl ?_ -- 175
  refine hM_ia M (by decide) (K := 54) (R2 := 85) (L := 6) (H := 6) (lo := (-2147483648)) (hi := 2147483647) rfl (by decide) rfl rfl (fun _ => rfl) rfl lq5 (by omega) (by omega) rfl (fun x1 q1 a1 b1 => ?_) -- 177
  refine hM_clt (off := 16) (t := 194) rfl sq0 q1 (by decide) rfl (fun c178 => ?_) (fun c178 => ?_) -- 178
  · refine hM_inc (k := 5) (z := 1) rfl e5 lq5 (by decide) (by omega) (by omega) (by decide +kernel) rfl (fun lv2 x2 q2 e2_5 u2 => ?_) -- 194
    have e2_0 := u2 0 _ (by decide) (Or.inl rfl) e0
    have e2_2 := u2 2 _ (by decide) (Or.inl rfl) e2
    have e2_3 := u2 3 _ (by decide) (Or.inl rfl) e3
    have e2_4 := u2 4 _ (by decide) (Or.inl rfl) e4
    have e2_6 := u2 6 _ (by decide) (Or.inl rfl) e6
    refine hI_go (pc' := 112) (off := (-85)) rfl (by decide) ?_ -- 197
    exact g0 x2 q2 lv2 e2_0 e2_2 e2_3 e2_4 e2_5 c178
  · refine hI_al (k := 0) rfl e0 rfl ?_ -- 181
    refine hI_il (k := 3) rfl e3 rfl ?_ -- 182
    refine hI_il2 (k := 5) rfl e5 rfl ?_ -- 183
    refine hM_ic (n := 2) rfl (by decide) rfl (fun x3 q3 => ?_) -- 185
    refine hM_is0 (as := [.int lx3, .int lx5, .int x3]) (r := [.ref m]) rfl rfl (by decide +kernel) rfl rfl rfl rfl rfl ?_ -- 186
    exact g1 x3 q3 c178
theorem s_fs189 {k s y i z : Int} (M : MX 49 W ρ m A h0 h F V G) (e0 : m_lk lv 0 = some (.ref m)) {lx2 : Int32} (e2 : m_lk lv 2 = some (.int lx2)) (lq2 : lx2.toInt = k) {lx3 : Int32} (e3 : m_lk lv 3 = some (.int lx3)) (lq3 : lx3.toInt = s) {lx4 : Int32} (e4 : m_lk lv 4 = some (.int lx4)) (lq4 : lx4.toInt = y) {lx5 : Int32} (e5 : m_lk lv 5 = some (.int lx5)) (lq5 : lx5.toInt = i) {sx1 : Int32} (sq1 : sx1.toInt = z) 
    (g0 : HJ 257 0 (lv_args 0 [.ref m, .int sx1, .int lx4]) [] h (fun v h' => HJ 255 194 lv (v.toList ++ []) h' Q))
    : HJ 255 189 lv [.int sx1, .ref m] h Q := by
  refine hI_il2 (k := 4) rfl e4 rfl ?_ -- 189
  refine hM_iv M (by decide) rfl rfl (by decide) (as := [.int sx1, .int lx4]) (r := []) rfl rfl (by decide +kernel) rfl (by decide +kernel) rfl rfl rfl rfl rfl ?_ -- 191
  exact g0 
theorem s_fs194 {k s y i : Int} (M : MX 49 W ρ m A h0 h F V G) (e0 : m_lk lv 0 = some (.ref m)) {lx2 : Int32} (e2 : m_lk lv 2 = some (.int lx2)) (lq2 : lx2.toInt = k) {lx3 : Int32} (e3 : m_lk lv 3 = some (.int lx3)) (lq3 : lx3.toInt = s) {lx4 : Int32} (e4 : m_lk lv 4 = some (.int lx4)) (lq4 : lx4.toInt = y) {lx5 : Int32} (e5 : m_lk lv 5 = some (.int lx5)) (lq5 : lx5.toInt = i) (i0 : 0 ≤ i) (i1 : i ≤ 5)
    (g0 : ∀ x1 : Int32, x1.toInt = i + 1 → ∀ lv1 : List (Nat × Value), m_lk lv1 0 = some (.ref m) → m_lk lv1 2 = some (.int lx2) → m_lk lv1 3 = some (.int lx3) → m_lk lv1 4 = some (.int lx4) → m_lk lv1 5 = some (.int x1) → HJ 255 112 lv1 [] h Q)
    : HJ 255 194 lv [] h Q := by
  refine hM_inc (k := 5) (z := 1) rfl e5 lq5 (by decide) (by omega) (by omega) (by decide +kernel) rfl (fun lv1 x1 q1 e1_5 u1 => ?_) -- 194
  have e1_0 := u1 0 _ (by decide) (Or.inl rfl) e0
  have e1_2 := u1 2 _ (by decide) (Or.inl rfl) e2
  have e1_3 := u1 3 _ (by decide) (Or.inl rfl) e3
  have e1_4 := u1 4 _ (by decide) (Or.inl rfl) e4
  refine hI_go (pc' := 112) (off := (-85)) rfl (by decide) ?_ -- 197
  exact g0 x1 q1 lv1 e1_0 e1_2 e1_3 e1_4 e1_5
theorem l_fs112 {k : Int} {xk xs xy : Int32} {a6 : Int} (hw : d_sub g_cts W = true) (a0 : 0 ≤ a6) (a1 : a6 ≤ 6) (k0 : 0 ≤ k) (k1 : k ≤ 4096) (hk : xk.toInt = k) (s0 : 0 ≤ xs.toInt) (s1 : xs.toInt < 4096) (y0 : 0 ≤ xy.toInt) (g : ∀ (lv : List (Nat × Value)) (h : MH) (F : Nat → Int) (V : Nat → Nat → Int) (xk' : Int32), MX 49 W ρ m A h0 h F V G → z_q F V → F 51 = a6 → xk'.toInt = k + 1 → m_lk lv 0 = some (.ref m) → m_lk lv 2 = some (.int xk') → HJ 255 60 lv [] h Q) : ∀ (d i : Nat) (lv : List (Nat × Value)) (h : MH) (F : Nat → Int) (V : Nat → Nat → Int) (xi : Int32), i + d = 6 → MX 49 W ρ m A h0 h F V G → z_q F V → F 51 = a6 → xy.toInt ≤ F 57 + 1 → xi.toInt = (i : Int) → m_lk lv 0 = some (.ref m) → m_lk lv 2 = some (.int xk) → m_lk lv 3 = some (.int xs) → m_lk lv 4 = some (.int xy) → m_lk lv 5 = some (.int xi) → HJ 255 112 lv [] h Q := by
  intro d
  induction d with
  | zero =>
    intro i lv h F V xi hd M I fa y1 hi e0 e2 e3 e4 e5
    exact s_fs112 M e0 e2 hk e3 rfl e4 rfl e5 hi k0 k1 (fun x2 q2 lv2 d0 d2 _ _ _ => g lv2 h F V x2 M I fa q2 d0 d2) (fun _ _ c => by omega)
  | succ d ih =>
    intro i lv h F V xi hd M I fa y1 hi e0 e2 e3 e4 e5
    refine s_fs112 M e0 e2 hk e3 rfl e4 rfl e5 hi k0 k1 (fun x2 q2 lv2 d0 d2 _ _ _ => g lv2 h F V x2 M I fa q2 d0 d2) (fun _ _ c => c_dig (fun z z0 z1 => ?_))
    -- behind the first of both
    have two : ∀ (h : MH) (F : Nat → Int) (V : Nat → Nat → Int) (lv : List (Nat × Value)), MX 49 W ρ m A h0 h F V G → z_q F V → F 51 = a6 → xy.toInt ≤ F 57 + 1 → m_lk lv 0 = some (.ref m) → m_lk lv 2 = some (.int xk) → m_lk lv 3 = some (.int xs) → m_lk lv 4 = some (.int xy) → m_lk lv 5 = some (.int xi) → m_lk lv 6 = some (.int z) → HJ 255 147 lv [] h Q := fun h F V lv M I fa y1 e0 e2 e3 e4 e5 e6 => by
      have last : ∀ (x4 : Int32), x4.toInt = 2 → HJ 256 0 (lv_args 0 [.int xs, .int xi, .int x4]) [] h (fun v h' => HJ 255 189 lv (v.toList ++ [.ref m]) h' Q) := fun x4 q4 => by
        refine c_with s0 s1 (by omega) (by omega) (by omega) (by omega) (fun u u0 u1 => ?_)
        refine s_fs189 (z := u.toInt) M e0 e2 hk e3 rfl e4 rfl e5 hi rfl ?_
        refine c_comes M hw I u0 u1 y0 y1 (fun h' F' V' M' I' f57 fo => ?_)
        exact s_fs194 M' e0 e2 hk e3 rfl e4 rfl e5 hi (by omega) (by omega) (fun x1 q1 lv1 b0 b2 b3 b4 b5 => ih (i + 1) lv1 h' F' V' x1 (by omega) M' I' (by rw [fo 51 (by decide)]; exact fa) (by omega) (by omega) b0 b2 b3 b4 b5)
      refine s_fs147 M e0 e2 hk e3 rfl e4 rfl e5 hi e6 rfl (by omega) (by omega) (fun x3 q3 lv3 b0 b2 b3 b4 b5 _ => ih (i + 1) lv3 h F V x3 (by omega) M I fa y1 (by omega) b0 b2 b3 b4 b5) (fun x4 q4 _ _ => last x4 q4) (fun _ _ => ?_)
      refine c_key M hi rfl (by omega) (by omega) (fun y => ?_)
      exact s_fs171 (z := y.toInt) M e0 e2 hk e3 rfl e4 rfl e5 hi e6 rfl rfl (by omega) (by omega) (fun x2 q2 lv2 b0 b2 b3 b4 b5 _ => ih (i + 1) lv2 h F V x2 (by omega) M I fa y1 (by omega) b0 b2 b3 b4 b5) (fun x3 q3 _ => last x3 q3)
    refine s_fs127 (d := z.toInt) M e0 e2 hk e3 rfl e4 rfl e5 hi rfl (fun lv1 b0 b2 b3 b4 b5 b6 _ => two h F V lv1 M I fa y1 b0 b2 b3 b4 b5 b6) (fun x2 q2 lv1 b0 b2 b3 b4 b5 b6 _ => ?_)
    refine c_with s0 s1 (by omega) (by omega) (by omega) (by omega) (fun u u0 u1 => ?_)
    refine s_fs142 (z := u.toInt) M b0 b2 hk b3 rfl b4 rfl b5 hi b6 rfl rfl ?_
    exact c_comes M hw I u0 u1 y0 y1 (fun h' F' V' M' I' f57 fo => two h' F' V' lv1 M' I' (by rw [fo 51 (by decide)]; exact fa) (by omega) b0 b2 b3 b4 b5 b6)
theorem l_fs60 {a6 : Int} (hw : d_sub g_cts W = true) (a60 : 0 ≤ a6) (a61 : a6 ≤ 6) (g : ∀ (x : Int32) (h' : MH) (F' : Nat → Int) (V' : Nat → Nat → Int), MX 49 W ρ m A h0 h' F' V' G → Q (some (.int x)) h') : ∀ (d k : Nat) (lv : List (Nat × Value)) (h : MH) (F : Nat → Int) (V : Nat → Nat → Int) (xk : Int32), k + d = 4096 → MX 49 W ρ m A h0 h F V G → z_q F V → F 51 = a6 → xk.toInt = (k : Int) → m_lk lv 0 = some (.ref m) → m_lk lv 2 = some (.int xk) → HJ 255 60 lv [] h Q := by
  intro d
  induction d with
  | zero =>
    intro k lv h F V xk hd M I fa hk e0 e2
    have l1 := z_cmL (f := V 55) 4096
    have I' := I
    obtain ⟨i1, i2, i3⟩ := I'
    exact s_fs60 M e0 e2 hk (by omega) (by omega) (fun j hj => by rcases i3 j hj with z | z <;> omega) (fun x _ _ _ _ => g x h F V M) (fun x3 q3 x7 q7 lv8 e8_0 e8_2 e8_3 e8_4 a1 b1 c65 a3 b3 => by omega)
  | succ d ih =>
    intro k lv h F V xk hd M I fa hk e0 e2
    have l1 := z_cmL (f := V 55) 4096
    have I' := I
    obtain ⟨i1, i2, i3⟩ := I'
    refine s_fs60 M e0 e2 hk (by omega) (by omega) (fun j hj => by rcases i3 j hj with z | z <;> omega) (fun x _ _ _ _ => g x h F V M) (fun x3 q3 x7 q7 lv8 d0 d2 d3 d4 a1 b1 c65 a3 b3 => ?_)
    have st := i3 (V 56 (k : Int).toNat).toNat (by omega)
    refine c_isThere M rfl (fun z => ?_)
    refine s_fs90 (z := z.toInt) M d0 d2 hk d3 rfl d4 rfl rfl (by omega) (by omega) (fun _ => ?_) (fun x _ _ => g x h F V M)
    refine c_lessOf M (by omega) (by omega) (fun u u0 u1 => ?_)
    refine s_fs104 (z := u.toInt) M d0 d2 hk d3 rfl d4 rfl rfl ?_
    refine c_comes M hw I u0 u1 (by omega) (by omega) (fun h' F' V' M' I2 f57 fo => ?_)
    refine s_fs109 M' d0 d2 hk d3 rfl d4 rfl (fun x1 q1 lv2 b0 b2 b3 b4 b5 => ?_)
    exact l_fs112 (k := (k : Int)) (xk := xk) (a6 := a6) hw a60 a61 (by omega) (by omega) hk (by omega) (by omega) (by omega) (fun lv9 h9 F9 V9 xk' M9 I9 fa9 q9 c0 c2 => ih (k + 1) lv9 h9 F9 V9 xk' (by omega) M9 I9 fa9 (by omega) c0 c2) 6 0 lv2 h' F' V' x1 rfl M' I2 (by rw [fo 51 (by decide)]; exact fa) (by omega) q1 b0 b2 b3 b4 b5
theorem l_fs26 {a6 : Int} (M : MX 49 W ρ m A h0 h F V G) (fa : F 51 = a6) (g : ∀ (lv : List (Nat × Value)) (xb : Int32), 0 ≤ xb.toInt → xb.toInt < 4096 → m_lk lv 0 = some (.ref m) → m_lk lv 1 = some (.int xb) → HJ 255 47 lv [] h Q) : ∀ (d i : Nat) (lv : List (Nat × Value)) (xb xi : Int32), i + d = 6 → 0 ≤ xb.toInt → xb.toInt < 4096 → xi.toInt = (i : Int) → m_lk lv 0 = some (.ref m) → m_lk lv 1 = some (.int xb) → m_lk lv 2 = some (.int xi) → HJ 255 26 lv [] h Q := by
  intro d
  induction d with
  | zero =>
    intro i lv xb xi hd b0 b1 hi e0 e1 e2
    exact s_fs26 M e0 e1 rfl e2 hi (fun _ _ _ => g lv xb b0 b1 e0 e1) (fun x2 q2 _ _ c => by omega)
  | succ d ih =>
    intro i lv xb xi hd b0 b1 hi e0 e1 e2
    refine s_fs26 M e0 e1 rfl e2 hi (fun _ _ _ => g lv xb b0 b1 e0 e1) (fun x2 q2 _ _ c => ?_)
    refine c_with b0 b1 (by omega) (by omega) (by omega) (by omega) (fun u u0 u1 => ?_)
    exact s_fs40 (z := u.toInt) M e0 e2 hi rfl (by omega) (by omega) (fun x3 q3 lv3 d0 d1 d2 => ih (i + 1) lv3 u x3 (by omega) u0 u1 (by omega) d0 d1 d2)
theorem l_fs2 (hw : d_sub [(86, 1001)] W = true) (g : ∀ (lv : List (Nat × Value)) (h : MH) (V : Nat → Nat → Int) (x1 x2 : Int32), MX 49 W ρ m A h0 h F V G → (∀ j, j < 4096 → V 55 j = -1) → x1.toInt = 0 → x2.toInt = 0 → m_lk lv 0 = some (.ref m) → m_lk lv 1 = some (.int x1) → m_lk lv 2 = some (.int x2) → HJ 255 26 lv [] h Q) : ∀ (d i : Nat) (lv : List (Nat × Value)) (h : MH) (V : Nat → Nat → Int) (xi : Int32), i + d = 4096 → MX 49 W ρ m A h0 h F V G → (∀ j, j < i → V 55 j = -1) → xi.toInt = (i : Int) → m_lk lv 0 = some (.ref m) → m_lk lv 1 = some (.int xi) → HJ 255 2 lv [] h Q := by
  intro d
  induction d with
  | zero =>
    intro i lv h V xi hd M k1 hi e0 e1
    exact s_fs2 M e0 e1 hi (by omega) hw (fun x2 q2 x4 q4 lv5 d0 d1 d2 _ => g lv5 h V x2 x4 M (fun j hj => k1 j (by omega)) q2 q4 d0 d1 d2) (fun h7 V7 f7 x8 q8 lv8 M7 e8_0 e8_1 c6 => by omega)
  | succ d ih =>
    intro i lv h V xi hd M k1 hi e0 e1
    refine s_fs2 M e0 e1 hi (by omega) hw (fun x2 q2 x4 q4 lv5 d0 d1 d2 _ => by omega) (fun h7 V7 f7 x8 q8 lv8 M7 d0 d1 c6 => ?_)
    rw [Int.toNat_natCast] at f7
    refine ih (i + 1) lv8 h7 V7 x8 (by omega) M7 (fun j hj => ?_) (by omega) d0 d1
    rw [f7, m_uE]
    by_cases e : j = i
    · rw [e, m_uE]
    · rw [m_uN _ _ _ _ e]
      exact k1 j (by omega)
theorem c_steps (M : MX 49 W ρ m A h0 h F V G) (b0_ : m_lk lv 0 = some (.ref m)) (hw : d_sub g_cts W = true) (g : ∀ (x : Int32) (h' : MH) (F' : Nat → Int) (V' : Nat → Nat → Int), MX 49 W ρ m A h0 h' F' V' G → Q (some (.int x)) h') : HJ 255 0 lv [] h Q := by
  have w1 : d_sub [(86, 1001)] W = true := d_subm hw (by decide +kernel)
  have w2 : d_sub [(49, 57)] W = true := d_subm hw (by decide +kernel)
  have ab := M.fi (by decide) (k := 51) (lo := 0) (hi := 6) rfl rfl rfl
  refine s_fs0 M b0_ (fun x1 q1 lv2 e0 e1 => ?_)
  refine l_fs2 w1 (fun lv3 h3 V3 y1 y2 M3 k1 p1 p2 d0 d1 d2 => ?_) 4096 0 lv2 h V x1 rfl M (fun j hj => absurd hj (Nat.not_lt_zero j)) q1 e0 e1
  refine l_fs26 (a6 := F 51) M3 rfl (fun lv4 xb b0 b1 c0 c1 => ?_) 6 0 lv3 y1 y2 rfl (by omega) (by omega) p2 d0 d1 d2
  refine s_fs47 M3 c0 c1 rfl w2 (fun h5 F5 f5 x3 q3 M5 => ?_)
  have f57 : F5 57 = 0 := by rw [f5, m_uE]
  refine c_comes M5 hw ⟨by rw [f57]; omega, by omega, fun j hj => Or.inl (k1 j hj)⟩ b0 b1 (by omega) (by omega) (fun h6 F6 V6 M6 I6 _ fo => ?_)
  refine s_fs58 M6 c0 (fun x4 q4 lv7 k0 k2 => ?_)
  exact l_fs60 (a6 := F 51) hw ab.1 ab.2 g 4096 0 lv7 h6 F6 V6 x4 rfl M6 I6 (by rw [fo 51 (by decide), f5, m_uN _ _ _ _ (by decide)]) q4 k0 k2
end
end
section
-- FOLD
section
variable {lv : List (Nat × Value)} {Q : Option Value → MH → Prop} {W : List (Nat × Nat)} {ρ : Nat → Nat} {m : Nat} {A : Nat → Nat} {h0 h : MH} {F : Nat → Int} {V : Nat → Nat → Int} {G : Nat → Nat → Int64}
theorem s_has {k : Int} (M : MX 49 W ρ m A h0 h F V G) {lx0 : Int64} (e0 : m_lk lv 0 = some (.long lx0)) {lx2 : Int32} (e2 : m_lk lv 2 = some (.int lx2)) (lq2 : lx2.toInt = k) 
    (g0 : ∀ x2 : Int32, x2.toInt = 0 → (lg_cmp ((lx0 >>> (lx2.toInt64 &&& 63)) &&& (Int64.ofNat (1 : Fin 2).val)) (Int64.ofNat (1 : Fin 2).val)).toInt ≠ 0 → Q (some (.int x2)) h)
    (g1 : ∀ x3 : Int32, x3.toInt = 1 → (lg_cmp ((lx0 >>> (lx2.toInt64 &&& 63)) &&& (Int64.ofNat (1 : Fin 2).val)) (Int64.ofNat (1 : Fin 2).val)).toInt = 0 → Q (some (.int x3)) h)
    : HJ 232 0 lv [] h Q := by
  refine hI_ll (k := 0) rfl e0 rfl ?_ -- 0
  refine hI_il (k := 2) rfl e2 rfl ?_ -- 1
  refine hI_lshr rfl rfl ?_ -- 2
  refine hI_lc (n := 1) rfl rfl ?_ -- 3
  refine hI_land rfl rfl ?_ -- 4
  refine hI_lc (n := 1) rfl rfl ?_ -- 5
  refine hM_lcmp rfl rfl (fun x1 q1 => ?_) -- 6
  refine hM_zne (off := 7) (t := 14) rfl q1 (by decide) rfl (fun c7 => ?_) (fun c7 => ?_) -- 7
  · refine hM_ic (n := 0) rfl (by decide) rfl (fun x2 q2 => ?_) -- 14
    refine hM_rb rfl rfl q2 (by omega) (by omega) ?_ -- 15
    exact g0 x2 q2 c7
  · refine hM_ic (n := 1) rfl (by decide) rfl (fun x3 q3 => ?_) -- 10
    refine hI_go (pc' := 15) (off := 4) rfl (by decide) ?_ -- 11
    refine hM_rb rfl rfl q3 (by omega) (by omega) ?_ -- 15
    exact g1 x3 q3 c7
theorem c_has {x : Int64} {k : Int} {xk : Int32} (M : MX 49 W ρ m A h0 h F V G) (hk : xk.toInt = k) (g : ∀ z : Int32, 0 ≤ z.toInt → z.toInt ≤ 1 → Q (some (.int z)) h) : HJ 232 0 (lv_args 0 [.long x, .int xk]) [] h Q := s_has M rfl rfl hk (fun z q _ => g z (by omega) (by omega)) (fun z q _ => g z (by omega) (by omega))
theorem s_are (M : MX 49 W ρ m A h0 h F V G) (e0 : m_lk lv 0 = some (.ref m)) {lx1 : Int64} (e1 : m_lk lv 1 = some (.long lx1)) 
    (g0 : ∀ x2 : Int32, x2.toInt = 0 → (lg_cmp lx1 (Int64.ofNat (0 : Fin 2).val)).toInt < 0 → Q (some (.int x2)) h)
    (g1 : ∀ x3 : Int32, x3.toInt = F 35 → ∀ x5 : Int32, x5.toInt = 0 → (lg_cmp lx1 (Int64.ofNat (0 : Fin 2).val)).toInt ≥ 0 → 0 ≤ F 35 → F 35 ≤ 41 → (lg_cmp (lx1 >>> (x3.toInt64 &&& 63)) (Int64.ofNat (0 : Fin 2).val)).toInt ≠ 0 → Q (some (.int x5)) h)
    (g2 : ∀ x3 : Int32, x3.toInt = F 35 → ∀ x6 : Int32, x6.toInt = 1 → (lg_cmp lx1 (Int64.ofNat (0 : Fin 2).val)).toInt ≥ 0 → 0 ≤ F 35 → F 35 ≤ 41 → (lg_cmp (lx1 >>> (x3.toInt64 &&& 63)) (Int64.ofNat (0 : Fin 2).val)).toInt = 0 → Q (some (.int x6)) h)
    : HJ 245 0 lv [] h Q := by
  refine hI_ll (k := 1) rfl e1 rfl ?_ -- 0
  refine hI_lc (n := 0) rfl rfl ?_ -- 1
  refine hM_lcmp rfl rfl (fun x1 q1 => ?_) -- 2
  refine hM_zlt (off := 18) (t := 21) rfl q1 (by decide) rfl (fun c3 => ?_) (fun c3 => ?_) -- 3
  · refine hM_ic (n := 0) rfl (by decide) rfl (fun x2 q2 => ?_) -- 21
    refine hM_rb rfl rfl q2 (by omega) (by omega) ?_ -- 22
    exact g0 x2 q2 c3
  · refine hI_ll (k := 1) rfl e1 rfl ?_ -- 6
    refine hI_al (k := 0) rfl e0 rfl ?_ -- 7
    refine hM_gi M (by decide) rfl rfl rfl (k := 35) (c := 9) (lo := 0) (hi := 41) rfl rfl rfl rfl rfl (fun x3 q3 a3 b3 => ?_) -- 8
    refine hI_lshr rfl rfl ?_ -- 11
    refine hI_lc (n := 0) rfl rfl ?_ -- 12
    refine hM_lcmp rfl rfl (fun x4 q4 => ?_) -- 13
    refine hM_zne (off := 7) (t := 21) rfl q4 (by decide) rfl (fun c14 => ?_) (fun c14 => ?_) -- 14
    · refine hM_ic (n := 0) rfl (by decide) rfl (fun x5 q5 => ?_) -- 21
      refine hM_rb rfl rfl q5 (by omega) (by omega) ?_ -- 22
      exact g1 x3 q3 x5 q5 c3 a3 b3 c14
    · refine hM_ic (n := 1) rfl (by decide) rfl (fun x6 q6 => ?_) -- 17
      refine hI_go (pc' := 22) (off := 4) rfl (by decide) ?_ -- 18
      refine hM_rb rfl rfl q6 (by omega) (by omega) ?_ -- 22
      exact g2 x3 q3 x6 q6 c3 a3 b3 c14
theorem c_are {x : Int64} (M : MX 49 W ρ m A h0 h F V G) (g : ∀ z : Int32, 0 ≤ z.toInt → z.toInt ≤ 1 → Q (some (.int z)) h) : HJ 245 0 (lv_args 0 [.ref m, .long x]) [] h Q := s_are M rfl rfl (fun z q _ => g z (by omega) (by omega)) (fun _ _ z q _ _ _ _ => g z (by omega) (by omega)) (fun _ _ z q _ _ _ _ => g z (by omega) (by omega))
theorem s_ls0 (M : MX 49 W ρ m A h0 h F V G) (e0 : m_lk lv 0 = some (.ref m)) {lx1 : Int64} (e1 : m_lk lv 1 = some (.long lx1)) (hw : d_sub [(49, 47)] W = true)
    (g0 : ∀ h2 : MH, ∀ F2 : Nat → Int, F2 = m_u F 47 (0) → ∀ x3 : Int32, x3.toInt = 0 → ∀ lv4 : List (Nat × Value), MX 49 W ρ m A h0 h2 F2 V G → m_lk lv4 0 = some (.ref m) → m_lk lv4 1 = some (.long lx1) → m_lk lv4 3 = some (.int x3) → HJ 249 7 lv4 [] h2 Q)
    : HJ 249 0 lv [] h Q := by
  refine hI_al (k := 0) rfl e0 rfl ?_ -- 0
  refine hM_ic (n := 0) rfl (by decide) rfl (fun x1 q1 => ?_) -- 1
  refine hM_pi M (by decide) ok_49 rfl rfl (k := 47) (c := 9) (lo := 0) (hi := 12) rfl rfl ⟨by decide, by decide +kernel, rfl⟩ rfl (d_subm hw (by decide +kernel)) q1 (by omega) (by omega) rfl (fun h2 F2 f2 M2 => ?_) -- 2
  refine hM_ic (n := 0) rfl (by decide) rfl (fun x3 q3 => ?_) -- 5
  refine hM_si (k := 3) rfl (by decide +kernel) rfl (fun lv4 e4_3 u4 => ?_) -- 6
  have e4_0 := u4 0 _ (by decide) (Or.inl rfl) e0
  have e4_1 := u4 1 _ (by decide) (Or.inr (by decide)) e1
  exact g0 h2 F2 f2 x3 q3 lv4 M2 e4_0 e4_1 e4_3
theorem s_ls7 {v : Int} (M : MX 49 W ρ m A h0 h F V G) (e0 : m_lk lv 0 = some (.ref m)) {lx1 : Int64} (e1 : m_lk lv 1 = some (.long lx1)) {lx3 : Int32} (e3 : m_lk lv 3 = some (.int lx3)) (lq3 : lx3.toInt = v) 
    (g0 : ∀ x2 : Int32, x2.toInt = 1 → 0 ≤ F 35 → F 35 ≤ 41 → v ≥ F 35 → Q (some (.int x2)) h)
    (g1 : 0 ≤ F 35 → F 35 ≤ 41 → v < F 35 → HJ 232 0 (lv_args 0 [.long lx1, .int lx3]) [] h (fun v h' => HJ 249 20 lv (v.toList ++ []) h' Q))
    : HJ 249 7 lv [] h Q := by
  refine hI_il (k := 3) rfl e3 rfl ?_ -- 7
  refine hI_al (k := 0) rfl e0 rfl ?_ -- 8
  refine hM_gi M (by decide) rfl rfl rfl (k := 35) (c := 9) (lo := 0) (hi := 41) rfl rfl rfl rfl rfl (fun x1 q1 a1 b1 => ?_) -- 9
  refine hM_cge (off := 48) (t := 60) rfl lq3 q1 (by decide) rfl (fun c12 => ?_) (fun c12 => ?_) -- 12
  · refine hM_ic (n := 1) rfl (by decide) rfl (fun x2 q2 => ?_) -- 60
    refine hM_rb rfl rfl q2 (by omega) (by omega) ?_ -- 61
    exact g0 x2 q2 a1 b1 c12
  · refine hI_ll (k := 1) rfl e1 rfl ?_ -- 15
    refine hI_il (k := 3) rfl e3 rfl ?_ -- 16
    refine hM_is0 (as := [.long lx1, .int lx3]) (r := []) rfl rfl (by decide +kernel) rfl rfl rfl rfl rfl ?_ -- 17
    exact g1 a1 b1 c12
theorem s_ls20 {v z : Int} (M : MX 49 W ρ m A h0 h F V G) (e0 : m_lk lv 0 = some (.ref m)) {lx1 : Int64} (e1 : m_lk lv 1 = some (.long lx1)) {lx3 : Int32} (e3 : m_lk lv 3 = some (.int lx3)) (lq3 : lx3.toInt = v) {sx0 : Int32} (sq0 : sx0.toInt = z) (v0 : 0 ≤ v) (v1 : v ≤ 40)(hw : d_sub [(81, 1001), (49, 47)] W = true)
    (g0 : ∀ x1 : Int32, x1.toInt = v + 1 → ∀ lv1 : List (Nat × Value), m_lk lv1 0 = some (.ref m) → m_lk lv1 1 = some (.long lx1) → m_lk lv1 3 = some (.int x1) → z = 0 → HJ 249 7 lv1 [] h Q)
    (g1 : ∀ h5 : MH, ∀ V5 : Nat → Nat → Int, V5 = m_u V 48 (m_u (V 48) (F 47).toNat (v)) → ∀ h9 : MH, ∀ F9 : Nat → Int, F9 = m_u F 47 ((F 47) + 1) → ∀ x10 : Int32, x10.toInt = v + 1 → ∀ lv10 : List (Nat × Value), MX 49 W ρ m A h0 h9 F9 V5 G → m_lk lv10 0 = some (.ref m) → m_lk lv10 1 = some (.long lx1) → m_lk lv10 3 = some (.int x10) → z ≠ 0 → 0 ≤ F 47 → F 47 ≤ 12 → F 47 ≠ 12 → HJ 249 7 lv10 [] h9 Q)
    (g2 : ∀ x11 : Int32, x11.toInt = 0 → z ≠ 0 → 0 ≤ F 47 → F 47 ≤ 12 → F 47 = 12 → Q (some (.int x11)) h)
    : HJ 249 20 lv [.int sx0] h Q := by
  refine hM_zeq (off := 34) (t := 54) rfl sq0 (by decide) rfl (fun c20 => ?_) (fun c20 => ?_) -- 20
  · refine hM_inc (k := 3) (z := 1) rfl e3 lq3 (by decide) (by omega) (by omega) (by decide +kernel) rfl (fun lv1 x1 q1 e1_3 u1 => ?_) -- 54
    have e1_0 := u1 0 _ (by decide) (Or.inl rfl) e0
    have e1_1 := u1 1 _ (by decide) (Or.inr (by decide)) e1
    refine hI_go (pc' := 7) (off := (-50)) rfl (by decide) ?_ -- 57
    exact g0 x1 q1 lv1 e1_0 e1_1 e1_3 c20
  · refine hI_al (k := 0) rfl e0 rfl ?_ -- 23
    refine hM_gi M (by decide) rfl rfl rfl (k := 47) (c := 9) (lo := 0) (hi := 12) rfl rfl rfl rfl rfl (fun x2 q2 a2 b2 => ?_) -- 24
    refine hM_bp (n := 12) rfl (by decide) rfl (fun x3 q3 => ?_) -- 27
    refine hM_cne (off := 5) (t := 34) rfl q2 q3 (by decide) rfl (fun c29 => ?_) (fun c29 => ?_) -- 29
    · refine hI_al (k := 0) rfl e0 rfl ?_ -- 34
      refine hM_ga M (by decide) rfl rfl (k := 48) (c := 9) rfl rfl rfl (by decide +kernel) rfl ?_ -- 35
      refine hI_al (k := 0) rfl e0 rfl ?_ -- 38
      refine hM_gi M (by decide) rfl rfl rfl (k := 47) (c := 9) (lo := 0) (hi := 12) rfl rfl rfl rfl rfl (fun x4 q4 a4 b4 => ?_) -- 39
      refine hI_il (k := 3) rfl e3 rfl ?_ -- 42
      refine hM_is M (by decide) ok_49 (K := 48) (R2 := 81) (L := 12) (H := 12) (lo := 0) (hi := 40) rfl (by decide) rfl rfl rfl (fun _ => rfl) (d_subm hw (by decide +kernel)) rfl q4 lq3 (by omega) (by omega) (by omega) (by omega) rfl (fun h5 V5 f5 M5 => ?_) -- 43
      refine hI_al (k := 0) rfl e0 rfl ?_ -- 44
      refine hI_dup rfl rfl rfl ?_ -- 45
      refine hM_gi M5 (by decide) rfl rfl rfl (k := 47) (c := 9) (lo := 0) (hi := 12) rfl rfl rfl rfl rfl (fun x6 q6 a6 b6 => ?_) -- 46
      refine hM_ic (n := 1) rfl (by decide) rfl (fun x7 q7 => ?_) -- 49
      refine hM_add rfl q6 q7 (by omega) (by omega) rfl (fun x8 q8 => ?_) -- 50
      refine hM_pi M5 (by decide) ok_49 rfl rfl (k := 47) (c := 9) (lo := 0) (hi := 12) rfl rfl ⟨by decide, by decide +kernel, rfl⟩ rfl (d_subm hw (by decide +kernel)) q8 (by omega) (by omega) rfl (fun h9 F9 f9 M9 => ?_) -- 51
      refine hM_inc (k := 3) (z := 1) rfl e3 lq3 (by decide) (by omega) (by omega) (by decide +kernel) rfl (fun lv10 x10 q10 e10_3 u10 => ?_) -- 54
      have e10_0 := u10 0 _ (by decide) (Or.inl rfl) e0
      have e10_1 := u10 1 _ (by decide) (Or.inr (by decide)) e1
      refine hI_go (pc' := 7) (off := (-50)) rfl (by decide) ?_ -- 57
      exact g1 h5 V5 f5 h9 F9 f9 x10 q10 lv10 M9 e10_0 e10_1 e10_3 c20 a2 b2 c29
    · refine hM_ic (n := 0) rfl (by decide) rfl (fun x11 q11 => ?_) -- 32
      refine hM_rb rfl rfl q11 (by omega) (by omega) ?_ -- 33
      exact g2 x11 q11 c20 a2 b2 c29
def z_so (n vs : Int) (so : Nat → Int) : Prop := ∀ i : Nat, (i : Int) < n → 0 ≤ so i ∧ so i < vs
def g_lsW : List (Nat × Nat) := [(49, 47), (81, 1001)]
theorem l_list {x : Int64} {F0 : Nat → Int} {V0 : Nat → Nat → Int} (hw : d_sub g_lsW W = true) (s41 : F0 35 ≤ 41) (g : ∀ (z : Int32) (h' : MH) (F' : Nat → Int) (V' : Nat → Nat → Int), 0 ≤ z.toInt → z.toInt ≤ 1 → MX 49 W ρ m A h0 h' F' V' G → (∀ K, K ≠ 47 → F' K = F0 K) → (∀ K, K ≠ 48 → V' K = V0 K) → z_so (F' 47) (F0 35) (V' 48) → Q (some (.int z)) h') : ∀ (d v : Nat) (lv : List (Nat × Value)) (h : MH) (F : Nat → Int) (V : Nat → Nat → Int) (xv : Int32), v + d = 41 → MX 49 W ρ m A h0 h F V G → (∀ K, K ≠ 47 → F K = F0 K) → (∀ K, K ≠ 48 → V K = V0 K) → z_so (F 47) (F0 35) (V 48) → xv.toInt = (v : Int) → m_lk lv 0 = some (.ref m) → m_lk lv 1 = some (.long x) → m_lk lv 3 = some (.int xv) → HJ 249 7 lv [] h Q := by
  intro d
  induction d with
  | zero =>
    intro v lv h F V xv hd M fo vo I hv e0 e1 e3
    have f35 := fo 35 (by decide)
    exact s_ls7 M e0 e1 e3 hv (fun z q _ _ _ => g z h F V (by omega) (by omega) M fo vo I) (fun _ _ c => by omega)
  | succ d ih =>
    intro v lv h F V xv hd M fo vo I hv e0 e1 e3
    have f35 := fo 35 (by decide)
    refine s_ls7 M e0 e1 e3 hv (fun z q _ _ _ => g z h F V (by omega) (by omega) M fo vo I) (fun _ _ c => ?_)
    refine c_has M hv (fun z z0 z1 => ?_)
    refine s_ls20 (z := z.toInt) M e0 e1 e3 hv rfl (by omega) (by omega) (d_subm hw (by decide +kernel)) (fun x1 q1 lv1 d0 d1 d3 _ => ih (v + 1) lv1 h F V x1 (by omega) M fo vo I (by omega) d0 d1 d3) (fun h5 V5 f5 h9 F9 f9 x10 q10 lv10 M9 d0 d1 d3 _ a2 _ _ => ?_) (fun x11 q11 _ _ _ _ => g x11 h F V (by omega) (by omega) M fo vo I)
    refine ih (v + 1) lv10 h9 F9 V5 x10 (by omega) M9 (fun K hK => by rw [f9, m_uN _ _ _ _ hK, fo K hK]) (fun K hK => by rw [f5, m_uN _ _ _ _ hK, vo K hK]) (fun i hi => ?_) (by omega) d0 d1 d3
    rw [f9, m_uE] at hi
    rw [f5, m_uE]
    by_cases e : i = (F 47).toNat
    · rw [e, m_uE]
      omega
    · rw [m_uN _ _ _ _ e]
      exact I i (by omega)
theorem c_list {x : Int64} (M : MX 49 W ρ m A h0 h F V G) (hw : d_sub g_lsW W = true) (s41 : F 35 ≤ 41) (g : ∀ (z : Int32) (h' : MH) (F' : Nat → Int) (V' : Nat → Nat → Int), 0 ≤ z.toInt → z.toInt ≤ 1 → MX 49 W ρ m A h0 h' F' V' G → (∀ K, K ≠ 47 → F' K = F K) → (∀ K, K ≠ 48 → V' K = V K) → z_so (F' 47) (F 35) (V' 48) → Q (some (.int z)) h') : HJ 249 0 (lv_args 0 [.ref m, .long x]) [] h Q := by
  have w1 : d_sub [(49, 47)] W = true := d_subm hw (by decide +kernel)
  refine s_ls0 M rfl rfl w1 (fun h2 F2 f2 x3 q3 lv4 M2 e0 e1 e3 => ?_)
  exact l_list (F0 := F) (V0 := V) hw s41 g 41 0 lv4 h2 F2 V x3 rfl M2 (fun K hK => by rw [f2, m_uN _ _ _ _ hK]) (fun _ _ => rfl) (fun i hi => by rw [f2, m_uE] at hi; omega) q3 e0 e1 e3
-- an order
theorem s_tu0 {c : Int} (M : MX 49 W ρ m A h0 h F V G) (e0 : m_lk lv 0 = some (.ref m)) {lx1 : Int32} (e1 : m_lk lv 1 = some (.int lx1)) (lq1 : lx1.toInt = c) 
    (g0 : ∀ x1 : Int32, x1.toInt = 0 → ∀ x6 : Int32, x6.toInt = (F 47) - 1 → ∀ lv7 : List (Nat × Value), m_lk lv7 0 = some (.ref m) → m_lk lv7 1 = some (.int lx1) → m_lk lv7 2 = some (.int x1) → m_lk lv7 3 = some (.int lx1) → m_lk lv7 4 = some (.int x6) → 0 ≤ F 47 → F 47 ≤ 12 → HJ 266 12 lv7 [] h Q)
    : HJ 266 0 lv [] h Q := by
  refine hM_ic (n := 0) rfl (by decide) rfl (fun x1 q1 => ?_) -- 0
  refine hM_si (k := 2) rfl (by decide +kernel) rfl (fun lv2 e2_2 u2 => ?_) -- 1
  have e2_0 := u2 0 _ (by decide) (Or.inl rfl) e0
  have e2_1 := u2 1 _ (by decide) (Or.inl rfl) e1
  refine hI_il (k := 1) rfl e2_1 rfl ?_ -- 2
  refine hM_si (k := 3) rfl (by decide +kernel) rfl (fun lv3 e3_3 u3 => ?_) -- 3
  have e3_0 := u3 0 _ (by decide) (Or.inl rfl) e2_0
  have e3_1 := u3 1 _ (by decide) (Or.inl rfl) e2_1
  have e3_2 := u3 2 _ (by decide) (Or.inl rfl) e2_2
  refine hI_al (k := 0) rfl e3_0 rfl ?_ -- 4
  refine hM_gi M (by decide) rfl rfl rfl (k := 47) (c := 9) (lo := 0) (hi := 12) rfl rfl rfl rfl rfl (fun x4 q4 a4 b4 => ?_) -- 5
  refine hM_ic (n := 1) rfl (by decide) rfl (fun x5 q5 => ?_) -- 8
  refine hM_sub rfl q4 q5 (by omega) (by omega) rfl (fun x6 q6 => ?_) -- 9
  refine hM_si2 (k := 4) rfl (by decide +kernel) rfl (fun lv7 e7_4 u7 => ?_) -- 10
  have e7_0 := u7 0 _ (by decide) (Or.inl rfl) e3_0
  have e7_1 := u7 1 _ (by decide) (Or.inl rfl) e3_1
  have e7_2 := u7 2 _ (by decide) (Or.inl rfl) e3_2
  have e7_3 := u7 3 _ (by decide) (Or.inl rfl) e3_3
  exact g0 x1 q1 x6 q6 lv7 e7_0 e7_1 e7_2 e7_3 e7_4 a4 b4
theorem s_tu12 {u c i : Int} (M : MX 49 W ρ m A h0 h F V G) (e0 : m_lk lv 0 = some (.ref m)) {lx2 : Int32} (e2 : m_lk lv 2 = some (.int lx2)) (lq2 : lx2.toInt = u) {lx3 : Int32} (e3 : m_lk lv 3 = some (.int lx3)) (lq3 : lx3.toInt = c) {lx4 : Int32} (e4 : m_lk lv 4 = some (.int lx4)) (lq4 : lx4.toInt = i) (s1 : F 47 ≤ 5) (s0 : 1 ≤ F 47) (c0 : 0 ≤ c) (i0 : -1 ≤ i) (i1 : i ≤ 4) (t0 : 0 ≤ (2 : Int) ^ (F 47).toNat) (t1 : (2 : Int) ^ (F 47).toNat ≤ 64)(hw : d_sub [(90, 1001)] W = true)
    (g0 : ∀ x6 : Int32, x6.toInt = 0 → i < 0 → 0 ≤ F 47 → F 47 ≤ 12 → u ≠ ((2 : Int) ^ (F 47).toNat) - 1 → Q (some (.int x6)) h)
    (g1 : ∀ x7 : Int32, x7.toInt = 1 → i < 0 → 0 ≤ F 47 → F 47 ≤ 12 → u = ((2 : Int) ^ (F 47).toNat) - 1 → Q (some (.int x7)) h)
    (g2 : ∀ z9 : Int, 0 ≤ z9 → z9 < F 47 → ∀ h10 : MH, ∀ V10 : Nat → Nat → Int, V10 = m_u V 60 (m_u (V 60) (i).toNat (z9)) → ∀ x12 : Int32, ∀ z12 : Int, x12.toInt = z12 → 0 ≤ z12 → z12 ≤ c → ∀ x17 : Int32, ∀ z17 : Int, x17.toInt = z17 → -2147483648 ≤ z17 → z17 ≤ 2147483647 → ∀ x19 : Int32, x19.toInt = i + (-1) → ∀ lv19 : List (Nat × Value), MX 49 W ρ m A h0 h10 F V10 G → m_lk lv19 0 = some (.ref m) → m_lk lv19 2 = some (.int x17) → m_lk lv19 3 = some (.int x12) → m_lk lv19 4 = some (.int x19) → i ≥ 0 → 0 ≤ F 47 → F 47 ≤ 12 → 0 ≤ z9 → z9 ≤ 11 → HJ 266 12 lv19 [] h10 Q)
    : HJ 266 12 lv [] h Q := by
  refine hI_il2 (k := 4) rfl e4 rfl ?_ -- 12
  refine hM_zlt (off := 41) (t := 55) rfl lq4 (by decide) rfl (fun c14 => ?_) (fun c14 => ?_) -- 14
  · refine hI_il (k := 2) rfl e2 rfl ?_ -- 55
    refine hM_ic (n := 1) rfl (by decide) rfl (fun x1 q1 => ?_) -- 56
    refine hI_al (k := 0) rfl e0 rfl ?_ -- 57
    refine hM_gi M (by decide) rfl rfl rfl (k := 47) (c := 9) (lo := 0) (hi := 12) rfl rfl rfl rfl rfl (fun x2 q2 a2 b2 => ?_) -- 58
    refine hM_shl rfl q1 q2 (by omega) (by omega) rfl (fun x3 q3 => ?_) -- 61
    refine hM_ic (n := 1) rfl (by decide) rfl (fun x4 q4 => ?_) -- 62
    refine hM_sub rfl q3 q4 (by omega) (by omega) rfl (fun x5 q5 => ?_) -- 63
    refine hM_cne (off := 7) (t := 71) rfl lq2 q5 (by decide) rfl (fun c64 => ?_) (fun c64 => ?_) -- 64
    · refine hM_ic (n := 0) rfl (by decide) rfl (fun x6 q6 => ?_) -- 71
      refine hM_rb rfl rfl q6 (by omega) (by omega) ?_ -- 72
      exact g0 x6 q6 c14 a2 b2 c64
    · refine hM_ic (n := 1) rfl (by decide) rfl (fun x7 q7 => ?_) -- 67
      refine hI_go (pc' := 72) (off := 4) rfl (by decide) ?_ -- 68
      refine hM_rb rfl rfl q7 (by omega) (by omega) ?_ -- 72
      exact g1 x7 q7 c14 a2 b2 c64
  · refine hI_al (k := 0) rfl e0 rfl ?_ -- 17
    refine hM_ga M (by decide) rfl rfl (k := 60) (c := 9) rfl rfl rfl (by decide +kernel) rfl ?_ -- 18
    refine hI_il2 (k := 4) rfl e4 rfl ?_ -- 21
    refine hI_il (k := 3) rfl e3 rfl ?_ -- 23
    refine hI_al (k := 0) rfl e0 rfl ?_ -- 24
    refine hM_gi M (by decide) rfl rfl rfl (k := 47) (c := 9) (lo := 0) (hi := 12) rfl rfl rfl rfl rfl (fun x8 q8 a8 b8 => ?_) -- 25
    refine hM_rem rfl lq3 q8 (by omega) (by omega) rfl (fun x9 z9 q9 a9 b9 => ?_) -- 28
    refine hM_is M (by decide) ok_49 (K := 60) (R2 := 90) (L := 5) (H := 5) (lo := 0) (hi := 11) rfl (by decide) rfl rfl rfl (fun _ => rfl) (d_subm hw (by decide +kernel)) rfl lq4 q9 (by omega) (by omega) (by omega) (by omega) rfl (fun h10 V10 f10 M10 => ?_) -- 29
    refine hI_il (k := 3) rfl e3 rfl ?_ -- 30
    refine hI_al (k := 0) rfl e0 rfl ?_ -- 31
    refine hM_gi M10 (by decide) rfl rfl rfl (k := 47) (c := 9) (lo := 0) (hi := 12) rfl rfl rfl rfl rfl (fun x11 q11 a11 b11 => ?_) -- 32
    refine hM_div rfl lq3 q11 (by omega) (by omega) rfl (fun x12 z12 q12 a12 b12 => ?_) -- 35
    refine hM_si (k := 3) rfl (by decide +kernel) rfl (fun lv13 e13_3 u13 => ?_) -- 36
    have e13_0 := u13 0 _ (by decide) (Or.inl rfl) e0
    have e13_2 := u13 2 _ (by decide) (Or.inl rfl) e2
    have e13_4 := u13 4 _ (by decide) (Or.inl rfl) e4
    refine hI_il (k := 2) rfl e13_2 rfl ?_ -- 37
    refine hM_ic (n := 1) rfl (by decide) rfl (fun x14 q14 => ?_) -- 38
    refine hI_al (k := 0) rfl e13_0 rfl ?_ -- 39
    refine hM_ga M10 (by decide) rfl rfl (k := 60) (c := 9) rfl rfl rfl (by decide +kernel) rfl ?_ -- 40
    refine hI_il2 (k := 4) rfl e13_4 rfl ?_ -- 43
    refine hM_ia M10 (by decide) (K := 60) (R2 := 90) (L := 5) (H := 5) (lo := 0) (hi := 11) rfl (by decide) rfl rfl (fun _ => rfl) rfl lq4 (by omega) (by omega) rfl (fun x15 q15 a15 b15 => ?_) -- 45
    have w15 : V10 60 (i).toNat = z9 := by rw [f10, m_uE, m_uE]
    rw [w15] at q15 a15 b15 -- 45
    refine hM_shl rfl q14 q15 (by omega) (by omega) rfl (fun x16 q16 => ?_) -- 46
    refine hM_ior rfl rfl (fun x17 z17 q17 a17 b17 => ?_) -- 47
    refine hM_si (k := 2) rfl (by decide +kernel) rfl (fun lv18 e18_2 u18 => ?_) -- 48
    have e18_0 := u18 0 _ (by decide) (Or.inl rfl) e13_0
    have e18_4 := u18 4 _ (by decide) (Or.inl rfl) e13_4
    have e18_3 := u18 3 _ (by decide) (Or.inl rfl) e13_3
    refine hM_inc (k := 4) (z := (-1)) rfl e18_4 lq4 (by decide) (by omega) (by omega) (by decide +kernel) rfl (fun lv19 x19 q19 e19_4 u19 => ?_) -- 49
    have e19_0 := u19 0 _ (by decide) (Or.inl rfl) e18_0
    have e19_3 := u19 3 _ (by decide) (Or.inl rfl) e18_3
    have e19_2 := u19 2 _ (by decide) (Or.inl rfl) e18_2
    refine hI_go (pc' := 12) (off := (-40)) rfl (by decide) ?_ -- 52
    exact g2 z9 a9 b9 h10 V10 f10 x12 z12 q12 a12 b12 x17 z17 q17 a17 b17 x19 q19 lv19 M10 e19_0 e19_2 e19_3 e19_4 c14 a8 b8 a15 b15
theorem l_turn {s : Nat} {V0 : Nat → Nat → Int} (hw : d_sub [(90, 1001)] W = true) (fs : F 47 = (s : Int)) (s1 : 1 ≤ s) (s5 : s ≤ 5) (g : ∀ (z : Int32) (h' : MH) (V' : Nat → Nat → Int), MX 49 W ρ m A h0 h' F V' G → (∀ K, K ≠ 60 → V' K = V0 K) → (∀ j, j < s → 0 ≤ V' 60 j ∧ V' 60 j < s) → Q (some (.int z)) h') : ∀ (d : Nat) (i : Int) (lv : List (Nat × Value)) (h : MH) (V : Nat → Nat → Int) (xu xc xi : Int32), i + 1 = d → i < s → MX 49 W ρ m A h0 h F V G → (∀ K, K ≠ 60 → V K = V0 K) → (∀ j : Nat, i < j → j < s → 0 ≤ V 60 j ∧ V 60 j < s) → 0 ≤ xc.toInt → xi.toInt = i → m_lk lv 0 = some (.ref m) → m_lk lv 2 = some (.int xu) → m_lk lv 3 = some (.int xc) → m_lk lv 4 = some (.int xi) → HJ 266 12 lv [] h Q := by
  have p0 : 0 ≤ (2 : Int) ^ (F 47).toNat ∧ (2 : Int) ^ (F 47).toNat ≤ 64 := by
    have a := n_2q (k := (F 47).toNat) (by omega)
    have b := i_2q (k := (F 47).toNat) (by omega)
    exact ⟨by rw [b]; exact Int.natCast_nonneg _, by rw [b]; exact Int.ofNat_le.mpr a⟩
  intro d
  induction d with
  | zero =>
    intro i lv h V xu xc xi hd hs M vo I c0 hi e0 e2 e3 e4
    exact s_tu12 M e0 e2 rfl e3 rfl e4 hi (by omega) (by omega) c0 (by omega) (by omega) p0.1 p0.2 hw (fun z _ _ _ _ _ => g z h V M vo (fun j hj => I j (by omega) hj)) (fun z _ _ _ _ _ => g z h V M vo (fun j hj => I j (by omega) hj)) (fun z9 a9 b9 h10 V10 f10 x12 z12 q12 a12 b12 x17 z17 q17 a17 b17 x19 q19 lv19 M10 e19_0 e19_2 e19_3 e19_4 c14 a8 b8 a15 b15 => by omega)
  | succ d ih =>
    intro i lv h V xu xc xi hd hs M vo I c0 hi e0 e2 e3 e4
    refine s_tu12 M e0 e2 rfl e3 rfl e4 hi (by omega) (by omega) c0 (by omega) (by omega) p0.1 p0.2 hw (fun z _ _ _ _ _ => g z h V M vo (fun j hj => I j (by omega) hj)) (fun z _ _ _ _ _ => g z h V M vo (fun j hj => I j (by omega) hj)) (fun z9 a9 b9 h10 V10 f10 x12 z12 q12 a12 b12 x17 z17 q17 a17 b17 x19 q19 lv19 M10 d0 d2 d3 d4 c14 a8 b8 a15 b15 => ?_)
    refine ih (i + (-1)) lv19 h10 V10 x17 x12 x19 (by omega) (by omega) M10 (fun K hK => by rw [f10, m_uN _ _ _ _ hK, vo K hK]) (fun j j1 j2 => ?_) (by omega) q19 d0 d2 d3 d4
    rw [f10, m_uE]
    by_cases e : j = i.toNat
    · rw [e, m_uE]
      omega
    · rw [m_uN _ _ _ _ e]
      exact I j (by omega) j2
theorem c_turn {c : Int} {xc : Int32} {s : Nat} (M : MX 49 W ρ m A h0 h F V G) (hw : d_sub [(90, 1001)] W = true) (hc : xc.toInt = c) (c0 : 0 ≤ c) (fs : F 47 = (s : Int)) (s1 : 1 ≤ s) (s5 : s ≤ 5) (g : ∀ (z : Int32) (h' : MH) (V' : Nat → Nat → Int), MX 49 W ρ m A h0 h' F V' G → (∀ K, K ≠ 60 → V' K = V K) → (∀ j, j < s → 0 ≤ V' 60 j ∧ V' 60 j < s) → Q (some (.int z)) h') : HJ 266 0 (lv_args 0 [.ref m, .int xc]) [] h Q := by
  refine s_tu0 M rfl rfl hc (fun x1 q1 x6 q6 lv7 e0 e1 e2 e3 e4 _ _ => ?_)
  exact l_turn (V0 := V) hw fs s1 s5 g s ((s : Int) - 1) lv7 h V x1 xc x6 (by omega) (by omega) M (fun _ _ => rfl) (fun j j1 j2 => by omega) (by omega) (by omega) e0 e2 e3 e4
-- what a meld in that order makes
def g_fo (F0 : Nat → Int) (V0 : Nat → Nat → Int) (F : Nat → Int) (V : Nat → Nat → Int) (k : Int) : Prop := (p_sh (F 17) (V 22) (V 23) ∧ p_hp (F 17) (V 22) (V 24)) ∧ (F0 17 ≤ F 17 ∧ F 17 ≤ F0 17 + k) ∧ (∀ K, K ≠ 17 → K ≠ 18 → K ≠ 19 → K ≠ 26 → F K = F0 K) ∧ (∀ v : Nat, (v : Int) < F0 17 → V 22 v = V0 22 v) ∧ (∀ K, K < 20 ∨ 34 < K → V K = V0 K) ∧ ∀ j, j < 6 * (F0 17).toNat → V 23 j = V0 23 j
theorem s_mb0 (M : MX 49 W ρ m A h0 h F V G) (e0 : m_lk lv 0 = some (.ref m)) 
    (g0 : ∀ x3 : Int32, x3.toInt = V 48 (V 60 (0 : Int).toNat).toNat → 0 ≤ V 60 (0 : Int).toNat → V 60 (0 : Int).toNat ≤ 11 → 0 ≤ V 48 (V 60 (0 : Int).toNat).toNat → V 48 (V 60 (0 : Int).toNat).toNat ≤ 40 → HJ 208 0 (lv_args 0 [.ref m, .int x3]) [] h (fun v h' => HJ 267 15 lv (v.toList ++ []) h' Q))
    : HJ 267 0 lv [] h Q := by
  refine hI_al (k := 0) rfl e0 rfl ?_ -- 0
  refine hI_al (k := 0) rfl e0 rfl ?_ -- 1
  refine hM_ga M (by decide) rfl rfl (k := 48) (c := 9) rfl rfl rfl (by decide +kernel) rfl ?_ -- 2
  refine hI_al (k := 0) rfl e0 rfl ?_ -- 5
  refine hM_ga M (by decide) rfl rfl (k := 60) (c := 9) rfl rfl rfl (by decide +kernel) rfl ?_ -- 6
  refine hM_ic (n := 0) rfl (by decide) rfl (fun x1 q1 => ?_) -- 9
  refine hM_ia M (by decide) (K := 60) (R2 := 90) (L := 5) (H := 5) (lo := 0) (hi := 11) rfl (by decide) rfl rfl (fun _ => rfl) rfl q1 (by omega) (by omega) rfl (fun x2 q2 a2 b2 => ?_) -- 10
  refine hM_ia M (by decide) (K := 48) (R2 := 81) (L := 12) (H := 12) (lo := 0) (hi := 40) rfl (by decide) rfl rfl (fun _ => rfl) rfl q2 (by omega) (by omega) rfl (fun x3 q3 a3 b3 => ?_) -- 11
  refine hM_iv M (by decide) rfl rfl (by decide) (as := [.int x3]) (r := []) rfl rfl (by decide +kernel) rfl (by decide +kernel) rfl rfl rfl rfl rfl ?_ -- 12
  exact g0 x3 q3 a2 b2 a3 b3
theorem s_mb15 (M : MX 49 W ρ m A h0 h F V G) (e0 : m_lk lv 0 = some (.ref m)) 
    (g0 : ∀ x1 : Int32, x1.toInt = 1 → ∀ lv2 : List (Nat × Value), m_lk lv2 0 = some (.ref m) → m_lk lv2 1 = some (.int x1) → HJ 267 17 lv2 [] h Q)
    : HJ 267 15 lv [] h Q := by
  refine hM_ic (n := 1) rfl (by decide) rfl (fun x1 q1 => ?_) -- 15
  refine hM_si (k := 1) rfl (by decide +kernel) rfl (fun lv2 e2_1 u2 => ?_) -- 16
  have e2_0 := u2 0 _ (by decide) (Or.inl rfl) e0
  exact g0 x1 q1 lv2 e2_0 e2_1
theorem s_mb17 {i : Int} (M : MX 49 W ρ m A h0 h F V G) (e0 : m_lk lv 0 = some (.ref m)) {lx1 : Int32} (e1 : m_lk lv 1 = some (.int lx1)) (lq1 : lx1.toInt = i) 
    (g0 : ∀ x2 : Int32, x2.toInt = F 17 → ∀ lv3 : List (Nat × Value), m_lk lv3 0 = some (.ref m) → m_lk lv3 1 = some (.int x2) → 0 ≤ F 47 → F 47 ≤ 12 → i ≥ F 47 → 0 ≤ F 17 → F 17 ≤ 16000 → HJ 216 0 (lv_args 0 [.ref m]) [] h (fun v h' => HJ 267 85 lv3 (v.toList ++ []) h' Q))
    (g1 : ∀ x4 : Int32, x4.toInt = 0 → ∀ lv5 : List (Nat × Value), m_lk lv5 0 = some (.ref m) → m_lk lv5 1 = some (.int lx1) → m_lk lv5 2 = some (.int x4) → 0 ≤ F 47 → F 47 ≤ 12 → i < F 47 → HJ 267 27 lv5 [] h Q)
    : HJ 267 17 lv [] h Q := by
  refine hI_il (k := 1) rfl e1 rfl ?_ -- 17
  refine hI_al (k := 0) rfl e0 rfl ?_ -- 18
  refine hM_gi M (by decide) rfl rfl rfl (k := 47) (c := 9) (lo := 0) (hi := 12) rfl rfl rfl rfl rfl (fun x1 q1 a1 b1 => ?_) -- 19
  refine hM_cge (off := 54) (t := 76) rfl lq1 q1 (by decide) rfl (fun c22 => ?_) (fun c22 => ?_) -- 22
  · refine hI_al (k := 0) rfl e0 rfl ?_ -- 76
    refine hM_gi M (by decide) rfl rfl rfl (k := 17) (c := 9) (lo := 0) (hi := 16000) rfl rfl rfl rfl rfl (fun x2 q2 a2 b2 => ?_) -- 77
    refine hM_si (k := 1) rfl (by decide +kernel) rfl (fun lv3 e3_1 u3 => ?_) -- 80
    have e3_0 := u3 0 _ (by decide) (Or.inl rfl) e0
    refine hI_al (k := 0) rfl e3_0 rfl ?_ -- 81
    refine hM_iv M (by decide) rfl rfl (by decide) (as := []) (r := []) rfl rfl (by decide +kernel) rfl (by decide +kernel) rfl rfl rfl rfl rfl ?_ -- 82
    exact g0 x2 q2 lv3 e3_0 e3_1 a1 b1 c22 a2 b2
  · refine hM_ic (n := 0) rfl (by decide) rfl (fun x4 q4 => ?_) -- 25
    refine hM_si (k := 2) rfl (by decide +kernel) rfl (fun lv5 e5_2 u5 => ?_) -- 26
    have e5_0 := u5 0 _ (by decide) (Or.inl rfl) e0
    have e5_1 := u5 1 _ (by decide) (Or.inl rfl) e1
    exact g1 x4 q4 lv5 e5_0 e5_1 e5_2 a1 b1 c22
theorem s_mb27 {i r : Int} (M : MX 49 W ρ m A h0 h F V G) (e0 : m_lk lv 0 = some (.ref m)) {lx1 : Int32} (e1 : m_lk lv 1 = some (.int lx1)) (lq1 : lx1.toInt = i) {lx2 : Int32} (e2 : m_lk lv 2 = some (.int lx2)) (lq2 : lx2.toInt = r) (i0 : 0 ≤ i) (i1 : i ≤ 4) (r0 : 0 ≤ r)(hw : d_sub [(62, 1001)] W = true)
    (g0 : r ≥ 6 → HJ 209 0 (lv_args 0 [.ref m]) [] h (fun v h' => HJ 267 70 lv (v.toList ++ []) h' Q))
    (g1 : ∀ h8 : MH, ∀ V8 : Nat → Nat → Int, V8 = m_u V 25 (m_u (V 25) (r).toNat (V 36 ((6 * (V 48 (V 60 (i).toNat).toNat)) + r).toNat)) → ∀ x9 : Int32, x9.toInt = r + 1 → ∀ lv9 : List (Nat × Value), MX 49 W ρ m A h0 h8 F V8 G → m_lk lv9 0 = some (.ref m) → m_lk lv9 1 = some (.int lx1) → m_lk lv9 2 = some (.int x9) → r < 6 → 0 ≤ V 60 (i).toNat → V 60 (i).toNat ≤ 11 → 0 ≤ V 48 (V 60 (i).toNat).toNat → V 48 (V 60 (i).toNat).toNat ≤ 40 → (-1) ≤ V 36 ((6 * (V 48 (V 60 (i).toNat).toNat)) + r).toNat → V 36 ((6 * (V 48 (V 60 (i).toNat).toNat)) + r).toNat ≤ 15999 → HJ 267 27 lv9 [] h8 Q)
    : HJ 267 27 lv [] h Q := by
  refine hI_il (k := 2) rfl e2 rfl ?_ -- 27
  refine hM_bp (n := 6) rfl (by decide) rfl (fun x1 q1 => ?_) -- 28
  refine hM_cge (off := 36) (t := 66) rfl lq2 q1 (by decide) rfl (fun c30 => ?_) (fun c30 => ?_) -- 30
  · refine hI_al (k := 0) rfl e0 rfl ?_ -- 66
    refine hM_iv M (by decide) rfl rfl (by decide) (as := []) (r := []) rfl rfl (by decide +kernel) rfl (by decide +kernel) rfl rfl rfl rfl rfl ?_ -- 67
    exact g0 c30
  · refine hI_al (k := 0) rfl e0 rfl ?_ -- 33
    refine hM_ga M (by decide) rfl rfl (k := 25) (c := 9) rfl rfl rfl (by decide +kernel) rfl ?_ -- 34
    refine hI_il (k := 2) rfl e2 rfl ?_ -- 37
    refine hI_al (k := 0) rfl e0 rfl ?_ -- 38
    refine hM_ga M (by decide) rfl rfl (k := 36) (c := 9) rfl rfl rfl (by decide +kernel) rfl ?_ -- 39
    refine hM_bp (n := 6) rfl (by decide) rfl (fun x2 q2 => ?_) -- 42
    refine hI_al (k := 0) rfl e0 rfl ?_ -- 44
    refine hM_ga M (by decide) rfl rfl (k := 48) (c := 9) rfl rfl rfl (by decide +kernel) rfl ?_ -- 45
    refine hI_al (k := 0) rfl e0 rfl ?_ -- 48
    refine hM_ga M (by decide) rfl rfl (k := 60) (c := 9) rfl rfl rfl (by decide +kernel) rfl ?_ -- 49
    refine hI_il (k := 1) rfl e1 rfl ?_ -- 52
    refine hM_ia M (by decide) (K := 60) (R2 := 90) (L := 5) (H := 5) (lo := 0) (hi := 11) rfl (by decide) rfl rfl (fun _ => rfl) rfl lq1 (by omega) (by omega) rfl (fun x3 q3 a3 b3 => ?_) -- 53
    refine hM_ia M (by decide) (K := 48) (R2 := 81) (L := 12) (H := 12) (lo := 0) (hi := 40) rfl (by decide) rfl rfl (fun _ => rfl) rfl q3 (by omega) (by omega) rfl (fun x4 q4 a4 b4 => ?_) -- 54
    refine hM_mul rfl q2 q4 (by omega) (by omega) rfl (fun x5 q5 => ?_) -- 55
    refine hI_il (k := 2) rfl e2 rfl ?_ -- 56
    refine hM_add rfl q5 lq2 (by omega) (by omega) rfl (fun x6 q6 => ?_) -- 57
    refine hM_ia M (by decide) (K := 36) (R2 := 71) (L := 246) (H := 246) (lo := (-1)) (hi := 15999) rfl (by decide) rfl rfl (fun _ => rfl) rfl q6 (by omega) (by omega) rfl (fun x7 q7 a7 b7 => ?_) -- 58
    refine hM_is M (by decide) ok_49 (K := 25) (R2 := 62) (L := 6) (H := 6) (lo := (-1)) (hi := 15999) rfl (by decide) rfl rfl rfl (fun _ => rfl) (d_subm hw (by decide +kernel)) rfl lq2 q7 (by omega) (by omega) (by omega) (by omega) rfl (fun h8 V8 f8 M8 => ?_) -- 59
    refine hM_inc (k := 2) (z := 1) rfl e2 lq2 (by decide) (by omega) (by omega) (by decide +kernel) rfl (fun lv9 x9 q9 e9_2 u9 => ?_) -- 60
    have e9_0 := u9 0 _ (by decide) (Or.inl rfl) e0
    have e9_1 := u9 1 _ (by decide) (Or.inl rfl) e1
    refine hI_go (pc' := 27) (off := (-36)) rfl (by decide) ?_ -- 63
    exact g1 h8 V8 f8 x9 q9 lv9 M8 e9_0 e9_1 e9_2 c30 a3 b3 a4 b4 a7 b7
theorem s_mb70 {i : Int} (M : MX 49 W ρ m A h0 h F V G) (e0 : m_lk lv 0 = some (.ref m)) {lx1 : Int32} (e1 : m_lk lv 1 = some (.int lx1)) (lq1 : lx1.toInt = i) (i0 : 0 ≤ i) (i1 : i ≤ 4)
    (g0 : ∀ x1 : Int32, x1.toInt = i + 1 → ∀ lv1 : List (Nat × Value), m_lk lv1 0 = some (.ref m) → m_lk lv1 1 = some (.int x1) → HJ 267 17 lv1 [] h Q)
    : HJ 267 70 lv [] h Q := by
  refine hM_inc (k := 1) (z := 1) rfl e1 lq1 (by decide) (by omega) (by omega) (by decide +kernel) rfl (fun lv1 x1 q1 e1_1 u1 => ?_) -- 70
  have e1_0 := u1 0 _ (by decide) (Or.inl rfl) e0
  refine hI_go (pc' := 17) (off := (-56)) rfl (by decide) ?_ -- 73
  exact g0 x1 q1 lv1 e1_0 e1_1
theorem s_mb85 {n z : Int} (M : MX 49 W ρ m A h0 h F V G) (e0 : m_lk lv 0 = some (.ref m)) {lx1 : Int32} (e1 : m_lk lv 1 = some (.int lx1)) (lq1 : lx1.toInt = n) {sx0 : Int32} (sq0 : sx0.toInt = z) (n0 : 0 ≤ n) (n1 : n ≤ 16000)
    (g0 : ∀ x1 : Int32, x1.toInt = 0 → z = 0 → Q (some (.int x1)) h)
    (g1 : ∀ x3 : Int32, x3.toInt = (F 17) - n → z ≠ 0 → 0 ≤ F 17 → F 17 ≤ 16000 → Q (some (.int x3)) h)
    : HJ 267 85 lv [.int sx0] h Q := by
  refine hM_zeq (off := 12) (t := 97) rfl sq0 (by decide) rfl (fun c85 => ?_) (fun c85 => ?_) -- 85
  · refine hM_ic (n := 0) rfl (by decide) rfl (fun x1 q1 => ?_) -- 97
    refine hI_ri rfl rfl ?_ -- 98
    exact g0 x1 q1 c85
  · refine hI_al (k := 0) rfl e0 rfl ?_ -- 88
    refine hM_gi M (by decide) rfl rfl rfl (k := 17) (c := 9) (lo := 0) (hi := 16000) rfl rfl rfl rfl rfl (fun x2 q2 a2 b2 => ?_) -- 89
    refine hI_il (k := 1) rfl e1 rfl ?_ -- 92
    refine hM_sub rfl q2 lq1 (by omega) (by omega) rfl (fun x3 q3 => ?_) -- 93
    refine hI_go (pc' := 98) (off := 4) rfl (by decide) ?_ -- 94
    refine hI_ri rfl rfl ?_ -- 98
    exact g1 x3 q3 c85 a2 b2
theorem l_mb27 {v : Nat} {i : Int} {xi : Int32} {V0 : Nat → Nat → Int} (hw : d_sub [(62, 1001)] W = true) (hi : xi.toInt = i) (i0 : 0 ≤ i) (i4 : i ≤ 4) (hv : V0 48 (V0 60 i.toNat).toNat = (v : Int)) (v40 : v ≤ 40) (g : ∀ (lv : List (Nat × Value)) (h : MH) (V : Nat → Nat → Int), MX 49 W ρ m A h0 h F V G → (∀ r, r < 6 → V 25 r = V0 36 (6 * v + r)) → (∀ K, K ≠ 25 → V K = V0 K) → m_lk lv 0 = some (.ref m) → m_lk lv 1 = some (.int xi) → HJ 209 0 (lv_args 0 [.ref m]) [] h (fun v h' => HJ 267 70 lv (v.toList ++ []) h' Q)) : ∀ (d r : Nat) (lv : List (Nat × Value)) (h : MH) (V : Nat → Nat → Int) (xr : Int32), r + d = 6 → MX 49 W ρ m A h0 h F V G → (∀ k, k < r → V 25 k = V0 36 (6 * v + k)) → (∀ K, K ≠ 25 → V K = V0 K) → xr.toInt = (r : Int) → m_lk lv 0 = some (.ref m) → m_lk lv 1 = some (.int xi) → m_lk lv 2 = some (.int xr) → HJ 267 27 lv [] h Q := by
  intro d
  induction d with
  | zero =>
    intro r lv h V xr hd M k1 k2 hr e0 e1 e2
    have r6 : r = 6 := by omega
    subst r6
    exact s_mb27 M e0 e1 hi e2 hr i0 i4 (by omega) hw (fun _ => g lv h V M k1 k2 e0 e1) (fun h8 V8 f8 x9 q9 lv9 M8 e9_0 e9_1 e9_2 c30 a3 b3 a4 b4 a7 b7 => by omega)
  | succ d ih =>
    intro r lv h V xr hd M k1 k2 hr e0 e1 e2
    refine s_mb27 M e0 e1 hi e2 hr i0 i4 (by omega) hw (fun _ => by omega) (fun h8 V8 f8 x9 q9 lv9 M8 d0 d1 d2 _ _ _ _ _ _ _ => ?_)
    rw [k2 48 (by decide), k2 60 (by decide), hv, show (6 * (v : Int) + (r : Int)).toNat = 6 * v + r by omega, Int.toNat_natCast, k2 36 (by decide)] at f8
    refine ih (r + 1) lv9 h8 V8 x9 (by omega) M8 (fun k hk => ?_) (fun K hK => by rw [f8, m_uN _ _ _ _ hK, k2 K hK]) (by omega) d0 d1 d2
    rw [f8, m_uE]
    by_cases e : k = r
    · rw [e, m_uE]
    · rw [m_uN _ _ _ _ e]
      exact k1 k (by omega)
theorem l_mb17 {s : Nat} {F0 : Nat → Int} {V0 : Nat → Nat → Int} (hw : d_sub g_ls W = true) (fs : F0 47 = (s : Int)) (s5 : s ≤ 5) (n0 : 0 ≤ F0 17) (n1 : F0 17 + 36 ≤ 16000) (s41 : F0 35 ≤ 41) (so : z_so s (F0 35) (V0 48)) (tu : ∀ j, j < s → 0 ≤ V0 60 j ∧ V0 60 j < s) (ro : p_ro (F0 17) (F0 35) (V0 22) (V0 36)) (g : ∀ (z : Int32) (h' : MH) (F' : Nat → Int) (V' : Nat → Nat → Int), MX 49 W ρ m A h0 h' F' V' G → g_fo F0 V0 F' V' 36 → Q (some (.int z)) h') : ∀ (d i : Nat) (lv : List (Nat × Value)) (h : MH) (F : Nat → Int) (V : Nat → Nat → Int) (xi : Int32), i + d = s → 1 ≤ i → MX 49 W ρ m A h0 h F V G → g_fo F0 V0 F V (6 * i) → xi.toInt = (i : Int) → m_lk lv 0 = some (.ref m) → m_lk lv 1 = some (.int xi) → HJ 267 17 lv [] h Q := by
  have w1 : d_sub [(62, 1001)] W = true := d_subm hw (by decide +kernel)
  have w3 : d_sub g_md W = true := d_subm hw (by decide +kernel)
  intro d
  induction d with
  | zero =>
    intro i lv h F V xi hd i1 M I hi e0 e1
    have I' := I
    obtain ⟨⟨j1, j2⟩, ⟨j3, j4⟩, j5, j6, j7, j8⟩ := I'
    have f47 := j5 47 (by decide) (by decide) (by decide) (by decide)
    refine s_mb17 M e0 e1 hi (fun x2 q2 lv3 d0 d1 _ _ _ a2 b2 => ?_) (fun x4 q4 lv5 d0 d1 d2 _ _ _ => by omega)
    refine c_lessens M rfl hw j1 j2 (by omega) (by omega) (fun z h2 F2 V2 z0 z1 M2 I2 _ b2' _ _ => ?_)
    obtain ⟨⟨l1, l2⟩, ⟨l3, l4⟩, l5, l6, l7⟩ := I2
    have fin : g_fo F0 V0 F2 V2 36 := ⟨⟨l1, l2⟩, ⟨by omega, by omega⟩, fun K k1 k2 k3 k4 => (l5 K k1 k2 k3 k4).trans (j5 K k1 k2 k3 k4), fun v hv => (l6 v (by omega)).trans (j6 v hv), fun K hK => (l7 K hK).trans (j7 K hK), fun j hj => (b2' j (by omega)).trans (j8 j hj)⟩
    exact s_mb85 (z := z.toInt) M2 d0 d1 q2 rfl (by omega) (by omega) (fun x _ _ => g x h2 F2 V2 M2 fin) (fun x _ _ _ _ => g x h2 F2 V2 M2 fin)
  | succ d ih =>
    intro i lv h F V xi hd i1 M I hi e0 e1
    have I' := I
    obtain ⟨⟨j1, j2⟩, ⟨j3, j4⟩, j5, j6, j7, j8⟩ := I'
    have f47 := j5 47 (by decide) (by decide) (by decide) (by decide)
    have v48 := j7 48 (by decide)
    have v60 := j7 60 (by decide)
    have t := tu i (by omega)
    have sv := so (V0 60 i).toNat (by omega)
    refine s_mb17 M e0 e1 hi (fun x2 q2 lv3 d0 d1 _ _ _ a2 b2 => by omega) (fun x4 q4 lv5 d0 d1 d2 _ _ _ => ?_)
    refine l_mb27 (v := (V0 48 (V0 60 i).toNat).toNat) (V0 := V) w1 hi (by omega) (by omega) (by rw [v48, v60, Int.toNat_natCast]; omega) (by omega) (fun lv6 h3 V3 M3 k1 k2 b0 b1 => ?_) 6 0 lv5 h V x4 rfl M (fun k hk => absurd hk (Nat.not_lt_zero k)) (fun _ _ => rfl) q4 d0 d1 d2
    refine c_meld M3 w3 (by rw [k2 22 (by decide), k2 23 (by decide)]; exact j1) (by rw [k2 22 (by decide), k2 24 (by decide)]; exact j2) (fun r h6 => ?_) (by omega) (by omega) (fun h4 F4 V4 c M4 J _ => ?_)
    · rw [k2 22 (by decide), k1 r h6, j7 36 (by decide)]
      exact p_rtU j3 j6 (ro _ r (by omega) h6)
    · obtain ⟨⟨l1, l2, _⟩, ⟨l3, l4⟩, l5, l6, l7, _, _, l8⟩ := J
      refine s_mb70 M4 b0 b1 hi (by omega) (by omega) (fun x1 q1 lv7 c0 c1 => ?_)
      refine ih (i + 1) lv7 h4 F4 V4 x1 (by omega) (by omega) M4 ⟨⟨l1, l2⟩, ⟨by omega, by omega⟩, fun K y1 y2 y3 y4 => (l5 K y1 y3).trans (j5 K y1 y2 y3 y4), fun v hv => by rw [l6 v (by omega), k2 22 (by decide), j6 v hv], fun K hK => by rw [l7 K (by omega) (by omega) (by omega) (by omega) (by omega), k2 K (by omega), j7 K hK], fun j hj => by rw [l8 j (by omega), k2 23 (by decide), j8 j hj]⟩ (by omega) c0 c1
theorem c_madeB {s : Nat} (M : MX 49 W ρ m A h0 h F V G) (hw : d_sub g_ls W = true) (fs : F 47 = (s : Int)) (s1 : 1 ≤ s) (s5 : s ≤ 5) (n0 : 0 ≤ F 17) (n1 : F 17 + 36 ≤ 16000) (s41 : F 35 ≤ 41) (so : z_so s (F 35) (V 48)) (tu : ∀ j, j < s → 0 ≤ V 60 j ∧ V 60 j < s) (sh : p_sh (F 17) (V 22) (V 23)) (ro : p_ro (F 17) (F 35) (V 22) (V 36)) (g : ∀ (z : Int32) (h' : MH) (F' : Nat → Int) (V' : Nat → Nat → Int), MX 49 W ρ m A h0 h' F' V' G → g_fo F V F' V' 36 → Q (some (.int z)) h') : HJ 267 0 (lv_args 0 [.ref m]) [] h Q := by
  have w1 : d_sub [(61, 1001)] W = true := d_subm hw (by decide +kernel)
  have t := tu 0 (by omega)
  have sv := so (V 60 0).toNat (by omega)
  have e00 : V 48 (V 60 (0 : Int).toNat).toNat = V 48 (V 60 0).toNat := rfl
  refine s_mb0 M rfl (fun x3 q3 a2 b2 a3 b3 => ?_)
  rw [e00] at q3
  refine c_hand (v := (V 48 (V 60 0).toNat).toNat) M (by omega) (by omega) w1 (fun h2 V2 M2 k1 k2 => ?_)
  refine s_mb15 M2 rfl (fun x1 q1 lv2 e0 e1 => ?_)
  refine l_mb17 (F0 := F) (V0 := V) hw fs s5 n0 n1 s41 so tu ro g (s - 1) 1 lv2 h2 F V2 x1 (by omega) (by omega) M2 ⟨⟨by rw [k2 22 (by decide), k2 23 (by decide)]; exact sh, fun r h6 => ?_⟩, ⟨Int.le_refl _, by omega⟩, fun _ _ _ _ _ => rfl, fun _ _ => by rw [k2 22 (by decide)], fun K hK => k2 K (by omega), fun _ _ => by rw [k2 23 (by decide)]⟩ q1 e0 e1
  rw [k1 r h6, k2 22 (by decide)]
  exact ro _ r (by omega) h6
-- the best order
theorem s_fo0 {r w : Int} (M : MX 49 W ρ m A h0 h F V G) (e0 : m_lk lv 0 = some (.ref m)) {lx1 : Int32} (e1 : m_lk lv 1 = some (.int lx1)) (lq1 : lx1.toInt = r) {lx2 : Int64} (e2 : m_lk lv 2 = some (.long lx2)) {lx4 : Int32} (e4 : m_lk lv 4 = some (.int lx4)) (lq4 : lx4.toInt = w) (hw : d_sub [(49, 0)] W = true)
    (g0 : ∀ h2 : MH, ∀ F2 : Nat → Int, F2 = m_u F 0 (0) → MX 49 W ρ m A h0 h2 F2 V G → HJ 201 0 (lv_args 0 [.ref m, .int lx1]) [] h2 (fun v h' => HJ 265 10 lv (v.toList ++ []) h' Q))
    : HJ 265 0 lv [] h Q := by
  refine hI_al (k := 0) rfl e0 rfl ?_ -- 0
  refine hM_ic (n := 0) rfl (by decide) rfl (fun x1 q1 => ?_) -- 1
  refine hM_pi M (by decide) ok_49 rfl rfl (k := 0) (c := 9) (lo := (-2147483648)) (hi := 2147483647) rfl rfl ⟨by decide, by decide +kernel, rfl⟩ rfl (d_subm hw (by decide +kernel)) q1 (by omega) (by omega) rfl (fun h2 F2 f2 M2 => ?_) -- 2
  refine hI_al (k := 0) rfl e0 rfl ?_ -- 5
  refine hI_il (k := 1) rfl e1 rfl ?_ -- 6
  refine hM_iv M2 (by decide) rfl rfl (by decide) (as := [.int lx1]) (r := []) rfl rfl (by decide +kernel) rfl (by decide +kernel) rfl rfl rfl rfl rfl ?_ -- 7
  exact g0 h2 F2 f2 M2
theorem s_fo10 {r w z : Int} (M : MX 49 W ρ m A h0 h F V G) (e0 : m_lk lv 0 = some (.ref m)) {lx1 : Int32} (e1 : m_lk lv 1 = some (.int lx1)) (lq1 : lx1.toInt = r) {lx2 : Int64} (e2 : m_lk lv 2 = some (.long lx2)) {lx4 : Int32} (e4 : m_lk lv 4 = some (.int lx4)) (lq4 : lx4.toInt = w) {sx0 : Int32} (sq0 : sx0.toInt = z) 
    (g0 : ∀ x1 : Int32, x1.toInt = (-1) → z = 0 → Q (some (.int x1)) h)
    (g1 : z ≠ 0 → HJ 245 0 (lv_args 0 [.ref m, .long lx2]) [] h (fun v h' => HJ 265 18 lv (v.toList ++ []) h' Q))
    : HJ 265 10 lv [.int sx0] h Q := by
  refine hM_zeq (off := 31) (t := 41) rfl sq0 (by decide) rfl (fun c10 => ?_) (fun c10 => ?_) -- 10
  · refine hM_ic (n := (-1)) rfl (by decide) rfl (fun x1 q1 => ?_) -- 41
    refine hI_ri rfl rfl ?_ -- 42
    exact g0 x1 q1 c10
  · refine hI_al (k := 0) rfl e0 rfl ?_ -- 13
    refine hI_ll (k := 2) rfl e2 rfl ?_ -- 14
    refine hM_iv M (by decide) rfl rfl (by decide) (as := [.long lx2]) (r := []) rfl rfl (by decide +kernel) rfl (by decide +kernel) rfl rfl rfl rfl rfl ?_ -- 15
    exact g1 c10
theorem s_fo18 {r w z : Int} (M : MX 49 W ρ m A h0 h F V G) (e0 : m_lk lv 0 = some (.ref m)) {lx1 : Int32} (e1 : m_lk lv 1 = some (.int lx1)) (lq1 : lx1.toInt = r) {lx2 : Int64} (e2 : m_lk lv 2 = some (.long lx2)) {lx4 : Int32} (e4 : m_lk lv 4 = some (.int lx4)) (lq4 : lx4.toInt = w) {sx0 : Int32} (sq0 : sx0.toInt = z) 
    (g0 : ∀ x1 : Int32, x1.toInt = (-1) → z = 0 → Q (some (.int x1)) h)
    (g1 : z ≠ 0 → HJ 249 0 (lv_args 0 [.ref m, .long lx2]) [] h (fun v h' => HJ 265 26 lv (v.toList ++ []) h' Q))
    : HJ 265 18 lv [.int sx0] h Q := by
  refine hM_zeq (off := 23) (t := 41) rfl sq0 (by decide) rfl (fun c18 => ?_) (fun c18 => ?_) -- 18
  · refine hM_ic (n := (-1)) rfl (by decide) rfl (fun x1 q1 => ?_) -- 41
    refine hI_ri rfl rfl ?_ -- 42
    exact g0 x1 q1 c18
  · refine hI_al (k := 0) rfl e0 rfl ?_ -- 21
    refine hI_ll (k := 2) rfl e2 rfl ?_ -- 22
    refine hM_iv M (by decide) rfl rfl (by decide) (as := [.long lx2]) (r := []) rfl rfl (by decide +kernel) rfl (by decide +kernel) rfl rfl rfl rfl rfl ?_ -- 23
    exact g1 c18
theorem s_fo26 {r w z : Int} (M : MX 49 W ρ m A h0 h F V G) (e0 : m_lk lv 0 = some (.ref m)) {lx1 : Int32} (e1 : m_lk lv 1 = some (.int lx1)) (lq1 : lx1.toInt = r) {lx2 : Int64} (e2 : m_lk lv 2 = some (.long lx2)) {lx4 : Int32} (e4 : m_lk lv 4 = some (.int lx4)) (lq4 : lx4.toInt = w) {sx0 : Int32} (sq0 : sx0.toInt = z) 
    (g0 : ∀ x1 : Int32, x1.toInt = (-1) → z = 0 → Q (some (.int x1)) h)
    (g1 : ∀ x2 : Int32, x2.toInt = F 47 → ∀ x3 : Int32, x3.toInt = 2 → ∀ x4 : Int32, x4.toInt = 5 → z ≠ 0 → 0 ≤ F 47 → F 47 ≤ 12 → HJ 186 0 (lv_args 0 [.int x2, .int x3, .int x4]) [] h (fun v h' => HJ 265 38 lv (v.toList ++ []) h' Q))
    : HJ 265 26 lv [.int sx0] h Q := by
  refine hM_zeq (off := 15) (t := 41) rfl sq0 (by decide) rfl (fun c26 => ?_) (fun c26 => ?_) -- 26
  · refine hM_ic (n := (-1)) rfl (by decide) rfl (fun x1 q1 => ?_) -- 41
    refine hI_ri rfl rfl ?_ -- 42
    exact g0 x1 q1 c26
  · refine hI_al (k := 0) rfl e0 rfl ?_ -- 29
    refine hM_gi M (by decide) rfl rfl rfl (k := 47) (c := 9) (lo := 0) (hi := 12) rfl rfl rfl rfl rfl (fun x2 q2 a2 b2 => ?_) -- 30
    refine hM_ic (n := 2) rfl (by decide) rfl (fun x3 q3 => ?_) -- 33
    refine hM_ic (n := 5) rfl (by decide) rfl (fun x4 q4 => ?_) -- 34
    refine hM_is0 (as := [.int x2, .int x3, .int x4]) (r := []) rfl rfl (by decide +kernel) rfl rfl rfl rfl rfl ?_ -- 35
    exact g1 x2 q2 x3 q3 x4 q4 c26 a2 b2
theorem s_fo38 {r w z : Int} (M : MX 49 W ρ m A h0 h F V G) (e0 : m_lk lv 0 = some (.ref m)) {lx1 : Int32} (e1 : m_lk lv 1 = some (.int lx1)) (lq1 : lx1.toInt = r) {lx2 : Int64} (e2 : m_lk lv 2 = some (.long lx2)) {lx4 : Int32} (e4 : m_lk lv 4 = some (.int lx4)) (lq4 : lx4.toInt = w) {sx0 : Int32} (sq0 : sx0.toInt = z) 
    (g0 : ∀ x1 : Int32, x1.toInt = 0 → ∀ x3 : Int32, x3.toInt = 1 → ∀ x5 : Int32, x5.toInt = 0 → ∀ lv6 : List (Nat × Value), m_lk lv6 0 = some (.ref m) → m_lk lv6 4 = some (.int lx4) → m_lk lv6 5 = some (.int x1) → m_lk lv6 6 = some (.int x3) → m_lk lv6 7 = some (.int x5) → z ≠ 0 → HJ 265 52 lv6 [] h Q)
    (g1 : ∀ x7 : Int32, x7.toInt = (-1) → z = 0 → Q (some (.int x7)) h)
    : HJ 265 38 lv [.int sx0] h Q := by
  refine hM_zne (off := 5) (t := 43) rfl sq0 (by decide) rfl (fun c38 => ?_) (fun c38 => ?_) -- 38
  · refine hM_ic (n := 0) rfl (by decide) rfl (fun x1 q1 => ?_) -- 43
    refine hM_si2 (k := 5) rfl (by decide +kernel) rfl (fun lv2 e2_5 u2 => ?_) -- 44
    have e2_0 := u2 0 _ (by decide) (Or.inl rfl) e0
    have e2_1 := u2 1 _ (by decide) (Or.inl rfl) e1
    have e2_2 := u2 2 _ (by decide) (Or.inr (by decide)) e2
    have e2_4 := u2 4 _ (by decide) (Or.inl rfl) e4
    refine hM_ic (n := 1) rfl (by decide) rfl (fun x3 q3 => ?_) -- 46
    refine hM_si2 (k := 6) rfl (by decide +kernel) rfl (fun lv4 e4_6 u4 => ?_) -- 47
    have e4_0 := u4 0 _ (by decide) (Or.inl rfl) e2_0
    have e4_1 := u4 1 _ (by decide) (Or.inl rfl) e2_1
    have e4_2 := u4 2 _ (by decide) (Or.inr (by decide)) e2_2
    have e4_4 := u4 4 _ (by decide) (Or.inl rfl) e2_4
    have e4_5 := u4 5 _ (by decide) (Or.inl rfl) e2_5
    refine hM_ic (n := 0) rfl (by decide) rfl (fun x5 q5 => ?_) -- 49
    refine hM_si2 (k := 7) rfl (by decide +kernel) rfl (fun lv6 e6_7 u6 => ?_) -- 50
    have e6_0 := u6 0 _ (by decide) (Or.inl rfl) e4_0
    have e6_1 := u6 1 _ (by decide) (Or.inl rfl) e4_1
    have e6_2 := u6 2 _ (by decide) (Or.inr (by decide)) e4_2
    have e6_4 := u6 4 _ (by decide) (Or.inl rfl) e4_4
    have e6_5 := u6 5 _ (by decide) (Or.inl rfl) e4_5
    have e6_6 := u6 6 _ (by decide) (Or.inl rfl) e4_6
    exact g0 x1 q1 x3 q3 x5 q5 lv6 e6_0 e6_4 e6_5 e6_6 e6_7 c38
  · refine hM_ic (n := (-1)) rfl (by decide) rfl (fun x7 q7 => ?_) -- 41
    refine hI_ri rfl rfl ?_ -- 42
    exact g1 x7 q7 c38
theorem s_fo52 {w a c i : Int} (M : MX 49 W ρ m A h0 h F V G) (e0 : m_lk lv 0 = some (.ref m)) {lx4 : Int32} (e4 : m_lk lv 4 = some (.int lx4)) (lq4 : lx4.toInt = w) {lx5 : Int32} (e5 : m_lk lv 5 = some (.int lx5)) (lq5 : lx5.toInt = a) {lx6 : Int32} (e6 : m_lk lv 6 = some (.int lx6)) (lq6 : lx6.toInt = c) {lx7 : Int32} (e7 : m_lk lv 7 = some (.int lx7)) (lq7 : lx7.toInt = i) (i0 : 0 ≤ i)
    (g0 : 0 ≤ F 47 → F 47 ≤ 12 → i ≥ F 47 → HJ 265 92 lv [] h Q)
    (g1 : ∀ x2 : Int32, x2.toInt = V 48 (i).toNat → 0 ≤ F 47 → F 47 ≤ 12 → i < F 47 → 0 ≤ V 48 (i).toNat → V 48 (i).toNat ≤ 40 → HJ 207 0 (lv_args 0 [.ref m, .int x2]) [] h (fun v h' => HJ 265 74 lv (v.toList ++ [.int lx5]) h' Q))
    : HJ 265 52 lv [] h Q := by
  refine hI_il2 (k := 7) rfl e7 rfl ?_ -- 52
  refine hI_al (k := 0) rfl e0 rfl ?_ -- 54
  refine hM_gi M (by decide) rfl rfl rfl (k := 47) (c := 9) (lo := 0) (hi := 12) rfl rfl rfl rfl rfl (fun x1 q1 a1 b1 => ?_) -- 55
  refine hM_cge (off := 34) (t := 92) rfl lq7 q1 (by decide) rfl (fun c58 => ?_) (fun c58 => ?_) -- 58
  · exact g0 a1 b1 c58
  · refine hI_il2 (k := 5) rfl e5 rfl ?_ -- 61
    refine hI_al (k := 0) rfl e0 rfl ?_ -- 63
    refine hI_al (k := 0) rfl e0 rfl ?_ -- 64
    refine hM_ga M (by decide) rfl rfl (k := 48) (c := 9) rfl rfl rfl (by decide +kernel) rfl ?_ -- 65
    refine hI_il2 (k := 7) rfl e7 rfl ?_ -- 68
    refine hM_ia M (by decide) (K := 48) (R2 := 81) (L := 12) (H := 12) (lo := 0) (hi := 40) rfl (by decide) rfl rfl (fun _ => rfl) rfl lq7 (by omega) (by omega) rfl (fun x2 q2 a2 b2 => ?_) -- 70
    refine hM_iv M (by decide) rfl rfl (by decide) (as := [.int x2]) (r := [.int lx5]) rfl rfl (by decide +kernel) rfl (by decide +kernel) rfl rfl rfl rfl rfl ?_ -- 71
    exact g1 x2 q2 a1 b1 c58 a2 b2
theorem s_fo74 {w a c i y : Int} (M : MX 49 W ρ m A h0 h F V G) (e0 : m_lk lv 0 = some (.ref m)) {lx4 : Int32} (e4 : m_lk lv 4 = some (.int lx4)) (lq4 : lx4.toInt = w) {lx5 : Int32} (e5 : m_lk lv 5 = some (.int lx5)) (lq5 : lx5.toInt = a) {lx6 : Int32} (e6 : m_lk lv 6 = some (.int lx6)) (lq6 : lx6.toInt = c) {lx7 : Int32} (e7 : m_lk lv 7 = some (.int lx7)) (lq7 : lx7.toInt = i) {sx0 : Int32} (sq0 : sx0.toInt = a) {sx1 : Int32} (sq1 : sx1.toInt = y) (i0 : 0 ≤ i) (i1 : i ≤ 4) (a0 : 0 ≤ a) (a1 : a ≤ 1000) (y0 : 0 ≤ y) (y1 : y ≤ 63) (c0 : 0 ≤ c * F 47) (c1 : c * F 47 ≤ 100000)
    (g0 : ∀ x1 : Int32, x1.toInt = a + y → ∀ x4 : Int32, x4.toInt = c * (F 47) → ∀ x6 : Int32, x6.toInt = i + 1 → ∀ lv6 : List (Nat × Value), m_lk lv6 0 = some (.ref m) → m_lk lv6 4 = some (.int lx4) → m_lk lv6 5 = some (.int x1) → m_lk lv6 6 = some (.int x4) → m_lk lv6 7 = some (.int x6) → 0 ≤ F 47 → F 47 ≤ 12 → HJ 265 52 lv6 [] h Q)
    : HJ 265 74 lv [.int sx1, .int sx0] h Q := by
  refine hM_add rfl sq0 sq1 (by omega) (by omega) rfl (fun x1 q1 => ?_) -- 74
  refine hM_si2 (k := 5) rfl (by decide +kernel) rfl (fun lv2 e2_5 u2 => ?_) -- 75
  have e2_0 := u2 0 _ (by decide) (Or.inl rfl) e0
  have e2_4 := u2 4 _ (by decide) (Or.inl rfl) e4
  have e2_6 := u2 6 _ (by decide) (Or.inl rfl) e6
  have e2_7 := u2 7 _ (by decide) (Or.inl rfl) e7
  refine hI_il2 (k := 6) rfl e2_6 rfl ?_ -- 77
  refine hI_al (k := 0) rfl e2_0 rfl ?_ -- 79
  refine hM_gi M (by decide) rfl rfl rfl (k := 47) (c := 9) (lo := 0) (hi := 12) rfl rfl rfl rfl rfl (fun x3 q3 a3 b3 => ?_) -- 80
  refine hM_mul rfl lq6 q3 (by omega) (by omega) rfl (fun x4 q4 => ?_) -- 83
  refine hM_si2 (k := 6) rfl (by decide +kernel) rfl (fun lv5 e5_6 u5 => ?_) -- 84
  have e5_0 := u5 0 _ (by decide) (Or.inl rfl) e2_0
  have e5_4 := u5 4 _ (by decide) (Or.inl rfl) e2_4
  have e5_7 := u5 7 _ (by decide) (Or.inl rfl) e2_7
  have e5_5 := u5 5 _ (by decide) (Or.inl rfl) e2_5
  refine hM_inc (k := 7) (z := 1) rfl e5_7 lq7 (by decide) (by omega) (by omega) (by decide +kernel) rfl (fun lv6 x6 q6 e6_7 u6 => ?_) -- 86
  have e6_0 := u6 0 _ (by decide) (Or.inl rfl) e5_0
  have e6_4 := u6 4 _ (by decide) (Or.inl rfl) e5_4
  have e6_5 := u6 5 _ (by decide) (Or.inl rfl) e5_5
  have e6_6 := u6 6 _ (by decide) (Or.inl rfl) e5_6
  refine hI_go (pc' := 52) (off := (-37)) rfl (by decide) ?_ -- 89
  exact g0 x1 q1 x4 q4 x6 q6 lv6 e6_0 e6_4 e6_5 e6_6 e6_7 a3 b3
theorem s_fo92 {w a c i : Int} (M : MX 49 W ρ m A h0 h F V G) (e0 : m_lk lv 0 = some (.ref m)) {lx4 : Int32} (e4 : m_lk lv 4 = some (.int lx4)) (lq4 : lx4.toInt = w) {lx5 : Int32} (e5 : m_lk lv 5 = some (.int lx5)) (lq5 : lx5.toInt = a) {lx6 : Int32} (e6 : m_lk lv 6 = some (.int lx6)) (lq6 : lx6.toInt = c) {lx7 : Int32} (e7 : m_lk lv 7 = some (.int lx7)) (lq7 : lx7.toInt = i) 
    (g0 : ∀ x2 : Int32, x2.toInt = (-1) → ∀ x4 : Int32, x4.toInt = F 17 → ∀ x6 : Int32, x6.toInt = 0 → ∀ lv7 : List (Nat × Value), m_lk lv7 0 = some (.ref m) → m_lk lv7 4 = some (.int lx4) → m_lk lv7 6 = some (.int lx6) → m_lk lv7 7 = some (.int x2) → m_lk lv7 8 = some (.int x4) → m_lk lv7 9 = some (.int x6) → a ≤ 63 → 0 ≤ F 17 → F 17 ≤ 16000 → HJ 265 113 lv7 [] h Q)
    (g1 : ∀ x8 : Int32, x8.toInt = (-1) → a > 63 → Q (some (.int x8)) h)
    : HJ 265 92 lv [] h Q := by
  refine hI_il2 (k := 5) rfl e5 rfl ?_ -- 92
  refine hM_bp (n := 63) rfl (by decide) rfl (fun x1 q1 => ?_) -- 94
  refine hM_cle (off := 5) (t := 101) rfl lq5 q1 (by decide) rfl (fun c96 => ?_) (fun c96 => ?_) -- 96
  · refine hM_ic (n := (-1)) rfl (by decide) rfl (fun x2 q2 => ?_) -- 101
    refine hM_si2 (k := 7) rfl (by decide +kernel) rfl (fun lv3 e3_7 u3 => ?_) -- 102
    have e3_0 := u3 0 _ (by decide) (Or.inl rfl) e0
    have e3_4 := u3 4 _ (by decide) (Or.inl rfl) e4
    have e3_5 := u3 5 _ (by decide) (Or.inl rfl) e5
    have e3_6 := u3 6 _ (by decide) (Or.inl rfl) e6
    refine hI_al (k := 0) rfl e3_0 rfl ?_ -- 104
    refine hM_gi M (by decide) rfl rfl rfl (k := 17) (c := 9) (lo := 0) (hi := 16000) rfl rfl rfl rfl rfl (fun x4 q4 a4 b4 => ?_) -- 105
    refine hM_si2 (k := 8) rfl (by decide +kernel) rfl (fun lv5 e5_8 u5 => ?_) -- 108
    have e5_0 := u5 0 _ (by decide) (Or.inl rfl) e3_0
    have e5_4 := u5 4 _ (by decide) (Or.inl rfl) e3_4
    have e5_5 := u5 5 _ (by decide) (Or.inl rfl) e3_5
    have e5_6 := u5 6 _ (by decide) (Or.inl rfl) e3_6
    have e5_7 := u5 7 _ (by decide) (Or.inl rfl) e3_7
    refine hM_ic (n := 0) rfl (by decide) rfl (fun x6 q6 => ?_) -- 110
    refine hM_si2 (k := 9) rfl (by decide +kernel) rfl (fun lv7 e7_9 u7 => ?_) -- 111
    have e7_0 := u7 0 _ (by decide) (Or.inl rfl) e5_0
    have e7_4 := u7 4 _ (by decide) (Or.inl rfl) e5_4
    have e7_5 := u7 5 _ (by decide) (Or.inl rfl) e5_5
    have e7_6 := u7 6 _ (by decide) (Or.inl rfl) e5_6
    have e7_7 := u7 7 _ (by decide) (Or.inl rfl) e5_7
    have e7_8 := u7 8 _ (by decide) (Or.inl rfl) e5_8
    exact g0 x2 q2 x4 q4 x6 q6 lv7 e7_0 e7_4 e7_6 e7_7 e7_8 e7_9 c96 a4 b4
  · refine hM_ic (n := (-1)) rfl (by decide) rfl (fun x8 q8 => ?_) -- 99
    refine hI_ri rfl rfl ?_ -- 100
    exact g1 x8 q8 c96
theorem s_fo113 {w c l b k : Int} (M : MX 49 W ρ m A h0 h F V G) (e0 : m_lk lv 0 = some (.ref m)) {lx4 : Int32} (e4 : m_lk lv 4 = some (.int lx4)) (lq4 : lx4.toInt = w) {lx6 : Int32} (e6 : m_lk lv 6 = some (.int lx6)) (lq6 : lx6.toInt = c) {lx7 : Int32} (e7 : m_lk lv 7 = some (.int lx7)) (lq7 : lx7.toInt = l) {lx8 : Int32} (e8 : m_lk lv 8 = some (.int lx8)) (lq8 : lx8.toInt = b) {lx9 : Int32} (e9 : m_lk lv 9 = some (.int lx9)) (lq9 : lx9.toInt = k) 
    (g0 : k ≥ c → HJ 265 196 lv [] h Q)
    (g1 : k < c → HJ 266 0 (lv_args 0 [.ref m, .int lx9]) [] h (fun v h' => HJ 265 126 lv (v.toList ++ []) h' Q))
    : HJ 265 113 lv [] h Q := by
  refine hI_il2 (k := 9) rfl e9 rfl ?_ -- 113
  refine hI_il2 (k := 6) rfl e6 rfl ?_ -- 115
  refine hM_cge (off := 79) (t := 196) rfl lq9 lq6 (by decide) rfl (fun c117 => ?_) (fun c117 => ?_) -- 117
  · exact g0 c117
  · refine hI_al (k := 0) rfl e0 rfl ?_ -- 120
    refine hI_il2 (k := 9) rfl e9 rfl ?_ -- 121
    refine hM_iv M (by decide) rfl rfl (by decide) (as := [.int lx9]) (r := []) rfl rfl (by decide +kernel) rfl (by decide +kernel) rfl rfl rfl rfl rfl ?_ -- 123
    exact g1 c117
theorem s_fo126 {w c l b k z : Int} (M : MX 49 W ρ m A h0 h F V G) (e0 : m_lk lv 0 = some (.ref m)) {lx4 : Int32} (e4 : m_lk lv 4 = some (.int lx4)) (lq4 : lx4.toInt = w) {lx6 : Int32} (e6 : m_lk lv 6 = some (.int lx6)) (lq6 : lx6.toInt = c) {lx7 : Int32} (e7 : m_lk lv 7 = some (.int lx7)) (lq7 : lx7.toInt = l) {lx8 : Int32} (e8 : m_lk lv 8 = some (.int lx8)) (lq8 : lx8.toInt = b) {lx9 : Int32} (e9 : m_lk lv 9 = some (.int lx9)) (lq9 : lx9.toInt = k) {sx0 : Int32} (sq0 : sx0.toInt = z) (b0 : 0 ≤ b) (b1 : b ≤ 16000)(hw : d_sub [(49, 17)] W = true)
    (g0 : z = 0 → HJ 265 190 lv [] h Q)
    (g1 : ∀ h1 : MH, ∀ F1 : Nat → Int, F1 = m_u F 17 (b) → MX 49 W ρ m A h0 h1 F1 V G → z ≠ 0 → HJ 267 0 (lv_args 0 [.ref m]) [] h1 (fun v h' => HJ 265 139 lv (v.toList ++ []) h' Q))
    : HJ 265 126 lv [.int sx0] h Q := by
  refine hM_zeq (off := 64) (t := 190) rfl sq0 (by decide) rfl (fun c126 => ?_) (fun c126 => ?_) -- 126
  · exact g0 c126
  · refine hI_al (k := 0) rfl e0 rfl ?_ -- 129
    refine hI_il2 (k := 8) rfl e8 rfl ?_ -- 130
    refine hM_pi M (by decide) ok_49 rfl rfl (k := 17) (c := 9) (lo := 0) (hi := 16000) rfl rfl ⟨by decide, by decide +kernel, rfl⟩ rfl (d_subm hw (by decide +kernel)) lq8 (by omega) (by omega) rfl (fun h1 F1 f1 M1 => ?_) -- 132
    refine hI_al (k := 0) rfl e0 rfl ?_ -- 135
    refine hM_iv M1 (by decide) rfl rfl (by decide) (as := []) (r := []) rfl rfl (by decide +kernel) rfl (by decide +kernel) rfl rfl rfl rfl rfl ?_ -- 136
    exact g1 h1 F1 f1 M1 c126
theorem s_fo139 {w c l b k y : Int} (M : MX 49 W ρ m A h0 h F V G) (e0 : m_lk lv 0 = some (.ref m)) {lx4 : Int32} (e4 : m_lk lv 4 = some (.int lx4)) (lq4 : lx4.toInt = w) {lx6 : Int32} (e6 : m_lk lv 6 = some (.int lx6)) (lq6 : lx6.toInt = c) {lx7 : Int32} (e7 : m_lk lv 7 = some (.int lx7)) (lq7 : lx7.toInt = l) {lx8 : Int32} (e8 : m_lk lv 8 = some (.int lx8)) (lq8 : lx8.toInt = b) {lx9 : Int32} (e9 : m_lk lv 9 = some (.int lx9)) (lq9 : lx9.toInt = k) {sx0 : Int32} (sq0 : sx0.toInt = y) 
    (g0 : ∀ x4 : Int32, x4.toInt = 0 → ∀ lv5 : List (Nat × Value), m_lk lv5 0 = some (.ref m) → m_lk lv5 4 = some (.int lx4) → m_lk lv5 6 = some (.int lx6) → m_lk lv5 7 = some (.int sx0) → m_lk lv5 8 = some (.int lx8) → m_lk lv5 9 = some (.int lx9) → m_lk lv5 11 = some (.int x4) → l = (-1) → HJ 265 161 lv5 [] h Q)
    (g1 : ∀ lv1 : List (Nat × Value), m_lk lv1 0 = some (.ref m) → m_lk lv1 4 = some (.int lx4) → m_lk lv1 6 = some (.int lx6) → m_lk lv1 7 = some (.int lx7) → m_lk lv1 8 = some (.int lx8) → m_lk lv1 9 = some (.int lx9) → l ≠ (-1) → y ≥ l → HJ 265 190 lv1 [] h Q)
    (g2 : ∀ x7 : Int32, x7.toInt = 0 → ∀ lv8 : List (Nat × Value), m_lk lv8 0 = some (.ref m) → m_lk lv8 4 = some (.int lx4) → m_lk lv8 6 = some (.int lx6) → m_lk lv8 7 = some (.int sx0) → m_lk lv8 8 = some (.int lx8) → m_lk lv8 9 = some (.int lx9) → m_lk lv8 11 = some (.int x7) → l ≠ (-1) → y < l → HJ 265 161 lv8 [] h Q)
    : HJ 265 139 lv [.int sx0] h Q := by
  refine hM_si2 (k := 10) rfl (by decide +kernel) rfl (fun lv1 e1_10 u1 => ?_) -- 139
  have e1_0 := u1 0 _ (by decide) (Or.inl rfl) e0
  have e1_4 := u1 4 _ (by decide) (Or.inl rfl) e4
  have e1_6 := u1 6 _ (by decide) (Or.inl rfl) e6
  have e1_7 := u1 7 _ (by decide) (Or.inl rfl) e7
  have e1_8 := u1 8 _ (by decide) (Or.inl rfl) e8
  have e1_9 := u1 9 _ (by decide) (Or.inl rfl) e9
  refine hI_il2 (k := 7) rfl e1_7 rfl ?_ -- 141
  refine hM_ic (n := (-1)) rfl (by decide) rfl (fun x2 q2 => ?_) -- 143
  refine hM_ceq (off := 10) (t := 154) rfl lq7 q2 (by decide) rfl (fun c144 => ?_) (fun c144 => ?_) -- 144
  · refine hI_il2 (k := 10) rfl e1_10 rfl ?_ -- 154
    refine hM_si2 (k := 7) rfl (by decide +kernel) rfl (fun lv3 e3_7 u3 => ?_) -- 156
    have e3_0 := u3 0 _ (by decide) (Or.inl rfl) e1_0
    have e3_4 := u3 4 _ (by decide) (Or.inl rfl) e1_4
    have e3_6 := u3 6 _ (by decide) (Or.inl rfl) e1_6
    have e3_8 := u3 8 _ (by decide) (Or.inl rfl) e1_8
    have e3_9 := u3 9 _ (by decide) (Or.inl rfl) e1_9
    have e3_10 := u3 10 _ (by decide) (Or.inl rfl) e1_10
    refine hM_ic (n := 0) rfl (by decide) rfl (fun x4 q4 => ?_) -- 158
    refine hM_si2 (k := 11) rfl (by decide +kernel) rfl (fun lv5 e5_11 u5 => ?_) -- 159
    have e5_0 := u5 0 _ (by decide) (Or.inl rfl) e3_0
    have e5_4 := u5 4 _ (by decide) (Or.inl rfl) e3_4
    have e5_6 := u5 6 _ (by decide) (Or.inl rfl) e3_6
    have e5_8 := u5 8 _ (by decide) (Or.inl rfl) e3_8
    have e5_9 := u5 9 _ (by decide) (Or.inl rfl) e3_9
    have e5_10 := u5 10 _ (by decide) (Or.inl rfl) e3_10
    have e5_7 := u5 7 _ (by decide) (Or.inl rfl) e3_7
    exact g0 x4 q4 lv5 e5_0 e5_4 e5_6 e5_7 e5_8 e5_9 e5_11 c144
  · refine hI_il2 (k := 10) rfl e1_10 rfl ?_ -- 147
    refine hI_il2 (k := 7) rfl e1_7 rfl ?_ -- 149
    refine hM_cge (off := 39) (t := 190) rfl sq0 lq7 (by decide) rfl (fun c151 => ?_) (fun c151 => ?_) -- 151
    · exact g1 lv1 e1_0 e1_4 e1_6 e1_7 e1_8 e1_9 c144 c151
    · refine hI_il2 (k := 10) rfl e1_10 rfl ?_ -- 154
      refine hM_si2 (k := 7) rfl (by decide +kernel) rfl (fun lv6 e6_7 u6 => ?_) -- 156
      have e6_0 := u6 0 _ (by decide) (Or.inl rfl) e1_0
      have e6_4 := u6 4 _ (by decide) (Or.inl rfl) e1_4
      have e6_6 := u6 6 _ (by decide) (Or.inl rfl) e1_6
      have e6_8 := u6 8 _ (by decide) (Or.inl rfl) e1_8
      have e6_9 := u6 9 _ (by decide) (Or.inl rfl) e1_9
      have e6_10 := u6 10 _ (by decide) (Or.inl rfl) e1_10
      refine hM_ic (n := 0) rfl (by decide) rfl (fun x7 q7 => ?_) -- 158
      refine hM_si2 (k := 11) rfl (by decide +kernel) rfl (fun lv8 e8_11 u8 => ?_) -- 159
      have e8_0 := u8 0 _ (by decide) (Or.inl rfl) e6_0
      have e8_4 := u8 4 _ (by decide) (Or.inl rfl) e6_4
      have e8_6 := u8 6 _ (by decide) (Or.inl rfl) e6_6
      have e8_8 := u8 8 _ (by decide) (Or.inl rfl) e6_8
      have e8_9 := u8 9 _ (by decide) (Or.inl rfl) e6_9
      have e8_10 := u8 10 _ (by decide) (Or.inl rfl) e6_10
      have e8_7 := u8 7 _ (by decide) (Or.inl rfl) e6_7
      exact g2 x7 q7 lv8 e8_0 e8_4 e8_6 e8_7 e8_8 e8_9 e8_11 c144 c151
theorem s_fo161 {w c l b k i : Int} (M : MX 49 W ρ m A h0 h F V G) (e0 : m_lk lv 0 = some (.ref m)) {lx4 : Int32} (e4 : m_lk lv 4 = some (.int lx4)) (lq4 : lx4.toInt = w) {lx6 : Int32} (e6 : m_lk lv 6 = some (.int lx6)) (lq6 : lx6.toInt = c) {lx7 : Int32} (e7 : m_lk lv 7 = some (.int lx7)) (lq7 : lx7.toInt = l) {lx8 : Int32} (e8 : m_lk lv 8 = some (.int lx8)) (lq8 : lx8.toInt = b) {lx9 : Int32} (e9 : m_lk lv 9 = some (.int lx9)) (lq9 : lx9.toInt = k) {lx11 : Int32} (e11 : m_lk lv 11 = some (.int lx11)) (lq11 : lx11.toInt = i) (i0 : 0 ≤ i) (s1 : F 47 ≤ 5)(hw : d_sub [(91, 1001)] W = true)
    (g0 : 0 ≤ F 47 → F 47 ≤ 12 → i ≥ F 47 → HJ 265 190 lv [] h Q)
    (g1 : ∀ h3 : MH, ∀ V3 : Nat → Nat → Int, V3 = m_u V 61 (m_u (V 61) (i).toNat (V 60 (i).toNat)) → ∀ x4 : Int32, x4.toInt = i + 1 → ∀ lv4 : List (Nat × Value), MX 49 W ρ m A h0 h3 F V3 G → m_lk lv4 0 = some (.ref m) → m_lk lv4 4 = some (.int lx4) → m_lk lv4 6 = some (.int lx6) → m_lk lv4 7 = some (.int lx7) → m_lk lv4 8 = some (.int lx8) → m_lk lv4 9 = some (.int lx9) → m_lk lv4 11 = some (.int x4) → 0 ≤ F 47 → F 47 ≤ 12 → i < F 47 → 0 ≤ V 60 (i).toNat → V 60 (i).toNat ≤ 11 → HJ 265 161 lv4 [] h3 Q)
    : HJ 265 161 lv [] h Q := by
  refine hI_il2 (k := 11) rfl e11 rfl ?_ -- 161
  refine hI_al (k := 0) rfl e0 rfl ?_ -- 163
  refine hM_gi M (by decide) rfl rfl rfl (k := 47) (c := 9) (lo := 0) (hi := 12) rfl rfl rfl rfl rfl (fun x1 q1 a1 b1 => ?_) -- 164
  refine hM_cge (off := 23) (t := 190) rfl lq11 q1 (by decide) rfl (fun c167 => ?_) (fun c167 => ?_) -- 167
  · exact g0 a1 b1 c167
  · refine hI_al (k := 0) rfl e0 rfl ?_ -- 170
    refine hM_ga M (by decide) rfl rfl (k := 61) (c := 9) rfl rfl rfl (by decide +kernel) rfl ?_ -- 171
    refine hI_il2 (k := 11) rfl e11 rfl ?_ -- 174
    refine hI_al (k := 0) rfl e0 rfl ?_ -- 176
    refine hM_ga M (by decide) rfl rfl (k := 60) (c := 9) rfl rfl rfl (by decide +kernel) rfl ?_ -- 177
    refine hI_il2 (k := 11) rfl e11 rfl ?_ -- 180
    refine hM_ia M (by decide) (K := 60) (R2 := 90) (L := 5) (H := 5) (lo := 0) (hi := 11) rfl (by decide) rfl rfl (fun _ => rfl) rfl lq11 (by omega) (by omega) rfl (fun x2 q2 a2 b2 => ?_) -- 182
    refine hM_is M (by decide) ok_49 (K := 61) (R2 := 91) (L := 5) (H := 5) (lo := 0) (hi := 11) rfl (by decide) rfl rfl rfl (fun _ => rfl) (d_subm hw (by decide +kernel)) rfl lq11 q2 (by omega) (by omega) (by omega) (by omega) rfl (fun h3 V3 f3 M3 => ?_) -- 183
    refine hM_inc (k := 11) (z := 1) rfl e11 lq11 (by decide) (by omega) (by omega) (by decide +kernel) rfl (fun lv4 x4 q4 e4_11 u4 => ?_) -- 184
    have e4_0 := u4 0 _ (by decide) (Or.inl rfl) e0
    have e4_4 := u4 4 _ (by decide) (Or.inl rfl) e4
    have e4_6 := u4 6 _ (by decide) (Or.inl rfl) e6
    have e4_7 := u4 7 _ (by decide) (Or.inl rfl) e7
    have e4_8 := u4 8 _ (by decide) (Or.inl rfl) e8
    have e4_9 := u4 9 _ (by decide) (Or.inl rfl) e9
    refine hI_go (pc' := 161) (off := (-26)) rfl (by decide) ?_ -- 187
    exact g1 h3 V3 f3 x4 q4 lv4 M3 e4_0 e4_4 e4_6 e4_7 e4_8 e4_9 e4_11 a1 b1 c167 a2 b2
theorem s_fo190 {w c l b k : Int} (M : MX 49 W ρ m A h0 h F V G) (e0 : m_lk lv 0 = some (.ref m)) {lx4 : Int32} (e4 : m_lk lv 4 = some (.int lx4)) (lq4 : lx4.toInt = w) {lx6 : Int32} (e6 : m_lk lv 6 = some (.int lx6)) (lq6 : lx6.toInt = c) {lx7 : Int32} (e7 : m_lk lv 7 = some (.int lx7)) (lq7 : lx7.toInt = l) {lx8 : Int32} (e8 : m_lk lv 8 = some (.int lx8)) (lq8 : lx8.toInt = b) {lx9 : Int32} (e9 : m_lk lv 9 = some (.int lx9)) (lq9 : lx9.toInt = k) (k0 : 0 ≤ k) (k1 : k ≤ 1000000)
    (g0 : ∀ x1 : Int32, x1.toInt = k + 1 → ∀ lv1 : List (Nat × Value), m_lk lv1 0 = some (.ref m) → m_lk lv1 4 = some (.int lx4) → m_lk lv1 6 = some (.int lx6) → m_lk lv1 7 = some (.int lx7) → m_lk lv1 8 = some (.int lx8) → m_lk lv1 9 = some (.int x1) → HJ 265 113 lv1 [] h Q)
    : HJ 265 190 lv [] h Q := by
  refine hM_inc (k := 9) (z := 1) rfl e9 lq9 (by decide) (by omega) (by omega) (by decide +kernel) rfl (fun lv1 x1 q1 e1_9 u1 => ?_) -- 190
  have e1_0 := u1 0 _ (by decide) (Or.inl rfl) e0
  have e1_4 := u1 4 _ (by decide) (Or.inl rfl) e4
  have e1_6 := u1 6 _ (by decide) (Or.inl rfl) e6
  have e1_7 := u1 7 _ (by decide) (Or.inl rfl) e7
  have e1_8 := u1 8 _ (by decide) (Or.inl rfl) e8
  refine hI_go (pc' := 113) (off := (-80)) rfl (by decide) ?_ -- 193
  exact g0 x1 q1 lv1 e1_0 e1_4 e1_6 e1_7 e1_8 e1_9
theorem s_fo196 {w l : Int} (M : MX 49 W ρ m A h0 h F V G) (e0 : m_lk lv 0 = some (.ref m)) {lx4 : Int32} (e4 : m_lk lv 4 = some (.int lx4)) (lq4 : lx4.toInt = w) {lx7 : Int32} (e7 : m_lk lv 7 = some (.int lx7)) (lq7 : lx7.toInt = l) 
    (g0 : ∀ x1 : Int32, x1.toInt = 10 → ∀ x4 : Int32, x4.toInt = 9 + (F 47) → w ≠ 0 → 0 ≤ F 47 → F 47 ≤ 12 → HJ 186 0 (lv_args 0 [.int lx4, .int x1, .int x4]) [] h (fun v h' => HJ 265 220 lv (v.toList ++ []) h' Q))
    (g1 : w = 0 → Q (some (.int lx7)) h)
    : HJ 265 196 lv [] h Q := by
  refine hI_il2 (k := 4) rfl e4 rfl ?_ -- 196
  refine hM_zne (off := 8) (t := 206) rfl lq4 (by decide) rfl (fun c198 => ?_) (fun c198 => ?_) -- 198
  · refine hI_il2 (k := 4) rfl e4 rfl ?_ -- 206
    refine hM_bp (n := 10) rfl (by decide) rfl (fun x1 q1 => ?_) -- 208
    refine hM_bp (n := 9) rfl (by decide) rfl (fun x2 q2 => ?_) -- 210
    refine hI_al (k := 0) rfl e0 rfl ?_ -- 212
    refine hM_gi M (by decide) rfl rfl rfl (k := 47) (c := 9) (lo := 0) (hi := 12) rfl rfl rfl rfl rfl (fun x3 q3 a3 b3 => ?_) -- 213
    refine hM_add rfl q2 q3 (by omega) (by omega) rfl (fun x4 q4 => ?_) -- 216
    refine hM_is0 (as := [.int lx4, .int x1, .int x4]) (r := []) rfl rfl (by decide +kernel) rfl rfl rfl rfl rfl ?_ -- 217
    exact g0 x1 q1 x4 q4 c198 a3 b3
  · refine hI_il2 (k := 7) rfl e7 rfl ?_ -- 201
    refine hI_go (pc' := 242) (off := 39) rfl (by decide) ?_ -- 203
    refine hI_ri rfl rfl ?_ -- 242
    exact g1 c198
theorem s_fo220 {w z : Int} (M : MX 49 W ρ m A h0 h F V G) (e0 : m_lk lv 0 = some (.ref m)) {lx4 : Int32} (e4 : m_lk lv 4 = some (.int lx4)) (lq4 : lx4.toInt = w) {sx0 : Int32} (sq0 : sx0.toInt = z) (w0 : z ≠ 0 → 10 ≤ w ∧ w ≤ 14)
    (g0 : ∀ x1 : Int32, x1.toInt = (-1) → z = 0 → Q (some (.int x1)) h)
    (g1 : ∀ x5 : Int32, x5.toInt = V 48 (V 61 (w - 10).toNat).toNat → z ≠ 0 → 0 ≤ V 61 (w - 10).toNat → V 61 (w - 10).toNat ≤ 11 → 0 ≤ V 48 (V 61 (w - 10).toNat).toNat → V 48 (V 61 (w - 10).toNat).toNat ≤ 40 → Q (some (.int x5)) h)
    : HJ 265 220 lv [.int sx0] h Q := by
  refine hM_zeq (off := 21) (t := 241) rfl sq0 (by decide) rfl (fun c220 => ?_) (fun c220 => ?_) -- 220
  · refine hM_ic (n := (-1)) rfl (by decide) rfl (fun x1 q1 => ?_) -- 241
    refine hI_ri rfl rfl ?_ -- 242
    exact g0 x1 q1 c220
  · refine hI_al (k := 0) rfl e0 rfl ?_ -- 223
    refine hM_ga M (by decide) rfl rfl (k := 48) (c := 9) rfl rfl rfl (by decide +kernel) rfl ?_ -- 224
    refine hI_al (k := 0) rfl e0 rfl ?_ -- 227
    refine hM_ga M (by decide) rfl rfl (k := 61) (c := 9) rfl rfl rfl (by decide +kernel) rfl ?_ -- 228
    refine hI_il2 (k := 4) rfl e4 rfl ?_ -- 231
    refine hM_bp (n := 10) rfl (by decide) rfl (fun x2 q2 => ?_) -- 233
    refine hM_sub rfl lq4 q2 (by omega) (by omega) rfl (fun x3 q3 => ?_) -- 235
    refine hM_ia M (by decide) (K := 61) (R2 := 91) (L := 5) (H := 5) (lo := 0) (hi := 11) rfl (by decide) rfl rfl (fun _ => rfl) rfl q3 (by omega) (by omega) rfl (fun x4 q4 a4 b4 => ?_) -- 236
    refine hM_ia M (by decide) (K := 48) (R2 := 81) (L := 12) (H := 12) (lo := 0) (hi := 40) rfl (by decide) rfl rfl (fun _ => rfl) rfl q4 (by omega) (by omega) rfl (fun x5 q5 a5 b5 => ?_) -- 237
    refine hI_go (pc' := 242) (off := 4) rfl (by decide) ?_ -- 238
    refine hI_ri rfl rfl ?_ -- 242
    exact g1 x5 q5 c220 a4 b4 a5 b5
-- what stands through all orders: b nodes
def z_fb (b : Int) (s : Nat) (F : Nat → Int) (V : Nat → Nat → Int) : Prop := (0 ≤ b ∧ b ≤ 15120 ∧ b ≤ F 17) ∧ (F 47 = (s : Int) ∧ F 35 ≤ 41) ∧ p_sh b (V 22) (V 23) ∧ p_ro b (F 35) (V 22) (V 36) ∧ z_so s (F 35) (V 48)
theorem l_fo161 {b w c l k : Int} {s : Nat} {xw xc xl xb xk : Int32} (hw : d_sub [(91, 1001)] W = true) (s5 : s ≤ 5) (qw : xw.toInt = w) (qc : xc.toInt = c) (ql : xl.toInt = l) (qb : xb.toInt = b) (qk : xk.toInt = k) (k0 : 0 ≤ k) (k1 : k ≤ 1000000) (g : ∀ (lv : List (Nat × Value)) (h : MH) (V : Nat → Nat → Int) (xk' : Int32), MX 49 W ρ m A h0 h F V G → z_fb b s F V → xk'.toInt = k + 1 → m_lk lv 0 = some (.ref m) → m_lk lv 4 = some (.int xw) → m_lk lv 6 = some (.int xc) → m_lk lv 7 = some (.int xl) → m_lk lv 8 = some (.int xb) → m_lk lv 9 = some (.int xk') → HJ 265 113 lv [] h Q) : ∀ (d i : Nat) (lv : List (Nat × Value)) (h : MH) (V : Nat → Nat → Int) (xi : Int32), i + d = s → MX 49 W ρ m A h0 h F V G → z_fb b s F V → xi.toInt = (i : Int) → m_lk lv 0 = some (.ref m) → m_lk lv 4 = some (.int xw) → m_lk lv 6 = some (.int xc) → m_lk lv 7 = some (.int xl) → m_lk lv 8 = some (.int xb) → m_lk lv 9 = some (.int xk) → m_lk lv 11 = some (.int xi) → HJ 265 161 lv [] h Q := by
  intro d
  induction d with
  | zero =>
    intro i lv h V xi hd M I hi e0 e4 e6 e7 e8 e9 e11
    have fs := I.2.1.1
    exact s_fo161 M e0 e4 qw e6 qc e7 ql e8 qb e9 qk e11 hi (by omega) (by omega) hw (fun _ _ _ => s_fo190 M e0 e4 qw e6 qc e7 ql e8 qb e9 qk k0 k1 (fun x1 q1 lv1 d0 d4 d6 d7 d8 d9 => g lv1 h V x1 M I q1 d0 d4 d6 d7 d8 d9)) (fun h3 V3 f3 x4 q4 lv4 M3 e4_0 e4_4 e4_6 e4_7 e4_8 e4_9 e4_11 a1 b1 c167 a2 b2 => by omega)
  | succ d ih =>
    intro i lv h V xi hd M I hi e0 e4 e6 e7 e8 e9 e11
    have fs := I.2.1.1
    refine s_fo161 M e0 e4 qw e6 qc e7 ql e8 qb e9 qk e11 hi (by omega) (by omega) hw (fun _ _ _ => by omega) (fun h3 V3 f3 x4 q4 lv4 M3 d0 d4 d6 d7 d8 d9 d11 _ _ _ _ _ => ?_)
    refine ih (i + 1) lv4 h3 V3 x4 (by omega) M3 ?_ (by omega) d0 d4 d6 d7 d8 d9 d11
    unfold z_fb
    rw [f3, m_uN _ _ _ _ (by decide), m_uN _ _ _ _ (by decide), m_uN _ _ _ _ (by decide), m_uN _ _ _ _ (by decide)]
    exact I
def g_fd : List (Nat × Nat) := g_ls ++ [(90, 1001), (91, 1001)]
theorem l_fo113 {b w c : Int} {s : Nat} {xw xc xb : Int32} (hw : d_sub g_fd W = true) (s2 : 2 ≤ s) (s5 : s ≤ 5) (qw : xw.toInt = w) (qc : xc.toInt = c) (qb : xb.toInt = b) (c1 : c ≤ 100000) (g : ∀ (x : Int32) (h' : MH) (F' : Nat → Int) (V' : Nat → Nat → Int), MX 49 W ρ m A h0 h' F' V' G → Q (some (.int x)) h') : ∀ (d k : Nat) (lv : List (Nat × Value)) (h : MH) (F : Nat → Int) (V : Nat → Nat → Int) (xl xk : Int32), k + d = 100000 → MX 49 W ρ m A h0 h F V G → z_fb b s F V → xk.toInt = (k : Int) → m_lk lv 0 = some (.ref m) → m_lk lv 4 = some (.int xw) → m_lk lv 6 = some (.int xc) → m_lk lv 7 = some (.int xl) → m_lk lv 8 = some (.int xb) → m_lk lv 9 = some (.int xk) → HJ 265 113 lv [] h Q := by
  have w1 : d_sub [(90, 1001)] W = true := d_subm hw (by decide +kernel)
  have w2 : d_sub [(91, 1001)] W = true := d_subm hw (by decide +kernel)
  have w3 : d_sub [(49, 17)] W = true := d_subm hw (by decide +kernel)
  have w4 : d_sub g_ls W = true := d_subm hw (by decide +kernel)
  have fin : ∀ (lv : List (Nat × Value)) (h : MH) (F : Nat → Int) (V : Nat → Nat → Int) (xl : Int32), MX 49 W ρ m A h0 h F V G → F 47 = (s : Int) → m_lk lv 0 = some (.ref m) → m_lk lv 4 = some (.int xw) → m_lk lv 7 = some (.int xl) → HJ 265 196 lv [] h Q := fun lv h F V xl M fs e0 e4 e7 => by
    refine s_fo196 M e0 e4 qw e7 rfl (fun x1 q1 x4 q4 _ _ _ => ?_) (fun _ => g xl h F V M)
    refine c_in M qw q1 q4 (fun z hz => ?_)
    exact s_fo220 (z := z.toInt) M e0 e4 qw rfl (fun y => by omega) (fun x _ _ => g x h F V M) (fun x _ _ _ _ _ _ => g x h F V M)
  intro d
  induction d with
  | zero =>
    intro k lv h F V xl xk hd M I hk e0 e4 e6 e7 e8 e9
    exact s_fo113 M e0 e4 qw e6 qc e7 rfl e8 qb e9 hk (fun _ => fin lv h F V xl M I.2.1.1 e0 e4 e7) (fun c => by omega)
  | succ d ih =>
    intro k lv h F V xl xk hd M I hk e0 e4 e6 e7 e8 e9
    refine s_fo113 M e0 e4 qw e6 qc e7 rfl e8 qb e9 hk (fun _ => fin lv h F V xl M I.2.1.1 e0 e4 e7) (fun c => ?_)
    refine c_turn (s := s) M w1 hk (by omega) I.2.1.1 (by omega) s5 (fun z h2 V2 M2 vo tu => ?_)
    have I2 : z_fb b s F V2 := by
      unfold z_fb
      rw [vo 22 (by decide), vo 23 (by decide), vo 36 (by decide), vo 48 (by decide)]
      exact I
    obtain ⟨⟨b0, b1, b2⟩, ⟨fs, vs⟩, sh, ro, so⟩ := I2
    refine s_fo126 (z := z.toInt) M2 e0 e4 qw e6 qc e7 rfl e8 qb e9 hk rfl b0 (by omega) w3 (fun _ => ?_) (fun h3 F3 f3 M3 _ => ?_)
    · exact s_fo190 M2 e0 e4 qw e6 qc e7 rfl e8 qb e9 hk (by omega) (by omega) (fun x1 q1 lv1 d0 d4 d6 d7 d8 d9 => ih (k + 1) lv1 h2 F V2 xl x1 (by omega) M2 ⟨⟨b0, b1, b2⟩, ⟨fs, vs⟩, sh, ro, so⟩ (by omega) d0 d4 d6 d7 d8 d9)
    · have f17 : F3 17 = b := by rw [f3, m_uE]
      have f35 : F3 35 = F 35 := by rw [f3, m_uN _ _ _ _ (by decide)]
      have f47 : F3 47 = (s : Int) := by rw [f3, m_uN _ _ _ _ (by decide), fs]
      refine c_madeB (s := s) M3 w4 f47 (by omega) s5 (by omega) (by omega) (by omega) (by rw [f35]; exact so) tu (by rw [f17]; exact sh) (by rw [f17, f35]; exact ro) (fun y h4 F4 V4 M4 J => ?_)
      obtain ⟨⟨j1, j2⟩, ⟨j3, j4⟩, j5, j6, j7, j8⟩ := J
      rw [f17] at j3 j4 j6 j8
      have g35 : F4 35 = F 35 := by rw [j5 35 (by decide) (by decide) (by decide) (by decide), f35]
      have I4 : z_fb b s F4 V4 := by
        refine ⟨⟨b0, b1, j3⟩, ⟨by rw [j5 47 (by decide) (by decide) (by decide) (by decide), f47], by omega⟩, fun v hv => ?_, ?_, ?_⟩
        · obtain ⟨s1, s2⟩ := sh v hv
          rw [j6 v hv]
          refine ⟨s1, fun r hr => ?_⟩
          obtain ⟨t1, t2, t3⟩ := s2 r hr
          rw [j8 _ (by omega)]
          exact ⟨t1, t2, by rw [j6 _ (by omega)]; exact t3⟩
        · rw [g35, j7 36 (by decide)]
          exact p_roU (Int.le_refl b) j6 ro
        · rw [g35, j7 48 (by decide)]
          exact so
      refine s_fo139 (y := y.toInt) M4 e0 e4 qw e6 qc e7 rfl e8 qb e9 hk rfl (fun x4 q4 lv5 d0 d4 d6 d7 d8 d9 d11 _ => ?_) (fun lv1 d0 d4 d6 d7 d8 d9 _ _ => ?_) (fun x7 q7 lv8 d0 d4 d6 d7 d8 d9 d11 _ _ => ?_)
      · exact l_fo161 (b := b) (s := s) w2 s5 qw qc rfl qb hk (by omega) (by omega) (fun lv9 h9 V9 xk' M9 I9 q9 k0 k4 k6 k7 k8 k9 => ih (k + 1) lv9 h9 F4 V9 y xk' (by omega) M9 I9 (by omega) k0 k4 k6 k7 k8 k9) s 0 lv5 h4 V4 x4 (by omega) M4 I4 q4 d0 d4 d6 d7 d8 d9 d11
      · exact s_fo190 M4 d0 d4 qw d6 qc d7 rfl d8 qb d9 hk (by omega) (by omega) (fun x1 q1 lv1 c0 c4 c6 c7 c8 c9 => ih (k + 1) lv1 h4 F4 V4 xl x1 (by omega) M4 I4 (by omega) c0 c4 c6 c7 c8 c9)
      · exact l_fo161 (b := b) (s := s) w2 s5 qw qc rfl qb hk (by omega) (by omega) (fun lv9 h9 V9 xk' M9 I9 q9 k0 k4 k6 k7 k8 k9 => ih (k + 1) lv9 h9 F4 V9 y xk' (by omega) M9 I9 (by omega) k0 k4 k6 k7 k8 k9) s 0 lv8 h4 V4 x7 (by omega) M4 I4 q7 d0 d4 d6 d7 d8 d9 d11
theorem l_fo52 {w : Int} {s : Nat} {xw : Int32} (M : MX 49 W ρ m A h0 h F V G) (fs : F 47 = (s : Int)) (s1 : 1 ≤ s) (s5 : s ≤ 5) (so : z_so s (F 35) (V 48)) (s41 : F 35 ≤ 41) (qw : xw.toInt = w) (g : ∀ (lv : List (Nat × Value)) (xa xc xi : Int32), 0 ≤ xc.toInt → xc.toInt ≤ 100000 → m_lk lv 0 = some (.ref m) → m_lk lv 4 = some (.int xw) → m_lk lv 5 = some (.int xa) → m_lk lv 6 = some (.int xc) → m_lk lv 7 = some (.int xi) → HJ 265 92 lv [] h Q) : ∀ (d i : Nat) (lv : List (Nat × Value)) (xa xc xi : Int32), i + d = s → 0 ≤ xa.toInt → xa.toInt ≤ 63 * i → 0 ≤ xc.toInt → xc.toInt ≤ (5 : Int) ^ i → xi.toInt = (i : Int) → m_lk lv 0 = some (.ref m) → m_lk lv 4 = some (.int xw) → m_lk lv 5 = some (.int xa) → m_lk lv 6 = some (.int xc) → m_lk lv 7 = some (.int xi) → HJ 265 52 lv [] h Q := by
  have p5 : ∀ i : Nat, i ≤ 5 → (5 : Int) ^ i ≤ 3125 := fun i hi => by
    have : i = 0 ∨ i = 1 ∨ i = 2 ∨ i = 3 ∨ i = 4 ∨ i = 5 := by omega
    rcases this with e | e | e | e | e | e <;> (rw [e]; decide)
  intro d
  induction d with
  | zero =>
    intro i lv xa xc xi hd a0 a1 c0 c1 hi e0 e4 e5 e6 e7
    have := p5 i (by omega)
    exact s_fo52 M e0 e4 qw e5 rfl e6 rfl e7 hi (by omega) (fun _ _ _ => g lv xa xc xi c0 (by omega) e0 e4 e5 e6 e7) (fun x2 q2 _ _ c _ _ => by omega)
  | succ d ih =>
    intro i lv xa xc xi hd a0 a1 c0 c1 hi e0 e4 e5 e6 e7
    have p := p5 i (by omega)
    have sv := so i (by omega)
    refine s_fo52 M e0 e4 qw e5 rfl e6 rfl e7 hi (by omega) (fun _ _ _ => by omega) (fun x2 q2 _ _ c _ _ => ?_)
    rw [Int.toNat_natCast] at q2
    refine c_sizeAt (v := (V 48 i).toNat) M (by omega) (by omega) (fun y qy => ?_)
    have wl := p_wvL (V 36) (V 48 i).toNat
    have m1 : 0 ≤ xc.toInt * F 47 := Int.mul_nonneg c0 (by omega)
    have m2 : xc.toInt * F 47 ≤ (5 : Int) ^ (i + 1) := by
      rw [Int.pow_succ]
      exact Int.mul_le_mul c1 (by omega) (by omega) (Int.le_trans c0 c1)
    have p2 := p5 (i + 1) (by omega)
    exact s_fo74 (y := (p_wv (V 36) (V 48 i).toNat : Int)) M e0 e4 qw e5 rfl e6 rfl e7 hi rfl qy (by omega) (by omega) a0 (by omega) (by omega) (by omega) m1 (by omega) (fun x1 q1 x4 q4 x6 q6 lv6 d0 d4 d5 d6 d7 _ _ => ih (i + 1) lv6 x1 x4 x6 (by omega) (by omega) (by omega) (by omega) (by omega) (by omega) d0 d4 d5 d6 d7)
def g_fl : List (Nat × Nat) := g_la ++ g_lsW ++ g_fd ++ [(49, 0)]
theorem c_fold {r w : Int} {x : Int64} {xr xw : Int32} (M : MX 49 W ρ m A h0 h F V G) (b0_ : m_lk lv 0 = some (.ref m)) (b1_ : m_lk lv 1 = some (.int xr)) (b2_ : m_lk lv 2 = some (.long x)) (b4_ : m_lk lv 4 = some (.int xw)) (hw : d_sub g_fl W = true) (qr : xr.toInt = r) (qw : xw.toInt = w) (rw_ : p_rw (V 6)) (g : ∀ (x : Int32) (h' : MH) (F' : Nat → Int) (V' : Nat → Nat → Int) (G' : Nat → Nat → Int64), MX 49 W ρ m A h0 h' F' V' G' → Q (some (.int x)) h') : HJ 265 0 lv [] h Q := by
  have w0 : d_sub [(49, 0)] W = true := d_subm hw (by decide +kernel)
  have w1 : d_sub g_la W = true := d_subm hw (by decide +kernel)
  have w2 : d_sub g_lsW W = true := d_subm hw (by decide +kernel)
  have w3 : d_sub g_fd W = true := d_subm hw (by decide +kernel)
  refine s_fo0 M b0_ b1_ qr b2_ b4_ qw w0 (fun h2 F2 f2 M2 => ?_)
  refine c_lay M2 rfl rfl w1 qr rw_ (fun z h3 F3 V3 G3 M3 hz0 => ?_)
  have hz : z.toInt = 0 ∨ (z.toInt = 1 ∧ g_ly F3 V3 40) := hz0.imp (fun q => q.1) (fun q => ⟨q.1, q.2.1⟩)
  refine s_fo10 (z := z.toInt) M3 b0_ b1_ qr b2_ b4_ qw rfl (fun x1 _ _ => g x1 h3 F3 V3 G3 M3) (fun c10 => ?_)
  obtain ⟨-, ⟨⟨i1, i2, i3⟩, i4, i5, i6⟩⟩ := hz.resolve_left c10
  refine c_are M3 (fun z2 _ _ => ?_)
  refine s_fo18 (z := z2.toInt) M3 b0_ b1_ qr b2_ b4_ qw rfl (fun x1 _ _ => g x1 h3 F3 V3 G3 M3) (fun _ => ?_)
  refine c_list M3 w2 (by omega) (fun z3 h4 F4 V4 _ _ M4 fo vo so => ?_)
  refine s_fo26 (z := z3.toInt) M4 b0_ b1_ qr b2_ b4_ qw rfl (fun x1 _ _ => g x1 h4 F4 V4 G3 M4) (fun x2 q2 x3 q3 x4 q4 _ _ _ => ?_)
  refine c_in M4 q2 q3 q4 (fun z4 hz4 => ?_)
  refine s_fo38 (z := z4.toInt) M4 b0_ b1_ qr b2_ b4_ qw rfl (fun x1 q1 x3 q3 x5 q5 lv6 e0 e4 e5 e6 e7 c38 => ?_) (fun x1 _ _ => g x1 h4 F4 V4 G3 M4)
  have s25 := hz4.resolve_right (fun y => c38 y.1)
  have f35 := fo 35 (by decide)
  have f17 := fo 17 (by decide)
  have fs : F4 47 = (((F4 47).toNat : Nat) : Int) := by omega
  rw [fs] at so
  rw [← f35] at so
  refine l_fo52 (s := (F4 47).toNat) M4 fs (by omega) (by omega) so (by omega) qw (fun lv7 xa xc xi c0 c1 d0 d4 d5 d6 d7 => ?_) (F4 47).toNat 0 lv6 x1 x3 x5 (by omega) (by omega) (by omega) (by omega) (by rw [q3]; decide) q5 e0 e4 e5 e6 e7
  refine s_fo92 M4 d0 d4 qw d5 rfl d6 rfl d7 rfl (fun x2 q2 x4 q4 x6 q6 lv8 k0 k4 k6 k7 k8 k9 _ _ _ => ?_) (fun x1 _ _ => g x1 h4 F4 V4 G3 M4)
  refine l_fo113 (b := F4 17) (s := (F4 47).toNat) w3 (by omega) (by omega) qw rfl q4 c1 (fun x h' F' V' M' => g x h' F' V' G3 M') 100000 0 lv8 h4 F4 V4 x2 x6 rfl M4 ⟨⟨by omega, by omega, Int.le_refl _⟩, ⟨fs, by omega⟩, ?_, ?_, so⟩ q6 k0 k4 k6 k7 k8 k9
  · rw [f17, vo 22 (by decide), vo 23 (by decide)]
    exact i1
  · rw [f17, f35, vo 22 (by decide), vo 36 (by decide)]
    exact i3
end
end
