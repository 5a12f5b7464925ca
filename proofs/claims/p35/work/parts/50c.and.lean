section
-- THE REFERENCE'S HEAPS, by hand in whole numbers (stretches printed by wip/ck/ga.py)
theorem p_rtU {n n' : Int} {rk rk' : Nat → Int} {x : Int} {r : Nat} (hn : n ≤ n') (hr : ∀ v : Nat, (v : Int) < n → rk' v = rk v) (h : p_rt n rk x r) : p_rt n' rk' x r := by
  rcases h with h | ⟨h1, h2, h3⟩
  · exact Or.inl h
  · exact Or.inr ⟨h1, by omega, by rw [hr _ (by omega)]; exact h3⟩
theorem p_hpU {n n' : Int} {rk rk' hp : Nat → Int} (hn : n ≤ n') (hr : ∀ v : Nat, (v : Int) < n → rk' v = rk v) (h : p_hp n rk hp) : p_hp n' rk' hp := fun r h6 => p_rtU hn hr (h r h6)
theorem p_roU {n n' vs : Int} {rk rk' ro : Nat → Int} (hn : n ≤ n') (hr : ∀ v : Nat, (v : Int) < n → rk' v = rk v) (h : p_ro n vs rk ro) : p_ro n' vs rk' ro := fun w r hw h6 => p_rtU hn hr (h w r hw h6)
theorem p_shL {n : Int} {rk bl rk' bl' : Nat → Int} {u w r : Int} (sh : p_sh n rk bl) (n0 : 0 ≤ n) (u0 : 0 ≤ u) (u1 : u < n) (w0 : 0 ≤ w) (w1 : w < n) (ru : rk u.toNat = r) (rw_ : rk w.toNat = r) (r0 : 0 ≤ r) (r5 : r ≤ 5) (hrk : rk' = m_u rk n.toNat (r + 1)) (b1 : ∀ j, j < 6 * n.toNat → bl' j = bl j) (b2 : ∀ p, p < r.toNat → bl' (6 * n.toNat + p) = bl (6 * u.toNat + p)) (b3 : bl' (6 * n.toNat + r.toNat) = w) : p_sh (n + 1) rk' bl' := by
  intro v hv
  have old : ∀ x : Nat, (x : Int) < n → rk' x = rk x := fun x hx => by rw [hrk, m_uN _ _ _ _ (by omega)]
  by_cases e : v = n.toNat
  · have ev : rk' v = r + 1 := by rw [hrk, e, m_uE]
    refine ⟨by omega, fun q hq => ?_⟩
    rw [ev] at hq
    rw [e]
    by_cases eq : (q : Int) < r
    · obtain ⟨s1, s2⟩ := sh u.toNat (by omega)
      obtain ⟨t1, t2, t3⟩ := s2 q (by rw [ru]; exact eq)
      rw [b2 q (by omega)]
      refine ⟨t1, by omega, ?_⟩
      rw [old _ (by omega)]
      exact t3
    · have : q = r.toNat := by omega
      rw [this, b3]
      refine ⟨w0, by omega, ?_⟩
      rw [old _ (by omega), rw_]
      omega
  · obtain ⟨s1, s2⟩ := sh v (by omega)
    rw [old v (by omega)]
    refine ⟨s1, fun q hq => ?_⟩
    obtain ⟨t1, t2, t3⟩ := s2 q hq
    rw [b1 _ (by omega)]
    refine ⟨t1, by omega, ?_⟩
    rw [old _ (by omega)]
    exact t3
def y_ls (V : Nat → Nat → Int) (a b : Int) : Prop := V 21 a.toNat < V 21 b.toNat ∨ (V 21 a.toNat = V 21 b.toNat ∧ V 20 a.toNat < V 20 b.toNat)
theorem rs_ls {F : Nat → Int} {V : Nat → Nat → Int} {S : PSt} {a b : Int} (I : rs_of F V S) (a0 : 0 ≤ a) (a1 : a < F 17) (b0 : 0 ≤ b) (b1 : b < F 17) : y_ls V a b ↔ ps_ls S a b := by
  obtain ⟨i1, i2, i3, i4⟩ := I
  obtain ⟨x1, -, x2, -⟩ := i4 a.toNat (by omega)
  obtain ⟨z1, -, z2, -⟩ := i4 b.toNat (by omega)
  unfold ps_ls y_ls
  rw [x1, x2, z1, z2]
section
variable {lv : List (Nat × Value)} {Q : Option Value → MH → Prop} {W : List (Nat × Nat)} {ρ : Nat → Nat} {m : Nat} {A : Nat → Nat} {h0 h : MH} {F : Nat → Int} {V : Nat → Nat → Int} {G : Nat → Nat → Int64}
theorem s_less {a b : Int} (M : MX 49 W ρ m A h0 h F V G) (e0 : m_lk lv 0 = some (.ref m)) {lx1 : Int32} (e1 : m_lk lv 1 = some (.int lx1)) (lq1 : lx1.toInt = a) {lx2 : Int32} (e2 : m_lk lv 2 = some (.int lx2)) (lq2 : lx2.toInt = b) (a0 : 0 ≤ a) (a1 : a < 16000) (b0 : 0 ≤ b) (b1 : b < 16000)
    (g0 : ∀ x3 : Int32, x3.toInt = 1 → V 21 (a).toNat < V 21 (b).toNat → Q (some (.int x3)) h)
    (g1 : ∀ x6 : Int32, x6.toInt = 0 → V 21 (a).toNat ≥ V 21 (b).toNat → V 21 (a).toNat ≠ V 21 (b).toNat → Q (some (.int x6)) h)
    (g2 : ∀ x9 : Int32, x9.toInt = 0 → V 21 (a).toNat ≥ V 21 (b).toNat → V 21 (a).toNat = V 21 (b).toNat → V 20 (a).toNat ≥ V 20 (b).toNat → Q (some (.int x9)) h)
    (g3 : ∀ x10 : Int32, x10.toInt = 1 → V 21 (a).toNat ≥ V 21 (b).toNat → V 21 (a).toNat = V 21 (b).toNat → V 20 (a).toNat < V 20 (b).toNat → Q (some (.int x10)) h)
    : HJ 211 0 lv [] h Q := by
  refine hI_al (k := 0) rfl e0 rfl ?_ -- 0
  refine hM_ga M (by decide) rfl rfl (k := 21) (c := 9) rfl rfl rfl (by decide +kernel) rfl ?_ -- 1
  refine hI_il (k := 1) rfl e1 rfl ?_ -- 4
  refine hM_ba M (by decide) (K := 21) (R2 := 58) (L := 16000) (H := 16000) (lo := (-2147483648)) (hi := 2147483647) rfl (by decide) rfl rfl (Or.inl rfl) (fun _ => rfl) rfl lq1 (by omega) (by omega) rfl (fun x1 q1 a1 b1 => ?_) -- 5
  refine hI_al (k := 0) rfl e0 rfl ?_ -- 6
  refine hM_ga M (by decide) rfl rfl (k := 21) (c := 9) rfl rfl rfl (by decide +kernel) rfl ?_ -- 7
  refine hI_il (k := 2) rfl e2 rfl ?_ -- 10
  refine hM_ba M (by decide) (K := 21) (R2 := 58) (L := 16000) (H := 16000) (lo := (-2147483648)) (hi := 2147483647) rfl (by decide) rfl rfl (Or.inl rfl) (fun _ => rfl) rfl lq2 (by omega) (by omega) rfl (fun x2 q2 a2 b2 => ?_) -- 11
  refine hM_clt (off := 33) (t := 45) rfl q1 q2 (by decide) rfl (fun c12 => ?_) (fun c12 => ?_) -- 12
  · refine hM_ic (n := 1) rfl (by decide) rfl (fun x3 q3 => ?_) -- 45
    refine hI_go (pc' := 50) (off := 4) rfl (by decide) ?_ -- 46
    refine hM_rb rfl rfl q3 (by omega) (by omega) ?_ -- 50
    exact g0 x3 q3 c12
  · refine hI_al (k := 0) rfl e0 rfl ?_ -- 15
    refine hM_ga M (by decide) rfl rfl (k := 21) (c := 9) rfl rfl rfl (by decide +kernel) rfl ?_ -- 16
    refine hI_il (k := 1) rfl e1 rfl ?_ -- 19
    refine hM_ba M (by decide) (K := 21) (R2 := 58) (L := 16000) (H := 16000) (lo := (-2147483648)) (hi := 2147483647) rfl (by decide) rfl rfl (Or.inl rfl) (fun _ => rfl) rfl lq1 (by omega) (by omega) rfl (fun x4 q4 a4 b4 => ?_) -- 20
    refine hI_al (k := 0) rfl e0 rfl ?_ -- 21
    refine hM_ga M (by decide) rfl rfl (k := 21) (c := 9) rfl rfl rfl (by decide +kernel) rfl ?_ -- 22
    refine hI_il (k := 2) rfl e2 rfl ?_ -- 25
    refine hM_ba M (by decide) (K := 21) (R2 := 58) (L := 16000) (H := 16000) (lo := (-2147483648)) (hi := 2147483647) rfl (by decide) rfl rfl (Or.inl rfl) (fun _ => rfl) rfl lq2 (by omega) (by omega) rfl (fun x5 q5 a5 b5 => ?_) -- 26
    refine hM_cne (off := 22) (t := 49) rfl q4 q5 (by decide) rfl (fun c27 => ?_) (fun c27 => ?_) -- 27
    · refine hM_ic (n := 0) rfl (by decide) rfl (fun x6 q6 => ?_) -- 49
      refine hM_rb rfl rfl q6 (by omega) (by omega) ?_ -- 50
      exact g1 x6 q6 c12 c27
    · refine hI_al (k := 0) rfl e0 rfl ?_ -- 30
      refine hM_ga M (by decide) rfl rfl (k := 20) (c := 9) rfl rfl rfl (by decide +kernel) rfl ?_ -- 31
      refine hI_il (k := 1) rfl e1 rfl ?_ -- 34
      refine hM_ba M (by decide) (K := 20) (R2 := 57) (L := 16000) (H := 16000) (lo := (-2147483648)) (hi := 2147483647) rfl (by decide) rfl rfl (Or.inl rfl) (fun _ => rfl) rfl lq1 (by omega) (by omega) rfl (fun x7 q7 a7 b7 => ?_) -- 35
      refine hI_al (k := 0) rfl e0 rfl ?_ -- 36
      refine hM_ga M (by decide) rfl rfl (k := 20) (c := 9) rfl rfl rfl (by decide +kernel) rfl ?_ -- 37
      refine hI_il (k := 2) rfl e2 rfl ?_ -- 40
      refine hM_ba M (by decide) (K := 20) (R2 := 57) (L := 16000) (H := 16000) (lo := (-2147483648)) (hi := 2147483647) rfl (by decide) rfl rfl (Or.inl rfl) (fun _ => rfl) rfl lq2 (by omega) (by omega) rfl (fun x8 q8 a8 b8 => ?_) -- 41
      refine hM_cge (off := 7) (t := 49) rfl q7 q8 (by decide) rfl (fun c42 => ?_) (fun c42 => ?_) -- 42
      · refine hM_ic (n := 0) rfl (by decide) rfl (fun x9 q9 => ?_) -- 49
        refine hM_rb rfl rfl q9 (by omega) (by omega) ?_ -- 50
        exact g2 x9 q9 c12 c27 c42
      · refine hM_ic (n := 1) rfl (by decide) rfl (fun x10 q10 => ?_) -- 45
        refine hI_go (pc' := 50) (off := 4) rfl (by decide) ?_ -- 46
        refine hM_rb rfl rfl q10 (by omega) (by omega) ?_ -- 50
        exact g3 x10 q10 c12 c27 c42
theorem c_less {a b : Int} {xa xb : Int32} (M : MX 49 W ρ m A h0 h F V G) (ha : xa.toInt = a) (hb : xb.toInt = b) (a0 : 0 ≤ a) (a1 : a < 16000) (b0 : 0 ≤ b) (b1 : b < 16000) (g : ∀ x : Int32, 0 ≤ x.toInt → x.toInt ≤ 1 → ((x.toInt = 1 ∧ y_ls V a b) ∨ (x.toInt = 0 ∧ ¬ y_ls V a b)) → Q (some (.int x)) h) : HJ 211 0 (lv_args 0 [.ref m, .int xa, .int xb]) [] h Q :=
  s_less M rfl rfl ha rfl hb a0 a1 b0 b1 (fun x q c => g x (by omega) (by omega) (Or.inl ⟨q, Or.inl c⟩)) (fun x q c d => g x (by omega) (by omega) (Or.inr ⟨q, fun z => by rcases z with z | z <;> omega⟩)) (fun x q c d e => g x (by omega) (by omega) (Or.inr ⟨q, fun z => by rcases z with z | z <;> omega⟩)) (fun x q _ d e => g x (by omega) (by omega) (Or.inl ⟨q, Or.inr ⟨d, e⟩⟩))
def g_mk : List (Nat × Nat) := [(57, 1001), (58, 1001), (59, 1001), (49, 17)]
theorem s_make {t k r : Int} (M : MX 49 W ρ m A h0 h F V G) (e0 : m_lk lv 0 = some (.ref m)) {lx1 : Int32} (e1 : m_lk lv 1 = some (.int lx1)) (lq1 : lx1.toInt = t) {lx2 : Int32} (e2 : m_lk lv 2 = some (.int lx2)) (lq2 : lx2.toInt = k) {lx3 : Int32} (e3 : m_lk lv 3 = some (.int lx3)) (lq3 : lx3.toInt = r) (n0 : 0 ≤ F 17) (n1 : F 17 < 16000)(hw : d_sub [(57, 1001), (58, 1001), (59, 1001), (49, 17)] W = true)
    (g0 : ∀ z2 : Int, -128 ≤ z2 → z2 ≤ 127 → (-128 ≤ t → t ≤ 127 → z2 = t) → ∀ h3 : MH, ∀ V3 : Nat → Nat → Int, V3 = m_u V 20 (m_u (V 20) (F 17).toNat (z2)) → ∀ z5 : Int, -128 ≤ z5 → z5 ≤ 127 → (-128 ≤ k → k ≤ 127 → z5 = k) → ∀ h6 : MH, ∀ V6 : Nat → Nat → Int, V6 = m_u V3 21 (m_u (V3 21) (F 17).toNat (z5)) → ∀ z8 : Int, -128 ≤ z8 → z8 ≤ 127 → (-128 ≤ r → r ≤ 127 → z8 = r) → ∀ h9 : MH, ∀ V9 : Nat → Nat → Int, V9 = m_u V6 22 (m_u (V6 22) (F 17).toNat (z8)) → ∀ h13 : MH, ∀ F13 : Nat → Int, F13 = m_u F 17 ((F 17) + 1) → ∀ x16 : Int32, x16.toInt = (((F 17) + 1)) - 1 → MX 49 W ρ m A h0 h13 F13 V9 G → 0 ≤ F 17 → F 17 ≤ 16000 → 0 ≤ ((F 17) + 1) → ((F 17) + 1) ≤ 16000 → Q (some (.int x16)) h13)
    : HJ 212 0 lv [] h Q := by
  refine hI_al (k := 0) rfl e0 rfl ?_ -- 0
  refine hM_ga M (by decide) rfl rfl (k := 20) (c := 9) rfl rfl rfl (by decide +kernel) rfl ?_ -- 1
  refine hI_al (k := 0) rfl e0 rfl ?_ -- 4
  refine hM_gi M (by decide) rfl rfl rfl (k := 17) (c := 9) (lo := 0) (hi := 16000) rfl rfl rfl rfl rfl (fun x1 q1 a1 b1 => ?_) -- 5
  refine hI_il (k := 1) rfl e1 rfl ?_ -- 8
  refine hM_i2b rfl lq1 rfl (fun x2 z2 q2 a2 b2 c2 => ?_) -- 9
  refine hM_bs M (by decide) ok_49 (K := 20) (R2 := 57) (L := 16000) (H := 16000) (lo := (-2147483648)) (hi := 2147483647) rfl (by decide) rfl rfl rfl (fun _ => rfl) (by decide) (by decide) (d_subm hw (by decide +kernel)) rfl q1 q2 (by omega) (by omega) (by omega) (by omega) rfl (fun h3 V3 f3 M3 => ?_) -- 10
  refine hI_al (k := 0) rfl e0 rfl ?_ -- 11
  refine hM_ga M3 (by decide) rfl rfl (k := 21) (c := 9) rfl rfl rfl (by decide +kernel) rfl ?_ -- 12
  refine hI_al (k := 0) rfl e0 rfl ?_ -- 15
  refine hM_gi M3 (by decide) rfl rfl rfl (k := 17) (c := 9) (lo := 0) (hi := 16000) rfl rfl rfl rfl rfl (fun x4 q4 a4 b4 => ?_) -- 16
  refine hI_il (k := 2) rfl e2 rfl ?_ -- 19
  refine hM_i2b rfl lq2 rfl (fun x5 z5 q5 a5 b5 c5 => ?_) -- 20
  refine hM_bs M3 (by decide) ok_49 (K := 21) (R2 := 58) (L := 16000) (H := 16000) (lo := (-2147483648)) (hi := 2147483647) rfl (by decide) rfl rfl rfl (fun _ => rfl) (by decide) (by decide) (d_subm hw (by decide +kernel)) rfl q4 q5 (by omega) (by omega) (by omega) (by omega) rfl (fun h6 V6 f6 M6 => ?_) -- 21
  refine hI_al (k := 0) rfl e0 rfl ?_ -- 22
  refine hM_ga M6 (by decide) rfl rfl (k := 22) (c := 9) rfl rfl rfl (by decide +kernel) rfl ?_ -- 23
  refine hI_al (k := 0) rfl e0 rfl ?_ -- 26
  refine hM_gi M6 (by decide) rfl rfl rfl (k := 17) (c := 9) (lo := 0) (hi := 16000) rfl rfl rfl rfl rfl (fun x7 q7 a7 b7 => ?_) -- 27
  refine hI_il (k := 3) rfl e3 rfl ?_ -- 30
  refine hM_i2b rfl lq3 rfl (fun x8 z8 q8 a8 b8 c8 => ?_) -- 31
  refine hM_bs M6 (by decide) ok_49 (K := 22) (R2 := 59) (L := 16000) (H := 16000) (lo := (-2147483648)) (hi := 2147483647) rfl (by decide) rfl rfl rfl (fun _ => rfl) (by decide) (by decide) (d_subm hw (by decide +kernel)) rfl q7 q8 (by omega) (by omega) (by omega) (by omega) rfl (fun h9 V9 f9 M9 => ?_) -- 32
  refine hI_al (k := 0) rfl e0 rfl ?_ -- 33
  refine hI_dup rfl rfl rfl ?_ -- 34
  refine hM_gi M9 (by decide) rfl rfl rfl (k := 17) (c := 9) (lo := 0) (hi := 16000) rfl rfl rfl rfl rfl (fun x10 q10 a10 b10 => ?_) -- 35
  refine hM_ic (n := 1) rfl (by decide) rfl (fun x11 q11 => ?_) -- 38
  refine hM_add rfl q10 q11 (by omega) (by omega) rfl (fun x12 q12 => ?_) -- 39
  refine hM_pi M9 (by decide) ok_49 rfl rfl (k := 17) (c := 9) (lo := 0) (hi := 16000) rfl rfl ⟨by decide, by decide +kernel, rfl⟩ rfl (d_subm hw (by decide +kernel)) q12 (by omega) (by omega) rfl (fun h13 F13 f13 M13 => ?_) -- 40
  refine hI_al (k := 0) rfl e0 rfl ?_ -- 43
  refine hM_gi M13 (by decide) rfl rfl rfl (k := 17) (c := 9) (lo := 0) (hi := 16000) rfl rfl rfl rfl rfl (fun x14 q14 a14 b14 => ?_) -- 44
  have q14 : x14.toInt = ((F 17) + 1) := by rw [q14, f13]; rfl
  have a14 := a14
  rw [f13] at a14 b14
  change 0 ≤ ((F 17) + 1) at a14
  change ((F 17) + 1) ≤ 16000 at b14 -- 44
  refine hM_ic (n := 1) rfl (by decide) rfl (fun x15 q15 => ?_) -- 47
  refine hM_sub rfl q14 q15 (by omega) (by omega) rfl (fun x16 q16 => ?_) -- 48
  refine hI_ri rfl rfl ?_ -- 49
  exact g0 z2 a2 b2 c2 h3 V3 f3 z5 a5 b5 c5 h6 V6 f6 z8 a8 b8 c8 h9 V9 f9 h13 F13 f13 x16 q16 M13 a1 b1 a14 b14
theorem c_make {t k r : Int} {xt xk xr : Int32} (M : MX 49 W ρ m A h0 h F V G) (hw : d_sub g_mk W = true) (ht : xt.toInt = t) (hk : xk.toInt = k) (hr : xr.toInt = r) (n0 : 0 ≤ F 17) (n1 : F 17 < 16000) (r0 : 0 ≤ r) (r1 : r ≤ 100) (g : ∀ (x : Int32) (h' : MH) (F' : Nat → Int) (V' : Nat → Nat → Int), x.toInt = F 17 → MX 49 W ρ m A h0 h' F' V' G → F' = m_u F 17 (F 17 + 1) → V' 22 = m_u (V 22) (F 17).toNat r → (∀ K, K ≠ 20 → K ≠ 21 → K ≠ 22 → V' K = V K) → (-128 ≤ t → t ≤ 127 → V' 20 = m_u (V 20) (F 17).toNat t) → (-128 ≤ k → k ≤ 127 → V' 21 = m_u (V 21) (F 17).toNat k) → Q (some (.int x)) h') : HJ 212 0 (lv_args 0 [.ref m, .int xt, .int xk, .int xr]) [] h Q :=
  s_make M rfl rfl ht rfl hk rfl hr n0 n1 hw (fun z2 a2 b2 c2 h3 V3 f3 z5 a5 b5 c5 h6 V6 f6 z8 a8 b8 c8 h9 V9 f9 h13 F13 f13 x16 q16 M13 a1 b1 a14 b14 => by
    refine g x16 h13 F13 V9 (by omega) M13 f13 ?_ (fun K k1 k2 k3 => ?_) (fun t0 t1 => ?_) (fun t0 t1 => ?_)
    · rw [f9, m_uE, c8 (by omega) (by omega), f6, m_uN _ _ _ _ (by decide), f3, m_uN _ _ _ _ (by decide)]
    · rw [f9, m_uN _ _ _ _ k3, f6, m_uN _ _ _ _ k2, f3, m_uN _ _ _ _ k1]
    · rw [f9, m_uN _ _ _ _ (by decide), f6, m_uN _ _ _ _ (by decide), f3, m_uE, c2 t0 t1]
    · rw [f9, m_uN _ _ _ _ (by decide), f6, m_uE, f3, m_uN _ _ _ _ (by decide), c5 t0 t1])
def g_ln : List (Nat × Nat) := g_mk ++ [(60, 1001), (49, 19)]
theorem s_link0 {a b : Int} (M : MX 49 W ρ m A h0 h F V G) (e0 : m_lk lv 0 = some (.ref m)) {lx1 : Int32} (e1 : m_lk lv 1 = some (.int lx1)) (lq1 : lx1.toInt = a) {lx2 : Int32} (e2 : m_lk lv 2 = some (.int lx2)) (lq2 : lx2.toInt = b) (a0 : 0 ≤ a) (a1 : a < 16000) (b0 : 0 ≤ b) (b1 : b < 16000)
    (g0 : HJ 211 0 (lv_args 0 [.ref m, .int lx2, .int lx1]) [] h (fun v h' => HJ 210 6 lv (v.toList ++ []) h' Q))
    : HJ 210 0 lv [] h Q := by
  refine hI_al (k := 0) rfl e0 rfl ?_ -- 0
  refine hI_il (k := 2) rfl e2 rfl ?_ -- 1
  refine hI_il (k := 1) rfl e1 rfl ?_ -- 2
  refine hM_iv M (by decide) rfl rfl (by decide) (as := [.int lx2, .int lx1]) (r := []) rfl rfl (by decide +kernel) rfl (by decide +kernel) rfl rfl rfl rfl rfl ?_ -- 3
  exact g0 
theorem s_link6 {a b z : Int} (M : MX 49 W ρ m A h0 h F V G) (e0 : m_lk lv 0 = some (.ref m)) {lx1 : Int32} (e1 : m_lk lv 1 = some (.int lx1)) (lq1 : lx1.toInt = a) {lx2 : Int32} (e2 : m_lk lv 2 = some (.int lx2)) (lq2 : lx2.toInt = b) {sx0 : Int32} (sq0 : sx0.toInt = z) (a0 : 0 ≤ a) (a1 : a < 16000) (b0 : 0 ≤ b) (b1 : b < 16000)
    (g0 : ∀ lv2 : List (Nat × Value), m_lk lv2 0 = some (.ref m) → m_lk lv2 3 = some (.int lx1) → m_lk lv2 4 = some (.int lx2) → z = 0 → a ≠ b → HJ 210 32 lv2 [] h Q)
    (g1 : ∀ lv3 : List (Nat × Value), m_lk lv3 0 = some (.ref m) → m_lk lv3 3 = some (.int lx1) → m_lk lv3 4 = some (.int lx2) → z = 0 → a = b → HJ 210 32 lv3 [] h Q)
    (g2 : ∀ lv5 : List (Nat × Value), m_lk lv5 0 = some (.ref m) → m_lk lv5 3 = some (.int lx2) → m_lk lv5 4 = some (.int lx2) → z ≠ 0 → b = a → HJ 210 32 lv5 [] h Q)
    (g3 : ∀ lv6 : List (Nat × Value), m_lk lv6 0 = some (.ref m) → m_lk lv6 3 = some (.int lx2) → m_lk lv6 4 = some (.int lx1) → z ≠ 0 → b ≠ a → HJ 210 32 lv6 [] h Q)
    : HJ 210 6 lv [.int sx0] h Q := by
  refine hM_zeq (off := 7) (t := 13) rfl sq0 (by decide) rfl (fun c6 => ?_) (fun c6 => ?_) -- 6
  · refine hI_il (k := 1) rfl e1 rfl ?_ -- 13
    refine hM_si (k := 3) rfl (by decide +kernel) rfl (fun lv1 e1_3 u1 => ?_) -- 14
    have e1_0 := u1 0 _ (by decide) (Or.inl rfl) e0
    have e1_1 := u1 1 _ (by decide) (Or.inl rfl) e1
    have e1_2 := u1 2 _ (by decide) (Or.inl rfl) e2
    refine hI_il (k := 3) rfl e1_3 rfl ?_ -- 15
    refine hI_il (k := 2) rfl e1_2 rfl ?_ -- 16
    refine hM_cne (off := 12) (t := 29) rfl lq1 lq2 (by decide) rfl (fun c17 => ?_) (fun c17 => ?_) -- 17
    · refine hI_il (k := 2) rfl e1_2 rfl ?_ -- 29
      refine hM_si2 (k := 4) rfl (by decide +kernel) rfl (fun lv2 e2_4 u2 => ?_) -- 30
      have e2_0 := u2 0 _ (by decide) (Or.inl rfl) e1_0
      have e2_1 := u2 1 _ (by decide) (Or.inl rfl) e1_1
      have e2_2 := u2 2 _ (by decide) (Or.inl rfl) e1_2
      have e2_3 := u2 3 _ (by decide) (Or.inl rfl) e1_3
      exact g0 lv2 e2_0 e2_3 e2_4 c6 c17
    · refine hI_il (k := 3) rfl e1_3 rfl ?_ -- 20
      refine hI_il (k := 1) rfl e1_1 rfl ?_ -- 21
      refine hM_ceq (off := 7) (t := 29) rfl lq1 lq1 (by decide) rfl (fun c22 => ?_) (fun c22 => ?_) -- 22
      · refine hI_il (k := 2) rfl e1_2 rfl ?_ -- 29
        refine hM_si2 (k := 4) rfl (by decide +kernel) rfl (fun lv3 e3_4 u3 => ?_) -- 30
        have e3_0 := u3 0 _ (by decide) (Or.inl rfl) e1_0
        have e3_1 := u3 1 _ (by decide) (Or.inl rfl) e1_1
        have e3_2 := u3 2 _ (by decide) (Or.inl rfl) e1_2
        have e3_3 := u3 3 _ (by decide) (Or.inl rfl) e1_3
        exact g1 lv3 e3_0 e3_3 e3_4 c6 c17
      · exfalso; omega
  · refine hI_il (k := 2) rfl e2 rfl ?_ -- 9
    refine hI_go (pc' := 14) (off := 4) rfl (by decide) ?_ -- 10
    refine hM_si (k := 3) rfl (by decide +kernel) rfl (fun lv4 e4_3 u4 => ?_) -- 14
    have e4_0 := u4 0 _ (by decide) (Or.inl rfl) e0
    have e4_1 := u4 1 _ (by decide) (Or.inl rfl) e1
    have e4_2 := u4 2 _ (by decide) (Or.inl rfl) e2
    refine hI_il (k := 3) rfl e4_3 rfl ?_ -- 15
    refine hI_il (k := 2) rfl e4_2 rfl ?_ -- 16
    refine hM_cne (off := 12) (t := 29) rfl lq2 lq2 (by decide) rfl (fun c17 => ?_) (fun c17 => ?_) -- 17
    · exfalso; omega
    · refine hI_il (k := 3) rfl e4_3 rfl ?_ -- 20
      refine hI_il (k := 1) rfl e4_1 rfl ?_ -- 21
      refine hM_ceq (off := 7) (t := 29) rfl lq2 lq1 (by decide) rfl (fun c22 => ?_) (fun c22 => ?_) -- 22
      · refine hI_il (k := 2) rfl e4_2 rfl ?_ -- 29
        refine hM_si2 (k := 4) rfl (by decide +kernel) rfl (fun lv5 e5_4 u5 => ?_) -- 30
        have e5_0 := u5 0 _ (by decide) (Or.inl rfl) e4_0
        have e5_1 := u5 1 _ (by decide) (Or.inl rfl) e4_1
        have e5_2 := u5 2 _ (by decide) (Or.inl rfl) e4_2
        have e5_3 := u5 3 _ (by decide) (Or.inl rfl) e4_3
        exact g2 lv5 e5_0 e5_3 e5_4 c6 c22
      · refine hI_il (k := 1) rfl e4_1 rfl ?_ -- 25
        refine hI_go (pc' := 30) (off := 4) rfl (by decide) ?_ -- 26
        refine hM_si2 (k := 4) rfl (by decide +kernel) rfl (fun lv6 e6_4 u6 => ?_) -- 30
        have e6_0 := u6 0 _ (by decide) (Or.inl rfl) e4_0
        have e6_1 := u6 1 _ (by decide) (Or.inl rfl) e4_1
        have e6_2 := u6 2 _ (by decide) (Or.inl rfl) e4_2
        have e6_3 := u6 3 _ (by decide) (Or.inl rfl) e4_3
        exact g3 lv6 e6_0 e6_3 e6_4 c6 c22
theorem s_link32 {u w : Int} (M : MX 49 W ρ m A h0 h F V G) (e0 : m_lk lv 0 = some (.ref m)) {lx3 : Int32} (e3 : m_lk lv 3 = some (.int lx3)) (lq3 : lx3.toInt = u) {lx4 : Int32} (e4 : m_lk lv 4 = some (.int lx4)) (lq4 : lx4.toInt = w) (u0 : 0 ≤ u) (u1 : u < 16000) (r0 : 0 ≤ V 22 u.toNat) (r1 : V 22 u.toNat ≤ 5)
    (g0 : ∀ x1 : Int32, x1.toInt = V 20 (u).toNat → ∀ x2 : Int32, x2.toInt = V 21 (u).toNat → ∀ x5 : Int32, x5.toInt = (V 22 (u).toNat) + 1 → HJ 212 0 (lv_args 0 [.ref m, .int x1, .int x2, .int x5]) [] h (fun v h' => HJ 210 56 lv (v.toList ++ []) h' Q))
    : HJ 210 32 lv [] h Q := by
  refine hI_al (k := 0) rfl e0 rfl ?_ -- 32
  refine hI_al (k := 0) rfl e0 rfl ?_ -- 33
  refine hM_ga M (by decide) rfl rfl (k := 20) (c := 9) rfl rfl rfl (by decide +kernel) rfl ?_ -- 34
  refine hI_il (k := 3) rfl e3 rfl ?_ -- 37
  refine hM_ba M (by decide) (K := 20) (R2 := 57) (L := 16000) (H := 16000) (lo := (-2147483648)) (hi := 2147483647) rfl (by decide) rfl rfl (Or.inl rfl) (fun _ => rfl) rfl lq3 (by omega) (by omega) rfl (fun x1 q1 a1 b1 => ?_) -- 38
  refine hI_al (k := 0) rfl e0 rfl ?_ -- 39
  refine hM_ga M (by decide) rfl rfl (k := 21) (c := 9) rfl rfl rfl (by decide +kernel) rfl ?_ -- 40
  refine hI_il (k := 3) rfl e3 rfl ?_ -- 43
  refine hM_ba M (by decide) (K := 21) (R2 := 58) (L := 16000) (H := 16000) (lo := (-2147483648)) (hi := 2147483647) rfl (by decide) rfl rfl (Or.inl rfl) (fun _ => rfl) rfl lq3 (by omega) (by omega) rfl (fun x2 q2 a2 b2 => ?_) -- 44
  refine hI_al (k := 0) rfl e0 rfl ?_ -- 45
  refine hM_ga M (by decide) rfl rfl (k := 22) (c := 9) rfl rfl rfl (by decide +kernel) rfl ?_ -- 46
  refine hI_il (k := 3) rfl e3 rfl ?_ -- 49
  refine hM_ba M (by decide) (K := 22) (R2 := 59) (L := 16000) (H := 16000) (lo := (-2147483648)) (hi := 2147483647) rfl (by decide) rfl rfl (Or.inl rfl) (fun _ => rfl) rfl lq3 (by omega) (by omega) rfl (fun x3 q3 a3 b3 => ?_) -- 50
  refine hM_ic (n := 1) rfl (by decide) rfl (fun x4 q4 => ?_) -- 51
  refine hM_add rfl q3 q4 (by omega) (by omega) rfl (fun x5 q5 => ?_) -- 52
  refine hM_iv M (by decide) rfl rfl (by decide) (as := [.int x1, .int x2, .int x5]) (r := []) rfl rfl (by decide +kernel) rfl (by decide +kernel) rfl rfl rfl rfl rfl ?_ -- 53
  exact g0 x1 q1 x2 q2 x5 q5
theorem s_link56 {u w n : Int} (M : MX 49 W ρ m A h0 h F V G) (e0 : m_lk lv 0 = some (.ref m)) {lx3 : Int32} (e3 : m_lk lv 3 = some (.int lx3)) (lq3 : lx3.toInt = u) {lx4 : Int32} (e4 : m_lk lv 4 = some (.int lx4)) (lq4 : lx4.toInt = w) {sx0 : Int32} (sq0 : sx0.toInt = n) 
    (g0 : ∀ x2 : Int32, x2.toInt = 0 → ∀ lv3 : List (Nat × Value), m_lk lv3 0 = some (.ref m) → m_lk lv3 3 = some (.int lx3) → m_lk lv3 4 = some (.int lx4) → m_lk lv3 5 = some (.int sx0) → m_lk lv3 6 = some (.int x2) → HJ 210 61 lv3 [] h Q)
    : HJ 210 56 lv [.int sx0] h Q := by
  refine hM_si2 (k := 5) rfl (by decide +kernel) rfl (fun lv1 e1_5 u1 => ?_) -- 56
  have e1_0 := u1 0 _ (by decide) (Or.inl rfl) e0
  have e1_3 := u1 3 _ (by decide) (Or.inl rfl) e3
  have e1_4 := u1 4 _ (by decide) (Or.inl rfl) e4
  refine hM_ic (n := 0) rfl (by decide) rfl (fun x2 q2 => ?_) -- 58
  refine hM_si2 (k := 6) rfl (by decide +kernel) rfl (fun lv3 e3_6 u3 => ?_) -- 59
  have e3_0 := u3 0 _ (by decide) (Or.inl rfl) e1_0
  have e3_3 := u3 3 _ (by decide) (Or.inl rfl) e1_3
  have e3_4 := u3 4 _ (by decide) (Or.inl rfl) e1_4
  have e3_5 := u3 5 _ (by decide) (Or.inl rfl) e1_5
  exact g0 x2 q2 lv3 e3_0 e3_3 e3_4 e3_5 e3_6
theorem s_link61 {u w n q : Int} (M : MX 49 W ρ m A h0 h F V G) (e0 : m_lk lv 0 = some (.ref m)) {lx3 : Int32} (e3 : m_lk lv 3 = some (.int lx3)) (lq3 : lx3.toInt = u) {lx4 : Int32} (e4 : m_lk lv 4 = some (.int lx4)) (lq4 : lx4.toInt = w) {lx5 : Int32} (e5 : m_lk lv 5 = some (.int lx5)) (lq5 : lx5.toInt = n) {lx6 : Int32} (e6 : m_lk lv 6 = some (.int lx6)) (lq6 : lx6.toInt = q) (w0 : 0 ≤ w) (w1 : w < 16000) (u0 : 0 ≤ u) (u1 : u < 16000) (n0 : 0 ≤ n) (n1 : n < 16000) (p0 : 0 ≤ q) (r0 : 0 ≤ V 22 u.toNat) (r1 : V 22 u.toNat ≤ 5)(hw : d_sub [(60, 1001), (49, 19)] W = true)
    (g0 : ∀ h6 : MH, ∀ V6 : Nat → Nat → Int, V6 = m_u V 23 (m_u (V 23) ((6 * n) + (V 22 (u).toNat)).toNat (w)) → ∀ z9 : Int, -2147483648 ≤ z9 → z9 ≤ 2147483647 → (-2147483648 ≤ F 19 + 1 → F 19 + 1 ≤ 2147483647 → z9 = F 19 + 1) → ∀ h10 : MH, ∀ F10 : Nat → Int, F10 = m_u F 19 (z9) → MX 49 W ρ m A h0 h10 F10 V6 G → q ≥ V 22 (u).toNat → (-2147483648) ≤ F 19 → F 19 ≤ 2147483647 → Q (some (.int lx5)) h10)
    (g1 : ∀ h18 : MH, ∀ V18 : Nat → Nat → Int, V18 = m_u V 23 (m_u (V 23) ((6 * n) + q).toNat (V 23 ((6 * u) + q).toNat)) → ∀ x19 : Int32, x19.toInt = q + 1 → ∀ lv19 : List (Nat × Value), MX 49 W ρ m A h0 h18 F V18 G → m_lk lv19 0 = some (.ref m) → m_lk lv19 3 = some (.int lx3) → m_lk lv19 4 = some (.int lx4) → m_lk lv19 5 = some (.int lx5) → m_lk lv19 6 = some (.int x19) → q < V 22 (u).toNat → HJ 210 61 lv19 [] h18 Q)
    : HJ 210 61 lv [] h Q := by
  refine hI_il2 (k := 6) rfl e6 rfl ?_ -- 61
  refine hI_al (k := 0) rfl e0 rfl ?_ -- 63
  refine hM_ga M (by decide) rfl rfl (k := 22) (c := 9) rfl rfl rfl (by decide +kernel) rfl ?_ -- 64
  refine hI_il (k := 3) rfl e3 rfl ?_ -- 67
  refine hM_ba M (by decide) (K := 22) (R2 := 59) (L := 16000) (H := 16000) (lo := (-2147483648)) (hi := 2147483647) rfl (by decide) rfl rfl (Or.inl rfl) (fun _ => rfl) rfl lq3 (by omega) (by omega) rfl (fun x1 q1 a1 b1 => ?_) -- 68
  refine hM_cge (off := 34) (t := 103) rfl lq6 q1 (by decide) rfl (fun c69 => ?_) (fun c69 => ?_) -- 69
  · refine hI_al (k := 0) rfl e0 rfl ?_ -- 103
    refine hM_ga M (by decide) rfl rfl (k := 23) (c := 9) rfl rfl rfl (by decide +kernel) rfl ?_ -- 104
    refine hM_bp (n := 6) rfl (by decide) rfl (fun x2 q2 => ?_) -- 107
    refine hI_il2 (k := 5) rfl e5 rfl ?_ -- 109
    refine hM_mul rfl q2 lq5 (by omega) (by omega) rfl (fun x3 q3 => ?_) -- 111
    refine hI_al (k := 0) rfl e0 rfl ?_ -- 112
    refine hM_ga M (by decide) rfl rfl (k := 22) (c := 9) rfl rfl rfl (by decide +kernel) rfl ?_ -- 113
    refine hI_il (k := 3) rfl e3 rfl ?_ -- 116
    refine hM_ba M (by decide) (K := 22) (R2 := 59) (L := 16000) (H := 16000) (lo := (-2147483648)) (hi := 2147483647) rfl (by decide) rfl rfl (Or.inl rfl) (fun _ => rfl) rfl lq3 (by omega) (by omega) rfl (fun x4 q4 a4 b4 => ?_) -- 117
    refine hM_add rfl q3 q4 (by omega) (by omega) rfl (fun x5 q5 => ?_) -- 118
    refine hI_il2 (k := 4) rfl e4 rfl ?_ -- 119
    refine hM_is M (by decide) ok_49 (K := 23) (R2 := 60) (L := 96000) (H := 96000) (lo := (-2147483648)) (hi := 2147483647) rfl (by decide) rfl rfl rfl (fun _ => rfl) (d_subm hw (by decide +kernel)) rfl q5 lq4 (by omega) (by omega) (by omega) (by omega) rfl (fun h6 V6 f6 M6 => ?_) -- 121
    refine hI_al (k := 0) rfl e0 rfl ?_ -- 122
    refine hI_dup rfl rfl rfl ?_ -- 123
    refine hM_gi M6 (by decide) rfl rfl rfl (k := 19) (c := 9) (lo := (-2147483648)) (hi := 2147483647) rfl rfl rfl rfl rfl (fun x7 q7 a7 b7 => ?_) -- 124
    refine hM_ic (n := 1) rfl (by decide) rfl (fun x8 q8 => ?_) -- 127
    refine hM_addx rfl q7 q8 rfl (fun x9 z9 q9 a9 b9 c9 => ?_) -- 128
    refine hM_pi M6 (by decide) ok_49 rfl rfl (k := 19) (c := 9) (lo := (-2147483648)) (hi := 2147483647) rfl rfl ⟨by decide, by decide +kernel, rfl⟩ rfl (d_subm hw (by decide +kernel)) q9 (by omega) (by omega) rfl (fun h10 F10 f10 M10 => ?_) -- 129
    refine hI_il2 (k := 5) rfl e5 rfl ?_ -- 132
    refine hI_ri rfl rfl ?_ -- 134
    exact g0 h6 V6 f6 z9 a9 b9 c9 h10 F10 f10 M10 c69 a7 b7
  · refine hI_al (k := 0) rfl e0 rfl ?_ -- 72
    refine hM_ga M (by decide) rfl rfl (k := 23) (c := 9) rfl rfl rfl (by decide +kernel) rfl ?_ -- 73
    refine hM_bp (n := 6) rfl (by decide) rfl (fun x11 q11 => ?_) -- 76
    refine hI_il2 (k := 5) rfl e5 rfl ?_ -- 78
    refine hM_mul rfl q11 lq5 (by omega) (by omega) rfl (fun x12 q12 => ?_) -- 80
    refine hI_il2 (k := 6) rfl e6 rfl ?_ -- 81
    refine hM_add rfl q12 lq6 (by omega) (by omega) rfl (fun x13 q13 => ?_) -- 83
    refine hI_al (k := 0) rfl e0 rfl ?_ -- 84
    refine hM_ga M (by decide) rfl rfl (k := 23) (c := 9) rfl rfl rfl (by decide +kernel) rfl ?_ -- 85
    refine hM_bp (n := 6) rfl (by decide) rfl (fun x14 q14 => ?_) -- 88
    refine hI_il (k := 3) rfl e3 rfl ?_ -- 90
    refine hM_mul rfl q14 lq3 (by omega) (by omega) rfl (fun x15 q15 => ?_) -- 91
    refine hI_il2 (k := 6) rfl e6 rfl ?_ -- 92
    refine hM_add rfl q15 lq6 (by omega) (by omega) rfl (fun x16 q16 => ?_) -- 94
    refine hM_ia M (by decide) (K := 23) (R2 := 60) (L := 96000) (H := 96000) (lo := (-2147483648)) (hi := 2147483647) rfl (by decide) rfl rfl (fun _ => rfl) rfl q16 (by omega) (by omega) rfl (fun x17 q17 a17 b17 => ?_) -- 95
    refine hM_is M (by decide) ok_49 (K := 23) (R2 := 60) (L := 96000) (H := 96000) (lo := (-2147483648)) (hi := 2147483647) rfl (by decide) rfl rfl rfl (fun _ => rfl) (d_subm hw (by decide +kernel)) rfl q13 q17 (by omega) (by omega) (by omega) (by omega) rfl (fun h18 V18 f18 M18 => ?_) -- 96
    refine hM_inc (k := 6) (z := 1) rfl e6 lq6 (by decide) (by omega) (by omega) (by decide +kernel) rfl (fun lv19 x19 q19 e19_6 u19 => ?_) -- 97
    have e19_0 := u19 0 _ (by decide) (Or.inl rfl) e0
    have e19_3 := u19 3 _ (by decide) (Or.inl rfl) e3
    have e19_4 := u19 4 _ (by decide) (Or.inl rfl) e4
    have e19_5 := u19 5 _ (by decide) (Or.inl rfl) e5
    refine hI_go (pc' := 61) (off := (-39)) rfl (by decide) ?_ -- 100
    exact g1 h18 V18 f18 x19 q19 lv19 M18 e19_0 e19_3 e19_4 e19_5 e19_6 c69
theorem l_link {u w n r : Int} {F : Nat → Int} {V0 V1 : Nat → Nat → Int} (hw : d_sub [(60, 1001), (49, 19)] W = true) (sh : p_sh n (V0 22) (V0 23)) (n0 : 0 ≤ n) (u0 : 0 ≤ u) (u1 : u < n) (w0 : 0 ≤ w) (w1 : w < n) (ru : V0 22 u.toNat = r) (rw_ : V0 22 w.toNat = r) (r0 : 0 ≤ r) (r5 : r ≤ 5) (n1 : n < 16000) (hv : V1 22 = m_u (V0 22) n.toNat (r + 1)) {xu xw xn : Int32} (hu : xu.toInt = u) (hw' : xw.toInt = w) (hn : xn.toInt = n) (g : ∀ (h' : MH) (F' : Nat → Int) (V' : Nat → Nat → Int), MX 49 W ρ m A h0 h' F' V' G → (∀ K, K ≠ 19 → F' K = F K) → (∀ K, K ≠ 23 → V' K = V1 K) → p_sh (n + 1) (V' 22) (V' 23) → (∀ j, j < 6 * n.toNat → V' 23 j = V0 23 j) → (∀ p : Nat, (p : Int) < r → V' 23 (6 * n.toNat + p) = V0 23 (6 * u.toNat + p)) → V' 23 (6 * n.toNat + r.toNat) = w → (-2147483648 ≤ F 19 + 1 → F 19 + 1 ≤ 2147483647 → F' 19 = F 19 + 1) → Q (some (.int xn)) h') : ∀ (d : Nat) (q : Int) (lv : List (Nat × Value)) (h : MH) (V : Nat → Nat → Int) (xq : Int32), q + d = r → 0 ≤ q → xq.toInt = q → MX 49 W ρ m A h0 h F V G → (∀ K, K ≠ 23 → V K = V1 K) → (∀ j, j < 6 * n.toNat → V 23 j = V0 23 j) → (∀ p, p < q.toNat → V 23 (6 * n.toNat + p) = V0 23 (6 * u.toNat + p)) → m_lk lv 0 = some (.ref m) → m_lk lv 3 = some (.int xu) → m_lk lv 4 = some (.int xw) → m_lk lv 5 = some (.int xn) → m_lk lv 6 = some (.int xq) → HJ 210 61 lv [] h Q := by
  intro d
  induction d with
  | zero =>
    intro q lv h V xq hd q0 hq M k1 k2 k3 e0 e3 e4 e5 e6
    have vu : V 22 u.toNat = r := by rw [k1 22 (by decide), hv, m_uN _ _ _ _ (by omega), ru]
    refine s_link61 M e0 e3 hu e4 hw' e5 hn e6 hq w0 (by omega) u0 (by omega) n0 n1 q0 (by omega) (by omega) hw (fun h6 V6 f6 z9 a9 b9 c9 h10 F10 f10 M10 c69 a7 b7 => ?_) (fun h18 V18 f18 x19 q19 lv19 M18 e19_0 e19_3 e19_4 e19_5 e19_6 c69 => absurd c69 (by omega))
    have v6 : V6 23 = m_u (V 23) (6 * n + V 22 u.toNat).toNat w := by rw [f6, m_uE]
    have vo : ∀ K, K ≠ 23 → V6 K = V1 K := fun K hK => by rw [f6, m_uN _ _ _ _ hK, k1 K hK]
    have b9 : ∀ j, j < 6 * n.toNat → V6 23 j = V0 23 j := fun j hj => by
      rw [v6, m_uN _ _ _ _ (by omega)]
      exact k2 j hj
    have d1 : ∀ p : Nat, (p : Int) < r → V6 23 (6 * n.toNat + p) = V0 23 (6 * u.toNat + p) := fun p hp => by
      rw [v6, m_uN _ _ _ _ (by omega)]
      exact k3 p (by omega)
    have d2 : V6 23 (6 * n.toNat + r.toNat) = w := by rw [v6, vu, show 6 * n.toNat + r.toNat = (6 * n + r).toNat by omega, m_uE]
    refine g h10 F10 V6 M10 (fun K hK => by rw [f10, m_uN _ _ _ _ hK]) vo (p_shL sh n0 u0 u1 w0 w1 ru rw_ r0 r5 ((vo 22 (by decide)).trans hv) (fun j hj => ?_) (fun p hp => d1 p (by omega)) d2) b9 d1 d2 (fun l0 l1 => by rw [f10, m_uE, c9 l0 l1])
    rw [v6, m_uN _ _ _ _ (by omega)]
    exact k2 j hj
  | succ d ih =>
    intro q lv h V xq hd q0 hq M k1 k2 k3 e0 e3 e4 e5 e6
    have vu : V 22 u.toNat = r := by rw [k1 22 (by decide), hv, m_uN _ _ _ _ (by omega), ru]
    refine s_link61 M e0 e3 hu e4 hw' e5 hn e6 hq w0 (by omega) u0 (by omega) n0 n1 q0 (by omega) (by omega) hw (fun h6 V6 f6 z9 a9 b9 c9 h10 F10 f10 M10 c69 a7 b7 => absurd c69 (by omega)) (fun h18 V18 f18 x19 q19 lv19 M18 e19_0 e19_3 e19_4 e19_5 e19_6 c69 => ?_)
    have v6 : V18 23 = m_u (V 23) (6 * n + q).toNat (V 23 (6 * u + q).toNat) := by rw [f18, m_uE]
    refine ih (q + 1) lv19 h18 V18 x19 (by omega) (by omega) q19 M18 (fun K hK => by rw [f18, m_uN _ _ _ _ hK, k1 K hK]) (fun j hj => ?_) (fun p hp => ?_) e19_0 e19_3 e19_4 e19_5 e19_6
    · rw [v6, m_uN _ _ _ _ (by omega)]
      exact k2 j hj
    · rw [v6]
      by_cases e : p = q.toNat
      · rw [show 6 * n.toNat + p = (6 * n + q).toNat by omega, m_uE, k2 _ (by omega), show (6 * u + q).toNat = 6 * u.toNat + p by omega]
      · rw [m_uN _ _ _ _ (by omega)]
        exact k3 p (by omega)
-- a link: a further node, one rank more
theorem c_link {a b r : Int} {xa xb : Int32} (M : MX 49 W ρ m A h0 h F V G) (hw : d_sub g_ln W = true) (sh : p_sh (F 17) (V 22) (V 23)) (ha : xa.toInt = a) (hb : xb.toInt = b) (n0 : 0 ≤ F 17) (n1 : F 17 < 16000) (a0 : 0 ≤ a) (a1 : a < F 17) (b0 : 0 ≤ b) (b1 : b < F 17) (ra : V 22 a.toNat = r) (rb : V 22 b.toNat = r) (r0 : 0 ≤ r) (r5 : r ≤ 5) (g : ∀ (x : Int32) (h' : MH) (F' : Nat → Int) (V' : Nat → Nat → Int), x.toInt = F 17 → MX 49 W ρ m A h0 h' F' V' G → F' 17 = F 17 + 1 → (∀ K, K ≠ 17 → K ≠ 19 → F' K = F K) → p_sh (F 17 + 1) (V' 22) (V' 23) → V' 22 = m_u (V 22) (F 17).toNat (r + 1) → (∀ K, K ≠ 20 → K ≠ 21 → K ≠ 22 → K ≠ 23 → V' K = V K) → (∀ j, j < 6 * (F 17).toNat → V' 23 j = V 23 j) → (∀ S, rs_of F V S → rs_of F' V' (ps_link S a b)) → Q (some (.int x)) h') : HJ 210 0 (lv_args 0 [.ref m, .int xa, .int xb]) [] h Q := by
  have hw1 : d_sub g_mk W = true := d_subm hw (by decide +kernel)
  have hw2 : d_sub [(60, 1001), (49, 19)] W = true := d_subm hw (by decide +kernel)
  have key : ∀ (u w : Int) (xu xw : Int32) (lv : List (Nat × Value)), 0 ≤ u → u < F 17 → 0 ≤ w → w < F 17 → V 22 u.toNat = r → V 22 w.toNat = r → xu.toInt = u → xw.toInt = w → m_lk lv 0 = some (.ref m) → m_lk lv 3 = some (.int xu) → m_lk lv 4 = some (.int xw) → (∀ S, rs_of F V S → ps_up S a b = u ∧ ps_dn S a b = w) → HJ 210 32 lv [] h Q := fun u w xu xw lv u0 u1 w0 w1 ru rw_ hu hw' e0 e3 e4 ud => by
    refine s_link32 M e0 e3 hu e4 hw' u0 (by omega) (by omega) (by omega) (fun x1 q1 x2 q2 x5 q5 => ?_)
    refine c_make M hw1 q1 q2 q5 n0 n1 (by omega) (by omega) (fun x h' F' V' hx M' f' v' vo v20 v21 => ?_)
    refine s_link56 (n := F 17) M' e0 e3 hu e4 hw' hx (fun x2 q2 lv3 e3_0 e3_3 e3_4 e3_5 e3_6 => ?_)
    refine l_link (V0 := V) (V1 := V') hw2 sh n0 u0 u1 w0 w1 ru rw_ r0 r5 n1 (by rw [v', ru]) hu hw' hx (fun h2 F2 V2 M2 f2 v2 s2 b2 b3 b4 l2 => ?_) r.toNat 0 lv3 h' V' x2 (by omega) (by omega) q2 M' (fun _ _ => rfl) (fun j hj => by rw [vo 23 (by decide) (by decide) (by decide)]) (fun p hp => by omega) e3_0 e3_3 e3_4 e3_5 e3_6
    refine g x h2 F2 V2 hx M2 (by rw [f2 17 (by decide), f', m_uE]) (fun K k1 k2 => by rw [f2 K k2, f', m_uN _ _ _ _ k1]) s2 (by rw [v2 22 (by decide), v', ru]) (fun K k1 k2 k3 k4 => by rw [v2 K k4, vo K k1 k2 k3]) b2 (fun S I => ?_)
    obtain ⟨e1, e2⟩ := ud S I
    unfold ps_link
    rw [e1, e2]
    obtain ⟨i1, i2, i3, i4⟩ := I
    obtain ⟨-, t2, -, y2, -, -⟩ := i4 u.toNat (by omega)
    have l19 : F' 19 = F 19 := by rw [f', m_uN _ _ _ _ (by decide)]
    exact rs_lk ⟨i1, i2, i3, i4⟩ sh u0 u1 ru r5 (by rw [f2 17 (by decide), f', m_uE]) (by rw [l2 (by omega) (by omega), l19]) (by rw [v2 20 (by decide), v20 (by omega) (by omega)]) (by rw [v2 21 (by decide), v21 (by omega) (by omega)]) (by rw [v2 22 (by decide), v', ru]) b2 b3 b4
  refine s_link0 M rfl rfl ha rfl hb a0 (by omega) b0 (by omega) ?_
  refine c_less M hb ha b0 (by omega) a0 (by omega) (fun z z0 z1 zz => ?_)
  have uF : z.toInt = 0 → ∀ S, rs_of F V S → ps_up S a b = a ∧ ps_dn S a b = b := fun z9 S I => ps_udF (fun y => by
    rcases zz with ⟨q, -⟩ | ⟨-, q⟩
    · omega
    · exact q ((rs_ls I b0 b1 a0 a1).mpr y))
  have uT : z.toInt ≠ 0 → ∀ S, rs_of F V S → ps_up S a b = b ∧ ps_dn S a b = a := fun z9 S I => ps_udT (by
    rcases zz with ⟨-, q⟩ | ⟨q, -⟩
    · exact (rs_ls I b0 b1 a0 a1).mp q
    · exact absurd q z9)
  exact s_link6 (a := a) (b := b) (z := z.toInt) M rfl rfl ha rfl hb rfl a0 (by omega) b0 (by omega)
    (fun lv2 e2_0 e2_3 e2_4 c6 c17 => key a b _ _ lv2 a0 a1 b0 b1 ra rb ha hb e2_0 e2_3 e2_4 (uF c6))
    (fun lv2 e2_0 e2_3 e2_4 c6 c17 => key a b _ _ lv2 a0 a1 b0 b1 ra rb ha hb e2_0 e2_3 e2_4 (uF c6))
    (fun lv2 e2_0 e2_3 e2_4 c6 c22 => key b b _ _ lv2 b0 b1 b0 b1 rb rb hb hb e2_0 e2_3 e2_4 (fun S I => by rw [(uT c6 S I).1, (uT c6 S I).2]; exact ⟨rfl, c22.symm⟩))
    (fun lv2 e2_0 e2_3 e2_4 c6 c22 => key b a _ _ lv2 b0 b1 a0 a1 rb ra hb ha e2_0 e2_3 e2_4 (uT c6))
-- heaps melded, rank by rank
def g_mi (F0 : Nat → Int) (V0 : Nat → Nat → Int) (F : Nat → Int) (V : Nat → Nat → Int) (r : Nat) (c : Int) : Prop := (p_sh (F 17) (V 22) (V 23) ∧ p_hp (F 17) (V 22) (V 24) ∧ p_rt (F 17) (V 22) c r) ∧ (F0 17 ≤ F 17 ∧ F 17 ≤ F0 17 + r) ∧ (∀ K, K ≠ 17 → K ≠ 19 → F K = F0 K) ∧ (∀ v : Nat, (v : Int) < F0 17 → V 22 v = V0 22 v) ∧ (∀ K, K ≠ 20 → K ≠ 21 → K ≠ 22 → K ≠ 23 → K ≠ 24 → V K = V0 K) ∧ (∀ k, r ≤ k → V 24 k = V0 24 k) ∧ p_ws (V 24) r + y_tg c * 2 ^ r = p_ws (V0 24) r + p_ws (V0 25) r ∧ ∀ j, j < 6 * (F0 17).toNat → V 23 j = V0 23 j
def g_mf (F0 : Nat → Int) (V0 : Nat → Nat → Int) (F : Nat → Int) (V : Nat → Nat → Int) (r : Nat) (c : Int) : Prop := ∀ S h s, rs_of F0 V0 S → hp6 (V0 24) h → hp6 (V0 25) s → rs_of F V (pm_run s (S, h, -1) r).1 ∧ hp6 (V 24) (pm_run s (S, h, -1) r).2.1 ∧ c = (pm_run s (S, h, -1) r).2.2
theorem hp6_u {f h : Nat → Int} {r : Nat} {y : Int} (e : hp6 f h) : hp6 (m_u f r y) (m_u h r y) := fun k hk => by
  by_cases q : k = r
  · rw [q, m_uE, m_uE]
  · rw [m_uN _ _ _ _ q, m_uN _ _ _ _ q]
    exact e k hk
-- a step of the meld, by what stands there
theorem pm_st1 {s : Nat → Int} {X : PXt} {r : Nat} {a b y : Int} (ea : X.2.1 r = a) (eb : s r = b) (ey : X.2.2 = y) (ha : a ≠ -1) (hb : b ≠ -1) : pm_st s X r = (ps_link X.1 a b, m_u X.2.1 r y, (ps_n X.1 : Int)) := by
  unfold pm_st
  rw [ea, eb, ey, if_pos ⟨ha, hb⟩]
theorem pm_st2 {s : Nat → Int} {X : PXt} {r : Nat} {a b c o : Int} (ea : X.2.1 r = a) (eb : s r = b) (ec : X.2.2 = c) (hn : ¬ (a ≠ -1 ∧ b ≠ -1)) (hc : c ≠ -1) (ho : pm_one a b = o) (h1 : o ≠ -1) : pm_st s X r = (ps_link X.1 c o, m_u X.2.1 r (-1), (ps_n X.1 : Int)) := by
  unfold pm_st
  rw [ea, eb, ec, ho, if_neg hn, if_pos ⟨hc, h1⟩]
theorem pm_st3 {s : Nat → Int} {X : PXt} {r : Nat} {a b c o y : Int} (ea : X.2.1 r = a) (eb : s r = b) (ec : X.2.2 = c) (hn : ¬ (a ≠ -1 ∧ b ≠ -1)) (ho : pm_one a b = o) (h1 : ¬ (c ≠ -1 ∧ o ≠ -1)) (hy : pm_one c o = y) : pm_st s X r = (X.1, m_u X.2.1 r y, -1) := by
  unfold pm_st
  rw [ea, eb, ec, ho, if_neg hn, if_neg h1, hy]
theorem pm_oneT {x y : Int} (h : x = -1) : pm_one x y = y := if_pos h
theorem pm_oneF {x y : Int} (h : x ≠ -1) : pm_one x y = x := if_neg h
theorem g_miS {F0 F F' : Nat → Int} {V0 V V' : Nat → Nat → Int} {r : Nat} {c c' y : Int} (I : g_mi F0 V0 F V r c) (sh : p_sh (F' 17) (V' 22) (V' 23)) (py : p_rt (F' 17) (V' 22) y r) (pc : p_rt (F' 17) (V' 22) c' (r + 1)) (n0 : F 17 ≤ F' 17) (n1 : F' 17 ≤ F 17 + 1) (fo : ∀ K, K ≠ 17 → K ≠ 19 → F' K = F K) (ro : ∀ v : Nat, (v : Int) < F 17 → V' 22 v = V 22 v) (hy : V' 24 = m_u (V 24) r y) (vo : ∀ K, K ≠ 20 → K ≠ 21 → K ≠ 22 → K ≠ 23 → K ≠ 24 → V' K = V K) (wt : y_tg y + 2 * y_tg c' = y_tg c + y_tg (V 24 r) + y_tg (V0 25 r)) (bo : ∀ j, j < 6 * (F 17).toNat → V' 23 j = V 23 j) : g_mi F0 V0 F' V' (r + 1) c' := by
  obtain ⟨⟨i1, i2, i3⟩, ⟨i4, i5⟩, i6, i7, i8, i9, i10, i11⟩ := I
  refine ⟨⟨sh, fun q h6 => ?_, pc⟩, ⟨by omega, by omega⟩, fun K k1 k2 => (fo K k1 k2).trans (i6 K k1 k2), fun v hv => (ro v (by omega)).trans (i7 v hv), fun K k1 k2 k3 k4 k5 => (vo K k1 k2 k3 k4 k5).trans (i8 K k1 k2 k3 k4 k5), fun k hk => ?_, ?_, fun j hj => (bo j (by omega)).trans (i11 j hj)⟩
  · rw [hy]
    by_cases e : q = r
    · rw [e, m_uE]
      exact py
    · rw [m_uN _ _ _ _ e]
      exact p_rtU n0 ro (i2 q h6)
  · rw [hy, m_uN _ _ _ _ (by omega)]
    exact i9 k (by omega)
  · rw [p_ws, p_ws, p_ws, hy, m_uE, p_wsC (f := V 24) (fun j hj => m_uN _ _ _ _ (by omega)), ← i9 r (Nat.le_refl _), Nat.pow_succ]
    have w2 := congrArg (· * 2 ^ r) wt
    simp only [Nat.add_mul] at w2
    have e1 : 2 * y_tg c' * 2 ^ r = y_tg c' * (2 ^ r * 2) := by
      rw [Nat.mul_comm 2 (y_tg c'), Nat.mul_assoc, Nat.mul_comm 2]
    omega
theorem s_meld0 (M : MX 49 W ρ m A h0 h F V G) (e0 : m_lk lv 0 = some (.ref m)) 
    (g0 : ∀ x1 : Int32, x1.toInt = (-1) → ∀ x3 : Int32, x3.toInt = 0 → ∀ lv4 : List (Nat × Value), m_lk lv4 0 = some (.ref m) → m_lk lv4 1 = some (.int x1) → m_lk lv4 2 = some (.int x3) → HJ 209 4 lv4 [] h Q)
    : HJ 209 0 lv [] h Q := by
  refine hM_ic (n := (-1)) rfl (by decide) rfl (fun x1 q1 => ?_) -- 0
  refine hM_si (k := 1) rfl (by decide +kernel) rfl (fun lv2 e2_1 u2 => ?_) -- 1
  have e2_0 := u2 0 _ (by decide) (Or.inl rfl) e0
  refine hM_ic (n := 0) rfl (by decide) rfl (fun x3 q3 => ?_) -- 2
  refine hM_si (k := 2) rfl (by decide +kernel) rfl (fun lv4 e4_2 u4 => ?_) -- 3
  have e4_0 := u4 0 _ (by decide) (Or.inl rfl) e2_0
  have e4_1 := u4 1 _ (by decide) (Or.inl rfl) e2_1
  exact g0 x1 q1 x3 q3 lv4 e4_0 e4_1 e4_2
theorem s_meld {c r : Int} (M : MX 49 W ρ m A h0 h F V G) (e0 : m_lk lv 0 = some (.ref m)) {lx1 : Int32} (e1 : m_lk lv 1 = some (.int lx1)) (lq1 : lx1.toInt = c) {lx2 : Int32} (e2 : m_lk lv 2 = some (.int lx2)) (lq2 : lx2.toInt = r) (r0 : 0 ≤ r) (c0 : -1 ≤ c) (c1 : c ≤ 15999)(hw : d_sub [(61, 1001)] W = true)
    (g0 : r ≥ 6 → Q none h)
    (g1 : ∀ x2 : Int32, x2.toInt = V 24 (r).toNat → ∀ x4 : Int32, x4.toInt = V 25 (r).toNat → ∀ h16 : MH, ∀ V16 : Nat → Nat → Int, V16 = m_u V 24 (m_u (V 24) (r).toNat (c)) → ∀ lv14 : List (Nat × Value), MX 49 W ρ m A h0 h16 F V16 G → m_lk lv14 0 = some (.ref m) → m_lk lv14 1 = some (.int lx1) → m_lk lv14 2 = some (.int lx2) → r < 6 → (-1) ≤ V 24 (r).toNat → V 24 (r).toNat ≤ 15999 → (-1) ≤ V 25 (r).toNat → V 25 (r).toNat ≤ 15999 → c ≠ (-1) → V 24 (r).toNat ≠ (-1) → V 25 (r).toNat ≠ (-1) → HJ 210 0 (lv_args 0 [.ref m, .int x2, .int x4]) [] h16 (fun v h' => HJ 209 80 lv14 (v.toList ++ []) h' Q))
    (g2 : ∀ x2 : Int32, x2.toInt = V 24 (r).toNat → ∀ h28 : MH, ∀ V28 : Nat → Nat → Int, V28 = m_u V 24 (m_u (V 24) (r).toNat ((-1))) → ∀ lv26 : List (Nat × Value), MX 49 W ρ m A h0 h28 F V28 G → m_lk lv26 0 = some (.ref m) → m_lk lv26 1 = some (.int lx1) → m_lk lv26 2 = some (.int lx2) → r < 6 → (-1) ≤ V 24 (r).toNat → V 24 (r).toNat ≤ 15999 → (-1) ≤ V 25 (r).toNat → V 25 (r).toNat ≤ 15999 → c ≠ (-1) → V 24 (r).toNat ≠ (-1) → V 25 (r).toNat = (-1) → HJ 210 0 (lv_args 0 [.ref m, .int lx1, .int x2]) [] h28 (fun v h' => HJ 209 135 lv26 (v.toList ++ []) h' Q))
    (g3 : ∀ x4 : Int32, x4.toInt = V 25 (r).toNat → ∀ h43 : MH, ∀ V43 : Nat → Nat → Int, V43 = m_u V 24 (m_u (V 24) (r).toNat ((-1))) → ∀ lv41 : List (Nat × Value), MX 49 W ρ m A h0 h43 F V43 G → m_lk lv41 0 = some (.ref m) → m_lk lv41 1 = some (.int lx1) → m_lk lv41 2 = some (.int lx2) → r < 6 → (-1) ≤ V 24 (r).toNat → V 24 (r).toNat ≤ 15999 → (-1) ≤ V 25 (r).toNat → V 25 (r).toNat ≤ 15999 → c ≠ (-1) → V 24 (r).toNat = (-1) → V 25 (r).toNat ≠ (-1) → HJ 210 0 (lv_args 0 [.ref m, .int lx1, .int x4]) [] h43 (fun v h' => HJ 209 135 lv41 (v.toList ++ []) h' Q))
    (g4 : ∀ h50 : MH, ∀ V50 : Nat → Nat → Int, V50 = m_u V 24 (m_u (V 24) (r).toNat (c)) → ∀ x51 : Int32, x51.toInt = (-1) → ∀ x53 : Int32, x53.toInt = r + 1 → ∀ lv53 : List (Nat × Value), MX 49 W ρ m A h0 h50 F V50 G → m_lk lv53 0 = some (.ref m) → m_lk lv53 1 = some (.int x51) → m_lk lv53 2 = some (.int x53) → r < 6 → (-1) ≤ V 24 (r).toNat → V 24 (r).toNat ≤ 15999 → (-1) ≤ V 25 (r).toNat → V 25 (r).toNat ≤ 15999 → c ≠ (-1) → V 24 (r).toNat = (-1) → V 25 (r).toNat = (-1) → HJ 209 4 lv53 [] h50 Q)
    (g5 : ∀ x2 : Int32, x2.toInt = V 24 (r).toNat → ∀ x4 : Int32, x4.toInt = V 25 (r).toNat → ∀ h69 : MH, ∀ V69 : Nat → Nat → Int, V69 = m_u V 24 (m_u (V 24) (r).toNat ((-1))) → ∀ lv67 : List (Nat × Value), MX 49 W ρ m A h0 h69 F V69 G → m_lk lv67 0 = some (.ref m) → m_lk lv67 1 = some (.int lx1) → m_lk lv67 2 = some (.int lx2) → r < 6 → (-1) ≤ V 24 (r).toNat → V 24 (r).toNat ≤ 15999 → (-1) ≤ V 25 (r).toNat → V 25 (r).toNat ≤ 15999 → c = (-1) → V 24 (r).toNat ≠ (-1) → V 25 (r).toNat ≠ (-1) → HJ 210 0 (lv_args 0 [.ref m, .int x2, .int x4]) [] h69 (fun v h' => HJ 209 135 lv67 (v.toList ++ []) h' Q))
    (g6 : ∀ h77 : MH, ∀ V77 : Nat → Nat → Int, V77 = m_u V 24 (m_u (V 24) (r).toNat (V 24 (r).toNat)) → ∀ x78 : Int32, x78.toInt = (-1) → ∀ x80 : Int32, x80.toInt = r + 1 → ∀ lv80 : List (Nat × Value), MX 49 W ρ m A h0 h77 F V77 G → m_lk lv80 0 = some (.ref m) → m_lk lv80 1 = some (.int x78) → m_lk lv80 2 = some (.int x80) → r < 6 → (-1) ≤ V 24 (r).toNat → V 24 (r).toNat ≤ 15999 → (-1) ≤ V 25 (r).toNat → V 25 (r).toNat ≤ 15999 → c = (-1) → V 24 (r).toNat ≠ (-1) → V 25 (r).toNat = (-1) → HJ 209 4 lv80 [] h77 Q)
    (g7 : ∀ h91 : MH, ∀ V91 : Nat → Nat → Int, V91 = m_u V 24 (m_u (V 24) (r).toNat (V 25 (r).toNat)) → ∀ x92 : Int32, x92.toInt = (-1) → ∀ x94 : Int32, x94.toInt = r + 1 → ∀ lv94 : List (Nat × Value), MX 49 W ρ m A h0 h91 F V91 G → m_lk lv94 0 = some (.ref m) → m_lk lv94 1 = some (.int x92) → m_lk lv94 2 = some (.int x94) → r < 6 → (-1) ≤ V 24 (r).toNat → V 24 (r).toNat ≤ 15999 → (-1) ≤ V 25 (r).toNat → V 25 (r).toNat ≤ 15999 → c = (-1) → V 24 (r).toNat = (-1) → V 25 (r).toNat ≠ (-1) → HJ 209 4 lv94 [] h91 Q)
    (g8 : ∀ h102 : MH, ∀ V102 : Nat → Nat → Int, V102 = m_u V 24 (m_u (V 24) (r).toNat (V 25 (r).toNat)) → ∀ x103 : Int32, x103.toInt = (-1) → ∀ x105 : Int32, x105.toInt = r + 1 → ∀ lv105 : List (Nat × Value), MX 49 W ρ m A h0 h102 F V102 G → m_lk lv105 0 = some (.ref m) → m_lk lv105 1 = some (.int x103) → m_lk lv105 2 = some (.int x105) → r < 6 → (-1) ≤ V 24 (r).toNat → V 24 (r).toNat ≤ 15999 → (-1) ≤ V 25 (r).toNat → V 25 (r).toNat ≤ 15999 → c = (-1) → V 24 (r).toNat = (-1) → V 25 (r).toNat = (-1) → HJ 209 4 lv105 [] h102 Q)
    : HJ 209 4 lv [] h Q := by
  refine hI_il (k := 2) rfl e2 rfl ?_ -- 4
  refine hM_bp (n := 6) rfl (by decide) rfl (fun x1 q1 => ?_) -- 5
  refine hM_cge (off := 166) (t := 173) rfl lq2 q1 (by decide) rfl (fun c7 => ?_) (fun c7 => ?_) -- 7
  · refine hI_rv rfl rfl ?_
    exact g0 c7
  · refine hI_al (k := 0) rfl e0 rfl ?_ -- 10
    refine hM_ga M (by decide) rfl rfl (k := 24) (c := 9) rfl rfl rfl (by decide +kernel) rfl ?_ -- 11
    refine hI_il (k := 2) rfl e2 rfl ?_ -- 14
    refine hM_ia M (by decide) (K := 24) (R2 := 61) (L := 6) (H := 6) (lo := (-1)) (hi := 15999) rfl (by decide) rfl rfl (fun _ => rfl) rfl lq2 (by omega) (by omega) rfl (fun x2 q2 a2 b2 => ?_) -- 15
    refine hM_si (k := 3) rfl (by decide +kernel) rfl (fun lv3 e3_3 u3 => ?_) -- 16
    have e3_0 := u3 0 _ (by decide) (Or.inl rfl) e0
    have e3_1 := u3 1 _ (by decide) (Or.inl rfl) e1
    have e3_2 := u3 2 _ (by decide) (Or.inl rfl) e2
    refine hI_al (k := 0) rfl e3_0 rfl ?_ -- 17
    refine hM_ga M (by decide) rfl rfl (k := 25) (c := 9) rfl rfl rfl (by decide +kernel) rfl ?_ -- 18
    refine hI_il (k := 2) rfl e3_2 rfl ?_ -- 21
    refine hM_ia M (by decide) (K := 25) (R2 := 62) (L := 6) (H := 6) (lo := (-1)) (hi := 15999) rfl (by decide) rfl rfl (fun _ => rfl) rfl lq2 (by omega) (by omega) rfl (fun x4 q4 a4 b4 => ?_) -- 22
    refine hM_si2 (k := 4) rfl (by decide +kernel) rfl (fun lv5 e5_4 u5 => ?_) -- 23
    have e5_0 := u5 0 _ (by decide) (Or.inl rfl) e3_0
    have e5_1 := u5 1 _ (by decide) (Or.inl rfl) e3_1
    have e5_2 := u5 2 _ (by decide) (Or.inl rfl) e3_2
    have e5_3 := u5 3 _ (by decide) (Or.inl rfl) e3_3
    refine hI_il (k := 1) rfl e5_1 rfl ?_ -- 25
    refine hM_ic (n := (-1)) rfl (by decide) rfl (fun x6 q6 => ?_) -- 26
    refine hM_cne (off := 7) (t := 34) rfl lq1 q6 (by decide) rfl (fun c27 => ?_) (fun c27 => ?_) -- 27
    · refine hM_ic (n := 1) rfl (by decide) rfl (fun x7 q7 => ?_) -- 34
      refine hI_il (k := 3) rfl e5_3 rfl ?_ -- 35
      refine hM_ic (n := (-1)) rfl (by decide) rfl (fun x8 q8 => ?_) -- 36
      refine hM_cne (off := 7) (t := 44) rfl q2 q8 (by decide) rfl (fun c37 => ?_) (fun c37 => ?_) -- 37
      · refine hM_ic (n := 1) rfl (by decide) rfl (fun x9 q9 => ?_) -- 44
        refine hM_add rfl q7 q9 (by omega) (by omega) rfl (fun x10 q10 => ?_) -- 45
        refine hI_il2 (k := 4) rfl e5_4 rfl ?_ -- 46
        refine hM_ic (n := (-1)) rfl (by decide) rfl (fun x11 q11 => ?_) -- 48
        refine hM_cne (off := 7) (t := 56) rfl q4 q11 (by decide) rfl (fun c49 => ?_) (fun c49 => ?_) -- 49
        · refine hM_ic (n := 1) rfl (by decide) rfl (fun x12 q12 => ?_) -- 56
          refine hM_add rfl q10 q12 (by omega) (by omega) rfl (fun x13 q13 => ?_) -- 57
          refine hM_si2 (k := 5) rfl (by decide +kernel) rfl (fun lv14 e14_5 u14 => ?_) -- 58
          have e14_0 := u14 0 _ (by decide) (Or.inl rfl) e5_0
          have e14_1 := u14 1 _ (by decide) (Or.inl rfl) e5_1
          have e14_2 := u14 2 _ (by decide) (Or.inl rfl) e5_2
          have e14_3 := u14 3 _ (by decide) (Or.inl rfl) e5_3
          have e14_4 := u14 4 _ (by decide) (Or.inl rfl) e5_4
          refine hI_il2 (k := 5) rfl e14_5 rfl ?_ -- 60
          refine hM_ic (n := 3) rfl (by decide) rfl (fun x15 q15 => ?_) -- 62
          refine hM_cne (off := 21) (t := 84) rfl q13 q15 (by decide) rfl (fun c63 => ?_) (fun c63 => ?_) -- 63
          · exfalso; omega
          · refine hI_al (k := 0) rfl e14_0 rfl ?_ -- 66
            refine hM_ga M (by decide) rfl rfl (k := 24) (c := 9) rfl rfl rfl (by decide +kernel) rfl ?_ -- 67
            refine hI_il (k := 2) rfl e14_2 rfl ?_ -- 70
            refine hI_il (k := 1) rfl e14_1 rfl ?_ -- 71
            refine hM_is M (by decide) ok_49 (K := 24) (R2 := 61) (L := 6) (H := 6) (lo := (-1)) (hi := 15999) rfl (by decide) rfl rfl rfl (fun _ => rfl) (d_subm hw (by decide +kernel)) rfl lq2 lq1 (by omega) (by omega) (by omega) (by omega) rfl (fun h16 V16 f16 M16 => ?_) -- 72
            refine hI_al (k := 0) rfl e14_0 rfl ?_ -- 73
            refine hI_il (k := 3) rfl e14_3 rfl ?_ -- 74
            refine hI_il2 (k := 4) rfl e14_4 rfl ?_ -- 75
            refine hM_iv M16 (by decide) rfl rfl (by decide) (as := [.int x2, .int x4]) (r := []) rfl rfl (by decide +kernel) rfl (by decide +kernel) rfl rfl rfl rfl rfl ?_ -- 77
            exact g1 x2 q2 x4 q4 h16 V16 f16 lv14 M16 e14_0 e14_1 e14_2 c7 a2 b2 a4 b4 c27 c37 c49
        · refine hM_ic (n := 0) rfl (by decide) rfl (fun x17 q17 => ?_) -- 52
          refine hI_go (pc' := 57) (off := 4) rfl (by decide) ?_ -- 53
          refine hM_add rfl q10 q17 (by omega) (by omega) rfl (fun x18 q18 => ?_) -- 57
          refine hM_si2 (k := 5) rfl (by decide +kernel) rfl (fun lv19 e19_5 u19 => ?_) -- 58
          have e19_0 := u19 0 _ (by decide) (Or.inl rfl) e5_0
          have e19_1 := u19 1 _ (by decide) (Or.inl rfl) e5_1
          have e19_2 := u19 2 _ (by decide) (Or.inl rfl) e5_2
          have e19_3 := u19 3 _ (by decide) (Or.inl rfl) e5_3
          have e19_4 := u19 4 _ (by decide) (Or.inl rfl) e5_4
          refine hI_il2 (k := 5) rfl e19_5 rfl ?_ -- 60
          refine hM_ic (n := 3) rfl (by decide) rfl (fun x20 q20 => ?_) -- 62
          refine hM_cne (off := 21) (t := 84) rfl q18 q20 (by decide) rfl (fun c63 => ?_) (fun c63 => ?_) -- 63
          · refine hI_il2 (k := 5) rfl e19_5 rfl ?_ -- 84
            refine hM_ic (n := 2) rfl (by decide) rfl (fun x21 q21 => ?_) -- 86
            refine hM_cne (off := 52) (t := 139) rfl q18 q21 (by decide) rfl (fun c87 => ?_) (fun c87 => ?_) -- 87
            · exfalso; omega
            · refine hI_il (k := 1) rfl e19_1 rfl ?_ -- 90
              refine hM_ic (n := (-1)) rfl (by decide) rfl (fun x22 q22 => ?_) -- 91
              refine hM_ceq (off := 7) (t := 99) rfl lq1 q22 (by decide) rfl (fun c92 => ?_) (fun c92 => ?_) -- 92
              · exfalso; omega
              · refine hI_il (k := 1) rfl e19_1 rfl ?_ -- 95
                refine hI_go (pc' := 100) (off := 4) rfl (by decide) ?_ -- 96
                refine hM_si2 (k := 6) rfl (by decide +kernel) rfl (fun lv23 e23_6 u23 => ?_) -- 100
                have e23_0 := u23 0 _ (by decide) (Or.inl rfl) e19_0
                have e23_1 := u23 1 _ (by decide) (Or.inl rfl) e19_1
                have e23_2 := u23 2 _ (by decide) (Or.inl rfl) e19_2
                have e23_3 := u23 3 _ (by decide) (Or.inl rfl) e19_3
                have e23_4 := u23 4 _ (by decide) (Or.inl rfl) e19_4
                have e23_5 := u23 5 _ (by decide) (Or.inl rfl) e19_5
                refine hI_il (k := 1) rfl e23_1 rfl ?_ -- 102
                refine hM_ic (n := (-1)) rfl (by decide) rfl (fun x24 q24 => ?_) -- 103
                refine hM_ceq (off := 12) (t := 116) rfl lq1 q24 (by decide) rfl (fun c104 => ?_) (fun c104 => ?_) -- 104
                · exfalso; omega
                · refine hI_il (k := 3) rfl e23_3 rfl ?_ -- 107
                  refine hM_ic (n := (-1)) rfl (by decide) rfl (fun x25 q25 => ?_) -- 108
                  refine hM_ceq (off := 7) (t := 116) rfl q2 q25 (by decide) rfl (fun c109 => ?_) (fun c109 => ?_) -- 109
                  · exfalso; omega
                  · refine hI_il (k := 3) rfl e23_3 rfl ?_ -- 112
                    refine hI_go (pc' := 118) (off := 5) rfl (by decide) ?_ -- 113
                    refine hM_si2 (k := 7) rfl (by decide +kernel) rfl (fun lv26 e26_7 u26 => ?_) -- 118
                    have e26_0 := u26 0 _ (by decide) (Or.inl rfl) e23_0
                    have e26_1 := u26 1 _ (by decide) (Or.inl rfl) e23_1
                    have e26_2 := u26 2 _ (by decide) (Or.inl rfl) e23_2
                    have e26_3 := u26 3 _ (by decide) (Or.inl rfl) e23_3
                    have e26_4 := u26 4 _ (by decide) (Or.inl rfl) e23_4
                    have e26_5 := u26 5 _ (by decide) (Or.inl rfl) e23_5
                    have e26_6 := u26 6 _ (by decide) (Or.inl rfl) e23_6
                    refine hI_al (k := 0) rfl e26_0 rfl ?_ -- 120
                    refine hM_ga M (by decide) rfl rfl (k := 24) (c := 9) rfl rfl rfl (by decide +kernel) rfl ?_ -- 121
                    refine hI_il (k := 2) rfl e26_2 rfl ?_ -- 124
                    refine hM_ic (n := (-1)) rfl (by decide) rfl (fun x27 q27 => ?_) -- 125
                    refine hM_is M (by decide) ok_49 (K := 24) (R2 := 61) (L := 6) (H := 6) (lo := (-1)) (hi := 15999) rfl (by decide) rfl rfl rfl (fun _ => rfl) (d_subm hw (by decide +kernel)) rfl lq2 q27 (by omega) (by omega) (by omega) (by omega) rfl (fun h28 V28 f28 M28 => ?_) -- 126
                    refine hI_al (k := 0) rfl e26_0 rfl ?_ -- 127
                    refine hI_il2 (k := 6) rfl e26_6 rfl ?_ -- 128
                    refine hI_il2 (k := 7) rfl e26_7 rfl ?_ -- 130
                    refine hM_iv M28 (by decide) rfl rfl (by decide) (as := [.int lx1, .int x2]) (r := []) rfl rfl (by decide +kernel) rfl (by decide +kernel) rfl rfl rfl rfl rfl ?_ -- 132
                    exact g2 x2 q2 h28 V28 f28 lv26 M28 e26_0 e26_1 e26_2 c7 a2 b2 a4 b4 c27 c37 c49
          · exfalso; omega
      · refine hM_ic (n := 0) rfl (by decide) rfl (fun x29 q29 => ?_) -- 40
        refine hI_go (pc' := 45) (off := 4) rfl (by decide) ?_ -- 41
        refine hM_add rfl q7 q29 (by omega) (by omega) rfl (fun x30 q30 => ?_) -- 45
        refine hI_il2 (k := 4) rfl e5_4 rfl ?_ -- 46
        refine hM_ic (n := (-1)) rfl (by decide) rfl (fun x31 q31 => ?_) -- 48
        refine hM_cne (off := 7) (t := 56) rfl q4 q31 (by decide) rfl (fun c49 => ?_) (fun c49 => ?_) -- 49
        · refine hM_ic (n := 1) rfl (by decide) rfl (fun x32 q32 => ?_) -- 56
          refine hM_add rfl q30 q32 (by omega) (by omega) rfl (fun x33 q33 => ?_) -- 57
          refine hM_si2 (k := 5) rfl (by decide +kernel) rfl (fun lv34 e34_5 u34 => ?_) -- 58
          have e34_0 := u34 0 _ (by decide) (Or.inl rfl) e5_0
          have e34_1 := u34 1 _ (by decide) (Or.inl rfl) e5_1
          have e34_2 := u34 2 _ (by decide) (Or.inl rfl) e5_2
          have e34_3 := u34 3 _ (by decide) (Or.inl rfl) e5_3
          have e34_4 := u34 4 _ (by decide) (Or.inl rfl) e5_4
          refine hI_il2 (k := 5) rfl e34_5 rfl ?_ -- 60
          refine hM_ic (n := 3) rfl (by decide) rfl (fun x35 q35 => ?_) -- 62
          refine hM_cne (off := 21) (t := 84) rfl q33 q35 (by decide) rfl (fun c63 => ?_) (fun c63 => ?_) -- 63
          · refine hI_il2 (k := 5) rfl e34_5 rfl ?_ -- 84
            refine hM_ic (n := 2) rfl (by decide) rfl (fun x36 q36 => ?_) -- 86
            refine hM_cne (off := 52) (t := 139) rfl q33 q36 (by decide) rfl (fun c87 => ?_) (fun c87 => ?_) -- 87
            · exfalso; omega
            · refine hI_il (k := 1) rfl e34_1 rfl ?_ -- 90
              refine hM_ic (n := (-1)) rfl (by decide) rfl (fun x37 q37 => ?_) -- 91
              refine hM_ceq (off := 7) (t := 99) rfl lq1 q37 (by decide) rfl (fun c92 => ?_) (fun c92 => ?_) -- 92
              · exfalso; omega
              · refine hI_il (k := 1) rfl e34_1 rfl ?_ -- 95
                refine hI_go (pc' := 100) (off := 4) rfl (by decide) ?_ -- 96
                refine hM_si2 (k := 6) rfl (by decide +kernel) rfl (fun lv38 e38_6 u38 => ?_) -- 100
                have e38_0 := u38 0 _ (by decide) (Or.inl rfl) e34_0
                have e38_1 := u38 1 _ (by decide) (Or.inl rfl) e34_1
                have e38_2 := u38 2 _ (by decide) (Or.inl rfl) e34_2
                have e38_3 := u38 3 _ (by decide) (Or.inl rfl) e34_3
                have e38_4 := u38 4 _ (by decide) (Or.inl rfl) e34_4
                have e38_5 := u38 5 _ (by decide) (Or.inl rfl) e34_5
                refine hI_il (k := 1) rfl e38_1 rfl ?_ -- 102
                refine hM_ic (n := (-1)) rfl (by decide) rfl (fun x39 q39 => ?_) -- 103
                refine hM_ceq (off := 12) (t := 116) rfl lq1 q39 (by decide) rfl (fun c104 => ?_) (fun c104 => ?_) -- 104
                · exfalso; omega
                · refine hI_il (k := 3) rfl e38_3 rfl ?_ -- 107
                  refine hM_ic (n := (-1)) rfl (by decide) rfl (fun x40 q40 => ?_) -- 108
                  refine hM_ceq (off := 7) (t := 116) rfl q2 q40 (by decide) rfl (fun c109 => ?_) (fun c109 => ?_) -- 109
                  · refine hI_il2 (k := 4) rfl e38_4 rfl ?_ -- 116
                    refine hM_si2 (k := 7) rfl (by decide +kernel) rfl (fun lv41 e41_7 u41 => ?_) -- 118
                    have e41_0 := u41 0 _ (by decide) (Or.inl rfl) e38_0
                    have e41_1 := u41 1 _ (by decide) (Or.inl rfl) e38_1
                    have e41_2 := u41 2 _ (by decide) (Or.inl rfl) e38_2
                    have e41_3 := u41 3 _ (by decide) (Or.inl rfl) e38_3
                    have e41_4 := u41 4 _ (by decide) (Or.inl rfl) e38_4
                    have e41_5 := u41 5 _ (by decide) (Or.inl rfl) e38_5
                    have e41_6 := u41 6 _ (by decide) (Or.inl rfl) e38_6
                    refine hI_al (k := 0) rfl e41_0 rfl ?_ -- 120
                    refine hM_ga M (by decide) rfl rfl (k := 24) (c := 9) rfl rfl rfl (by decide +kernel) rfl ?_ -- 121
                    refine hI_il (k := 2) rfl e41_2 rfl ?_ -- 124
                    refine hM_ic (n := (-1)) rfl (by decide) rfl (fun x42 q42 => ?_) -- 125
                    refine hM_is M (by decide) ok_49 (K := 24) (R2 := 61) (L := 6) (H := 6) (lo := (-1)) (hi := 15999) rfl (by decide) rfl rfl rfl (fun _ => rfl) (d_subm hw (by decide +kernel)) rfl lq2 q42 (by omega) (by omega) (by omega) (by omega) rfl (fun h43 V43 f43 M43 => ?_) -- 126
                    refine hI_al (k := 0) rfl e41_0 rfl ?_ -- 127
                    refine hI_il2 (k := 6) rfl e41_6 rfl ?_ -- 128
                    refine hI_il2 (k := 7) rfl e41_7 rfl ?_ -- 130
                    refine hM_iv M43 (by decide) rfl rfl (by decide) (as := [.int lx1, .int x4]) (r := []) rfl rfl (by decide +kernel) rfl (by decide +kernel) rfl rfl rfl rfl rfl ?_ -- 132
                    exact g3 x4 q4 h43 V43 f43 lv41 M43 e41_0 e41_1 e41_2 c7 a2 b2 a4 b4 c27 c37 c49
                  · exfalso; omega
          · exfalso; omega
        · refine hM_ic (n := 0) rfl (by decide) rfl (fun x44 q44 => ?_) -- 52
          refine hI_go (pc' := 57) (off := 4) rfl (by decide) ?_ -- 53
          refine hM_add rfl q30 q44 (by omega) (by omega) rfl (fun x45 q45 => ?_) -- 57
          refine hM_si2 (k := 5) rfl (by decide +kernel) rfl (fun lv46 e46_5 u46 => ?_) -- 58
          have e46_0 := u46 0 _ (by decide) (Or.inl rfl) e5_0
          have e46_1 := u46 1 _ (by decide) (Or.inl rfl) e5_1
          have e46_2 := u46 2 _ (by decide) (Or.inl rfl) e5_2
          have e46_3 := u46 3 _ (by decide) (Or.inl rfl) e5_3
          have e46_4 := u46 4 _ (by decide) (Or.inl rfl) e5_4
          refine hI_il2 (k := 5) rfl e46_5 rfl ?_ -- 60
          refine hM_ic (n := 3) rfl (by decide) rfl (fun x47 q47 => ?_) -- 62
          refine hM_cne (off := 21) (t := 84) rfl q45 q47 (by decide) rfl (fun c63 => ?_) (fun c63 => ?_) -- 63
          · refine hI_il2 (k := 5) rfl e46_5 rfl ?_ -- 84
            refine hM_ic (n := 2) rfl (by decide) rfl (fun x48 q48 => ?_) -- 86
            refine hM_cne (off := 52) (t := 139) rfl q45 q48 (by decide) rfl (fun c87 => ?_) (fun c87 => ?_) -- 87
            · refine hI_al (k := 0) rfl e46_0 rfl ?_ -- 139
              refine hM_ga M (by decide) rfl rfl (k := 24) (c := 9) rfl rfl rfl (by decide +kernel) rfl ?_ -- 140
              refine hI_il (k := 2) rfl e46_2 rfl ?_ -- 143
              refine hI_il (k := 1) rfl e46_1 rfl ?_ -- 144
              refine hM_ic (n := (-1)) rfl (by decide) rfl (fun x49 q49 => ?_) -- 145
              refine hM_ceq (off := 7) (t := 153) rfl lq1 q49 (by decide) rfl (fun c146 => ?_) (fun c146 => ?_) -- 146
              · exfalso; omega
              · refine hI_il (k := 1) rfl e46_1 rfl ?_ -- 149
                refine hI_go (pc' := 164) (off := 14) rfl (by decide) ?_ -- 150
                refine hM_is M (by decide) ok_49 (K := 24) (R2 := 61) (L := 6) (H := 6) (lo := (-1)) (hi := 15999) rfl (by decide) rfl rfl rfl (fun _ => rfl) (d_subm hw (by decide +kernel)) rfl lq2 lq1 (by omega) (by omega) (by omega) (by omega) rfl (fun h50 V50 f50 M50 => ?_) -- 164
                refine hM_ic (n := (-1)) rfl (by decide) rfl (fun x51 q51 => ?_) -- 165
                refine hM_si (k := 1) rfl (by decide +kernel) rfl (fun lv52 e52_1 u52 => ?_) -- 166
                have e52_0 := u52 0 _ (by decide) (Or.inl rfl) e46_0
                have e52_2 := u52 2 _ (by decide) (Or.inl rfl) e46_2
                have e52_3 := u52 3 _ (by decide) (Or.inl rfl) e46_3
                have e52_4 := u52 4 _ (by decide) (Or.inl rfl) e46_4
                have e52_5 := u52 5 _ (by decide) (Or.inl rfl) e46_5
                refine hM_inc (k := 2) (z := 1) rfl e52_2 lq2 (by decide) (by omega) (by omega) (by decide +kernel) rfl (fun lv53 x53 q53 e53_2 u53 => ?_) -- 167
                have e53_0 := u53 0 _ (by decide) (Or.inl rfl) e52_0
                have e53_3 := u53 3 _ (by decide) (Or.inl rfl) e52_3
                have e53_4 := u53 4 _ (by decide) (Or.inl rfl) e52_4
                have e53_5 := u53 5 _ (by decide) (Or.inl rfl) e52_5
                have e53_1 := u53 1 _ (by decide) (Or.inl rfl) e52_1
                refine hI_go (pc' := 4) (off := (-166)) rfl (by decide) ?_ -- 170
                exact g4 h50 V50 f50 x51 q51 x53 q53 lv53 M50 e53_0 e53_1 e53_2 c7 a2 b2 a4 b4 c27 c37 c49
            · exfalso; omega
          · exfalso; omega
    · refine hM_ic (n := 0) rfl (by decide) rfl (fun x54 q54 => ?_) -- 30
      refine hI_go (pc' := 35) (off := 4) rfl (by decide) ?_ -- 31
      refine hI_il (k := 3) rfl e5_3 rfl ?_ -- 35
      refine hM_ic (n := (-1)) rfl (by decide) rfl (fun x55 q55 => ?_) -- 36
      refine hM_cne (off := 7) (t := 44) rfl q2 q55 (by decide) rfl (fun c37 => ?_) (fun c37 => ?_) -- 37
      · refine hM_ic (n := 1) rfl (by decide) rfl (fun x56 q56 => ?_) -- 44
        refine hM_add rfl q54 q56 (by omega) (by omega) rfl (fun x57 q57 => ?_) -- 45
        refine hI_il2 (k := 4) rfl e5_4 rfl ?_ -- 46
        refine hM_ic (n := (-1)) rfl (by decide) rfl (fun x58 q58 => ?_) -- 48
        refine hM_cne (off := 7) (t := 56) rfl q4 q58 (by decide) rfl (fun c49 => ?_) (fun c49 => ?_) -- 49
        · refine hM_ic (n := 1) rfl (by decide) rfl (fun x59 q59 => ?_) -- 56
          refine hM_add rfl q57 q59 (by omega) (by omega) rfl (fun x60 q60 => ?_) -- 57
          refine hM_si2 (k := 5) rfl (by decide +kernel) rfl (fun lv61 e61_5 u61 => ?_) -- 58
          have e61_0 := u61 0 _ (by decide) (Or.inl rfl) e5_0
          have e61_1 := u61 1 _ (by decide) (Or.inl rfl) e5_1
          have e61_2 := u61 2 _ (by decide) (Or.inl rfl) e5_2
          have e61_3 := u61 3 _ (by decide) (Or.inl rfl) e5_3
          have e61_4 := u61 4 _ (by decide) (Or.inl rfl) e5_4
          refine hI_il2 (k := 5) rfl e61_5 rfl ?_ -- 60
          refine hM_ic (n := 3) rfl (by decide) rfl (fun x62 q62 => ?_) -- 62
          refine hM_cne (off := 21) (t := 84) rfl q60 q62 (by decide) rfl (fun c63 => ?_) (fun c63 => ?_) -- 63
          · refine hI_il2 (k := 5) rfl e61_5 rfl ?_ -- 84
            refine hM_ic (n := 2) rfl (by decide) rfl (fun x63 q63 => ?_) -- 86
            refine hM_cne (off := 52) (t := 139) rfl q60 q63 (by decide) rfl (fun c87 => ?_) (fun c87 => ?_) -- 87
            · exfalso; omega
            · refine hI_il (k := 1) rfl e61_1 rfl ?_ -- 90
              refine hM_ic (n := (-1)) rfl (by decide) rfl (fun x64 q64 => ?_) -- 91
              refine hM_ceq (off := 7) (t := 99) rfl lq1 q64 (by decide) rfl (fun c92 => ?_) (fun c92 => ?_) -- 92
              · refine hI_il (k := 3) rfl e61_3 rfl ?_ -- 99
                refine hM_si2 (k := 6) rfl (by decide +kernel) rfl (fun lv65 e65_6 u65 => ?_) -- 100
                have e65_0 := u65 0 _ (by decide) (Or.inl rfl) e61_0
                have e65_1 := u65 1 _ (by decide) (Or.inl rfl) e61_1
                have e65_2 := u65 2 _ (by decide) (Or.inl rfl) e61_2
                have e65_3 := u65 3 _ (by decide) (Or.inl rfl) e61_3
                have e65_4 := u65 4 _ (by decide) (Or.inl rfl) e61_4
                have e65_5 := u65 5 _ (by decide) (Or.inl rfl) e61_5
                refine hI_il (k := 1) rfl e65_1 rfl ?_ -- 102
                refine hM_ic (n := (-1)) rfl (by decide) rfl (fun x66 q66 => ?_) -- 103
                refine hM_ceq (off := 12) (t := 116) rfl lq1 q66 (by decide) rfl (fun c104 => ?_) (fun c104 => ?_) -- 104
                · refine hI_il2 (k := 4) rfl e65_4 rfl ?_ -- 116
                  refine hM_si2 (k := 7) rfl (by decide +kernel) rfl (fun lv67 e67_7 u67 => ?_) -- 118
                  have e67_0 := u67 0 _ (by decide) (Or.inl rfl) e65_0
                  have e67_1 := u67 1 _ (by decide) (Or.inl rfl) e65_1
                  have e67_2 := u67 2 _ (by decide) (Or.inl rfl) e65_2
                  have e67_3 := u67 3 _ (by decide) (Or.inl rfl) e65_3
                  have e67_4 := u67 4 _ (by decide) (Or.inl rfl) e65_4
                  have e67_5 := u67 5 _ (by decide) (Or.inl rfl) e65_5
                  have e67_6 := u67 6 _ (by decide) (Or.inl rfl) e65_6
                  refine hI_al (k := 0) rfl e67_0 rfl ?_ -- 120
                  refine hM_ga M (by decide) rfl rfl (k := 24) (c := 9) rfl rfl rfl (by decide +kernel) rfl ?_ -- 121
                  refine hI_il (k := 2) rfl e67_2 rfl ?_ -- 124
                  refine hM_ic (n := (-1)) rfl (by decide) rfl (fun x68 q68 => ?_) -- 125
                  refine hM_is M (by decide) ok_49 (K := 24) (R2 := 61) (L := 6) (H := 6) (lo := (-1)) (hi := 15999) rfl (by decide) rfl rfl rfl (fun _ => rfl) (d_subm hw (by decide +kernel)) rfl lq2 q68 (by omega) (by omega) (by omega) (by omega) rfl (fun h69 V69 f69 M69 => ?_) -- 126
                  refine hI_al (k := 0) rfl e67_0 rfl ?_ -- 127
                  refine hI_il2 (k := 6) rfl e67_6 rfl ?_ -- 128
                  refine hI_il2 (k := 7) rfl e67_7 rfl ?_ -- 130
                  refine hM_iv M69 (by decide) rfl rfl (by decide) (as := [.int x2, .int x4]) (r := []) rfl rfl (by decide +kernel) rfl (by decide +kernel) rfl rfl rfl rfl rfl ?_ -- 132
                  exact g5 x2 q2 x4 q4 h69 V69 f69 lv67 M69 e67_0 e67_1 e67_2 c7 a2 b2 a4 b4 c27 c37 c49
                · exfalso; omega
              · exfalso; omega
          · exfalso; omega
        · refine hM_ic (n := 0) rfl (by decide) rfl (fun x70 q70 => ?_) -- 52
          refine hI_go (pc' := 57) (off := 4) rfl (by decide) ?_ -- 53
          refine hM_add rfl q57 q70 (by omega) (by omega) rfl (fun x71 q71 => ?_) -- 57
          refine hM_si2 (k := 5) rfl (by decide +kernel) rfl (fun lv72 e72_5 u72 => ?_) -- 58
          have e72_0 := u72 0 _ (by decide) (Or.inl rfl) e5_0
          have e72_1 := u72 1 _ (by decide) (Or.inl rfl) e5_1
          have e72_2 := u72 2 _ (by decide) (Or.inl rfl) e5_2
          have e72_3 := u72 3 _ (by decide) (Or.inl rfl) e5_3
          have e72_4 := u72 4 _ (by decide) (Or.inl rfl) e5_4
          refine hI_il2 (k := 5) rfl e72_5 rfl ?_ -- 60
          refine hM_ic (n := 3) rfl (by decide) rfl (fun x73 q73 => ?_) -- 62
          refine hM_cne (off := 21) (t := 84) rfl q71 q73 (by decide) rfl (fun c63 => ?_) (fun c63 => ?_) -- 63
          · refine hI_il2 (k := 5) rfl e72_5 rfl ?_ -- 84
            refine hM_ic (n := 2) rfl (by decide) rfl (fun x74 q74 => ?_) -- 86
            refine hM_cne (off := 52) (t := 139) rfl q71 q74 (by decide) rfl (fun c87 => ?_) (fun c87 => ?_) -- 87
            · refine hI_al (k := 0) rfl e72_0 rfl ?_ -- 139
              refine hM_ga M (by decide) rfl rfl (k := 24) (c := 9) rfl rfl rfl (by decide +kernel) rfl ?_ -- 140
              refine hI_il (k := 2) rfl e72_2 rfl ?_ -- 143
              refine hI_il (k := 1) rfl e72_1 rfl ?_ -- 144
              refine hM_ic (n := (-1)) rfl (by decide) rfl (fun x75 q75 => ?_) -- 145
              refine hM_ceq (off := 7) (t := 153) rfl lq1 q75 (by decide) rfl (fun c146 => ?_) (fun c146 => ?_) -- 146
              · refine hI_il (k := 3) rfl e72_3 rfl ?_ -- 153
                refine hM_ic (n := (-1)) rfl (by decide) rfl (fun x76 q76 => ?_) -- 154
                refine hM_ceq (off := 7) (t := 162) rfl q2 q76 (by decide) rfl (fun c155 => ?_) (fun c155 => ?_) -- 155
                · exfalso; omega
                · refine hI_il (k := 3) rfl e72_3 rfl ?_ -- 158
                  refine hI_go (pc' := 164) (off := 5) rfl (by decide) ?_ -- 159
                  refine hM_is M (by decide) ok_49 (K := 24) (R2 := 61) (L := 6) (H := 6) (lo := (-1)) (hi := 15999) rfl (by decide) rfl rfl rfl (fun _ => rfl) (d_subm hw (by decide +kernel)) rfl lq2 q2 (by omega) (by omega) (by omega) (by omega) rfl (fun h77 V77 f77 M77 => ?_) -- 164
                  refine hM_ic (n := (-1)) rfl (by decide) rfl (fun x78 q78 => ?_) -- 165
                  refine hM_si (k := 1) rfl (by decide +kernel) rfl (fun lv79 e79_1 u79 => ?_) -- 166
                  have e79_0 := u79 0 _ (by decide) (Or.inl rfl) e72_0
                  have e79_2 := u79 2 _ (by decide) (Or.inl rfl) e72_2
                  have e79_3 := u79 3 _ (by decide) (Or.inl rfl) e72_3
                  have e79_4 := u79 4 _ (by decide) (Or.inl rfl) e72_4
                  have e79_5 := u79 5 _ (by decide) (Or.inl rfl) e72_5
                  refine hM_inc (k := 2) (z := 1) rfl e79_2 lq2 (by decide) (by omega) (by omega) (by decide +kernel) rfl (fun lv80 x80 q80 e80_2 u80 => ?_) -- 167
                  have e80_0 := u80 0 _ (by decide) (Or.inl rfl) e79_0
                  have e80_3 := u80 3 _ (by decide) (Or.inl rfl) e79_3
                  have e80_4 := u80 4 _ (by decide) (Or.inl rfl) e79_4
                  have e80_5 := u80 5 _ (by decide) (Or.inl rfl) e79_5
                  have e80_1 := u80 1 _ (by decide) (Or.inl rfl) e79_1
                  refine hI_go (pc' := 4) (off := (-166)) rfl (by decide) ?_ -- 170
                  exact g6 h77 V77 f77 x78 q78 x80 q80 lv80 M77 e80_0 e80_1 e80_2 c7 a2 b2 a4 b4 c27 c37 c49
              · exfalso; omega
            · exfalso; omega
          · exfalso; omega
      · refine hM_ic (n := 0) rfl (by decide) rfl (fun x81 q81 => ?_) -- 40
        refine hI_go (pc' := 45) (off := 4) rfl (by decide) ?_ -- 41
        refine hM_add rfl q54 q81 (by omega) (by omega) rfl (fun x82 q82 => ?_) -- 45
        refine hI_il2 (k := 4) rfl e5_4 rfl ?_ -- 46
        refine hM_ic (n := (-1)) rfl (by decide) rfl (fun x83 q83 => ?_) -- 48
        refine hM_cne (off := 7) (t := 56) rfl q4 q83 (by decide) rfl (fun c49 => ?_) (fun c49 => ?_) -- 49
        · refine hM_ic (n := 1) rfl (by decide) rfl (fun x84 q84 => ?_) -- 56
          refine hM_add rfl q82 q84 (by omega) (by omega) rfl (fun x85 q85 => ?_) -- 57
          refine hM_si2 (k := 5) rfl (by decide +kernel) rfl (fun lv86 e86_5 u86 => ?_) -- 58
          have e86_0 := u86 0 _ (by decide) (Or.inl rfl) e5_0
          have e86_1 := u86 1 _ (by decide) (Or.inl rfl) e5_1
          have e86_2 := u86 2 _ (by decide) (Or.inl rfl) e5_2
          have e86_3 := u86 3 _ (by decide) (Or.inl rfl) e5_3
          have e86_4 := u86 4 _ (by decide) (Or.inl rfl) e5_4
          refine hI_il2 (k := 5) rfl e86_5 rfl ?_ -- 60
          refine hM_ic (n := 3) rfl (by decide) rfl (fun x87 q87 => ?_) -- 62
          refine hM_cne (off := 21) (t := 84) rfl q85 q87 (by decide) rfl (fun c63 => ?_) (fun c63 => ?_) -- 63
          · refine hI_il2 (k := 5) rfl e86_5 rfl ?_ -- 84
            refine hM_ic (n := 2) rfl (by decide) rfl (fun x88 q88 => ?_) -- 86
            refine hM_cne (off := 52) (t := 139) rfl q85 q88 (by decide) rfl (fun c87 => ?_) (fun c87 => ?_) -- 87
            · refine hI_al (k := 0) rfl e86_0 rfl ?_ -- 139
              refine hM_ga M (by decide) rfl rfl (k := 24) (c := 9) rfl rfl rfl (by decide +kernel) rfl ?_ -- 140
              refine hI_il (k := 2) rfl e86_2 rfl ?_ -- 143
              refine hI_il (k := 1) rfl e86_1 rfl ?_ -- 144
              refine hM_ic (n := (-1)) rfl (by decide) rfl (fun x89 q89 => ?_) -- 145
              refine hM_ceq (off := 7) (t := 153) rfl lq1 q89 (by decide) rfl (fun c146 => ?_) (fun c146 => ?_) -- 146
              · refine hI_il (k := 3) rfl e86_3 rfl ?_ -- 153
                refine hM_ic (n := (-1)) rfl (by decide) rfl (fun x90 q90 => ?_) -- 154
                refine hM_ceq (off := 7) (t := 162) rfl q2 q90 (by decide) rfl (fun c155 => ?_) (fun c155 => ?_) -- 155
                · refine hI_il2 (k := 4) rfl e86_4 rfl ?_ -- 162
                  refine hM_is M (by decide) ok_49 (K := 24) (R2 := 61) (L := 6) (H := 6) (lo := (-1)) (hi := 15999) rfl (by decide) rfl rfl rfl (fun _ => rfl) (d_subm hw (by decide +kernel)) rfl lq2 q4 (by omega) (by omega) (by omega) (by omega) rfl (fun h91 V91 f91 M91 => ?_) -- 164
                  refine hM_ic (n := (-1)) rfl (by decide) rfl (fun x92 q92 => ?_) -- 165
                  refine hM_si (k := 1) rfl (by decide +kernel) rfl (fun lv93 e93_1 u93 => ?_) -- 166
                  have e93_0 := u93 0 _ (by decide) (Or.inl rfl) e86_0
                  have e93_2 := u93 2 _ (by decide) (Or.inl rfl) e86_2
                  have e93_3 := u93 3 _ (by decide) (Or.inl rfl) e86_3
                  have e93_4 := u93 4 _ (by decide) (Or.inl rfl) e86_4
                  have e93_5 := u93 5 _ (by decide) (Or.inl rfl) e86_5
                  refine hM_inc (k := 2) (z := 1) rfl e93_2 lq2 (by decide) (by omega) (by omega) (by decide +kernel) rfl (fun lv94 x94 q94 e94_2 u94 => ?_) -- 167
                  have e94_0 := u94 0 _ (by decide) (Or.inl rfl) e93_0
                  have e94_3 := u94 3 _ (by decide) (Or.inl rfl) e93_3
                  have e94_4 := u94 4 _ (by decide) (Or.inl rfl) e93_4
                  have e94_5 := u94 5 _ (by decide) (Or.inl rfl) e93_5
                  have e94_1 := u94 1 _ (by decide) (Or.inl rfl) e93_1
                  refine hI_go (pc' := 4) (off := (-166)) rfl (by decide) ?_ -- 170
                  exact g7 h91 V91 f91 x92 q92 x94 q94 lv94 M91 e94_0 e94_1 e94_2 c7 a2 b2 a4 b4 c27 c37 c49
                · exfalso; omega
              · exfalso; omega
            · exfalso; omega
          · exfalso; omega
        · refine hM_ic (n := 0) rfl (by decide) rfl (fun x95 q95 => ?_) -- 52
          refine hI_go (pc' := 57) (off := 4) rfl (by decide) ?_ -- 53
          refine hM_add rfl q82 q95 (by omega) (by omega) rfl (fun x96 q96 => ?_) -- 57
          refine hM_si2 (k := 5) rfl (by decide +kernel) rfl (fun lv97 e97_5 u97 => ?_) -- 58
          have e97_0 := u97 0 _ (by decide) (Or.inl rfl) e5_0
          have e97_1 := u97 1 _ (by decide) (Or.inl rfl) e5_1
          have e97_2 := u97 2 _ (by decide) (Or.inl rfl) e5_2
          have e97_3 := u97 3 _ (by decide) (Or.inl rfl) e5_3
          have e97_4 := u97 4 _ (by decide) (Or.inl rfl) e5_4
          refine hI_il2 (k := 5) rfl e97_5 rfl ?_ -- 60
          refine hM_ic (n := 3) rfl (by decide) rfl (fun x98 q98 => ?_) -- 62
          refine hM_cne (off := 21) (t := 84) rfl q96 q98 (by decide) rfl (fun c63 => ?_) (fun c63 => ?_) -- 63
          · refine hI_il2 (k := 5) rfl e97_5 rfl ?_ -- 84
            refine hM_ic (n := 2) rfl (by decide) rfl (fun x99 q99 => ?_) -- 86
            refine hM_cne (off := 52) (t := 139) rfl q96 q99 (by decide) rfl (fun c87 => ?_) (fun c87 => ?_) -- 87
            · refine hI_al (k := 0) rfl e97_0 rfl ?_ -- 139
              refine hM_ga M (by decide) rfl rfl (k := 24) (c := 9) rfl rfl rfl (by decide +kernel) rfl ?_ -- 140
              refine hI_il (k := 2) rfl e97_2 rfl ?_ -- 143
              refine hI_il (k := 1) rfl e97_1 rfl ?_ -- 144
              refine hM_ic (n := (-1)) rfl (by decide) rfl (fun x100 q100 => ?_) -- 145
              refine hM_ceq (off := 7) (t := 153) rfl lq1 q100 (by decide) rfl (fun c146 => ?_) (fun c146 => ?_) -- 146
              · refine hI_il (k := 3) rfl e97_3 rfl ?_ -- 153
                refine hM_ic (n := (-1)) rfl (by decide) rfl (fun x101 q101 => ?_) -- 154
                refine hM_ceq (off := 7) (t := 162) rfl q2 q101 (by decide) rfl (fun c155 => ?_) (fun c155 => ?_) -- 155
                · refine hI_il2 (k := 4) rfl e97_4 rfl ?_ -- 162
                  refine hM_is M (by decide) ok_49 (K := 24) (R2 := 61) (L := 6) (H := 6) (lo := (-1)) (hi := 15999) rfl (by decide) rfl rfl rfl (fun _ => rfl) (d_subm hw (by decide +kernel)) rfl lq2 q4 (by omega) (by omega) (by omega) (by omega) rfl (fun h102 V102 f102 M102 => ?_) -- 164
                  refine hM_ic (n := (-1)) rfl (by decide) rfl (fun x103 q103 => ?_) -- 165
                  refine hM_si (k := 1) rfl (by decide +kernel) rfl (fun lv104 e104_1 u104 => ?_) -- 166
                  have e104_0 := u104 0 _ (by decide) (Or.inl rfl) e97_0
                  have e104_2 := u104 2 _ (by decide) (Or.inl rfl) e97_2
                  have e104_3 := u104 3 _ (by decide) (Or.inl rfl) e97_3
                  have e104_4 := u104 4 _ (by decide) (Or.inl rfl) e97_4
                  have e104_5 := u104 5 _ (by decide) (Or.inl rfl) e97_5
                  refine hM_inc (k := 2) (z := 1) rfl e104_2 lq2 (by decide) (by omega) (by omega) (by decide +kernel) rfl (fun lv105 x105 q105 e105_2 u105 => ?_) -- 167
                  have e105_0 := u105 0 _ (by decide) (Or.inl rfl) e104_0
                  have e105_3 := u105 3 _ (by decide) (Or.inl rfl) e104_3
                  have e105_4 := u105 4 _ (by decide) (Or.inl rfl) e104_4
                  have e105_5 := u105 5 _ (by decide) (Or.inl rfl) e104_5
                  have e105_1 := u105 1 _ (by decide) (Or.inl rfl) e104_1
                  refine hI_go (pc' := 4) (off := (-166)) rfl (by decide) ?_ -- 170
                  exact g8 h102 V102 f102 x103 q103 x105 q105 lv105 M102 e105_0 e105_1 e105_2 c7 a2 b2 a4 b4 c27 c37 c49
                · exfalso; omega
              · exfalso; omega
            · exfalso; omega
          · exfalso; omega
theorem s_meld80 {c r : Int} (M : MX 49 W ρ m A h0 h F V G) (e0 : m_lk lv 0 = some (.ref m)) {lx2 : Int32} (e2 : m_lk lv 2 = some (.int lx2)) (lq2 : lx2.toInt = r) {sx0 : Int32} (sq0 : sx0.toInt = c) (r0 : 0 ≤ r) (r1 : r < 6)
    (g0 : ∀ x2 : Int32, x2.toInt = r + 1 → ∀ lv2 : List (Nat × Value), m_lk lv2 0 = some (.ref m) → m_lk lv2 1 = some (.int sx0) → m_lk lv2 2 = some (.int x2) → HJ 209 4 lv2 [] h Q)
    : HJ 209 80 lv [.int sx0] h Q := by
  refine hM_si (k := 1) rfl (by decide +kernel) rfl (fun lv1 e1_1 u1 => ?_) -- 80
  have e1_0 := u1 0 _ (by decide) (Or.inl rfl) e0
  have e1_2 := u1 2 _ (by decide) (Or.inl rfl) e2
  refine hI_go (pc' := 167) (off := 86) rfl (by decide) ?_ -- 81
  refine hM_inc (k := 2) (z := 1) rfl e1_2 lq2 (by decide) (by omega) (by omega) (by decide +kernel) rfl (fun lv2 x2 q2 e2_2 u2 => ?_) -- 167
  have e2_0 := u2 0 _ (by decide) (Or.inl rfl) e1_0
  have e2_1 := u2 1 _ (by decide) (Or.inl rfl) e1_1
  refine hI_go (pc' := 4) (off := (-166)) rfl (by decide) ?_ -- 170
  exact g0 x2 q2 lv2 e2_0 e2_1 e2_2
theorem s_meld135 {c r : Int} (M : MX 49 W ρ m A h0 h F V G) (e0 : m_lk lv 0 = some (.ref m)) {lx2 : Int32} (e2 : m_lk lv 2 = some (.int lx2)) (lq2 : lx2.toInt = r) {sx0 : Int32} (sq0 : sx0.toInt = c) (r0 : 0 ≤ r) (r1 : r < 6)
    (g0 : ∀ x2 : Int32, x2.toInt = r + 1 → ∀ lv2 : List (Nat × Value), m_lk lv2 0 = some (.ref m) → m_lk lv2 1 = some (.int sx0) → m_lk lv2 2 = some (.int x2) → HJ 209 4 lv2 [] h Q)
    : HJ 209 135 lv [.int sx0] h Q := by
  refine hM_si (k := 1) rfl (by decide +kernel) rfl (fun lv1 e1_1 u1 => ?_) -- 135
  have e1_0 := u1 0 _ (by decide) (Or.inl rfl) e0
  have e1_2 := u1 2 _ (by decide) (Or.inl rfl) e2
  refine hI_go (pc' := 167) (off := 31) rfl (by decide) ?_ -- 136
  refine hM_inc (k := 2) (z := 1) rfl e1_2 lq2 (by decide) (by omega) (by omega) (by decide +kernel) rfl (fun lv2 x2 q2 e2_2 u2 => ?_) -- 167
  have e2_0 := u2 0 _ (by decide) (Or.inl rfl) e1_0
  have e2_1 := u2 1 _ (by decide) (Or.inl rfl) e1_1
  refine hI_go (pc' := 4) (off := (-166)) rfl (by decide) ?_ -- 170
  exact g0 x2 q2 lv2 e2_0 e2_1 e2_2
def g_md : List (Nat × Nat) := g_ln ++ [(61, 1001)]
theorem l_meld {F0 : Nat → Int} {V0 : Nat → Nat → Int} (hw : d_sub g_md W = true) (n0 : 0 ≤ F0 17) (n1 : F0 17 + 6 ≤ 16000) (h2 : p_hp (F0 17) (V0 22) (V0 25)) (g : ∀ (h' : MH) (F' : Nat → Int) (V' : Nat → Nat → Int) (c : Int), MX 49 W ρ m A h0 h' F' V' G → g_mi F0 V0 F' V' 6 c → g_mf F0 V0 F' V' 6 c → Q none h') : ∀ (d r : Nat) (c : Int) (lv : List (Nat × Value)) (h : MH) (F : Nat → Int) (V : Nat → Nat → Int) (xc xr : Int32), r + d = 6 → MX 49 W ρ m A h0 h F V G → g_mi F0 V0 F V r c → g_mf F0 V0 F V r c → xc.toInt = c → xr.toInt = (r : Int) → m_lk lv 0 = some (.ref m) → m_lk lv 1 = some (.int xc) → m_lk lv 2 = some (.int xr) → HJ 209 4 lv [] h Q := by
  have hw1 : d_sub g_ln W = true := d_subm hw (by decide +kernel)
  have hw2 : d_sub [(61, 1001)] W = true := d_subm hw (by decide +kernel)
  intro d
  induction d with
  | zero =>
    intro r c lv h F V xc xr hd M I J hc hr e0 e1 e2
    have r6 : r = 6 := by omega
    subst r6
    have i3 := I.1.2.2
    have c0 : -1 ≤ c ∧ c ≤ 15999 := by
      have i4 := I.2.1
      rcases i3 with z | z <;> omega
    refine s_meld M e0 e1 hc e2 hr (by omega) c0.1 c0.2 hw2 (fun c7 => g h F V c M I J) ?_ ?_ ?_ ?_ ?_ ?_ ?_ ?_ <;> intros <;> exfalso <;> omega
  | succ d ih =>
    intro r c lv h F V xc xr hd M I J hc hr e0 e1 e2
    have I' := I
    obtain ⟨⟨i1, i2, i3⟩, ⟨i4, i5⟩, i6, i7, i8, i9, i10, i11⟩ := I'
    have eb : V 25 r = V0 25 r := by rw [i8 25 (by decide) (by decide) (by decide) (by decide) (by decide)]
    have pa : p_rt (F 17) (V 22) (V 24 r) r := i2 r (by omega)
    have pb : p_rt (F 17) (V 22) (V 25 r) r := by
      rw [eb]
      exact p_rtU i4 i7 (h2 r (by omega))
    have rN : (r : Int).toNat = r := Int.toNat_natCast r
    have c0 : -1 ≤ c ∧ c ≤ 15999 := by
      rcases i3 with z | z <;> omega
    have nd : ∀ {x : Int}, p_rt (F 17) (V 22) x r → x ≠ -1 → 0 ≤ x ∧ x < F 17 ∧ V 22 x.toNat = r := fun p z => p.resolve_left z
    -- no link
    have nol : ∀ (y : Int) (V2 : Nat → Nat → Int) (h2 : MH) (lv2 : List (Nat × Value)) (x1 x2 : Int32), p_rt (F 17) (V 22) y r → y_tg y + 2 * 0 = y_tg c + y_tg (V 24 r) + y_tg (V 25 r) → V2 = m_u V 24 (m_u (V 24) r y) → MX 49 W ρ m A h0 h2 F V2 G → x1.toInt = -1 → x2.toInt = (r : Int) + 1 → m_lk lv2 0 = some (.ref m) → m_lk lv2 1 = some (.int x1) → m_lk lv2 2 = some (.int x2) → (∀ s X, X.2.1 r = V 24 r → s r = V 25 r → X.2.2 = c → pm_st s X r = (X.1, m_u X.2.1 r y, -1)) → HJ 209 4 lv2 [] h2 Q := fun y V2 h2 lv2 x1 x2 py wt v2 M2 q1 q2 a0 a1 a2 K => by
      have v22 : V2 22 = V 22 := by rw [v2]; rfl
      refine ih (r + 1) (-1) lv2 h2 F V2 x1 x2 (by omega) M2 (g_miS I (y := y) (c' := -1) ?_ ?_ (Or.inl rfl) (Int.le_refl _) (by omega) (fun _ _ _ => rfl) (fun v _ => by rw [v22]) (by rw [v2, m_uE]) (fun K _ _ _ _ k5 => by rw [v2, m_uN _ _ _ _ k5]) (by rw [← eb]; exact wt) (fun j _ => by rw [v2, m_uN _ _ _ _ (by decide)])) (fun S h s b1 b2 b3 => ?_) q1 (by omega) a0 a1 a2
      · rw [v2]
        exact i1
      · rw [v2]
        exact py
      · obtain ⟨j1, j2, j3⟩ := J S h s b1 b2 b3
        rw [pm_run, K s _ (j2 r (by omega)).symm (by rw [eb]; exact (b3 r (by omega)).symm) j3.symm]
        refine ⟨rs_ofV j1 rfl rfl (by rw [v2]; rfl) (by rw [v2]; rfl) (by rw [v2]; rfl) (by rw [v2]; rfl), ?_, rfl⟩
        rw [v2, m_uE]
        exact hp6_u j2
    -- a link
    have lnk : ∀ (pc : Nat) (_ : pc = 80 ∨ pc = 135) (y a b : Int) (xa xb : Int32) (V2 : Nat → Nat → Int) (h2 : MH) (lv2 : List (Nat × Value)), p_rt (F 17) (V 22) y r → y_tg y + 2 * 1 = y_tg c + y_tg (V 24 r) + y_tg (V 25 r) → V2 = m_u V 24 (m_u (V 24) r y) → MX 49 W ρ m A h0 h2 F V2 G → xa.toInt = a → xb.toInt = b → (0 ≤ a ∧ a < F 17 ∧ V 22 a.toNat = r) → (0 ≤ b ∧ b < F 17 ∧ V 22 b.toNat = r) → m_lk lv2 0 = some (.ref m) → m_lk lv2 2 = some (.int xr) → (∀ s X, X.2.1 r = V 24 r → s r = V 25 r → X.2.2 = c → pm_st s X r = (ps_link X.1 a b, m_u X.2.1 r y, (ps_n X.1 : Int))) → HJ 210 0 (lv_args 0 [.ref m, .int xa, .int xb]) [] h2 (fun v h' => HJ 209 pc lv2 (v.toList ++ []) h' Q) := fun pc hpc y a b xa xb V2 h2 lv2 py wt v2 M2 qa qb na nb a0 a2 K => by
      have v22 : V2 22 = V 22 := by rw [v2]; rfl
      have v23 : V2 23 = V 23 := by rw [v2]; rfl
      have v24 : V2 24 = m_u (V 24) r y := by rw [v2]; rfl
      refine c_link (r := (r : Int)) M2 hw1 (by rw [v22, v23]; exact i1) qa qb (by omega) (by omega) na.1 na.2.1 nb.1 nb.2.1 (by rw [v22]; exact na.2.2) (by rw [v22]; exact nb.2.2) (by omega) (by omega) (fun x h3 F3 V3 hx M3 f17 fo sh vr vo b3 fr => ?_)
      have J3 : g_mf F0 V0 F3 V3 (r + 1) (F 17) := fun S h s b1 b2 b3 => by
        obtain ⟨j1, j2, j3⟩ := J S h s b1 b2 b3
        rw [pm_run, K s _ (j2 r (by omega)).symm (by rw [eb]; exact (b3 r (by omega)).symm) j3.symm]
        refine ⟨fr _ (rs_ofV j1 rfl rfl (by rw [v2]; rfl) (by rw [v2]; rfl) v22 v23), ?_, j1.1⟩
        rw [vo 24 (by decide) (by decide) (by decide) (by decide), v24]
        exact hp6_u j2
      have J : g_mi F0 V0 F3 V3 (r + 1) (F 17) := by
        rw [← f17] at sh
        have up : ∀ v : Nat, (v : Int) < F 17 → V3 22 v = V 22 v := fun v hv => by rw [vr, m_uN _ _ _ _ (by omega), v22]
        refine g_miS I (y := y) (c' := F 17) sh (p_rtU (by omega) up py) (Or.inr ⟨by omega, by omega, by rw [vr, m_uE]; omega⟩) (by omega) (by omega) (fun K k1 k2 => fo K k1 k2) up (by rw [vo 24 (by decide) (by decide) (by decide) (by decide), v24]) (fun K k1 k2 k3 k4 k5 => by rw [vo K k1 k2 k3 k4, v2, m_uN _ _ _ _ k5]) ?_ (fun j hj => by rw [b3 j hj, v23])
        rw [← eb, ← wt, y_tg1 (x := F 17) (by omega)]
      rcases hpc with e | e
      · subst e
        exact s_meld80 (c := F 17) (r := r) M3 a0 a2 hr hx (by omega) (by omega) (fun x2 q2 lv3 b0 b1 b2 => ih (r + 1) (F 17) lv3 h3 F3 V3 x x2 (by omega) M3 J J3 hx (by omega) b0 b1 b2)
      · subst e
        exact s_meld135 (c := F 17) (r := r) M3 a0 a2 hr hx (by omega) (by omega) (fun x2 q2 lv3 b0 b1 b2 => ih (r + 1) (F 17) lv3 h3 F3 V3 x x2 (by omega) M3 J J3 hx (by omega) b0 b1 b2)
    refine s_meld M e0 e1 hc e2 hr (by omega) c0.1 c0.2 hw2 (fun c7 => by omega)
      (fun x2 q2 x4 q4 h16 V16 f16 lv14 M16 a0 a1 a2 _ _ _ _ _ c27 c37 c49 => by
        simp only [Int.toNat_natCast] at q2 q4 f16 c37 c49
        exact lnk 80 (Or.inl rfl) c _ _ x2 x4 V16 h16 lv14 i3 (by have : y_tg (-1) = 0 := rfl; have := y_tg1 c27; have := y_tg1 c37; have := y_tg1 c49; omega) f16 M16 q2 q4 (nd pa c37) (nd pb c49) a0 a2 (fun s X x1 x2 x3 => pm_st1 x1 x2 x3 c37 c49))
      (fun x2 q2 h16 V16 f16 lv14 M16 a0 a1 a2 _ _ _ _ _ c27 c37 c49 => by
        simp only [Int.toNat_natCast] at q2 f16 c37 c49
        exact lnk 135 (Or.inr rfl) (-1) _ _ xc x2 V16 h16 lv14 (Or.inl rfl) (by have : y_tg (-1) = 0 := rfl; have := y_tg1 c27; have := y_tg1 c37; have := y_tg0 c49; omega) f16 M16 hc q2 (nd i3 c27) (nd pa c37) a0 a2 (fun s X x1 x2 x3 => pm_st2 x1 x2 x3 (fun z => z.2 c49) c27 (pm_oneF c37) c37))
      (fun x4 q4 h16 V16 f16 lv14 M16 a0 a1 a2 _ _ _ _ _ c27 c37 c49 => by
        simp only [Int.toNat_natCast] at q4 f16 c37 c49
        exact lnk 135 (Or.inr rfl) (-1) _ _ xc x4 V16 h16 lv14 (Or.inl rfl) (by have : y_tg (-1) = 0 := rfl; have := y_tg1 c27; have := y_tg0 c37; have := y_tg1 c49; omega) f16 M16 hc q4 (nd i3 c27) (nd pb c49) a0 a2 (fun s X x1 x2 x3 => pm_st2 x1 x2 x3 (fun z => z.1 c37) c27 (pm_oneT c37) c49))
      (fun h16 V16 f16 x51 q51 x53 q53 lv14 M16 a0 a1 a2 _ _ _ _ _ c27 c37 c49 => by
        simp only [Int.toNat_natCast] at f16 c37 c49
        exact nol c V16 h16 lv14 x51 x53 i3 (by have : y_tg (-1) = 0 := rfl; have := y_tg1 c27; have := y_tg0 c37; have := y_tg0 c49; omega) f16 M16 q51 q53 a0 a1 a2 (fun s X x1 x2 x3 => pm_st3 x1 x2 x3 (fun z => z.1 c37) (pm_oneT c37) (fun z => z.2 c49) (pm_oneF c27)))
      (fun x2 q2 x4 q4 h16 V16 f16 lv14 M16 a0 a1 a2 _ _ _ _ _ c27 c37 c49 => by
        simp only [Int.toNat_natCast] at q2 q4 f16 c37 c49
        exact lnk 135 (Or.inr rfl) (-1) _ _ x2 x4 V16 h16 lv14 (Or.inl rfl) (by have : y_tg (-1) = 0 := rfl; have := y_tg0 c27; have := y_tg1 c37; have := y_tg1 c49; omega) f16 M16 q2 q4 (nd pa c37) (nd pb c49) a0 a2 (fun s X x1 x2 x3 => pm_st1 x1 x2 (x3.trans c27) c37 c49))
      (fun h16 V16 f16 x51 q51 x53 q53 lv14 M16 a0 a1 a2 _ _ _ _ _ c27 c37 c49 => by
        simp only [Int.toNat_natCast] at f16 c37 c49
        exact nol (V 24 r) V16 h16 lv14 x51 x53 pa (by have : y_tg (-1) = 0 := rfl; have := y_tg0 c27; have := y_tg1 c37; have := y_tg0 c49; omega) f16 M16 q51 q53 a0 a1 a2 (fun s X x1 x2 x3 => pm_st3 x1 x2 x3 (fun z => z.2 c49) (pm_oneF c37) (fun z => z.1 c27) (pm_oneT c27)))
      (fun h16 V16 f16 x51 q51 x53 q53 lv14 M16 a0 a1 a2 _ _ _ _ _ c27 c37 c49 => by
        simp only [Int.toNat_natCast] at f16 c37 c49
        exact nol (V 25 r) V16 h16 lv14 x51 x53 pb (by have : y_tg (-1) = 0 := rfl; have := y_tg0 c27; have := y_tg0 c37; have := y_tg1 c49; omega) f16 M16 q51 q53 a0 a1 a2 (fun s X x1 x2 x3 => pm_st3 x1 x2 x3 (fun z => z.1 c37) (pm_oneT c37) (fun z => z.1 c27) (pm_oneT c27)))
      (fun h16 V16 f16 x51 q51 x53 q53 lv14 M16 a0 a1 a2 _ _ _ _ _ c27 c37 c49 => by
        simp only [Int.toNat_natCast] at f16 c37 c49
        exact nol (V 25 r) V16 h16 lv14 x51 x53 pb (by have : y_tg (-1) = 0 := rfl; have := y_tg0 c27; have := y_tg0 c37; have := y_tg0 c49; omega) f16 M16 q51 q53 a0 a1 a2 (fun s X x1 x2 x3 => pm_st3 x1 x2 x3 (fun z => z.1 c37) (pm_oneT c37) (fun z => z.1 c27) (pm_oneT c27)))
end
end
section
-- WHAT LESSENS, PUTS AND CUTS A HEAP
theorem p_wsL {f : Nat → Int} : ∀ r : Nat, p_ws f r + 1 ≤ 2 ^ r
  | 0 => Nat.le_refl _
  | r + 1 => by
    have := p_wsL (f := f) r
    have e : y_tg (f r) ≤ 1 := by
      unfold y_tg
      split <;> omega
    have e2 := Nat.mul_le_mul_right (2 ^ r) e
    rw [p_ws, Nat.pow_succ]
    omega
theorem p_ws1 {f : Nat → Int} : ∀ {r : Nat}, (∀ k, k < r → f k ≠ -1) → p_ws f r + 1 = 2 ^ r
  | 0, _ => rfl
  | r + 1, h => by
    rw [p_ws, y_tg1 (h r (by omega)), Nat.pow_succ]
    have := p_ws1 (r := r) (fun k hk => h k (by omega))
    omega
theorem p_ws0 {f : Nat → Int} {q : Nat} : ∀ {r : Nat}, q ≤ r → (∀ k, q ≤ k → k < r → f k = -1) → p_ws f r = p_ws f q
  | 0, hq, _ => by rw [show q = 0 by omega]
  | r + 1, hq, h => by
    by_cases e : q = r + 1
    · rw [e]
    · rw [p_ws, y_tg0 (h r (by omega) (by omega)), p_ws0 (r := r) (by omega) (fun k k1 k2 => h k k1 (by omega))]
      omega
-- one root goes
theorem p_wsG {f : Nat → Int} {q : Nat} (hq : f q ≠ -1) : ∀ {r : Nat}, q < r → p_ws (m_u f q (-1)) r + 2 ^ q = p_ws f r
  | 0, h => by omega
  | r + 1, h => by
    rw [p_ws, p_ws]
    by_cases e : q = r
    · subst e
      rw [m_uE, y_tg0 rfl, y_tg1 hq, p_wsC (f := f) (fun j hj => m_uN _ _ _ _ (by omega))]
      omega
    · rw [m_uN _ _ _ _ (by omega)]
      have := p_wsG (r := r) hq (by omega)
      omega
theorem i_2p : ∀ k : Fin 7, (2 : Int) ^ k.val = ((2 ^ k.val : Nat) : Int) := by decide
theorem i_2q {k : Nat} (h : k < 7) : (2 : Int) ^ k = ((2 ^ k : Nat) : Int) := i_2p ⟨k, h⟩
theorem n_2p : ∀ k : Fin 7, 2 ^ k.val ≤ 64 := by decide
theorem n_2q {k : Nat} (h : k < 7) : 2 ^ k ≤ 64 := n_2p ⟨k, h⟩
section
variable {lv : List (Nat × Value)} {Q : Option Value → MH → Prop} {W : List (Nat × Nat)} {ρ : Nat → Nat} {m : Nat} {A : Nat → Nat} {h0 h : MH} {F : Nat → Int} {V : Nat → Nat → Int} {G : Nat → Nat → Int64}
theorem s_clear0 (M : MX 49 W ρ m A h0 h F V G) (e0 : m_lk lv 0 = some (.ref m)) 
    (g0 : ∀ x1 : Int32, x1.toInt = 0 → ∀ lv2 : List (Nat × Value), m_lk lv2 0 = some (.ref m) → m_lk lv2 1 = some (.int x1) → HJ 215 2 lv2 [] h Q)
    : HJ 215 0 lv [] h Q := by
  refine hM_ic (n := 0) rfl (by decide) rfl (fun x1 q1 => ?_) -- 0
  refine hM_si (k := 1) rfl (by decide +kernel) rfl (fun lv2 e2_1 u2 => ?_) -- 1
  have e2_0 := u2 0 _ (by decide) (Or.inl rfl) e0
  exact g0 x1 q1 lv2 e2_0 e2_1
theorem s_clear {r : Int} (M : MX 49 W ρ m A h0 h F V G) (e0 : m_lk lv 0 = some (.ref m)) {lx1 : Int32} (e1 : m_lk lv 1 = some (.int lx1)) (lq1 : lx1.toInt = r) (r0 : 0 ≤ r)(hw : d_sub [(62, 1001)] W = true)
    (g0 : r ≥ 6 → Q none h)
    (g1 : ∀ h3 : MH, ∀ V3 : Nat → Nat → Int, V3 = m_u V 25 (m_u (V 25) (r).toNat ((-1))) → ∀ x4 : Int32, x4.toInt = r + 1 → ∀ lv4 : List (Nat × Value), MX 49 W ρ m A h0 h3 F V3 G → m_lk lv4 0 = some (.ref m) → m_lk lv4 1 = some (.int x4) → r < 6 → HJ 215 2 lv4 [] h3 Q)
    : HJ 215 2 lv [] h Q := by
  refine hI_il (k := 1) rfl e1 rfl ?_ -- 2
  refine hM_bp (n := 6) rfl (by decide) rfl (fun x1 q1 => ?_) -- 3
  refine hM_cge (off := 16) (t := 21) rfl lq1 q1 (by decide) rfl (fun c5 => ?_) (fun c5 => ?_) -- 5
  · refine hI_rv rfl rfl ?_
    exact g0 c5
  · refine hI_al (k := 0) rfl e0 rfl ?_ -- 8
    refine hM_ga M (by decide) rfl rfl (k := 25) (c := 9) rfl rfl rfl (by decide +kernel) rfl ?_ -- 9
    refine hI_il (k := 1) rfl e1 rfl ?_ -- 12
    refine hM_ic (n := (-1)) rfl (by decide) rfl (fun x2 q2 => ?_) -- 13
    refine hM_is M (by decide) ok_49 (K := 25) (R2 := 62) (L := 6) (H := 6) (lo := (-1)) (hi := 15999) rfl (by decide) rfl rfl rfl (fun _ => rfl) (d_subm hw (by decide +kernel)) rfl lq1 q2 (by omega) (by omega) (by omega) (by omega) rfl (fun h3 V3 f3 M3 => ?_) -- 14
    refine hM_inc (k := 1) (z := 1) rfl e1 lq1 (by decide) (by omega) (by omega) (by decide +kernel) rfl (fun lv4 x4 q4 e4_1 u4 => ?_) -- 15
    have e4_0 := u4 0 _ (by decide) (Or.inl rfl) e0
    refine hI_go (pc' := 2) (off := (-16)) rfl (by decide) ?_ -- 18
    exact g1 h3 V3 f3 x4 q4 lv4 M3 e4_0 e4_1 c5
theorem l_clear {V0 : Nat → Nat → Int} (hw : d_sub [(62, 1001)] W = true) (g : ∀ (h' : MH) (V' : Nat → Nat → Int), MX 49 W ρ m A h0 h' F V' G → (∀ r, r < 6 → V' 25 r = -1) → (∀ K, K ≠ 25 → V' K = V0 K) → Q none h') : ∀ (d r : Nat) (lv : List (Nat × Value)) (h : MH) (V : Nat → Nat → Int) (xr : Int32), r + d = 6 → MX 49 W ρ m A h0 h F V G → xr.toInt = (r : Int) → (∀ k, k < r → V 25 k = -1) → (∀ K, K ≠ 25 → V K = V0 K) → m_lk lv 0 = some (.ref m) → m_lk lv 1 = some (.int xr) → HJ 215 2 lv [] h Q := by
  intro d
  induction d with
  | zero =>
    intro r lv h V xr hd M hr k1 k2 e0 e1
    have r6 : r = 6 := by omega
    subst r6
    exact s_clear M e0 e1 hr (by omega) hw (fun _ => g h V M k1 k2) (fun h3 V3 f3 x4 q4 lv4 M3 e4_0 e4_1 c5 => by omega)
  | succ d ih =>
    intro r lv h V xr hd M hr k1 k2 e0 e1
    refine s_clear M e0 e1 hr (by omega) hw (fun _ => by omega) (fun h3 V3 f3 x4 q4 lv4 M3 e4_0 e4_1 c5 => ?_)
    simp only [Int.toNat_natCast] at f3
    refine ih (r + 1) lv4 h3 V3 x4 (by omega) M3 (by omega) (fun k hk => ?_) (fun K hK => by rw [f3, m_uN _ _ _ _ hK, k2 K hK]) e4_0 e4_1
    rw [f3, m_uE]
    by_cases e : k = r
    · rw [e, m_uE]
    · rw [m_uN _ _ _ _ e]
      exact k1 k (by omega)
theorem c_clear (M : MX 49 W ρ m A h0 h F V G) (hw : d_sub [(62, 1001)] W = true) (g : ∀ (h' : MH) (V' : Nat → Nat → Int), MX 49 W ρ m A h0 h' F V' G → (∀ r, r < 6 → V' 25 r = -1) → (∀ K, K ≠ 25 → V' K = V K) → Q none h') : HJ 215 0 (lv_args 0 [.ref m]) [] h Q := by
  refine s_clear0 M rfl (fun x1 q1 lv2 e2_0 e2_1 => ?_)
  exact l_clear hw g 6 0 lv2 h V x1 rfl M q1 (fun k hk => by omega) (fun _ _ => rfl) e2_0 e2_1
theorem s_hand0 {v : Int} (M : MX 49 W ρ m A h0 h F V G) (e0 : m_lk lv 0 = some (.ref m)) {lx1 : Int32} (e1 : m_lk lv 1 = some (.int lx1)) (lq1 : lx1.toInt = v) 
    (g0 : ∀ x1 : Int32, x1.toInt = 0 → ∀ lv2 : List (Nat × Value), m_lk lv2 0 = some (.ref m) → m_lk lv2 1 = some (.int lx1) → m_lk lv2 2 = some (.int x1) → HJ 208 2 lv2 [] h Q)
    : HJ 208 0 lv [] h Q := by
  refine hM_ic (n := 0) rfl (by decide) rfl (fun x1 q1 => ?_) -- 0
  refine hM_si (k := 2) rfl (by decide +kernel) rfl (fun lv2 e2_2 u2 => ?_) -- 1
  have e2_0 := u2 0 _ (by decide) (Or.inl rfl) e0
  have e2_1 := u2 1 _ (by decide) (Or.inl rfl) e1
  exact g0 x1 q1 lv2 e2_0 e2_1 e2_2
theorem s_hand {v r : Int} (M : MX 49 W ρ m A h0 h F V G) (e0 : m_lk lv 0 = some (.ref m)) {lx1 : Int32} (e1 : m_lk lv 1 = some (.int lx1)) (lq1 : lx1.toInt = v) {lx2 : Int32} (e2 : m_lk lv 2 = some (.int lx2)) (lq2 : lx2.toInt = r) (v0 : 0 ≤ v) (v1 : v ≤ 40) (r0 : 0 ≤ r)(hw : d_sub [(61, 1001)] W = true)
    (g0 : r ≥ 6 → Q none h)
    (g1 : ∀ h6 : MH, ∀ V6 : Nat → Nat → Int, V6 = m_u V 24 (m_u (V 24) (r).toNat (V 36 ((6 * v) + r).toNat)) → ∀ x7 : Int32, x7.toInt = r + 1 → ∀ lv7 : List (Nat × Value), MX 49 W ρ m A h0 h6 F V6 G → m_lk lv7 0 = some (.ref m) → m_lk lv7 1 = some (.int lx1) → m_lk lv7 2 = some (.int x7) → r < 6 → (-1) ≤ V 36 ((6 * v) + r).toNat → V 36 ((6 * v) + r).toNat ≤ 15999 → HJ 208 2 lv7 [] h6 Q)
    : HJ 208 2 lv [] h Q := by
  refine hI_il (k := 2) rfl e2 rfl ?_ -- 2
  refine hM_bp (n := 6) rfl (by decide) rfl (fun x1 q1 => ?_) -- 3
  refine hM_cge (off := 26) (t := 31) rfl lq2 q1 (by decide) rfl (fun c5 => ?_) (fun c5 => ?_) -- 5
  · refine hI_rv rfl rfl ?_
    exact g0 c5
  · refine hI_al (k := 0) rfl e0 rfl ?_ -- 8
    refine hM_ga M (by decide) rfl rfl (k := 24) (c := 9) rfl rfl rfl (by decide +kernel) rfl ?_ -- 9
    refine hI_il (k := 2) rfl e2 rfl ?_ -- 12
    refine hI_al (k := 0) rfl e0 rfl ?_ -- 13
    refine hM_ga M (by decide) rfl rfl (k := 36) (c := 9) rfl rfl rfl (by decide +kernel) rfl ?_ -- 14
    refine hM_bp (n := 6) rfl (by decide) rfl (fun x2 q2 => ?_) -- 17
    refine hI_il (k := 1) rfl e1 rfl ?_ -- 19
    refine hM_mul rfl q2 lq1 (by omega) (by omega) rfl (fun x3 q3 => ?_) -- 20
    refine hI_il (k := 2) rfl e2 rfl ?_ -- 21
    refine hM_add rfl q3 lq2 (by omega) (by omega) rfl (fun x4 q4 => ?_) -- 22
    refine hM_ia M (by decide) (K := 36) (R2 := 71) (L := 246) (H := 246) (lo := (-1)) (hi := 15999) rfl (by decide) rfl rfl (fun _ => rfl) rfl q4 (by omega) (by omega) rfl (fun x5 q5 a5 b5 => ?_) -- 23
    refine hM_is M (by decide) ok_49 (K := 24) (R2 := 61) (L := 6) (H := 6) (lo := (-1)) (hi := 15999) rfl (by decide) rfl rfl rfl (fun _ => rfl) (d_subm hw (by decide +kernel)) rfl lq2 q5 (by omega) (by omega) (by omega) (by omega) rfl (fun h6 V6 f6 M6 => ?_) -- 24
    refine hM_inc (k := 2) (z := 1) rfl e2 lq2 (by decide) (by omega) (by omega) (by decide +kernel) rfl (fun lv7 x7 q7 e7_2 u7 => ?_) -- 25
    have e7_0 := u7 0 _ (by decide) (Or.inl rfl) e0
    have e7_1 := u7 1 _ (by decide) (Or.inl rfl) e1
    refine hI_go (pc' := 2) (off := (-26)) rfl (by decide) ?_ -- 28
    exact g1 h6 V6 f6 x7 q7 lv7 M6 e7_0 e7_1 e7_2 c5 a5 b5
theorem l_hand {v : Nat} {V0 : Nat → Nat → Int} (hv : v ≤ 40) (hw : d_sub [(61, 1001)] W = true) (g : ∀ (h' : MH) (V' : Nat → Nat → Int), MX 49 W ρ m A h0 h' F V' G → (∀ r, r < 6 → V' 24 r = V0 36 (6 * v + r)) → (∀ K, K ≠ 24 → V' K = V0 K) → Q none h') : ∀ (d r : Nat) (lv : List (Nat × Value)) (h : MH) (V : Nat → Nat → Int) (xv xr : Int32), r + d = 6 → MX 49 W ρ m A h0 h F V G → xv.toInt = (v : Int) → xr.toInt = (r : Int) → (∀ k, k < r → V 24 k = V0 36 (6 * v + k)) → (∀ K, K ≠ 24 → V K = V0 K) → m_lk lv 0 = some (.ref m) → m_lk lv 1 = some (.int xv) → m_lk lv 2 = some (.int xr) → HJ 208 2 lv [] h Q := by
  intro d
  induction d with
  | zero =>
    intro r lv h V xv xr hd M hx hr k1 k2 e0 e1 e2
    have r6 : r = 6 := by omega
    subst r6
    exact s_hand M e0 e1 hx e2 hr (by omega) (by omega) (by omega) hw (fun _ => g h V M k1 k2) (fun h6 V6 f6 x7 q7 lv7 M6 e7_0 e7_1 e7_2 c5 a5 b5 => by omega)
  | succ d ih =>
    intro r lv h V xv xr hd M hx hr k1 k2 e0 e1 e2
    refine s_hand M e0 e1 hx e2 hr (by omega) (by omega) (by omega) hw (fun _ => by omega) (fun h6 V6 f6 x7 q7 lv7 M6 e7_0 e7_1 e7_2 c5 a5 b5 => ?_)
    rw [show (6 * (v : Int) + (r : Int)).toNat = 6 * v + r by omega, Int.toNat_natCast] at f6
    refine ih (r + 1) lv7 h6 V6 xv x7 (by omega) M6 hx (by omega) (fun k hk => ?_) (fun K hK => by rw [f6, m_uN _ _ _ _ hK, k2 K hK]) e7_0 e7_1 e7_2
    rw [f6, m_uE]
    by_cases e : k = r
    · rw [e, m_uE, k2 36 (by decide)]
    · rw [m_uN _ _ _ _ e]
      exact k1 k (by omega)
theorem c_hand {v : Nat} {xv : Int32} (M : MX 49 W ρ m A h0 h F V G) (hx : xv.toInt = (v : Int)) (hv : v ≤ 40) (hw : d_sub [(61, 1001)] W = true) (g : ∀ (h' : MH) (V' : Nat → Nat → Int), MX 49 W ρ m A h0 h' F V' G → (∀ r, r < 6 → V' 24 r = V 36 (6 * v + r)) → (∀ K, K ≠ 24 → V' K = V K) → Q none h') : HJ 208 0 (lv_args 0 [.ref m, .int xv]) [] h Q := by
  refine s_hand0 M rfl rfl hx (fun x1 q1 lv2 e2_0 e2_1 e2_2 => ?_)
  exact l_hand hv hw g 6 0 lv2 h V xv x1 rfl M hx q1 (fun k hk => by omega) (fun _ _ => rfl) e2_0 e2_1 e2_2
theorem s_size0 (M : MX 49 W ρ m A h0 h F V G) (e0 : m_lk lv 0 = some (.ref m)) 
    (g0 : ∀ x1 : Int32, x1.toInt = 0 → ∀ x3 : Int32, x3.toInt = 0 → ∀ lv4 : List (Nat × Value), m_lk lv4 0 = some (.ref m) → m_lk lv4 1 = some (.int x1) → m_lk lv4 2 = some (.int x3) → HJ 214 4 lv4 [] h Q)
    : HJ 214 0 lv [] h Q := by
  refine hM_ic (n := 0) rfl (by decide) rfl (fun x1 q1 => ?_) -- 0
  refine hM_si (k := 1) rfl (by decide +kernel) rfl (fun lv2 e2_1 u2 => ?_) -- 1
  have e2_0 := u2 0 _ (by decide) (Or.inl rfl) e0
  refine hM_ic (n := 0) rfl (by decide) rfl (fun x3 q3 => ?_) -- 2
  refine hM_si (k := 2) rfl (by decide +kernel) rfl (fun lv4 e4_2 u4 => ?_) -- 3
  have e4_0 := u4 0 _ (by decide) (Or.inl rfl) e2_0
  have e4_1 := u4 1 _ (by decide) (Or.inl rfl) e2_1
  exact g0 x1 q1 x3 q3 lv4 e4_0 e4_1 e4_2
theorem s_size {n r : Int} (M : MX 49 W ρ m A h0 h F V G) (e0 : m_lk lv 0 = some (.ref m)) {lx1 : Int32} (e1 : m_lk lv 1 = some (.int lx1)) (lq1 : lx1.toInt = n) {lx2 : Int32} (e2 : m_lk lv 2 = some (.int lx2)) (lq2 : lx2.toInt = r) (r0 : 0 ≤ r) (n0 : 0 ≤ n) (n1 : n ≤ 1000) (t0 : 0 ≤ (2 : Int) ^ r.toNat) (t1 : (2 : Int) ^ r.toNat ≤ 64)
    (g0 : r ≥ 6 → Q (some (.int lx1)) h)
    (g1 : ∀ x6 : Int32, x6.toInt = n + ((2 : Int) ^ (r).toNat) → ∀ x8 : Int32, x8.toInt = r + 1 → ∀ lv8 : List (Nat × Value), m_lk lv8 0 = some (.ref m) → m_lk lv8 1 = some (.int x6) → m_lk lv8 2 = some (.int x8) → r < 6 → (-1) ≤ V 24 (r).toNat → V 24 (r).toNat ≤ 15999 → V 24 (r).toNat ≠ (-1) → HJ 214 4 lv8 [] h Q)
    (g2 : ∀ x10 : Int32, x10.toInt = n + 0 → ∀ x12 : Int32, x12.toInt = r + 1 → ∀ lv12 : List (Nat × Value), m_lk lv12 0 = some (.ref m) → m_lk lv12 1 = some (.int x10) → m_lk lv12 2 = some (.int x12) → r < 6 → (-1) ≤ V 24 (r).toNat → V 24 (r).toNat ≤ 15999 → V 24 (r).toNat = (-1) → HJ 214 4 lv12 [] h Q)
    : HJ 214 4 lv [] h Q := by
  refine hI_il (k := 2) rfl e2 rfl ?_ -- 4
  refine hM_bp (n := 6) rfl (by decide) rfl (fun x1 q1 => ?_) -- 5
  refine hM_cge (off := 29) (t := 36) rfl lq2 q1 (by decide) rfl (fun c7 => ?_) (fun c7 => ?_) -- 7
  · refine hI_il (k := 1) rfl e1 rfl ?_ -- 36
    refine hI_ri rfl rfl ?_ -- 37
    exact g0 c7
  · refine hI_il (k := 1) rfl e1 rfl ?_ -- 10
    refine hI_al (k := 0) rfl e0 rfl ?_ -- 11
    refine hM_ga M (by decide) rfl rfl (k := 24) (c := 9) rfl rfl rfl (by decide +kernel) rfl ?_ -- 12
    refine hI_il (k := 2) rfl e2 rfl ?_ -- 15
    refine hM_ia M (by decide) (K := 24) (R2 := 61) (L := 6) (H := 6) (lo := (-1)) (hi := 15999) rfl (by decide) rfl rfl (fun _ => rfl) rfl lq2 (by omega) (by omega) rfl (fun x2 q2 a2 b2 => ?_) -- 16
    refine hM_ic (n := (-1)) rfl (by decide) rfl (fun x3 q3 => ?_) -- 17
    refine hM_cne (off := 7) (t := 25) rfl q2 q3 (by decide) rfl (fun c18 => ?_) (fun c18 => ?_) -- 18
    · refine hM_ic (n := 1) rfl (by decide) rfl (fun x4 q4 => ?_) -- 25
      refine hI_il (k := 2) rfl e2 rfl ?_ -- 26
      refine hM_shl rfl q4 lq2 (by omega) (by omega) rfl (fun x5 q5 => ?_) -- 27
      refine hM_add rfl lq1 q5 (by omega) (by omega) rfl (fun x6 q6 => ?_) -- 28
      refine hM_si (k := 1) rfl (by decide +kernel) rfl (fun lv7 e7_1 u7 => ?_) -- 29
      have e7_0 := u7 0 _ (by decide) (Or.inl rfl) e0
      have e7_2 := u7 2 _ (by decide) (Or.inl rfl) e2
      refine hM_inc (k := 2) (z := 1) rfl e7_2 lq2 (by decide) (by omega) (by omega) (by decide +kernel) rfl (fun lv8 x8 q8 e8_2 u8 => ?_) -- 30
      have e8_0 := u8 0 _ (by decide) (Or.inl rfl) e7_0
      have e8_1 := u8 1 _ (by decide) (Or.inl rfl) e7_1
      refine hI_go (pc' := 4) (off := (-29)) rfl (by decide) ?_ -- 33
      exact g1 x6 q6 x8 q8 lv8 e8_0 e8_1 e8_2 c7 a2 b2 c18
    · refine hM_ic (n := 0) rfl (by decide) rfl (fun x9 q9 => ?_) -- 21
      refine hI_go (pc' := 28) (off := 6) rfl (by decide) ?_ -- 22
      refine hM_add rfl lq1 q9 (by omega) (by omega) rfl (fun x10 q10 => ?_) -- 28
      refine hM_si (k := 1) rfl (by decide +kernel) rfl (fun lv11 e11_1 u11 => ?_) -- 29
      have e11_0 := u11 0 _ (by decide) (Or.inl rfl) e0
      have e11_2 := u11 2 _ (by decide) (Or.inl rfl) e2
      refine hM_inc (k := 2) (z := 1) rfl e11_2 lq2 (by decide) (by omega) (by omega) (by decide +kernel) rfl (fun lv12 x12 q12 e12_2 u12 => ?_) -- 30
      have e12_0 := u12 0 _ (by decide) (Or.inl rfl) e11_0
      have e12_1 := u12 1 _ (by decide) (Or.inl rfl) e11_1
      refine hI_go (pc' := 4) (off := (-29)) rfl (by decide) ?_ -- 33
      exact g2 x10 q10 x12 q12 lv12 e12_0 e12_1 e12_2 c7 a2 b2 c18
theorem l_size (M : MX 49 W ρ m A h0 h F V G) (g : ∀ x : Int32, x.toInt = (p_ws (V 24) 6 : Int) → Q (some (.int x)) h) : ∀ (d r : Nat) (lv : List (Nat × Value)) (xn xr : Int32), r + d = 6 → xn.toInt = (p_ws (V 24) r : Int) → xr.toInt = (r : Int) → m_lk lv 0 = some (.ref m) → m_lk lv 1 = some (.int xn) → m_lk lv 2 = some (.int xr) → HJ 214 4 lv [] h Q := by
  intro d
  induction d with
  | zero =>
    intro r lv xn xr hd hn hr e0 e1 e2
    have r6 : r = 6 := by omega
    subst r6
    have b := p_wsL (f := V 24) 6
    exact s_size M e0 e1 hn e2 hr (by omega) (by omega) (by omega) (by decide) (by decide) (fun _ => g xn hn) (fun x6 q6 x8 q8 lv8 e8_0 e8_1 e8_2 c7 a2 b2 c18 => by omega) (fun x6 q6 x8 q8 lv8 e8_0 e8_1 e8_2 c7 a2 b2 c18 => by omega)
  | succ d ih =>
    intro r lv xn xr hd hn hr e0 e1 e2
    have b := p_wsL (f := V 24) r
    have b2 := n_2q (k := r) (by omega)
    have b3 := i_2q (k := r) (by omega)
    refine s_size M e0 e1 hn e2 hr (by omega) (by omega) (by omega) (by rw [Int.toNat_natCast]; omega) (by rw [Int.toNat_natCast]; omega) (fun _ => by omega) (fun x6 q6 x8 q8 lv8 e8_0 e8_1 e8_2 c7 a2 b2 c18 => ?_) (fun x6 q6 x8 q8 lv8 e8_0 e8_1 e8_2 c7 a2 b2 c18 => ?_)
    · rw [Int.toNat_natCast] at q6 c18
      refine ih (r + 1) lv8 x6 x8 (by omega) ?_ (by omega) e8_0 e8_1 e8_2
      rw [p_ws, y_tg1 c18]
      omega
    · rw [Int.toNat_natCast] at c18
      refine ih (r + 1) lv8 x6 x8 (by omega) ?_ (by omega) e8_0 e8_1 e8_2
      rw [p_ws, y_tg0 c18]
      omega
theorem c_size (M : MX 49 W ρ m A h0 h F V G) (g : ∀ x : Int32, x.toInt = (p_ws (V 24) 6 : Int) → Q (some (.int x)) h) : HJ 214 0 (lv_args 0 [.ref m]) [] h Q := by
  refine s_size0 M rfl (fun x1 q1 x3 q3 lv4 e4_0 e4_1 e4_2 => ?_)
  exact l_size M g 6 0 lv4 x1 x3 rfl q1 q3 e4_0 e4_1 e4_2
theorem s_least0 (M : MX 49 W ρ m A h0 h F V G) (e0 : m_lk lv 0 = some (.ref m)) 
    (g0 : ∀ x1 : Int32, x1.toInt = (-1) → ∀ x3 : Int32, x3.toInt = 0 → ∀ lv4 : List (Nat × Value), m_lk lv4 0 = some (.ref m) → m_lk lv4 1 = some (.int x1) → m_lk lv4 2 = some (.int x3) → HJ 217 4 lv4 [] h Q)
    : HJ 217 0 lv [] h Q := by
  refine hM_ic (n := (-1)) rfl (by decide) rfl (fun x1 q1 => ?_) -- 0
  refine hM_si (k := 1) rfl (by decide +kernel) rfl (fun lv2 e2_1 u2 => ?_) -- 1
  have e2_0 := u2 0 _ (by decide) (Or.inl rfl) e0
  refine hM_ic (n := 0) rfl (by decide) rfl (fun x3 q3 => ?_) -- 2
  refine hM_si (k := 2) rfl (by decide +kernel) rfl (fun lv4 e4_2 u4 => ?_) -- 3
  have e4_0 := u4 0 _ (by decide) (Or.inl rfl) e2_0
  have e4_1 := u4 1 _ (by decide) (Or.inl rfl) e2_1
  exact g0 x1 q1 x3 q3 lv4 e4_0 e4_1 e4_2
theorem s_least {b r : Int} (M : MX 49 W ρ m A h0 h F V G) (e0 : m_lk lv 0 = some (.ref m)) {lx1 : Int32} (e1 : m_lk lv 1 = some (.int lx1)) (lq1 : lx1.toInt = b) {lx2 : Int32} (e2 : m_lk lv 2 = some (.int lx2)) (lq2 : lx2.toInt = r) (r0 : 0 ≤ r) (b0 : -1 ≤ b) (b1 : b ≤ 5)
    (g0 : r ≥ 6 → Q (some (.int lx1)) h)
    (g1 : ∀ x5 : Int32, x5.toInt = r + 1 → ∀ lv5 : List (Nat × Value), m_lk lv5 0 = some (.ref m) → m_lk lv5 1 = some (.int lx1) → m_lk lv5 2 = some (.int x5) → r < 6 → (-1) ≤ V 24 (r).toNat → V 24 (r).toNat ≤ 15999 → V 24 (r).toNat = (-1) → HJ 217 4 lv5 [] h Q)
    (g2 : ∀ x8 : Int32, x8.toInt = r + 1 → ∀ lv8 : List (Nat × Value), m_lk lv8 0 = some (.ref m) → m_lk lv8 1 = some (.int lx2) → m_lk lv8 2 = some (.int x8) → r < 6 → (-1) ≤ V 24 (r).toNat → V 24 (r).toNat ≤ 15999 → V 24 (r).toNat ≠ (-1) → b = (-1) → HJ 217 4 lv8 [] h Q)
    (g3 : ∀ x9 : Int32, x9.toInt = V 24 (r).toNat → ∀ x10 : Int32, x10.toInt = V 24 (b).toNat → r < 6 → (-1) ≤ V 24 (r).toNat → V 24 (r).toNat ≤ 15999 → V 24 (r).toNat ≠ (-1) → b ≠ (-1) → (-1) ≤ V 24 (b).toNat → V 24 (b).toNat ≤ 15999 → HJ 211 0 (lv_args 0 [.ref m, .int x9, .int x10]) [] h (fun v h' => HJ 217 41 lv (v.toList ++ []) h' Q))
    : HJ 217 4 lv [] h Q := by
  refine hI_il (k := 2) rfl e2 rfl ?_ -- 4
  refine hM_bp (n := 6) rfl (by decide) rfl (fun x1 q1 => ?_) -- 5
  refine hM_cge (off := 49) (t := 56) rfl lq2 q1 (by decide) rfl (fun c7 => ?_) (fun c7 => ?_) -- 7
  · refine hI_il (k := 1) rfl e1 rfl ?_ -- 56
    refine hI_ri rfl rfl ?_ -- 57
    exact g0 c7
  · refine hI_al (k := 0) rfl e0 rfl ?_ -- 10
    refine hM_ga M (by decide) rfl rfl (k := 24) (c := 9) rfl rfl rfl (by decide +kernel) rfl ?_ -- 11
    refine hI_il (k := 2) rfl e2 rfl ?_ -- 14
    refine hM_ia M (by decide) (K := 24) (R2 := 61) (L := 6) (H := 6) (lo := (-1)) (hi := 15999) rfl (by decide) rfl rfl (fun _ => rfl) rfl lq2 (by omega) (by omega) rfl (fun x2 q2 a2 b2 => ?_) -- 15
    refine hM_ic (n := (-1)) rfl (by decide) rfl (fun x3 q3 => ?_) -- 16
    refine hM_ceq (off := 31) (t := 48) rfl q2 q3 (by decide) rfl (fun c17 => ?_) (fun c17 => ?_) -- 17
    · refine hI_il (k := 1) rfl e1 rfl ?_ -- 48
      refine hM_si (k := 1) rfl (by decide +kernel) rfl (fun lv4 e4_1 u4 => ?_) -- 49
      have e4_0 := u4 0 _ (by decide) (Or.inl rfl) e0
      have e4_2 := u4 2 _ (by decide) (Or.inl rfl) e2
      refine hM_inc (k := 2) (z := 1) rfl e4_2 lq2 (by decide) (by omega) (by omega) (by decide +kernel) rfl (fun lv5 x5 q5 e5_2 u5 => ?_) -- 50
      have e5_0 := u5 0 _ (by decide) (Or.inl rfl) e4_0
      have e5_1 := u5 1 _ (by decide) (Or.inl rfl) e4_1
      refine hI_go (pc' := 4) (off := (-49)) rfl (by decide) ?_ -- 53
      exact g1 x5 q5 lv5 e5_0 e5_1 e5_2 c7 a2 b2 c17
    · refine hI_il (k := 1) rfl e1 rfl ?_ -- 20
      refine hM_ic (n := (-1)) rfl (by decide) rfl (fun x6 q6 => ?_) -- 21
      refine hM_ceq (off := 22) (t := 44) rfl lq1 q6 (by decide) rfl (fun c22 => ?_) (fun c22 => ?_) -- 22
      · refine hI_il (k := 2) rfl e2 rfl ?_ -- 44
        refine hI_go (pc' := 49) (off := 4) rfl (by decide) ?_ -- 45
        refine hM_si (k := 1) rfl (by decide +kernel) rfl (fun lv7 e7_1 u7 => ?_) -- 49
        have e7_0 := u7 0 _ (by decide) (Or.inl rfl) e0
        have e7_2 := u7 2 _ (by decide) (Or.inl rfl) e2
        refine hM_inc (k := 2) (z := 1) rfl e7_2 lq2 (by decide) (by omega) (by omega) (by decide +kernel) rfl (fun lv8 x8 q8 e8_2 u8 => ?_) -- 50
        have e8_0 := u8 0 _ (by decide) (Or.inl rfl) e7_0
        have e8_1 := u8 1 _ (by decide) (Or.inl rfl) e7_1
        refine hI_go (pc' := 4) (off := (-49)) rfl (by decide) ?_ -- 53
        exact g2 x8 q8 lv8 e8_0 e8_1 e8_2 c7 a2 b2 c17 c22
      · refine hI_al (k := 0) rfl e0 rfl ?_ -- 25
        refine hI_al (k := 0) rfl e0 rfl ?_ -- 26
        refine hM_ga M (by decide) rfl rfl (k := 24) (c := 9) rfl rfl rfl (by decide +kernel) rfl ?_ -- 27
        refine hI_il (k := 2) rfl e2 rfl ?_ -- 30
        refine hM_ia M (by decide) (K := 24) (R2 := 61) (L := 6) (H := 6) (lo := (-1)) (hi := 15999) rfl (by decide) rfl rfl (fun _ => rfl) rfl lq2 (by omega) (by omega) rfl (fun x9 q9 a9 b9 => ?_) -- 31
        refine hI_al (k := 0) rfl e0 rfl ?_ -- 32
        refine hM_ga M (by decide) rfl rfl (k := 24) (c := 9) rfl rfl rfl (by decide +kernel) rfl ?_ -- 33
        refine hI_il (k := 1) rfl e1 rfl ?_ -- 36
        refine hM_ia M (by decide) (K := 24) (R2 := 61) (L := 6) (H := 6) (lo := (-1)) (hi := 15999) rfl (by decide) rfl rfl (fun _ => rfl) rfl lq1 (by omega) (by omega) rfl (fun x10 q10 a10 b10 => ?_) -- 37
        refine hM_iv M (by decide) rfl rfl (by decide) (as := [.int x9, .int x10]) (r := []) rfl rfl (by decide +kernel) rfl (by decide +kernel) rfl rfl rfl rfl rfl ?_ -- 38
        exact g3 x9 q9 x10 q10 c7 a2 b2 c17 c22 a10 b10
theorem s_least41 {b r z : Int} (M : MX 49 W ρ m A h0 h F V G) (e0 : m_lk lv 0 = some (.ref m)) {lx1 : Int32} (e1 : m_lk lv 1 = some (.int lx1)) (lq1 : lx1.toInt = b) {lx2 : Int32} (e2 : m_lk lv 2 = some (.int lx2)) (lq2 : lx2.toInt = r) {sx0 : Int32} (sq0 : sx0.toInt = z) (r0 : 0 ≤ r) (r1 : r ≤ 5)
    (g0 : ∀ x2 : Int32, x2.toInt = r + 1 → ∀ lv2 : List (Nat × Value), m_lk lv2 0 = some (.ref m) → m_lk lv2 1 = some (.int lx1) → m_lk lv2 2 = some (.int x2) → z = 0 → HJ 217 4 lv2 [] h Q)
    (g1 : ∀ x4 : Int32, x4.toInt = r + 1 → ∀ lv4 : List (Nat × Value), m_lk lv4 0 = some (.ref m) → m_lk lv4 1 = some (.int lx2) → m_lk lv4 2 = some (.int x4) → z ≠ 0 → HJ 217 4 lv4 [] h Q)
    : HJ 217 41 lv [.int sx0] h Q := by
  refine hM_zeq (off := 7) (t := 48) rfl sq0 (by decide) rfl (fun c41 => ?_) (fun c41 => ?_) -- 41
  · refine hI_il (k := 1) rfl e1 rfl ?_ -- 48
    refine hM_si (k := 1) rfl (by decide +kernel) rfl (fun lv1 e1_1 u1 => ?_) -- 49
    have e1_0 := u1 0 _ (by decide) (Or.inl rfl) e0
    have e1_2 := u1 2 _ (by decide) (Or.inl rfl) e2
    refine hM_inc (k := 2) (z := 1) rfl e1_2 lq2 (by decide) (by omega) (by omega) (by decide +kernel) rfl (fun lv2 x2 q2 e2_2 u2 => ?_) -- 50
    have e2_0 := u2 0 _ (by decide) (Or.inl rfl) e1_0
    have e2_1 := u2 1 _ (by decide) (Or.inl rfl) e1_1
    refine hI_go (pc' := 4) (off := (-49)) rfl (by decide) ?_ -- 53
    exact g0 x2 q2 lv2 e2_0 e2_1 e2_2 c41
  · refine hI_il (k := 2) rfl e2 rfl ?_ -- 44
    refine hI_go (pc' := 49) (off := 4) rfl (by decide) ?_ -- 45
    refine hM_si (k := 1) rfl (by decide +kernel) rfl (fun lv3 e3_1 u3 => ?_) -- 49
    have e3_0 := u3 0 _ (by decide) (Or.inl rfl) e0
    have e3_2 := u3 2 _ (by decide) (Or.inl rfl) e2
    refine hM_inc (k := 2) (z := 1) rfl e3_2 lq2 (by decide) (by omega) (by omega) (by decide +kernel) rfl (fun lv4 x4 q4 e4_2 u4 => ?_) -- 50
    have e4_0 := u4 0 _ (by decide) (Or.inl rfl) e3_0
    have e4_1 := u4 1 _ (by decide) (Or.inl rfl) e3_1
    refine hI_go (pc' := 4) (off := (-49)) rfl (by decide) ?_ -- 53
    exact g1 x4 q4 lv4 e4_0 e4_1 e4_2 c41
def g_lst (f : Nat → Int) (r : Nat) (b : Int) : Prop := (b = -1 ∧ ∀ k, k < r → f k = -1) ∨ (0 ≤ b ∧ b < r ∧ f b.toNat ≠ -1)
def g_lf (F : Nat → Int) (V : Nat → Nat → Int) (r : Nat) (b : Int) : Prop := ∀ S h, rs_of F V S → p_hp (F 17) (V 22) (V 24) → hp6 (V 24) h → b = pm_le S h r
theorem pm_leK {S : PSt} {h : Nat → Int} {r : Nat} (e : h r = -1 ∨ (pm_le S h r ≠ -1 ∧ ¬ ps_ls S (h r) (h (pm_le S h r).toNat))) : pm_le S h (r + 1) = pm_le S h r := by
  rw [pm_le, if_neg]
  intro z
  rcases e with e | ⟨e1, e2⟩
  · exact z.1 e
  · exact z.2.elim e1 e2
theorem pm_leT {S : PSt} {h : Nat → Int} {r : Nat} (e : h r ≠ -1) (f : pm_le S h r = -1 ∨ ps_ls S (h r) (h (pm_le S h r).toNat)) : pm_le S h (r + 1) = (r : Int) := by
  rw [pm_le, if_pos ⟨e, f⟩]
theorem l_least (M : MX 49 W ρ m A h0 h F V G) (g : ∀ x : Int32, g_lst (V 24) 6 x.toInt → g_lf F V 6 x.toInt → Q (some (.int x)) h) : ∀ (d r : Nat) (lv : List (Nat × Value)) (xb xr : Int32), r + d = 6 → g_lst (V 24) r xb.toInt → g_lf F V r xb.toInt → xr.toInt = (r : Int) → m_lk lv 0 = some (.ref m) → m_lk lv 1 = some (.int xb) → m_lk lv 2 = some (.int xr) → HJ 217 4 lv [] h Q := by
  intro d
  induction d with
  | zero =>
    intro r lv xb xr hd I J hr e0 e1 e2
    have r6 : r = 6 := by omega
    subst r6
    have bb : -1 ≤ xb.toInt ∧ xb.toInt ≤ 5 := by rcases I with z | z <;> omega
    exact s_least M e0 e1 rfl e2 hr (by omega) bb.1 bb.2 (fun _ => g xb I J) (fun x5 q5 lv5 e5_0 e5_1 e5_2 c7 a2 b2 c17 => by omega) (fun x8 q8 lv8 e8_0 e8_1 e8_2 c7 a2 b2 c17 c22 => by omega) (fun x9 q9 x10 q10 c7 a2 b2 c17 c22 a10 b10 => by omega)
  | succ d ih =>
    intro r lv xb xr hd I J hr e0 e1 e2
    have bb : -1 ≤ xb.toInt ∧ xb.toInt ≤ 5 := by rcases I with z | z <;> omega
    have keep : ∀ f : V 24 r = -1 ∨ xb.toInt ≠ -1, g_lst (V 24) (r + 1) xb.toInt := fun f => by
      rcases I with ⟨z1, z2⟩ | ⟨z1, z2, z3⟩
      · refine Or.inl ⟨z1, fun k hk => ?_⟩
        rcases f with f | f
        · by_cases e : k = r
          · rw [e, f]
          · exact z2 k (by omega)
        · exact absurd z1 f
      · exact Or.inr ⟨z1, by omega, z3⟩
    have take : V 24 r ≠ -1 → g_lst (V 24) (r + 1) (r : Int) := fun f => Or.inr ⟨by omega, by omega, by rw [Int.toNat_natCast]; exact f⟩
    have keepJ : (∀ S h, rs_of F V S → p_hp (F 17) (V 22) (V 24) → hp6 (V 24) h → h r = -1 ∨ (pm_le S h r ≠ -1 ∧ ¬ ps_ls S (h r) (h (pm_le S h r).toNat))) → g_lf F V (r + 1) xb.toInt := fun f S h a b c => by
      rw [pm_leK (f S h a b c)]
      exact J S h a b c
    have takeJ : (∀ S h, rs_of F V S → p_hp (F 17) (V 22) (V 24) → hp6 (V 24) h → h r ≠ -1 ∧ (pm_le S h r = -1 ∨ ps_ls S (h r) (h (pm_le S h r).toNat))) → g_lf F V (r + 1) (r : Int) := fun f S h a b c => by
      rw [pm_leT (f S h a b c).1 (f S h a b c).2]
    refine s_least M e0 e1 rfl e2 hr (by omega) bb.1 bb.2 (fun _ => by omega) (fun x5 q5 lv5 e5_0 e5_1 e5_2 c7 a2 b2 c17 => ?_) (fun x8 q8 lv8 e8_0 e8_1 e8_2 c7 a2 b2 c17 c22 => ?_) (fun x9 q9 x10 q10 c7 a2 b2 c17 c22 a10 b10 => ?_)
    · rw [Int.toNat_natCast] at c17
      exact ih (r + 1) lv5 xb x5 (by omega) (keep (Or.inl c17)) (keepJ (fun S h a b c => Or.inl (by rw [← c r (by omega)]; exact c17))) (by omega) e5_0 e5_1 e5_2
    · rw [Int.toNat_natCast] at c17
      exact ih (r + 1) lv8 xr x8 (by omega) (by rw [hr]; exact take c17) (by rw [hr]; exact takeJ (fun S h a b c => ⟨by rw [← c r (by omega)]; exact c17, Or.inl ((J S h a b c).symm.trans c22)⟩)) (by omega) e8_0 e8_1 e8_2
    · rw [Int.toNat_natCast] at c17 a2 b2
      rw [Int.toNat_natCast] at q9
      have nb : V 24 xb.toInt.toNat ≠ -1 := by
        rcases I with ⟨z1, z2⟩ | ⟨z1, z2, z3⟩
        · exact absurd z1 c22
        · exact z3
      refine c_less M q9 q10 (by omega) (by omega) (by omega) (by omega) (fun z z0 z1 zz => ?_)
      have ls : ∀ S h, rs_of F V S → p_hp (F 17) (V 22) (V 24) → hp6 (V 24) h → (y_ls V (V 24 r) (V 24 xb.toInt.toNat) ↔ ps_ls S (h r) (h (pm_le S h r).toNat)) ∧ pm_le S h r ≠ -1 ∧ h r ≠ -1 := fun S h a b c => by
        have j := J S h a b c
        have k1 := (b r (by omega)).resolve_left c17
        have k2 := (b xb.toInt.toNat (by omega)).resolve_left nb
        rw [← j, ← c r (by omega), ← c xb.toInt.toNat (by omega)]
        exact ⟨rs_ls a k1.1 k1.2.1 k2.1 k2.2.1, c22, c17⟩
      exact s_least41 (z := z.toInt) M e0 e1 rfl e2 hr rfl (by omega) (by omega)
        (fun x2 q2 lv2 e2_0 e2_1 e2_2 c41 => ih (r + 1) lv2 xb x2 (by omega) (keep (Or.inr c22)) (keepJ (fun S h a b c => Or.inr ⟨(ls S h a b c).2.1, fun y => by
          rcases zz with ⟨q, -⟩ | ⟨-, q⟩
          · omega
          · exact q ((ls S h a b c).1.mpr y)⟩)) (by omega) e2_0 e2_1 e2_2)
        (fun x2 q2 lv2 e2_0 e2_1 e2_2 c41 => ih (r + 1) lv2 xr x2 (by omega) (by rw [hr]; exact take c17) (by
          rw [hr]
          refine takeJ (fun S h a b c => ⟨(ls S h a b c).2.2, Or.inr ?_⟩)
          rcases zz with ⟨-, q⟩ | ⟨q, -⟩
          · exact (ls S h a b c).1.mp q
          · exact absurd q c41) (by omega) e2_0 e2_1 e2_2)
theorem c_least (M : MX 49 W ρ m A h0 h F V G) (g : ∀ x : Int32, g_lst (V 24) 6 x.toInt → g_lf F V 6 x.toInt → Q (some (.int x)) h) : HJ 217 0 (lv_args 0 [.ref m]) [] h Q := by
  refine s_least0 M rfl (fun x1 q1 x3 q3 lv4 e4_0 e4_1 e4_2 => ?_)
  exact l_least M g 6 0 lv4 x1 x3 rfl (Or.inl ⟨q1, fun k hk => by omega⟩) (fun _ _ _ _ _ => q1) q3 e4_0 e4_1 e4_2
-- meld, whole
theorem c_meld (M : MX 49 W ρ m A h0 h F V G) (hw : d_sub g_md W = true) (sh : p_sh (F 17) (V 22) (V 23)) (h1 : p_hp (F 17) (V 22) (V 24)) (h2 : p_hp (F 17) (V 22) (V 25)) (n0 : 0 ≤ F 17) (n1 : F 17 + 6 ≤ 16000) (g : ∀ (h' : MH) (F' : Nat → Int) (V' : Nat → Nat → Int) (c : Int), MX 49 W ρ m A h0 h' F' V' G → g_mi F V F' V' 6 c → (∀ S h s, rs_of F V S → hp6 (V 24) h → hp6 (V 25) s → rs_of F' V' (pm_md S h s).1 ∧ hp6 (V' 24) (pm_md S h s).2) → Q none h') : HJ 209 0 (lv_args 0 [.ref m]) [] h Q := by
  refine s_meld0 M rfl (fun x1 q1 x3 q3 lv4 e4_0 e4_1 e4_2 => ?_)
  exact l_meld hw n0 n1 h2 (fun h' F' V' c M' I J => g h' F' V' c M' I (fun S h s a1 a2 a3 => ⟨(J S h s a1 a2 a3).1, (J S h s a1 a2 a3).2.1⟩)) 6 0 (-1) lv4 h F V x1 x3 rfl M ⟨⟨sh, h1, Or.inl rfl⟩, ⟨Int.le_refl _, by omega⟩, fun _ _ _ => rfl, fun _ _ => rfl, fun _ _ _ _ _ _ => rfl, fun _ _ => rfl, rfl, fun _ _ => rfl⟩ (fun S h s a1 a2 _ => ⟨a1, a2, rfl⟩) q1 q3 e4_0 e4_1 e4_2
-- what an act leaves
def g_ex (F0 : Nat → Int) (V0 : Nat → Nat → Int) (F : Nat → Int) (V : Nat → Nat → Int) (k : Int) : Prop := (p_sh (F 17) (V 22) (V 23) ∧ p_hp (F 17) (V 22) (V 24)) ∧ (F0 17 ≤ F 17 ∧ F 17 ≤ F0 17 + k) ∧ (∀ K, K ≠ 17 → K ≠ 18 → K ≠ 19 → K ≠ 26 → F K = F0 K) ∧ (∀ v : Nat, (v : Int) < F0 17 → V 22 v = V0 22 v) ∧ (∀ K, K < 20 ∨ 34 < K → V K = V0 K)
theorem g_exR {F : Nat → Int} {V : Nat → Nat → Int} {k : Int} (k0 : 0 ≤ k) (sh : p_sh (F 17) (V 22) (V 23)) (hp : p_hp (F 17) (V 22) (V 24)) : g_ex F V F V k := ⟨⟨sh, hp⟩, ⟨Int.le_refl _, by omega⟩, fun _ _ _ _ _ => rfl, fun _ _ => rfl, fun _ _ => rfl⟩
theorem g_exT {F0 F1 F : Nat → Int} {V0 V1 V : Nat → Nat → Int} {k k2 : Int} (a : g_ex F0 V0 F1 V1 k) (b : g_ex F1 V1 F V k2) : g_ex F0 V0 F V (k + k2) := by
  obtain ⟨a1, ⟨a2, a3⟩, a4, a5, a6⟩ := a
  obtain ⟨b1, ⟨b2, b3⟩, b4, b5, b6⟩ := b
  exact ⟨b1, ⟨by omega, by omega⟩, fun K k1 k2 k3 k4 => (b4 K k1 k2 k3 k4).trans (a4 K k1 k2 k3 k4), fun v hv => (b5 v (by omega)).trans (a5 v hv), fun K hK => (b6 K hK).trans (a6 K hK)⟩
theorem s_puts0 {k : Int} (M : MX 49 W ρ m A h0 h F V G) (e0 : m_lk lv 0 = some (.ref m)) {lx1 : Int32} (e1 : m_lk lv 1 = some (.int lx1)) (lq1 : lx1.toInt = k) 
    (g0 : HJ 214 0 (lv_args 0 [.ref m]) [] h (fun v h' => HJ 213 4 lv (v.toList ++ []) h' Q))
    : HJ 213 0 lv [] h Q := by
  refine hI_al (k := 0) rfl e0 rfl ?_ -- 0
  refine hM_iv M (by decide) rfl rfl (by decide) (as := []) (r := []) rfl rfl (by decide +kernel) rfl (by decide +kernel) rfl rfl rfl rfl rfl ?_ -- 1
  exact g0 
theorem s_puts4 {k n : Int} (M : MX 49 W ρ m A h0 h F V G) (e0 : m_lk lv 0 = some (.ref m)) {lx1 : Int32} (e1 : m_lk lv 1 = some (.int lx1)) (lq1 : lx1.toInt = k) {sx0 : Int32} (sq0 : sx0.toInt = n) 
    (g0 : n ≠ 63 → HJ 215 0 (lv_args 0 [.ref m]) [] h (fun v h' => HJ 213 15 lv (v.toList ++ []) h' Q))
    (g1 : ∀ x2 : Int32, x2.toInt = 0 → n = 63 → Q (some (.int x2)) h)
    : HJ 213 4 lv [.int sx0] h Q := by
  refine hM_bp (n := 63) rfl (by decide) rfl (fun x1 q1 => ?_) -- 4
  refine hM_cne (off := 5) (t := 11) rfl sq0 q1 (by decide) rfl (fun c6 => ?_) (fun c6 => ?_) -- 6
  · refine hI_al (k := 0) rfl e0 rfl ?_ -- 11
    refine hM_iv M (by decide) rfl rfl (by decide) (as := []) (r := []) rfl rfl (by decide +kernel) rfl (by decide +kernel) rfl rfl rfl rfl rfl ?_ -- 12
    exact g0 c6
  · refine hM_ic (n := 0) rfl (by decide) rfl (fun x2 q2 => ?_) -- 9
    refine hM_rb rfl rfl q2 (by omega) (by omega) ?_ -- 10
    exact g1 x2 q2 c6
theorem s_puts15 {k : Int} (M : MX 49 W ρ m A h0 h F V G) (e0 : m_lk lv 0 = some (.ref m)) {lx1 : Int32} (e1 : m_lk lv 1 = some (.int lx1)) (lq1 : lx1.toInt = k) 
    (g0 : ∀ x1 : Int32, x1.toInt = 0 → ∀ x2 : Int32, x2.toInt = F 18 → ∀ x3 : Int32, x3.toInt = 0 → (-2147483648) ≤ F 18 → F 18 ≤ 2147483647 → HJ 212 0 (lv_args 0 [.ref m, .int x2, .int lx1, .int x3]) [] h (fun v h' => HJ 213 30 lv (v.toList ++ [.int x1, .ref (A 25)]) h' Q))
    : HJ 213 15 lv [] h Q := by
  refine hI_al (k := 0) rfl e0 rfl ?_ -- 15
  refine hM_ga M (by decide) rfl rfl (k := 25) (c := 9) rfl rfl rfl (by decide +kernel) rfl ?_ -- 16
  refine hM_ic (n := 0) rfl (by decide) rfl (fun x1 q1 => ?_) -- 19
  refine hI_al (k := 0) rfl e0 rfl ?_ -- 20
  refine hI_al (k := 0) rfl e0 rfl ?_ -- 21
  refine hM_gi M (by decide) rfl rfl rfl (k := 18) (c := 9) (lo := (-2147483648)) (hi := 2147483647) rfl rfl rfl rfl rfl (fun x2 q2 a2 b2 => ?_) -- 22
  refine hI_il (k := 1) rfl e1 rfl ?_ -- 25
  refine hM_ic (n := 0) rfl (by decide) rfl (fun x3 q3 => ?_) -- 26
  refine hM_iv M (by decide) rfl rfl (by decide) (as := [.int x2, .int lx1, .int x3]) (r := [.int x1, .ref (A 25)]) rfl rfl (by decide +kernel) rfl (by decide +kernel) rfl rfl rfl rfl rfl ?_ -- 27
  exact g0 x1 q1 x2 q2 x3 q3 a2 b2
theorem s_puts30 {z n : Int} (M : MX 49 W ρ m A h0 h F V G) (e0 : m_lk lv 0 = some (.ref m)) {sx1 : Int32} (sq1 : sx1.toInt = z) {sx2 : Int32} (sq2 : sx2.toInt = n) (z0 : z = 0) (n0 : 0 ≤ n) (n1 : n ≤ 15999)(hw : d_sub [(62, 1001), (49, 18)] W = true)
    (g0 : ∀ h1 : MH, ∀ V1 : Nat → Nat → Int, V1 = m_u V 25 (m_u (V 25) (z).toNat (n)) → ∀ z4 : Int, -2147483648 ≤ z4 → z4 ≤ 2147483647 → (-2147483648 ≤ F 18 + 1 → F 18 + 1 ≤ 2147483647 → z4 = F 18 + 1) → ∀ h5 : MH, ∀ F5 : Nat → Int, F5 = m_u F 18 (z4) → MX 49 W ρ m A h0 h5 F5 V1 G → (-2147483648) ≤ F 18 → F 18 ≤ 2147483647 → HJ 209 0 (lv_args 0 [.ref m]) [] h5 (fun v h' => HJ 213 45 lv (v.toList ++ []) h' Q))
    : HJ 213 30 lv [.int sx2, .int sx1, .ref (A 25)] h Q := by
  refine hM_is M (by decide) ok_49 (K := 25) (R2 := 62) (L := 6) (H := 6) (lo := (-1)) (hi := 15999) rfl (by decide) rfl rfl rfl (fun _ => rfl) (d_subm hw (by decide +kernel)) rfl sq1 sq2 (by omega) (by omega) (by omega) (by omega) rfl (fun h1 V1 f1 M1 => ?_) -- 30
  refine hI_al (k := 0) rfl e0 rfl ?_ -- 31
  refine hI_dup rfl rfl rfl ?_ -- 32
  refine hM_gi M1 (by decide) rfl rfl rfl (k := 18) (c := 9) (lo := (-2147483648)) (hi := 2147483647) rfl rfl rfl rfl rfl (fun x2 q2 a2 b2 => ?_) -- 33
  refine hM_ic (n := 1) rfl (by decide) rfl (fun x3 q3 => ?_) -- 36
  refine hM_addx rfl q2 q3 rfl (fun x4 z4 q4 a4 b4 c4 => ?_) -- 37
  refine hM_pi M1 (by decide) ok_49 rfl rfl (k := 18) (c := 9) (lo := (-2147483648)) (hi := 2147483647) rfl rfl ⟨by decide, by decide +kernel, rfl⟩ rfl (d_subm hw (by decide +kernel)) q4 (by omega) (by omega) rfl (fun h5 F5 f5 M5 => ?_) -- 38
  refine hI_al (k := 0) rfl e0 rfl ?_ -- 41
  refine hM_iv M5 (by decide) rfl rfl (by decide) (as := []) (r := []) rfl rfl (by decide +kernel) rfl (by decide +kernel) rfl rfl rfl rfl rfl ?_ -- 42
  exact g0 h1 V1 f1 z4 a4 b4 c4 h5 F5 f5 M5 a2 b2
theorem s_puts45 (M : MX 49 W ρ m A h0 h F V G)  
    (g0 : ∀ x1 : Int32, x1.toInt = 1 → Q (some (.int x1)) h)
    : HJ 213 45 lv [] h Q := by
  refine hM_ic (n := 1) rfl (by decide) rfl (fun x1 q1 => ?_) -- 45
  refine hM_rb rfl rfl q1 (by omega) (by omega) ?_ -- 46
  exact g0 x1 q1
theorem rs_mk {F F2 : Nat → Int} {V V2 : Nat → Nat → Int} {S : PSt} {t y : Int} {f : Nat → Int} (I : rs_of F V S) (sh : p_sh (F 17) (V 22) (V 23)) (t0 : 0 ≤ t) (t1 : t ≤ 127) (y0 : 0 ≤ y) (y1 : y ≤ 99) (f17 : F2 17 = F 17 + 1) (f19 : F2 19 = F 19) (v20 : V2 20 = m_u (V 20) (F 17).toNat t) (v21 : V2 21 = m_u (V 21) (F 17).toNat y) (v22 : V2 22 = m_u (V 22) (F 17).toNat 0) (v23 : V2 23 = V 23) : rs_of F2 V2 (ps_mk S t y 0 f) := by
  obtain ⟨i1, i2, i3, i4⟩ := I
  have en : (F 17).toNat = ps_n S := by omega
  rw [en] at v20 v21 v22
  obtain ⟨n1, n2, n3, n4, n5⟩ := ps_mkN (S := S) (t := t) (y := y) (k := 0) (f := f)
  unfold rs_of
  rw [n1, n2, n3, n4, n5]
  refine ⟨by omega, by omega, ⟨by omega, by omega⟩, fun v hv => ?_⟩
  by_cases e : v = ps_n S
  · rw [e, v20, v21, v22, m_uE, m_uE, m_uE, m_uE, m_uE, m_uE]
    exact ⟨rfl, ⟨t0, t1⟩, rfl, ⟨y0, y1⟩, rfl, fun q hq => by omega⟩
  · obtain ⟨a1, a2, a3, a4, a5, a6⟩ := i4 v (by omega)
    rw [v20, v21, v22, v23, m_uN _ _ _ _ e, m_uN _ _ _ _ e, m_uN _ _ _ _ e, m_uN _ _ _ _ e, m_uN _ _ _ _ e, m_uN _ _ _ _ e]
    refine ⟨a1, a2, a3, a4, a5, fun q hq => ?_⟩
    have := (sh v (by omega)).1
    rw [ps_mkB (by omega)]
    exact a6 q hq
def g_pt : List (Nat × Nat) := g_md ++ [(62, 1001), (49, 18)]
theorem c_puts {k : Int} {xk : Int32} (M : MX 49 W ρ m A h0 h F V G) (b0_ : m_lk lv 0 = some (.ref m)) (b1_ : m_lk lv 1 = some (.int xk)) (hw : d_sub g_pt W = true) (hk : xk.toInt = k) (sh : p_sh (F 17) (V 22) (V 23)) (h1 : p_hp (F 17) (V 22) (V 24)) (n0 : 0 ≤ F 17) (n1 : F 17 + 7 ≤ 16000) (g : ∀ (x : Int32) (h' : MH) (F' : Nat → Int) (V' : Nat → Nat → Int), 0 ≤ x.toInt → x.toInt ≤ 1 → MX 49 W ρ m A h0 h' F' V' G → g_ex F V F' V' 7 → (∀ S h, rs_of F V S → hp6 (V 24) h → 0 ≤ F 18 → F 18 ≤ 127 → 0 ≤ k → k ≤ 99 → (x.toInt = 1 ∧ p_ws h 6 ≠ 63 ∧ F' 18 = F 18 + 1 ∧ rs_of F' V' (pm_pu S h (F 18) k).1 ∧ hp6 (V' 24) (pm_pu S h (F 18) k).2) ∨ (x.toInt = 0 ∧ p_ws h 6 = 63 ∧ F' = F ∧ V' = V)) → Q (some (.int x)) h') : HJ 213 0 lv [] h Q := by
  have w1 : d_sub [(62, 1001)] W = true := d_subm hw (by decide +kernel)
  have w2 : d_sub g_mk W = true := d_subm hw (by decide +kernel)
  have w3 : d_sub g_md W = true := d_subm hw (by decide +kernel)
  have w4 : d_sub [(62, 1001), (49, 18)] W = true := d_subm hw (by decide +kernel)
  refine s_puts0 M b0_ b1_ hk (c_size M (fun n hn => ?_))
  refine s_puts4 M b0_ b1_ hk hn (fun c9 => ?_) (fun x2 q2 c9 => g x2 h F V (by omega) (by omega) M (g_exR (by omega) sh h1) (fun S h' _ e _ _ _ _ => Or.inr ⟨q2, by rw [← p_wsC (f := h') (r := 6) (fun j hj => e j hj)]; omega, rfl, rfl⟩))
  refine c_clear M w1 (fun h2 V2 M2 k1 k2 => ?_)
  refine s_puts15 M2 b0_ b1_ hk (fun x1 q1 x2 q2 x3 q3 a2 b2 => ?_)
  refine c_make M2 w2 q2 hk q3 n0 (by omega) (by omega) (by omega) (fun x h3 F3 V3 hx M3 f3 v3 o3 v20 v21 => ?_)
  refine s_puts30 M3 b0_ q1 hx rfl n0 (by omega) w4 (fun h4 V4 f4 z4 a4 b4 c4 h5 F5 f5 M5 a2 b2 => ?_)
  have f17 : F5 17 = F 17 + 1 := by
    rw [f5, m_uN _ _ _ _ (by decide), f3, m_uE]
  have v22 : V4 22 = m_u (V 22) (F 17).toNat 0 := by rw [f4, m_uN _ _ _ _ (by decide), v3, k2 22 (by decide)]
  have v23 : V4 23 = V 23 := by rw [f4, m_uN _ _ _ _ (by decide), o3 23 (by decide) (by decide) (by decide), k2 23 (by decide)]
  have v24 : V4 24 = V 24 := by rw [f4, m_uN _ _ _ _ (by decide), o3 24 (by decide) (by decide) (by decide), k2 24 (by decide)]
  have v25 : V4 25 = m_u (V2 25) 0 (F 17) := by rw [f4, m_uE, o3 25 (by decide) (by decide) (by decide)]; rfl
  have up : ∀ v : Nat, (v : Int) < F 17 → V4 22 v = V 22 v := fun v hv => by rw [v22, m_uN _ _ _ _ (by omega)]
  have sh4 : p_sh (F5 17) (V4 22) (V4 23) := by
    intro v hv
    rw [f17] at hv
    by_cases e : (v : Int) < F 17
    · obtain ⟨s1, s2⟩ := sh v e
      rw [up v e, v23]
      refine ⟨s1, fun r hr => ?_⟩
      obtain ⟨t1, t2, t3⟩ := s2 r hr
      exact ⟨t1, by omega, by rw [up _ (by omega)]; exact t3⟩
    · have ev : V4 22 v = 0 := by rw [v22, show v = (F 17).toNat by omega, m_uE]
      rw [ev]
      exact ⟨by omega, fun r hr => by omega⟩
  refine c_meld M5 w3 sh4 (by rw [v24]; exact p_hpU (by omega) up h1) (fun r h6 => ?_) (by omega) (by omega) (fun h6 F6 V6 c M6 I R => ?_)
  · rw [v25]
    by_cases e : r = 0
    · rw [e, m_uE]
      exact Or.inr ⟨n0, by omega, by rw [v22, m_uE]; rfl⟩
    · rw [m_uN _ _ _ _ e, k1 r h6]
      exact Or.inl rfl
  · obtain ⟨⟨i1, i2, i3⟩, ⟨i4, i5⟩, i6, i7, i8, i9, i10, i11⟩ := I
    refine s_puts45 M6 (fun x q => g x h6 F6 V6 (by omega) (by omega) M6 ⟨⟨i1, i2⟩, ⟨by omega, by omega⟩, fun K k1 k2 k3 k4 => ?_, fun v hv => (i7 v (by omega)).trans (up v hv), fun K hK => ?_⟩ (fun S hh a e t0 t1 y0 y1 => Or.inl ⟨q, fun z => c9 ?_, ?_, R _ hh _ ?_ ?_ ?_⟩))
    · rw [i6 K k1 k3, f5, m_uN _ _ _ _ k2, f3, m_uN _ _ _ _ k1]
    · rw [i8 K (by omega) (by omega) (by omega) (by omega) (by omega), f4, m_uN _ _ _ _ (by omega), o3 K (by omega) (by omega) (by omega), k2 K (by omega)]
    · rw [p_wsC (f := hh) (r := 6) (fun j hj => e j hj), z]
      rfl
    · have l18 : F3 18 = F 18 := by rw [f3, m_uN _ _ _ _ (by decide)]
      rw [i6 18 (by decide) (by decide), f5, m_uE, c4 (by omega) (by omega), l18]
    · refine rs_mk a sh t0 t1 y0 y1 f17 ?_ ?_ ?_ v22 v23
      · rw [f5, m_uN _ _ _ _ (by decide), f3, m_uN _ _ _ _ (by decide)]
      · rw [f4, m_uN _ _ _ _ (by decide), v20 (by omega) (by omega), k2 20 (by decide)]
      · rw [f4, m_uN _ _ _ _ (by decide), v21 (by omega) (by omega), k2 21 (by decide)]
    · rw [v24]
      exact e
    · rw [v25]
      intro r h6
      show m_u (V2 25) 0 (F 17) r = if r = 0 then (ps_n S : Int) else -1
      by_cases er : r = 0
      · rw [er, m_uE, if_pos rfl]
        exact a.1
      · rw [m_uN _ _ _ _ er, if_neg er]
        exact k1 r h6
theorem s_less0 (M : MX 49 W ρ m A h0 h F V G) (e0 : m_lk lv 0 = some (.ref m)) 
    (g0 : HJ 217 0 (lv_args 0 [.ref m]) [] h (fun v h' => HJ 216 4 lv (v.toList ++ []) h' Q))
    : HJ 216 0 lv [] h Q := by
  refine hI_al (k := 0) rfl e0 rfl ?_ -- 0
  refine hM_iv M (by decide) rfl rfl (by decide) (as := []) (r := []) rfl rfl (by decide +kernel) rfl (by decide +kernel) rfl rfl rfl rfl rfl ?_ -- 1
  exact g0 
theorem s_less4 {r : Int} (M : MX 49 W ρ m A h0 h F V G) (e0 : m_lk lv 0 = some (.ref m)) {sx0 : Int32} (sq0 : sx0.toInt = r) (r0 : -1 ≤ r) (r1 : r ≤ 5)(hw : d_sub [(61, 1001)] W = true)
    (g0 : ∀ x3 : Int32, x3.toInt = V 24 (r).toNat → ∀ h6 : MH, ∀ V6 : Nat → Nat → Int, V6 = m_u V 24 (m_u (V 24) (r).toNat ((-1))) → ∀ lv4 : List (Nat × Value), MX 49 W ρ m A h0 h6 F V6 G → m_lk lv4 0 = some (.ref m) → m_lk lv4 1 = some (.int sx0) → m_lk lv4 2 = some (.int x3) → r ≠ (-1) → (-1) ≤ V 24 (r).toNat → V 24 (r).toNat ≤ 15999 → HJ 215 0 (lv_args 0 [.ref m]) [] h6 (fun v h' => HJ 216 30 lv4 (v.toList ++ []) h' Q))
    (g1 : ∀ x7 : Int32, x7.toInt = 0 → ∀ lv1 : List (Nat × Value), r = (-1) → Q (some (.int x7)) h)
    : HJ 216 4 lv [.int sx0] h Q := by
  refine hM_si (k := 1) rfl (by decide +kernel) rfl (fun lv1 e1_1 u1 => ?_) -- 4
  have e1_0 := u1 0 _ (by decide) (Or.inl rfl) e0
  refine hI_il (k := 1) rfl e1_1 rfl ?_ -- 5
  refine hM_ic (n := (-1)) rfl (by decide) rfl (fun x2 q2 => ?_) -- 6
  refine hM_cne (off := 5) (t := 12) rfl sq0 q2 (by decide) rfl (fun c7 => ?_) (fun c7 => ?_) -- 7
  · refine hI_al (k := 0) rfl e1_0 rfl ?_ -- 12
    refine hM_ga M (by decide) rfl rfl (k := 24) (c := 9) rfl rfl rfl (by decide +kernel) rfl ?_ -- 13
    refine hI_il (k := 1) rfl e1_1 rfl ?_ -- 16
    refine hM_ia M (by decide) (K := 24) (R2 := 61) (L := 6) (H := 6) (lo := (-1)) (hi := 15999) rfl (by decide) rfl rfl (fun _ => rfl) rfl sq0 (by omega) (by omega) rfl (fun x3 q3 a3 b3 => ?_) -- 17
    refine hM_si (k := 2) rfl (by decide +kernel) rfl (fun lv4 e4_2 u4 => ?_) -- 18
    have e4_0 := u4 0 _ (by decide) (Or.inl rfl) e1_0
    have e4_1 := u4 1 _ (by decide) (Or.inl rfl) e1_1
    refine hI_al (k := 0) rfl e4_0 rfl ?_ -- 19
    refine hM_ga M (by decide) rfl rfl (k := 24) (c := 9) rfl rfl rfl (by decide +kernel) rfl ?_ -- 20
    refine hI_il (k := 1) rfl e4_1 rfl ?_ -- 23
    refine hM_ic (n := (-1)) rfl (by decide) rfl (fun x5 q5 => ?_) -- 24
    refine hM_is M (by decide) ok_49 (K := 24) (R2 := 61) (L := 6) (H := 6) (lo := (-1)) (hi := 15999) rfl (by decide) rfl rfl rfl (fun _ => rfl) (d_subm hw (by decide +kernel)) rfl sq0 q5 (by omega) (by omega) (by omega) (by omega) rfl (fun h6 V6 f6 M6 => ?_) -- 25
    refine hI_al (k := 0) rfl e4_0 rfl ?_ -- 26
    refine hM_iv M6 (by decide) rfl rfl (by decide) (as := []) (r := []) rfl rfl (by decide +kernel) rfl (by decide +kernel) rfl rfl rfl rfl rfl ?_ -- 27
    exact g0 x3 q3 h6 V6 f6 lv4 M6 e4_0 e4_1 e4_2 c7 a3 b3
  · refine hM_ic (n := 0) rfl (by decide) rfl (fun x7 q7 => ?_) -- 10
    refine hM_rb rfl rfl q7 (by omega) (by omega) ?_ -- 11
    exact g1 x7 q7 lv1 c7
theorem s_less30 {r t : Int} (M : MX 49 W ρ m A h0 h F V G) (e0 : m_lk lv 0 = some (.ref m)) {lx1 : Int32} (e1 : m_lk lv 1 = some (.int lx1)) (lq1 : lx1.toInt = r) {lx2 : Int32} (e2 : m_lk lv 2 = some (.int lx2)) (lq2 : lx2.toInt = t) 
    (g0 : ∀ x1 : Int32, x1.toInt = 0 → ∀ lv2 : List (Nat × Value), m_lk lv2 0 = some (.ref m) → m_lk lv2 1 = some (.int lx1) → m_lk lv2 2 = some (.int lx2) → m_lk lv2 3 = some (.int x1) → HJ 216 32 lv2 [] h Q)
    : HJ 216 30 lv [] h Q := by
  refine hM_ic (n := 0) rfl (by decide) rfl (fun x1 q1 => ?_) -- 30
  refine hM_si (k := 3) rfl (by decide +kernel) rfl (fun lv2 e2_3 u2 => ?_) -- 31
  have e2_0 := u2 0 _ (by decide) (Or.inl rfl) e0
  have e2_1 := u2 1 _ (by decide) (Or.inl rfl) e1
  have e2_2 := u2 2 _ (by decide) (Or.inl rfl) e2
  exact g0 x1 q1 lv2 e2_0 e2_1 e2_2 e2_3
theorem s_less32 {r t i : Int} (M : MX 49 W ρ m A h0 h F V G) (e0 : m_lk lv 0 = some (.ref m)) {lx1 : Int32} (e1 : m_lk lv 1 = some (.int lx1)) (lq1 : lx1.toInt = r) {lx2 : Int32} (e2 : m_lk lv 2 = some (.int lx2)) (lq2 : lx2.toInt = t) {lx3 : Int32} (e3 : m_lk lv 3 = some (.int lx3)) (lq3 : lx3.toInt = i) (i0 : 0 ≤ i) (r1 : r ≤ 5) (t0 : 0 ≤ t) (t1 : t < 16000) (b0 : i < r → 0 ≤ V 23 (6 * t + i).toNat ∧ V 23 (6 * t + i).toNat ≤ 15999)(hw : d_sub [(62, 1001)] W = true)
    (g0 : i ≥ r → HJ 209 0 (lv_args 0 [.ref m]) [] h (fun v h' => HJ 216 64 lv (v.toList ++ []) h' Q))
    (g1 : ∀ h5 : MH, ∀ V5 : Nat → Nat → Int, V5 = m_u V 25 (m_u (V 25) (i).toNat (V 23 ((6 * t) + i).toNat)) → ∀ x6 : Int32, x6.toInt = i + 1 → ∀ lv6 : List (Nat × Value), MX 49 W ρ m A h0 h5 F V5 G → m_lk lv6 0 = some (.ref m) → m_lk lv6 1 = some (.int lx1) → m_lk lv6 2 = some (.int lx2) → m_lk lv6 3 = some (.int x6) → i < r → HJ 216 32 lv6 [] h5 Q)
    : HJ 216 32 lv [] h Q := by
  refine hI_il (k := 3) rfl e3 rfl ?_ -- 32
  refine hI_il (k := 1) rfl e1 rfl ?_ -- 33
  refine hM_cge (off := 26) (t := 60) rfl lq3 lq1 (by decide) rfl (fun c34 => ?_) (fun c34 => ?_) -- 34
  · refine hI_al (k := 0) rfl e0 rfl ?_ -- 60
    refine hM_iv M (by decide) rfl rfl (by decide) (as := []) (r := []) rfl rfl (by decide +kernel) rfl (by decide +kernel) rfl rfl rfl rfl rfl ?_ -- 61
    exact g0 c34
  · refine hI_al (k := 0) rfl e0 rfl ?_ -- 37
    refine hM_ga M (by decide) rfl rfl (k := 25) (c := 9) rfl rfl rfl (by decide +kernel) rfl ?_ -- 38
    refine hI_il (k := 3) rfl e3 rfl ?_ -- 41
    refine hI_al (k := 0) rfl e0 rfl ?_ -- 42
    refine hM_ga M (by decide) rfl rfl (k := 23) (c := 9) rfl rfl rfl (by decide +kernel) rfl ?_ -- 43
    refine hM_bp (n := 6) rfl (by decide) rfl (fun x1 q1 => ?_) -- 46
    refine hI_il (k := 2) rfl e2 rfl ?_ -- 48
    refine hM_mul rfl q1 lq2 (by omega) (by omega) rfl (fun x2 q2 => ?_) -- 49
    refine hI_il (k := 3) rfl e3 rfl ?_ -- 50
    refine hM_add rfl q2 lq3 (by omega) (by omega) rfl (fun x3 q3 => ?_) -- 51
    refine hM_ia M (by decide) (K := 23) (R2 := 60) (L := 96000) (H := 96000) (lo := (-2147483648)) (hi := 2147483647) rfl (by decide) rfl rfl (fun _ => rfl) rfl q3 (by omega) (by omega) rfl (fun x4 q4 a4 b4 => ?_) -- 52
    refine hM_is M (by decide) ok_49 (K := 25) (R2 := 62) (L := 6) (H := 6) (lo := (-1)) (hi := 15999) rfl (by decide) rfl rfl rfl (fun _ => rfl) (d_subm hw (by decide +kernel)) rfl lq3 q4 (by omega) (by omega) (by omega) (by omega) rfl (fun h5 V5 f5 M5 => ?_) -- 53
    refine hM_inc (k := 3) (z := 1) rfl e3 lq3 (by decide) (by omega) (by omega) (by decide +kernel) rfl (fun lv6 x6 q6 e6_3 u6 => ?_) -- 54
    have e6_0 := u6 0 _ (by decide) (Or.inl rfl) e0
    have e6_1 := u6 1 _ (by decide) (Or.inl rfl) e1
    have e6_2 := u6 2 _ (by decide) (Or.inl rfl) e2
    refine hI_go (pc' := 32) (off := (-25)) rfl (by decide) ?_ -- 57
    exact g1 h5 V5 f5 x6 q6 lv6 M5 e6_0 e6_1 e6_2 e6_3 c34
theorem s_less64 (M : MX 49 W ρ m A h0 h F V G)  
    (g0 : ∀ x1 : Int32, x1.toInt = 1 → Q (some (.int x1)) h)
    : HJ 216 64 lv [] h Q := by
  refine hM_ic (n := 1) rfl (by decide) rfl (fun x1 q1 => ?_) -- 64
  refine hM_rb rfl rfl q1 (by omega) (by omega) ?_ -- 65
  exact g0 x1 q1
def g_ls : List (Nat × Nat) := g_md ++ [(62, 1001)]
theorem l_lessens {r t : Nat} {V0 : Nat → Nat → Int} (hr : r ≤ 5) (ht : t < 16000) (hw : d_sub [(62, 1001)] W = true) (hb : ∀ i : Nat, i < r → 0 ≤ V0 23 (6 * t + i) ∧ V0 23 (6 * t + i) ≤ 15999) (g : ∀ (h' : MH) (V' : Nat → Nat → Int) (lv : List (Nat × Value)), MX 49 W ρ m A h0 h' F V' G → (∀ i, i < r → V' 25 i = V0 23 (6 * t + i)) → (∀ i, r ≤ i → i < 6 → V' 25 i = -1) → (∀ K, K ≠ 25 → V' K = V0 K) → HJ 209 0 (lv_args 0 [.ref m]) [] h' (fun v h' => HJ 216 64 lv (v.toList ++ []) h' Q)) : ∀ (d i : Nat) (lv : List (Nat × Value)) (h : MH) (V : Nat → Nat → Int) (xr xt xi : Int32), i + d = r → MX 49 W ρ m A h0 h F V G → xr.toInt = (r : Int) → xt.toInt = (t : Int) → xi.toInt = (i : Int) → (∀ k, k < i → V 25 k = V0 23 (6 * t + k)) → (∀ k, i ≤ k → k < 6 → V 25 k = -1) → (∀ K, K ≠ 25 → V K = V0 K) → m_lk lv 0 = some (.ref m) → m_lk lv 1 = some (.int xr) → m_lk lv 2 = some (.int xt) → m_lk lv 3 = some (.int xi) → HJ 216 32 lv [] h Q := by
  intro d
  induction d with
  | zero =>
    intro i lv h V xr xt xi hd M qr qt qi k1 k2 k3 e0 e1 e2 e3
    have ir : i = r := by omega
    subst ir
    exact s_less32 M e0 e1 qr e2 qt e3 qi (by omega) (by omega) (by omega) (by omega) (fun z => by omega) hw (fun _ => g h V lv M k1 k2 k3) (fun h5 V5 f5 x6 q6 lv6 M5 e6_0 e6_1 e6_2 e6_3 c34 => by omega)
  | succ d ih =>
    intro i lv h V xr xt xi hd M qr qt qi k1 k2 k3 e0 e1 e2 e3
    have eN : (6 * (t : Int) + (i : Int)).toNat = 6 * t + i := by omega
    refine s_less32 M e0 e1 qr e2 qt e3 qi (by omega) (by omega) (by omega) (by omega) (fun z => ?_) hw (fun _ => by omega) (fun h5 V5 f5 x6 q6 lv6 M5 e6_0 e6_1 e6_2 e6_3 c34 => ?_)
    · rw [eN, k3 23 (by decide)]
      exact hb i (by omega)
    · rw [eN, Int.toNat_natCast, k3 23 (by decide)] at f5
      refine ih (i + 1) lv6 h5 V5 xr xt x6 (by omega) M5 qr qt (by omega) (fun k hk => ?_) (fun k k4 k5 => ?_) (fun K hK => by rw [f5, m_uN _ _ _ _ hK, k3 K hK]) e6_0 e6_1 e6_2 e6_3
      · rw [f5, m_uE]
        by_cases e : k = i
        · rw [e, m_uE]
        · rw [m_uN _ _ _ _ e]
          exact k1 k (by omega)
      · rw [f5, m_uE, m_uN _ _ _ _ (by omega)]
        exact k2 k (by omega) k5
-- the least one goes: one fewer
theorem c_lessens (M : MX 49 W ρ m A h0 h F V G) (b0_ : m_lk lv 0 = some (.ref m)) (hw : d_sub g_ls W = true) (sh : p_sh (F 17) (V 22) (V 23)) (h1 : p_hp (F 17) (V 22) (V 24)) (n0 : 0 ≤ F 17) (n1 : F 17 + 6 ≤ 16000) (g : ∀ (x : Int32) (h' : MH) (F' : Nat → Int) (V' : Nat → Nat → Int), 0 ≤ x.toInt → x.toInt ≤ 1 → MX 49 W ρ m A h0 h' F' V' G → g_ex F V F' V' 6 → ((∀ k, k < 6 → V 24 k = -1) ∨ p_ws (V' 24) 6 + 1 = p_ws (V 24) 6) → (∀ j, j < 6 * (F 17).toNat → V' 23 j = V 23 j) → (∀ S h, rs_of F V S → hp6 (V 24) h → (x.toInt = 1 ∧ pm_le S h 6 ≠ -1 ∧ rs_of F' V' (pm_tk (S, h)).1 ∧ hp6 (V' 24) (pm_tk (S, h)).2) ∨ (x.toInt = 0 ∧ pm_le S h 6 = -1 ∧ F' = F ∧ V' = V)) → F' 18 = F 18 → Q (some (.int x)) h') : HJ 216 0 lv [] h Q := by
  have w1 : d_sub [(62, 1001)] W = true := d_subm hw (by decide +kernel)
  have w2 : d_sub [(61, 1001)] W = true := d_subm hw (by decide +kernel)
  have w3 : d_sub g_md W = true := d_subm hw (by decide +kernel)
  refine s_less0 M b0_ (c_least M (fun xr I L9 => ?_))
  have bb : -1 ≤ xr.toInt ∧ xr.toInt ≤ 5 := by rcases I with z | z <;> omega
  refine s_less4 M b0_ rfl bb.1 bb.2 w2 (fun x3 q3 h2 V2 f2 lv2 M2 e0 e1 e2 c7 a3 b3 => ?_) (fun x7 q7 lv1 c7 => ?_)
  · obtain ⟨r0, r1, r2⟩ := I.resolve_left (fun z => c7 z.1)
    have r6 : xr.toInt.toNat < 6 := by omega
    obtain ⟨t0, t1, t2⟩ := (h1 xr.toInt.toNat r6).resolve_left r2
    have v24 : V2 24 = m_u (V 24) xr.toInt.toNat (-1) := by rw [f2, m_uE]
    have vo : ∀ K, K ≠ 24 → V2 K = V K := fun K hK => by rw [f2, m_uN _ _ _ _ hK]
    obtain ⟨s1, s2⟩ := sh (V 24 xr.toInt.toNat).toNat (by omega)
    rw [t2] at s2
    refine c_clear M2 w1 (fun h3 V3 M3 k1 k2 => ?_)
    refine s_less30 M3 e0 e1 rfl e2 q3 (fun x1 q1 lv3 d0 d1 d2 d3 => ?_)
    have v3 : ∀ K, K ≠ 24 → K ≠ 25 → V3 K = V K := fun K z1 z2 => (k2 K z2).trans (vo K z1)
    refine l_lessens (r := xr.toInt.toNat) (t := (V 24 xr.toInt.toNat).toNat) (V0 := V3) (by omega) (by omega) w1 (fun i hi => ?_) (fun h4 V4 lv4 M4 j1 j2 j3 => ?_) xr.toInt.toNat 0 lv3 h3 V3 xr x3 x1 (by omega) M3 (by omega) (by omega) q1 (fun k hk => by omega) (fun k _ hk => k1 k hk) (fun _ _ => rfl) d0 d1 d2 d3
    · obtain ⟨u1, u2, u3⟩ := s2 i (by omega)
      rw [v3 23 (by decide) (by decide)]
      omega
    · have v4 : ∀ K, K ≠ 24 → K ≠ 25 → V4 K = V K := fun K z1 z2 => (j3 K z2).trans (v3 K z1 z2)
      have w24 : V4 24 = m_u (V 24) xr.toInt.toNat (-1) := by rw [j3 24 (by decide), k2 24 (by decide), v24]
      refine c_meld M4 w3 (by rw [v4 22 (by decide) (by decide), v4 23 (by decide) (by decide)]; exact sh) ?_ ?_ n0 n1 (fun h5 F5 V5 c M5 J R => ?_)
      · rw [w24, v4 22 (by decide) (by decide)]
        intro r h6
        by_cases e : r = xr.toInt.toNat
        · rw [e, m_uE]
          exact Or.inl rfl
        · rw [m_uN _ _ _ _ e]
          exact h1 r h6
      · rw [v4 22 (by decide) (by decide)]
        intro r h6
        by_cases e : r < xr.toInt.toNat
        · obtain ⟨u1, u2, u3⟩ := s2 r (by omega)
          rw [j1 r e, v3 23 (by decide) (by decide)]
          exact Or.inr ⟨u1, by omega, u3⟩
        · rw [j2 r (by omega) h6]
          exact Or.inl rfl
      · obtain ⟨⟨i1, i2, i3⟩, ⟨i4, i5⟩, i6, i7, i8, i9, i10, i11⟩ := J
        refine s_less64 M5 (fun x q => g x h5 F5 V5 (by omega) (by omega) M5 ⟨⟨i1, i2⟩, ⟨i4, by omega⟩, fun K k1 k2 k3 k4 => i6 K k1 k3, fun v hv => by rw [i7 v hv, v4 22 (by decide) (by decide)], fun K hK => by rw [i8 K (by omega) (by omega) (by omega) (by omega) (by omega)]; exact v4 K (by omega) (by omega)⟩ (Or.inr ?_) (fun j hj => by rw [i11 j hj, v4 23 (by decide) (by decide)]) (fun S hh a e => Or.inl ?_) (i6 18 (by decide) (by decide)))
        have a1 := p_wsG r2 (r := 6) r6
        have a2 := p_ws1 (f := V4 25) (r := xr.toInt.toNat) (fun k hk => by
          obtain ⟨u1, u2, u3⟩ := s2 k (by omega)
          rw [j1 k hk, v3 23 (by decide) (by decide)]
          omega)
        have a3 := p_ws0 (f := V4 25) (q := xr.toInt.toNat) (r := 6) (by omega) (fun k z1 z2 => j2 k z1 z2)
        have a4 := p_wsL (f := V 24) 6
        rw [w24] at i10
        have a5 : y_tg c * 2 ^ 6 = 0 ∨ y_tg c * 2 ^ 6 = 64 := by
          unfold y_tg
          split
          · exact Or.inl rfl
          · exact Or.inr rfl
        have a6 : (2 : Nat) ^ 6 = 64 := rfl
        omega
        have l9 := L9 S hh a h1 e
        have eh : hh (pm_le S hh 6).toNat = V 24 xr.toInt.toNat := by
          rw [← l9]
          exact (e _ (by omega)).symm
        have nz : pm_le S hh 6 ≠ -1 := by
          rw [← l9]
          exact c7
        refine ⟨q, nz, ?_⟩
        unfold pm_tk
        rw [if_neg nz]
        refine R S _ _ (rs_ofV a rfl rfl (v4 20 (by decide) (by decide)) (v4 21 (by decide) (by decide)) (v4 22 (by decide) (by decide)) (v4 23 (by decide) (by decide))) ?_ (fun i hi => ?_)
        · rw [w24, ← l9]
          exact hp6_u e
        · show V4 25 i = if (i : Int) < pm_le S hh 6 then ps_b S (6 * (hh (pm_le S hh 6).toNat).toNat + i) else -1
          rw [eh, ← l9]
          by_cases ei : (i : Int) < xr.toInt
          · obtain ⟨a0, -, -, a4⟩ := a
            obtain ⟨-, -, -, -, -, a6⟩ := a4 (V 24 xr.toInt.toNat).toNat (by omega)
            rw [if_pos ei, j1 i (by omega), v3 23 (by decide) (by decide), a6 i (by rw [t2]; omega)]
          · rw [if_neg ei, j2 i (by omega) hi]
  · obtain ⟨-, n1⟩ := I.resolve_right (fun z => by omega)
    exact g x7 h F V (by omega) (by omega) M (g_exR (by omega) sh h1) (Or.inl n1) (fun _ _ => rfl) (fun S hh a e => Or.inr ⟨q7, (L9 S hh a h1 e).symm.trans c7, rfl, rfl⟩) rfl
theorem s_cuts0 {k : Int} (M : MX 49 W ρ m A h0 h F V G) (e0 : m_lk lv 0 = some (.ref m)) {lx1 : Int32} (e1 : m_lk lv 1 = some (.int lx1)) (lq1 : lx1.toInt = k) 
    (g0 : HJ 217 0 (lv_args 0 [.ref m]) [] h (fun v h' => HJ 222 4 lv (v.toList ++ []) h' Q))
    : HJ 222 0 lv [] h Q := by
  refine hI_al (k := 0) rfl e0 rfl ?_ -- 0
  refine hM_iv M (by decide) rfl rfl (by decide) (as := []) (r := []) rfl rfl (by decide +kernel) rfl (by decide +kernel) rfl rfl rfl rfl rfl ?_ -- 1
  exact g0 
theorem s_cuts4 {k r : Int} (M : MX 49 W ρ m A h0 h F V G) (e0 : m_lk lv 0 = some (.ref m)) {lx1 : Int32} (e1 : m_lk lv 1 = some (.int lx1)) (lq1 : lx1.toInt = k) {sx0 : Int32} (sq0 : sx0.toInt = r) 
    (g0 : ∀ lv1 : List (Nat × Value), m_lk lv1 0 = some (.ref m) → m_lk lv1 1 = some (.int lx1) → m_lk lv1 2 = some (.int sx0) → HJ 222 5 lv1 [] h Q)
    : HJ 222 4 lv [.int sx0] h Q := by
  refine hM_si (k := 2) rfl (by decide +kernel) rfl (fun lv1 e1_2 u1 => ?_) -- 4
  have e1_0 := u1 0 _ (by decide) (Or.inl rfl) e0
  have e1_1 := u1 1 _ (by decide) (Or.inl rfl) e1
  exact g0 lv1 e1_0 e1_1 e1_2
theorem s_cuts34 {k r : Int} (M : MX 49 W ρ m A h0 h F V G) (e0 : m_lk lv 0 = some (.ref m)) {lx1 : Int32} (e1 : m_lk lv 1 = some (.int lx1)) (lq1 : lx1.toInt = k) {sx0 : Int32} (sq0 : sx0.toInt = r) 
    (g0 : ∀ lv1 : List (Nat × Value), m_lk lv1 0 = some (.ref m) → m_lk lv1 1 = some (.int lx1) → m_lk lv1 2 = some (.int sx0) → HJ 222 5 lv1 [] h Q)
    : HJ 222 34 lv [.int sx0] h Q := by
  refine hM_si (k := 2) rfl (by decide +kernel) rfl (fun lv1 e1_2 u1 => ?_) -- 34
  have e1_0 := u1 0 _ (by decide) (Or.inl rfl) e0
  have e1_1 := u1 1 _ (by decide) (Or.inl rfl) e1
  refine hI_go (pc' := 5) (off := (-30)) rfl (by decide) ?_ -- 35
  exact g0 lv1 e1_0 e1_1 e1_2
theorem s_cuts5 {k r : Int} (M : MX 49 W ρ m A h0 h F V G) (e0 : m_lk lv 0 = some (.ref m)) {lx1 : Int32} (e1 : m_lk lv 1 = some (.int lx1)) (lq1 : lx1.toInt = k) {lx2 : Int32} (e2 : m_lk lv 2 = some (.int lx2)) (lq2 : lx2.toInt = r) (r0 : -1 ≤ r) (r1 : r ≤ 5) (h0 : r ≠ -1 → 0 ≤ V 24 r.toNat)
    (g0 : ∀ x2 : Int32, x2.toInt = 1 → r = (-1) → Q (some (.int x2)) h)
    (g1 : ∀ x5 : Int32, x5.toInt = 1 → r ≠ (-1) → (-1) ≤ V 24 (r).toNat → V 24 (r).toNat ≤ 15999 → V 21 (V 24 (r).toNat).toNat ≥ k → Q (some (.int x5)) h)
    (g2 : r ≠ (-1) → (-1) ≤ V 24 (r).toNat → V 24 (r).toNat ≤ 15999 → V 21 (V 24 (r).toNat).toNat < k → HJ 216 0 (lv_args 0 [.ref m]) [] h (fun v h' => HJ 222 29 lv (v.toList ++ []) h' Q))
    : HJ 222 5 lv [] h Q := by
  refine hI_il (k := 2) rfl e2 rfl ?_ -- 5
  refine hM_ic (n := (-1)) rfl (by decide) rfl (fun x1 q1 => ?_) -- 6
  refine hM_ceq (off := 31) (t := 38) rfl lq2 q1 (by decide) rfl (fun c7 => ?_) (fun c7 => ?_) -- 7
  · refine hM_ic (n := 1) rfl (by decide) rfl (fun x2 q2 => ?_) -- 38
    refine hM_rb rfl rfl q2 (by omega) (by omega) ?_ -- 39
    exact g0 x2 q2 c7
  · refine hI_al (k := 0) rfl e0 rfl ?_ -- 10
    refine hM_ga M (by decide) rfl rfl (k := 21) (c := 9) rfl rfl rfl (by decide +kernel) rfl ?_ -- 11
    refine hI_al (k := 0) rfl e0 rfl ?_ -- 14
    refine hM_ga M (by decide) rfl rfl (k := 24) (c := 9) rfl rfl rfl (by decide +kernel) rfl ?_ -- 15
    refine hI_il (k := 2) rfl e2 rfl ?_ -- 18
    refine hM_ia M (by decide) (K := 24) (R2 := 61) (L := 6) (H := 6) (lo := (-1)) (hi := 15999) rfl (by decide) rfl rfl (fun _ => rfl) rfl lq2 (by omega) (by omega) rfl (fun x3 q3 a3 b3 => ?_) -- 19
    refine hM_ba M (by decide) (K := 21) (R2 := 58) (L := 16000) (H := 16000) (lo := (-2147483648)) (hi := 2147483647) rfl (by decide) rfl rfl (Or.inl rfl) (fun _ => rfl) rfl q3 (by omega) (by omega) rfl (fun x4 q4 a4 b4 => ?_) -- 20
    refine hI_il (k := 1) rfl e1 rfl ?_ -- 21
    refine hM_cge (off := 16) (t := 38) rfl q4 lq1 (by decide) rfl (fun c22 => ?_) (fun c22 => ?_) -- 22
    · refine hM_ic (n := 1) rfl (by decide) rfl (fun x5 q5 => ?_) -- 38
      refine hM_rb rfl rfl q5 (by omega) (by omega) ?_ -- 39
      exact g1 x5 q5 c7 a3 b3 c22
    · refine hI_al (k := 0) rfl e0 rfl ?_ -- 25
      refine hM_iv M (by decide) rfl rfl (by decide) (as := []) (r := []) rfl rfl (by decide +kernel) rfl (by decide +kernel) rfl rfl rfl rfl rfl ?_ -- 26
      exact g2 c7 a3 b3 c22
theorem s_cuts29 {k r z : Int} (M : MX 49 W ρ m A h0 h F V G) (e0 : m_lk lv 0 = some (.ref m)) {lx1 : Int32} (e1 : m_lk lv 1 = some (.int lx1)) (lq1 : lx1.toInt = k) {lx2 : Int32} (e2 : m_lk lv 2 = some (.int lx2)) (lq2 : lx2.toInt = r) {sx0 : Int32} (sq0 : sx0.toInt = z) 
    (g0 : ∀ lv1 : List (Nat × Value), m_lk lv1 0 = some (.ref m) → m_lk lv1 1 = some (.int lx1) → m_lk lv1 2 = some (.int lx2) → m_lk lv1 3 = some (.int sx0) → HJ 217 0 (lv_args 0 [.ref m]) [] h (fun v h' => HJ 222 34 lv1 (v.toList ++ []) h' Q))
    : HJ 222 29 lv [.int sx0] h Q := by
  refine hM_si (k := 3) rfl (by decide +kernel) rfl (fun lv1 e1_3 u1 => ?_) -- 29
  have e1_0 := u1 0 _ (by decide) (Or.inl rfl) e0
  have e1_1 := u1 1 _ (by decide) (Or.inl rfl) e1
  have e1_2 := u1 2 _ (by decide) (Or.inl rfl) e2
  refine hI_al (k := 0) rfl e1_0 rfl ?_ -- 30
  refine hM_iv M (by decide) rfl rfl (by decide) (as := []) (r := []) rfl rfl (by decide +kernel) rfl (by decide +kernel) rfl rfl rfl rfl rfl ?_ -- 31
  exact g0 lv1 e1_0 e1_1 e1_2 e1_3
theorem pm_ct1 {k : Int} {f : Nat} {X : PSt × (Nat → Int)} (h : pm_le X.1 X.2 6 = -1 ∨ k ≤ ps_y X.1 (X.2 (pm_le X.1 X.2 6).toNat).toNat) : pm_ct k (f + 1) X = X := by
  rw [pm_ct, if_pos h]
theorem pm_ct2 {k : Int} {f : Nat} {X : PSt × (Nat → Int)} (h : ¬ (pm_le X.1 X.2 6 = -1 ∨ k ≤ ps_y X.1 (X.2 (pm_le X.1 X.2 6).toNat).toNat)) : pm_ct k (f + 1) X = pm_ct k f (pm_tk X) := by
  rw [pm_ct, if_neg h]
def g_cf (F0 : Nat → Int) (V0 : Nat → Nat → Int) (F : Nat → Int) (V : Nat → Nat → Int) (k : Int) (s : Nat) : Prop := ∀ S h, rs_of F0 V0 S → hp6 (V0 24) h → ∃ X, rs_of F V X.1 ∧ hp6 (V 24) X.2 ∧ pm_ct k 63 (S, h) = pm_ct k s X
theorem l_cuts {k : Int} {xk : Int32} {F0 : Nat → Int} {V0 : Nat → Nat → Int} (hw : d_sub g_ls W = true) (hk : xk.toInt = k) (n0 : 0 ≤ F0 17) (n1 : F0 17 + 378 ≤ 16000) (g : ∀ (x : Int32) (h' : MH) (F' : Nat → Int) (V' : Nat → Nat → Int), x.toInt = 1 → MX 49 W ρ m A h0 h' F' V' G → g_ex F0 V0 F' V' 378 → (∀ S h, rs_of F0 V0 S → hp6 (V0 24) h → rs_of F' V' (pm_ct k 63 (S, h)).1 ∧ hp6 (V' 24) (pm_ct k 63 (S, h)).2) → F' 18 = F0 18 → Q (some (.int x)) h') : ∀ (s : Nat) (lv : List (Nat × Value)) (h : MH) (F : Nat → Int) (V : Nat → Nat → Int) (xr : Int32), p_ws (V 24) 6 ≤ s → s ≤ 63 → MX 49 W ρ m A h0 h F V G → g_ex F0 V0 F V (378 - 6 * s) → g_lst (V 24) 6 xr.toInt → g_lf F V 6 xr.toInt → g_cf F0 V0 F V k s → F 18 = F0 18 → m_lk lv 0 = some (.ref m) → m_lk lv 1 = some (.int xk) → m_lk lv 2 = some (.int xr) → HJ 222 5 lv [] h Q := by
  have fin : ∀ {s : Nat} {F : Nat → Int} {V : Nat → Nat → Int}, s ≤ 63 → g_ex F0 V0 F V (378 - 6 * s) → g_ex F0 V0 F V 378 := fun hs I => ⟨I.1, ⟨I.2.1.1, by have := I.2.1.2; omega⟩, I.2.2⟩
  intro s
  induction s with
  | zero =>
    intro lv h F V xr hs h63 M I L LF C C18 e0 e1 e2
    have all : xr.toInt = -1 := by
      rcases L with z | ⟨z1, z2, z3⟩
      · exact z.1
      · have a1 := p_wsG z3 (r := 6) (by omega)
        have : 0 < 2 ^ xr.toInt.toNat := Nat.pow_pos (by decide)
        omega
    exact s_cuts5 M e0 e1 hk e2 rfl (by omega) (by omega) (fun z => absurd all z) (fun x3 q3 c7 => g x3 h F V q3 M (fin h63 I) (fun S hh a e => by
      obtain ⟨X, x1, x2, x3⟩ := C S hh a e
      rw [x3]
      exact ⟨x1, x2⟩) C18) (fun x6 q6 c7 a4 b4 c22 => absurd all c7) (fun c7 a4 b4 c22 => absurd all c7)
  | succ s ih =>
    intro lv h F V xr hs h63 M I L LF C C18 e0 e1 e2
    have bb : -1 ≤ xr.toInt ∧ xr.toInt ≤ 5 := by rcases L with z | z <;> omega
    have I' := I
    obtain ⟨⟨i1, i2⟩, ⟨i3, i4⟩, i5⟩ := I'
    have stop : ∀ S hh, rs_of F0 V0 S → hp6 (V0 24) hh → (∀ X : PSt × (Nat → Int), rs_of F V X.1 → hp6 (V 24) X.2 → pm_le X.1 X.2 6 = -1 ∨ k ≤ ps_y X.1 (X.2 (pm_le X.1 X.2 6).toNat).toNat) → rs_of F V (pm_ct k 63 (S, hh)).1 ∧ hp6 (V 24) (pm_ct k 63 (S, hh)).2 := fun S hh a e f => by
      obtain ⟨X, x1, x2, x3⟩ := C S hh a e
      rw [x3, pm_ct1 (f X x1 x2)]
      exact ⟨x1, x2⟩
    have yk : xr.toInt ≠ -1 → ∀ X : PSt × (Nat → Int), rs_of F V X.1 → hp6 (V 24) X.2 → pm_le X.1 X.2 6 = xr.toInt ∧ ps_y X.1 (X.2 (pm_le X.1 X.2 6).toNat).toNat = V 21 (V 24 xr.toInt.toNat).toNat := fun c7 X x1 x2 => by
      have l := LF X.1 X.2 x1 i2 x2
      obtain ⟨r0, r1, r2⟩ := L.resolve_left (fun y => c7 y.1)
      obtain ⟨t0, t1, -⟩ := (i2 xr.toInt.toNat (by omega)).resolve_left r2
      refine ⟨l.symm, ?_⟩
      rw [← l, ← x2 _ (by omega)]
      exact (x1.2.2.2 _ (by have := x1.1; omega)).2.2.1
    refine s_cuts5 M e0 e1 hk e2 rfl bb.1 bb.2 (fun z => ?_) (fun x3 q3 c7 => g x3 h F V q3 M (fin h63 I) (fun S hh a e => stop S hh a e (fun X x1 x2 => Or.inl ((LF X.1 X.2 x1 i2 x2).symm.trans c7))) C18) (fun x6 q6 c7 a4 b4 c22 => g x6 h F V q6 M (fin h63 I) (fun S hh a e => stop S hh a e (fun X x1 x2 => Or.inr (by rw [(yk c7 X x1 x2).2]; exact c22))) C18) (fun c7 a4 b4 c22 => ?_)
    · obtain ⟨r0, r1, r2⟩ := L.resolve_left (fun y => z y.1)
      exact ((i2 xr.toInt.toNat (by omega)).resolve_left r2).1
    · obtain ⟨r0, r1, r2⟩ := L.resolve_left (fun y => c7 y.1)
      refine c_lessens M rfl hw i1 i2 (by omega) (by omega) (fun z h2 F2 V2 z0 z1 M2 I2 wt _ R R18 => ?_)
      have w2 : p_ws (V2 24) 6 + 1 = p_ws (V 24) 6 := wt.resolve_left (fun y => r2 (y _ (by omega)))
      refine s_cuts29 (z := z.toInt) M2 e0 e1 hk e2 rfl rfl (fun lv1 d0 d1 d2 d3 => ?_)
      refine c_least M2 (fun x2 L2 LF2 => ?_)
      refine s_cuts34 M2 d0 d1 hk rfl (fun lv2 b0 b1 b2 => ?_)
      refine ih lv2 h2 F2 V2 x2 (by omega) (by omega) M2 ?_ L2 LF2 (fun S hh a e => ?_) (R18.trans C18) b0 b1 b2
      have := g_exT I I2
      rw [show (378 - 6 * ((s + 1 : Nat) : Int) + 6) = 378 - 6 * (s : Int) by omega] at this
      exact this
      obtain ⟨X, x1, x2, x3⟩ := C S hh a e
      obtain ⟨l1, l2⟩ := yk c7 X x1 x2
      rcases R X.1 X.2 x1 x2 with ⟨-, -, y1, y2⟩ | ⟨-, y1, -⟩
      · exact ⟨pm_tk X, y1, y2, x3.trans (pm_ct2 (fun z9 => by rcases z9 with z9 | z9 <;> omega))⟩
      · exact absurd (l1.symm.trans y1) c7
theorem c_cuts {k : Int} {xk : Int32} (M : MX 49 W ρ m A h0 h F V G) (b0_ : m_lk lv 0 = some (.ref m)) (b1_ : m_lk lv 1 = some (.int xk)) (hw : d_sub g_ls W = true) (hk : xk.toInt = k) (sh : p_sh (F 17) (V 22) (V 23)) (h1 : p_hp (F 17) (V 22) (V 24)) (n0 : 0 ≤ F 17) (n1 : F 17 + 378 ≤ 16000) (g : ∀ (x : Int32) (h' : MH) (F' : Nat → Int) (V' : Nat → Nat → Int), x.toInt = 1 → MX 49 W ρ m A h0 h' F' V' G → g_ex F V F' V' 378 → (∀ S h, rs_of F V S → hp6 (V 24) h → rs_of F' V' (pm_ct k 63 (S, h)).1 ∧ hp6 (V' 24) (pm_ct k 63 (S, h)).2) → F' 18 = F 18 → Q (some (.int x)) h') : HJ 222 0 lv [] h Q := by
  refine s_cuts0 M b0_ b1_ hk (c_least M (fun xr L LF => ?_))
  refine s_cuts4 M b0_ b1_ hk rfl (fun lv2 b0 b1 b2 => ?_)
  have a4 := p_wsL (f := V 24) 6
  exact l_cuts hw hk n0 n1 g 63 lv2 h F V xr (by omega) (by omega) M (g_exR (by omega) sh h1) L LF (fun S h a e => ⟨(S, h), a, e, rfl⟩) rfl b0 b1 b2
end
end
section
-- A HEAP IS WALKED: by hand in whole numbers
-- THE WALK'S NUMBERS
def w_S (rk P : Nat → Int) : Nat → Nat
  | 0 => 0
  | t + 1 => w_S rk P t + 2 ^ (rk (P t).toNat).toNat
theorem w_Sc {rk P P' : Nat → Int} : ∀ {t : Nat}, (∀ j, j < t → P' j = P j) → w_S rk P' t = w_S rk P t
  | 0, _ => rfl
  | t + 1, h => by
    rw [w_S, w_S, w_Sc (fun j hj => h j (by omega)), h t (by omega)]
theorem w_Sg {rk P : Nat → Int} : ∀ t : Nat, t ≤ w_S rk P t
  | 0 => Nat.le_refl _
  | t + 1 => by
    rw [w_S]
    have a := w_Sg (rk := rk) (P := P) t
    have b : 0 < 2 ^ (rk (P t).toNat).toNat := Nat.pow_pos (by decide)
    omega
def w_en (n : Int) (rk P U D : Nat → Int) (b : Int) (j : Nat) : Prop := (0 ≤ P j ∧ P j < n ∧ rk (P j).toNat ≤ 5) ∧ (U j = -1 ∨ (0 ≤ U j ∧ U j < b ∧ D (U j).toNat + 1 + rk (P j).toNat ≤ 5))
-- at the outer head; at the inner one
def w_J (n : Int) (rk P U D : Nat → Int) (W t w : Nat) : Prop := (∀ j, j < t → w_en n rk P U D w j) ∧ w_S rk P t + w = W
def w_K (n : Int) (rk P U D : Nat → Int) (W t k v w : Nat) : Prop := ((v : Int) < n ∧ rk v ≤ 5 ∧ 0 ≤ D w ∧ D w + rk v ≤ 5 ∧ (k : Int) ≤ rk v) ∧ (∀ j, j < t → w_en n rk P U D (w + 1) j) ∧ w_S rk P t + 1 + 2 ^ (rk v).toNat + w = W + 2 ^ k
section
variable {n : Int} {rk bl P U D P' U' D' : Nat → Int} {W t k v w : Nat}
theorem w_pop (sh : p_sh n rk bl) (q : w_J n rk P U D W (t + 1) w) (hv : P t = (v : Int)) (hd : ∀ j, j ≠ w → D' j = D j) (hw : (U t = -1 → D' w = 0) ∧ (U t ≠ -1 → D' w = D (U t).toNat + 1)) (hD : 0 ≤ D (U t).toNat) : w_K n rk P U D' W t 0 v w := by
  obtain ⟨q1, q2⟩ := q
  obtain ⟨⟨a1, a2, a3⟩, a4⟩ := q1 t (by omega)
  rw [hv] at a2 a3 a4
  rw [Int.toNat_natCast] at a3 a4
  have r0 := (sh v a2).1.1
  rw [w_S, hv, Int.toNat_natCast] at q2
  have hdw : 0 ≤ D' w ∧ D' w + rk v ≤ 5 := by
    by_cases e : U t = -1
    · rw [hw.1 e]
      omega
    · rw [hw.2 e]
      rcases a4 with z | z
      · exact absurd z e
      · omega
  refine ⟨⟨a2, a3, hdw.1, hdw.2, by omega⟩, fun j hj => ?_, ?_⟩
  · obtain ⟨b1, b2⟩ := q1 j (by omega)
    refine ⟨b1, ?_⟩
    rcases b2 with z | ⟨z1, z2, z3⟩
    · exact Or.inl z
    · refine Or.inr ⟨z1, by omega, ?_⟩
      rw [hd _ (by omega)]
      exact z3
  · rw [Nat.pow_zero]
    omega
theorem w_pop' (sh : p_sh n rk bl) (q : w_J n rk P U D W (t + 1) w) (hv : P t = (v : Int)) (hd : ∀ j, j ≠ w → D' j = D j) (hw : (U t = -1 ∧ D' w = 0) ∨ (U t ≠ -1 ∧ D' w = D (U t).toNat + 1 ∧ 0 ≤ D (U t).toNat)) : w_K n rk P U D' W t 0 v w := by
  rcases hw with ⟨z, d0⟩ | ⟨z, d1, d2⟩
  · obtain ⟨q1, q2⟩ := q
    obtain ⟨⟨a1, a2, a3⟩, a4⟩ := q1 t (by omega)
    rw [hv] at a2 a3 a4
    rw [Int.toNat_natCast] at a3 a4
    have r0 := (sh v a2).1.1
    rw [w_S, hv, Int.toNat_natCast] at q2
    refine ⟨⟨a2, a3, by omega, by omega, by omega⟩, fun j hj => ?_, ?_⟩
    · obtain ⟨b1, b2⟩ := q1 j (by omega)
      refine ⟨b1, ?_⟩
      rcases b2 with z | ⟨z1, z2, z3⟩
      · exact Or.inl z
      · refine Or.inr ⟨z1, by omega, ?_⟩
        rw [hd _ (by omega)]
        exact z3
    · rw [Nat.pow_zero]
      omega
  · exact w_pop sh q hv hd ⟨fun y => absurd y z, fun _ => d1⟩ d2
theorem w_push (sh : p_sh n rk bl) (q : w_K n rk P U D W t k v w) (hk : (k : Int) < rk v) (hP : P' t = bl (6 * v + k)) (hP2 : ∀ j, j < t → P' j = P j) (hU : U' t = w) (hU2 : ∀ j, j < t → U' j = U j) : w_K n rk P' U' D W (t + 1) (k + 1) v w := by
  obtain ⟨⟨a1, a2, a3, a4, a5⟩, q1, q2⟩ := q
  obtain ⟨-, sb⟩ := sh v a1
  obtain ⟨c1, c2, c3⟩ := sb k hk
  refine ⟨⟨a1, a2, a3, a4, by omega⟩, fun j hj => ?_, ?_⟩
  · by_cases e : j = t
    · subst e
      refine ⟨⟨by rw [hP]; exact c1, by rw [hP]; omega, by rw [hP, c3]; omega⟩, Or.inr ⟨by rw [hU]; omega, by rw [hU]; omega, ?_⟩⟩
      rw [hU, hP, c3, Int.toNat_natCast]
      omega
    · have hj2 : j < t := by omega
      unfold w_en
      rw [hP2 j hj2, hU2 j hj2]
      exact q1 j hj2
  · rw [w_S, w_Sc hP2, hP, c3, Int.toNat_natCast, Nat.pow_succ]
    omega
theorem w_out (q : w_K n rk P U D W t k v w) (hk : ¬ (k : Int) < rk v) : w_J n rk P U D W t (w + 1) := by
  obtain ⟨⟨a1, a2, a3, a4, a5⟩, q1, q2⟩ := q
  have e : (rk v).toNat = k := by omega
  rw [e] at q2
  exact ⟨fun j hj => q1 j hj, by omega⟩
-- the rows are long enough
theorem w_KB (q : w_K n rk P U D W t k v w) (hk : (k : Int) < rk v) (hW : W ≤ 63) : t < 62 ∧ w < 62 := by
  obtain ⟨⟨a1, a2, a3, a4, a5⟩, q1, q2⟩ := q
  have g := w_Sg (rk := rk) (P := P) t
  have e : 2 ^ (k + 1) ≤ 2 ^ (rk v).toNat := Nat.pow_le_pow_right (by decide) (by omega)
  have e2 : 0 < 2 ^ k := Nat.pow_pos (by decide)
  rw [Nat.pow_succ] at e
  omega
theorem w_KB2 (q : w_K n rk P U D W t k v w) (hW : W ≤ 63) : t ≤ 62 ∧ w ≤ 62 := by
  obtain ⟨⟨a1, a2, a3, a4, a5⟩, q1, q2⟩ := q
  have g := w_Sg (rk := rk) (P := P) t
  have e : 2 ^ k ≤ 2 ^ (rk v).toNat := Nat.pow_le_pow_right (by decide) (by omega)
  omega
theorem w_JB (q : w_J n rk P U D W (t + 1) w) (hW : W ≤ 63) : t < 63 ∧ w < 63 := by
  have g := w_Sg (rk := rk) (P := P) (t + 1)
  have := q.2
  omega
end
def w_I (F0 : Nat → Int) (V0 : Nat → Nat → Int) (F : Nat → Int) (V : Nat → Nat → Int) : Prop := (∀ K, K ≠ 26 → F K = F0 K) ∧ ∀ K, K < 27 ∨ 31 < K → V K = V0 K
theorem w_XS {n : Int} {rk At Up D At' Up' D' : Nat → Int} {w : Nat} (x : w_X n rk At Up D w) (ha : ∀ j, j ≠ w → At' j = At j) (hu : ∀ j, j ≠ w → Up' j = Up j) (hd : ∀ j, j ≠ w → D' j = D j) (h1 : 0 ≤ At' w ∧ At' w < n ∧ rk (At' w).toNat ≤ 5) (h2 : (Up' w = -1 ∧ D' w = 0) ∨ (0 ≤ Up' w ∧ Up' w < w ∧ D' w = D (Up' w).toNat + 1)) : w_X n rk At' Up' D' (w + 1) := by
  intro i hi
  by_cases e : i = w
  · subst e
    refine ⟨h1, ?_⟩
    rcases h2 with z | ⟨z1, z2, z3⟩
    · exact Or.inl z
    · exact Or.inr ⟨z1, z2, by rw [z3, hd (Up' i).toNat (by omega)]⟩
  · obtain ⟨x1, x2⟩ := x i (by omega)
    rw [ha i e, hu i e, hd i e]
    refine ⟨x1, ?_⟩
    rcases x2 with z | ⟨z1, z2, z3⟩
    · exact Or.inl z
    · exact Or.inr ⟨z1, z2, by rw [z3, hd (Up i).toNat (by omega)]⟩
-- the walk's rows against the pure walk
def wk_of (V : Nat → Nat → Int) (w : Nat) (O : WKt) : Prop := O.1 = w ∧ ∀ i, i < w → O.2.1 i = V 27 i ∧ O.2.2.1 i = V 29 i ∧ O.2.2.2 i = V 28 i
theorem wk_ofC {V V' : Nat → Nat → Int} {w : Nat} {O : WKt} (e : wk_of V w O) (a : V' 27 = V 27) (b : V' 29 = V 29) (c : V' 28 = V 28) : wk_of V' w O := by
  unfold wk_of
  rw [a, b, c]
  exact e
theorem wk_ofS {V V' : Nat → Nat → Int} {w : Nat} {O : WKt} {v u dv : Int} (e : wk_of V w O) (a : V' 27 = m_u (V 27) w v) (b : V' 29 = m_u (V 29) w u) (c : V' 28 = m_u (V 28) w dv) (u1 : u ≠ -1 → u.toNat < w) (d0 : u = -1 → dv = 0) (d1 : u ≠ -1 → dv = V 28 u.toNat + 1) : wk_of V' (w + 1) (wk_on v u O) := by
  obtain ⟨e1, e2⟩ := e
  refine ⟨by show O.1 + 1 = _; rw [e1], fun i hi => ?_⟩
  rw [a, b, c]
  show m_u O.2.1 O.1 v i = _ ∧ m_u O.2.2.1 O.1 u i = _ ∧ m_u O.2.2.2 O.1 (if u = -1 then 0 else O.2.2.2 u.toNat + 1) i = _
  rw [e1]
  by_cases q : i = w
  · rw [q, m_uE, m_uE, m_uE, m_uE, m_uE, m_uE]
    refine ⟨rfl, rfl, ?_⟩
    by_cases z : u = -1
    · rw [if_pos z, d0 z]
    · rw [if_neg z, d1 z, (e2 _ (u1 z)).2.2]
  · rw [m_uN _ _ _ _ q, m_uN _ _ _ _ q, m_uN _ _ _ _ q, m_uN _ _ _ _ q, m_uN _ _ _ _ q, m_uN _ _ _ _ q]
    exact e2 i (by omega)
theorem wk_go0 {S : PSt} {O : WKt} : ∀ f : Nat, wk_go S f [] O = O
  | 0 => rfl
  | _ + 1 => rfl
theorem wk_stC {P U P' U' : Nat → Int} : ∀ {t : Nat}, (∀ j, j < t → P' j = P j ∧ U' j = U j) → wk_st P' U' t = wk_st P U t
  | 0, _ => rfl
  | t + 1, h => by rw [wk_st, wk_st, wk_stC (fun j hj => h j (by omega)), (h t (by omega)).1, (h t (by omega)).2]
theorem wk_rsC {f h : Nat → Int} : ∀ {d r : Nat}, (∀ k, r ≤ k → k < r + d → f k = h k) → wk_rs f d r = wk_rs h d r
  | 0, _, _ => rfl
  | d + 1, r, e => by rw [wk_rs, wk_rs, e r (by omega) (by omega), wk_rsC (fun k k1 k2 => e k (by omega) (by omega))]
-- what goes on beside the run: a place in the pure walk whose end is R
def rn_of (F : Nat → Int) (V : Nat → Nat → Int) (S : PSt) : Prop := F 17 = (ps_n S : Int) ∧ ∀ v : Nat, v < ps_n S → ps_t S v = V 20 v ∧ (0 ≤ V 20 v ∧ V 20 v ≤ 127) ∧ ps_y S v = V 21 v ∧ (0 ≤ V 21 v ∧ V 21 v ≤ 99) ∧ ps_k S v = V 22 v ∧ ∀ r : Nat, (r : Int) < V 22 v → ps_b S (6 * v + r) = V 23 (6 * v + r)
theorem rn_rs {F : Nat → Int} {V : Nat → Nat → Int} {S : PSt} (I : rs_of F V S) : rn_of F V S := ⟨I.1, I.2.2.2⟩
theorem rn_ofV {F F' : Nat → Int} {V V' : Nat → Nat → Int} {S : PSt} (I : rn_of F V S) (f17 : F' 17 = F 17) (v20 : V' 20 = V 20) (v21 : V' 21 = V 21) (v22 : V' 22 = V 22) (v23 : V' 23 = V 23) : rn_of F' V' S := by
  unfold rn_of
  rw [f17, v20, v21, v22, v23]
  exact I
def wk_J (Z : PSt → List (Int × Int) → WKt → Prop) (F0 : Nat → Int) (V0 : Nat → Nat → Int) (V : Nat → Nat → Int) (t w : Nat) : Prop := ∀ S l R, Z S l R → rn_of F0 V0 S ∧ ∃ O, wk_of V w O ∧ wk_go S (64 - w) (wk_st (V 30) (V 31) t ++ l) O = R
def wk_K (Z : PSt → List (Int × Int) → WKt → Prop) (F0 : Nat → Int) (V0 : Nat → Nat → Int) (V : Nat → Nat → Int) (t k v w : Nat) : Prop := ∀ S l R, Z S l R → rn_of F0 V0 S ∧ ∃ O L, wk_of V (w + 1) O ∧ wk_st (V 30) (V 31) t = wk_ch S (v : Int) w k ++ L ∧ wk_go S (64 - (w + 1)) (wk_ch S (v : Int) w (ps_k S v).toNat ++ (L ++ l)) O = R
section
variable {lv : List (Nat × Value)} {Q : Option Value → MH → Prop} {W : List (Nat × Nat)} {ρ : Nat → Nat} {m : Nat} {A : Nat → Nat} {h0 h : MH} {F : Nat → Int} {V : Nat → Nat → Int} {G : Nat → Nat → Int64}
theorem s_wt0 {x : Int} (M : MX 49 W ρ m A h0 h F V G) (e0 : m_lk lv 0 = some (.ref m)) {lx1 : Int32} (e1 : m_lk lv 1 = some (.int lx1)) (lq1 : lx1.toInt = x) (x0 : 0 ≤ x) (x1 : x ≤ 15999)(hw : d_sub [(66, 1001), (67, 1001)] W = true)
    (g0 : ∀ x1 : Int32, x1.toInt = 1 → ∀ h4 : MH, ∀ V4 : Nat → Nat → Int, V4 = m_u V 30 (m_u (V 30) (0 : Int).toNat (x)) → ∀ h7 : MH, ∀ V7 : Nat → Nat → Int, V7 = m_u V4 31 (m_u (V4 31) (0 : Int).toNat ((-1))) → ∀ lv2 : List (Nat × Value), MX 49 W ρ m A h0 h7 F V7 G → m_lk lv2 0 = some (.ref m) → m_lk lv2 2 = some (.int x1) → HJ 220 16 lv2 [] h7 Q)
    : HJ 220 0 lv [] h Q := by
  refine hM_ic (n := 1) rfl (by decide) rfl (fun x1 q1 => ?_) -- 0
  refine hM_si (k := 2) rfl (by decide +kernel) rfl (fun lv2 e2_2 u2 => ?_) -- 1
  have e2_0 := u2 0 _ (by decide) (Or.inl rfl) e0
  have e2_1 := u2 1 _ (by decide) (Or.inl rfl) e1
  refine hI_al (k := 0) rfl e2_0 rfl ?_ -- 2
  refine hM_ga M (by decide) rfl rfl (k := 30) (c := 9) rfl rfl rfl (by decide +kernel) rfl ?_ -- 3
  refine hM_ic (n := 0) rfl (by decide) rfl (fun x3 q3 => ?_) -- 6
  refine hI_il (k := 1) rfl e2_1 rfl ?_ -- 7
  refine hM_is M (by decide) ok_49 (K := 30) (R2 := 66) (L := 64) (H := 64) (lo := 0) (hi := 15999) rfl (by decide) rfl rfl rfl (fun _ => rfl) (d_subm hw (by decide +kernel)) rfl q3 lq1 (by omega) (by omega) (by omega) (by omega) rfl (fun h4 V4 f4 M4 => ?_) -- 8
  refine hI_al (k := 0) rfl e2_0 rfl ?_ -- 9
  refine hM_ga M4 (by decide) rfl rfl (k := 31) (c := 9) rfl rfl rfl (by decide +kernel) rfl ?_ -- 10
  refine hM_ic (n := 0) rfl (by decide) rfl (fun x5 q5 => ?_) -- 13
  refine hM_ic (n := (-1)) rfl (by decide) rfl (fun x6 q6 => ?_) -- 14
  refine hM_is M4 (by decide) ok_49 (K := 31) (R2 := 67) (L := 64) (H := 64) (lo := (-1)) (hi := 62) rfl (by decide) rfl rfl rfl (fun _ => rfl) (d_subm hw (by decide +kernel)) rfl q5 q6 (by omega) (by omega) (by omega) (by omega) rfl (fun h7 V7 f7 M7 => ?_) -- 15
  exact g0 x1 q1 h4 V4 f4 h7 V7 f7 lv2 M7 e2_0 e2_2
theorem s_wt16 {t : Int} (M : MX 49 W ρ m A h0 h F V G) (e0 : m_lk lv 0 = some (.ref m)) {lx2 : Int32} (e2 : m_lk lv 2 = some (.int lx2)) (lq2 : lx2.toInt = t) (t0 : 0 ≤ t) (t1 : t ≤ 63) (w1 : 0 < t → F 26 < 63) (d0 : 0 < t → V 31 (t + (-1)).toNat ≠ -1 → V 28 (V 31 (t + (-1)).toNat).toNat ≤ 4)(hw : d_sub [(63, 1001), (65, 1001), (64, 1001)] W = true)
    (g0 : t ≤ 0 → Q none h)
    (g1 : ∀ x1 : Int32, x1.toInt = t + (-1) → ∀ x2 : Int32, x2.toInt = V 30 (t + (-1)).toNat → ∀ h5 : MH, ∀ V5 : Nat → Nat → Int, V5 = m_u V 27 (m_u (V 27) (F 26).toNat (V 30 (t + (-1)).toNat)) → ∀ h8 : MH, ∀ V8 : Nat → Nat → Int, V8 = m_u V5 29 (m_u (V5 29) (F 26).toNat (V 31 (t + (-1)).toNat)) → ∀ h18 : MH, ∀ V18 : Nat → Nat → Int, V18 = m_u V8 28 (m_u (V8 28) (F 26).toNat ((V 28 (V 31 (t + (-1)).toNat).toNat) + 1)) → ∀ x19 : Int32, x19.toInt = 0 → ∀ lv20 : List (Nat × Value), MX 49 W ρ m A h0 h18 F V18 G → m_lk lv20 0 = some (.ref m) → m_lk lv20 2 = some (.int x1) → m_lk lv20 3 = some (.int x2) → m_lk lv20 4 = some (.int x19) → t > 0 → 0 ≤ V 30 (t + (-1)).toNat → V 30 (t + (-1)).toNat ≤ 15999 → 0 ≤ F 26 → F 26 ≤ 63 → (-1) ≤ V 31 (t + (-1)).toNat → V 31 (t + (-1)).toNat ≤ 62 → V 31 (t + (-1)).toNat ≠ (-1) → 0 ≤ V 28 (V 31 (t + (-1)).toNat).toNat → V 28 (V 31 (t + (-1)).toNat).toNat ≤ 5 → HJ 220 100 lv20 [] h18 Q)
    (g2 : ∀ x1 : Int32, x1.toInt = t + (-1) → ∀ x2 : Int32, x2.toInt = V 30 (t + (-1)).toNat → ∀ h5 : MH, ∀ V5 : Nat → Nat → Int, V5 = m_u V 27 (m_u (V 27) (F 26).toNat (V 30 (t + (-1)).toNat)) → ∀ h8 : MH, ∀ V8 : Nat → Nat → Int, V8 = m_u V5 29 (m_u (V5 29) (F 26).toNat (V 31 (t + (-1)).toNat)) → ∀ h22 : MH, ∀ V22 : Nat → Nat → Int, V22 = m_u V8 28 (m_u (V8 28) (F 26).toNat (0)) → ∀ x23 : Int32, x23.toInt = 0 → ∀ lv24 : List (Nat × Value), MX 49 W ρ m A h0 h22 F V22 G → m_lk lv24 0 = some (.ref m) → m_lk lv24 2 = some (.int x1) → m_lk lv24 3 = some (.int x2) → m_lk lv24 4 = some (.int x23) → t > 0 → 0 ≤ V 30 (t + (-1)).toNat → V 30 (t + (-1)).toNat ≤ 15999 → 0 ≤ F 26 → F 26 ≤ 63 → (-1) ≤ V 31 (t + (-1)).toNat → V 31 (t + (-1)).toNat ≤ 62 → V 31 (t + (-1)).toNat = (-1) → HJ 220 100 lv24 [] h22 Q)
    : HJ 220 16 lv [] h Q := by
  refine hI_il (k := 2) rfl e2 rfl ?_ -- 16
  refine hM_zle (off := 144) (t := 161) rfl lq2 (by decide) rfl (fun c17 => ?_) (fun c17 => ?_) -- 17
  · refine hI_rv rfl rfl ?_
    exact g0 c17
  · refine hM_inc (k := 2) (z := (-1)) rfl e2 lq2 (by decide) (by omega) (by omega) (by decide +kernel) rfl (fun lv1 x1 q1 e1_2 u1 => ?_) -- 20
    have e1_0 := u1 0 _ (by decide) (Or.inl rfl) e0
    refine hI_al (k := 0) rfl e1_0 rfl ?_ -- 23
    refine hM_ga M (by decide) rfl rfl (k := 30) (c := 9) rfl rfl rfl (by decide +kernel) rfl ?_ -- 24
    refine hI_il (k := 2) rfl e1_2 rfl ?_ -- 27
    refine hM_ia M (by decide) (K := 30) (R2 := 66) (L := 64) (H := 64) (lo := 0) (hi := 15999) rfl (by decide) rfl rfl (fun _ => rfl) rfl q1 (by omega) (by omega) rfl (fun x2 q2 a2 b2 => ?_) -- 28
    refine hM_si (k := 3) rfl (by decide +kernel) rfl (fun lv3 e3_3 u3 => ?_) -- 29
    have e3_0 := u3 0 _ (by decide) (Or.inl rfl) e1_0
    have e3_2 := u3 2 _ (by decide) (Or.inl rfl) e1_2
    refine hI_al (k := 0) rfl e3_0 rfl ?_ -- 30
    refine hM_ga M (by decide) rfl rfl (k := 27) (c := 9) rfl rfl rfl (by decide +kernel) rfl ?_ -- 31
    refine hI_al (k := 0) rfl e3_0 rfl ?_ -- 34
    refine hM_gi M (by decide) rfl rfl rfl (k := 26) (c := 9) (lo := 0) (hi := 63) rfl rfl rfl rfl rfl (fun x4 q4 a4 b4 => ?_) -- 35
    refine hI_il (k := 3) rfl e3_3 rfl ?_ -- 38
    refine hM_is M (by decide) ok_49 (K := 27) (R2 := 63) (L := 64) (H := 64) (lo := 0) (hi := 15999) rfl (by decide) rfl rfl rfl (fun _ => rfl) (d_subm hw (by decide +kernel)) rfl q4 q2 (by omega) (by omega) (by omega) (by omega) rfl (fun h5 V5 f5 M5 => ?_) -- 39
    refine hI_al (k := 0) rfl e3_0 rfl ?_ -- 40
    refine hM_ga M5 (by decide) rfl rfl (k := 29) (c := 9) rfl rfl rfl (by decide +kernel) rfl ?_ -- 41
    refine hI_al (k := 0) rfl e3_0 rfl ?_ -- 44
    refine hM_gi M5 (by decide) rfl rfl rfl (k := 26) (c := 9) (lo := 0) (hi := 63) rfl rfl rfl rfl rfl (fun x6 q6 a6 b6 => ?_) -- 45
    refine hI_al (k := 0) rfl e3_0 rfl ?_ -- 48
    refine hM_ga M5 (by decide) rfl rfl (k := 31) (c := 9) rfl rfl rfl (by decide +kernel) rfl ?_ -- 49
    refine hI_il (k := 2) rfl e3_2 rfl ?_ -- 52
    refine hM_ia M5 (by decide) (K := 31) (R2 := 67) (L := 64) (H := 64) (lo := (-1)) (hi := 62) rfl (by decide) rfl rfl (fun _ => rfl) rfl q1 (by omega) (by omega) rfl (fun x7 q7 a7 b7 => ?_) -- 53
    have q7 : x7.toInt = V 31 (t + (-1)).toNat := by rw [q7, f5]; rfl
    rw [f5] at a7 b7
    change (-1) ≤ V 31 (t + (-1)).toNat at a7
    change V 31 (t + (-1)).toNat ≤ 62 at b7 -- 53
    refine hM_is M5 (by decide) ok_49 (K := 29) (R2 := 65) (L := 64) (H := 64) (lo := (-1)) (hi := 62) rfl (by decide) rfl rfl rfl (fun _ => rfl) (d_subm hw (by decide +kernel)) rfl q6 q7 (by omega) (by omega) (by omega) (by omega) rfl (fun h8 V8 f8 M8 => ?_) -- 54
    refine hI_al (k := 0) rfl e3_0 rfl ?_ -- 55
    refine hM_ga M8 (by decide) rfl rfl (k := 28) (c := 9) rfl rfl rfl (by decide +kernel) rfl ?_ -- 56
    refine hI_al (k := 0) rfl e3_0 rfl ?_ -- 59
    refine hM_gi M8 (by decide) rfl rfl rfl (k := 26) (c := 9) (lo := 0) (hi := 63) rfl rfl rfl rfl rfl (fun x9 q9 a9 b9 => ?_) -- 60
    refine hI_al (k := 0) rfl e3_0 rfl ?_ -- 63
    refine hM_ga M8 (by decide) rfl rfl (k := 29) (c := 9) rfl rfl rfl (by decide +kernel) rfl ?_ -- 64
    refine hI_al (k := 0) rfl e3_0 rfl ?_ -- 67
    refine hM_gi M8 (by decide) rfl rfl rfl (k := 26) (c := 9) (lo := 0) (hi := 63) rfl rfl rfl rfl rfl (fun x10 q10 a10 b10 => ?_) -- 68
    refine hM_ia M8 (by decide) (K := 29) (R2 := 65) (L := 64) (H := 64) (lo := (-1)) (hi := 62) rfl (by decide) rfl rfl (fun _ => rfl) rfl q10 (by omega) (by omega) rfl (fun x11 q11 a11 b11 => ?_) -- 71
    have w11 : V8 29 (F 26).toNat = V 31 (t + (-1)).toNat := by rw [f8, m_uE, m_uE]
    rw [w11] at q11 a11 b11 -- 71
    refine hM_ic (n := (-1)) rfl (by decide) rfl (fun x12 q12 => ?_) -- 72
    refine hM_cne (off := 7) (t := 80) rfl q11 q12 (by decide) rfl (fun c73 => ?_) (fun c73 => ?_) -- 73
    · refine hI_al (k := 0) rfl e3_0 rfl ?_ -- 80
      refine hM_ga M8 (by decide) rfl rfl (k := 28) (c := 9) rfl rfl rfl (by decide +kernel) rfl ?_ -- 81
      refine hI_al (k := 0) rfl e3_0 rfl ?_ -- 84
      refine hM_ga M8 (by decide) rfl rfl (k := 29) (c := 9) rfl rfl rfl (by decide +kernel) rfl ?_ -- 85
      refine hI_al (k := 0) rfl e3_0 rfl ?_ -- 88
      refine hM_gi M8 (by decide) rfl rfl rfl (k := 26) (c := 9) (lo := 0) (hi := 63) rfl rfl rfl rfl rfl (fun x13 q13 a13 b13 => ?_) -- 89
      refine hM_ia M8 (by decide) (K := 29) (R2 := 65) (L := 64) (H := 64) (lo := (-1)) (hi := 62) rfl (by decide) rfl rfl (fun _ => rfl) rfl q13 (by omega) (by omega) rfl (fun x14 q14 a14 b14 => ?_) -- 92
      have w14 : V8 29 (F 26).toNat = V 31 (t + (-1)).toNat := by rw [f8, m_uE, m_uE]
      rw [w14] at q14 a14 b14 -- 92
      refine hM_ia M8 (by decide) (K := 28) (R2 := 64) (L := 64) (H := 64) (lo := 0) (hi := 5) rfl (by decide) rfl rfl (fun _ => rfl) rfl q14 (by omega) (by omega) rfl (fun x15 q15 a15 b15 => ?_) -- 93
      have q15 : x15.toInt = V 28 (V 31 (t + (-1)).toNat).toNat := by rw [q15, f8, f5]; rfl
      rw [f8, f5] at a15 b15
      change 0 ≤ V 28 (V 31 (t + (-1)).toNat).toNat at a15
      change V 28 (V 31 (t + (-1)).toNat).toNat ≤ 5 at b15 -- 93
      refine hM_ic (n := 1) rfl (by decide) rfl (fun x16 q16 => ?_) -- 94
      refine hM_add rfl q15 q16 (by omega) (by omega) rfl (fun x17 q17 => ?_) -- 95
      refine hM_is M8 (by decide) ok_49 (K := 28) (R2 := 64) (L := 64) (H := 64) (lo := 0) (hi := 5) rfl (by decide) rfl rfl rfl (fun _ => rfl) (d_subm hw (by decide +kernel)) rfl q9 q17 (by omega) (by omega) (by omega) (by omega) rfl (fun h18 V18 f18 M18 => ?_) -- 96
      refine hM_ic (n := 0) rfl (by decide) rfl (fun x19 q19 => ?_) -- 97
      refine hM_si2 (k := 4) rfl (by decide +kernel) rfl (fun lv20 e20_4 u20 => ?_) -- 98
      have e20_0 := u20 0 _ (by decide) (Or.inl rfl) e3_0
      have e20_2 := u20 2 _ (by decide) (Or.inl rfl) e3_2
      have e20_3 := u20 3 _ (by decide) (Or.inl rfl) e3_3
      exact g1 x1 q1 x2 q2 h5 V5 f5 h8 V8 f8 h18 V18 f18 x19 q19 lv20 M18 e20_0 e20_2 e20_3 e20_4 c17 a2 b2 a4 b4 a7 b7 c73 a15 b15
    · refine hM_ic (n := 0) rfl (by decide) rfl (fun x21 q21 => ?_) -- 76
      refine hI_go (pc' := 96) (off := 19) rfl (by decide) ?_ -- 77
      refine hM_is M8 (by decide) ok_49 (K := 28) (R2 := 64) (L := 64) (H := 64) (lo := 0) (hi := 5) rfl (by decide) rfl rfl rfl (fun _ => rfl) (d_subm hw (by decide +kernel)) rfl q9 q21 (by omega) (by omega) (by omega) (by omega) rfl (fun h22 V22 f22 M22 => ?_) -- 96
      refine hM_ic (n := 0) rfl (by decide) rfl (fun x23 q23 => ?_) -- 97
      refine hM_si2 (k := 4) rfl (by decide +kernel) rfl (fun lv24 e24_4 u24 => ?_) -- 98
      have e24_0 := u24 0 _ (by decide) (Or.inl rfl) e3_0
      have e24_2 := u24 2 _ (by decide) (Or.inl rfl) e3_2
      have e24_3 := u24 3 _ (by decide) (Or.inl rfl) e3_3
      exact g2 x1 q1 x2 q2 h5 V5 f5 h8 V8 f8 h22 V22 f22 x23 q23 lv24 M22 e24_0 e24_2 e24_3 e24_4 c17 a2 b2 a4 b4 a7 b7 c73
theorem s_wt100 {t v k : Int} (M : MX 49 W ρ m A h0 h F V G) (e0 : m_lk lv 0 = some (.ref m)) {lx2 : Int32} (e2 : m_lk lv 2 = some (.int lx2)) (lq2 : lx2.toInt = t) {lx3 : Int32} (e3 : m_lk lv 3 = some (.int lx3)) (lq3 : lx3.toInt = v) {lx4 : Int32} (e4 : m_lk lv 4 = some (.int lx4)) (lq4 : lx4.toInt = k) (t0 : 0 ≤ t) (t1 : t ≤ 63) (v0 : 0 ≤ v) (v1 : v < 16000) (k0 : 0 ≤ k) (r5 : V 22 v.toNat ≤ 5) (b0 : k < V 22 v.toNat → t ≤ 62 ∧ F 26 ≤ 62 ∧ 0 ≤ V 23 (6 * v + k).toNat ∧ V 23 (6 * v + k).toNat ≤ 15999)(hw : d_sub [(66, 1001), (67, 1001)] W = true)
    (g0 : k ≥ V 22 (v).toNat → HJ 220 148 lv [] h Q)
    (g1 : ∀ h6 : MH, ∀ V6 : Nat → Nat → Int, V6 = m_u V 30 (m_u (V 30) (t).toNat (V 23 ((6 * v) + k).toNat)) → ∀ h8 : MH, ∀ V8 : Nat → Nat → Int, V8 = m_u V6 31 (m_u (V6 31) (t).toNat (F 26)) → ∀ x9 : Int32, x9.toInt = t + 1 → ∀ x10 : Int32, x10.toInt = k + 1 → ∀ lv10 : List (Nat × Value), MX 49 W ρ m A h0 h8 F V8 G → m_lk lv10 0 = some (.ref m) → m_lk lv10 2 = some (.int x9) → m_lk lv10 3 = some (.int lx3) → m_lk lv10 4 = some (.int x10) → k < V 22 (v).toNat → 0 ≤ F 26 → F 26 ≤ 63 → HJ 220 100 lv10 [] h8 Q)
    : HJ 220 100 lv [] h Q := by
  refine hI_il2 (k := 4) rfl e4 rfl ?_ -- 100
  refine hI_al (k := 0) rfl e0 rfl ?_ -- 102
  refine hM_ga M (by decide) rfl rfl (k := 22) (c := 9) rfl rfl rfl (by decide +kernel) rfl ?_ -- 103
  refine hI_il (k := 3) rfl e3 rfl ?_ -- 106
  refine hM_ba M (by decide) (K := 22) (R2 := 59) (L := 16000) (H := 16000) (lo := (-2147483648)) (hi := 2147483647) rfl (by decide) rfl rfl (Or.inl rfl) (fun _ => rfl) rfl lq3 (by omega) (by omega) rfl (fun x1 q1 a1 b1 => ?_) -- 107
  refine hM_cge (off := 40) (t := 148) rfl lq4 q1 (by decide) rfl (fun c108 => ?_) (fun c108 => ?_) -- 108
  · exact g0 c108
  · refine hI_al (k := 0) rfl e0 rfl ?_ -- 111
    refine hM_ga M (by decide) rfl rfl (k := 30) (c := 9) rfl rfl rfl (by decide +kernel) rfl ?_ -- 112
    refine hI_il (k := 2) rfl e2 rfl ?_ -- 115
    refine hI_al (k := 0) rfl e0 rfl ?_ -- 116
    refine hM_ga M (by decide) rfl rfl (k := 23) (c := 9) rfl rfl rfl (by decide +kernel) rfl ?_ -- 117
    refine hM_bp (n := 6) rfl (by decide) rfl (fun x2 q2 => ?_) -- 120
    refine hI_il (k := 3) rfl e3 rfl ?_ -- 122
    refine hM_mul rfl q2 lq3 (by omega) (by omega) rfl (fun x3 q3 => ?_) -- 123
    refine hI_il2 (k := 4) rfl e4 rfl ?_ -- 124
    refine hM_add rfl q3 lq4 (by omega) (by omega) rfl (fun x4 q4 => ?_) -- 126
    refine hM_ia M (by decide) (K := 23) (R2 := 60) (L := 96000) (H := 96000) (lo := (-2147483648)) (hi := 2147483647) rfl (by decide) rfl rfl (fun _ => rfl) rfl q4 (by omega) (by omega) rfl (fun x5 q5 a5 b5 => ?_) -- 127
    refine hM_is M (by decide) ok_49 (K := 30) (R2 := 66) (L := 64) (H := 64) (lo := 0) (hi := 15999) rfl (by decide) rfl rfl rfl (fun _ => rfl) (d_subm hw (by decide +kernel)) rfl lq2 q5 (by omega) (by omega) (by omega) (by omega) rfl (fun h6 V6 f6 M6 => ?_) -- 128
    refine hI_al (k := 0) rfl e0 rfl ?_ -- 129
    refine hM_ga M6 (by decide) rfl rfl (k := 31) (c := 9) rfl rfl rfl (by decide +kernel) rfl ?_ -- 130
    refine hI_il (k := 2) rfl e2 rfl ?_ -- 133
    refine hI_al (k := 0) rfl e0 rfl ?_ -- 134
    refine hM_gi M6 (by decide) rfl rfl rfl (k := 26) (c := 9) (lo := 0) (hi := 63) rfl rfl rfl rfl rfl (fun x7 q7 a7 b7 => ?_) -- 135
    refine hM_is M6 (by decide) ok_49 (K := 31) (R2 := 67) (L := 64) (H := 64) (lo := (-1)) (hi := 62) rfl (by decide) rfl rfl rfl (fun _ => rfl) (d_subm hw (by decide +kernel)) rfl lq2 q7 (by omega) (by omega) (by omega) (by omega) rfl (fun h8 V8 f8 M8 => ?_) -- 138
    refine hM_inc (k := 2) (z := 1) rfl e2 lq2 (by decide) (by omega) (by omega) (by decide +kernel) rfl (fun lv9 x9 q9 e9_2 u9 => ?_) -- 139
    have e9_0 := u9 0 _ (by decide) (Or.inl rfl) e0
    have e9_3 := u9 3 _ (by decide) (Or.inl rfl) e3
    have e9_4 := u9 4 _ (by decide) (Or.inl rfl) e4
    refine hM_inc (k := 4) (z := 1) rfl e9_4 lq4 (by decide) (by omega) (by omega) (by decide +kernel) rfl (fun lv10 x10 q10 e10_4 u10 => ?_) -- 142
    have e10_0 := u10 0 _ (by decide) (Or.inl rfl) e9_0
    have e10_3 := u10 3 _ (by decide) (Or.inl rfl) e9_3
    have e10_2 := u10 2 _ (by decide) (Or.inl rfl) e9_2
    refine hI_go (pc' := 100) (off := (-45)) rfl (by decide) ?_ -- 145
    exact g1 h6 V6 f6 h8 V8 f8 x9 q9 x10 q10 lv10 M8 e10_0 e10_2 e10_3 e10_4 c108 a7 b7
theorem s_wt148 {t : Int} (M : MX 49 W ρ m A h0 h F V G) (e0 : m_lk lv 0 = some (.ref m)) {lx2 : Int32} (e2 : m_lk lv 2 = some (.int lx2)) (lq2 : lx2.toInt = t) (w1 : F 26 < 63)(hw : d_sub [(49, 26)] W = true)
    (g0 : ∀ h4 : MH, ∀ F4 : Nat → Int, F4 = m_u F 26 ((F 26) + 1) → MX 49 W ρ m A h0 h4 F4 V G → 0 ≤ F 26 → F 26 ≤ 63 → HJ 220 16 lv [] h4 Q)
    : HJ 220 148 lv [] h Q := by
  refine hI_al (k := 0) rfl e0 rfl ?_ -- 148
  refine hI_dup rfl rfl rfl ?_ -- 149
  refine hM_gi M (by decide) rfl rfl rfl (k := 26) (c := 9) (lo := 0) (hi := 63) rfl rfl rfl rfl rfl (fun x1 q1 a1 b1 => ?_) -- 150
  refine hM_ic (n := 1) rfl (by decide) rfl (fun x2 q2 => ?_) -- 153
  refine hM_add rfl q1 q2 (by omega) (by omega) rfl (fun x3 q3 => ?_) -- 154
  refine hM_pi M (by decide) ok_49 rfl rfl (k := 26) (c := 9) (lo := 0) (hi := 63) rfl rfl ⟨by decide, by decide +kernel, rfl⟩ rfl (d_subm hw (by decide +kernel)) q3 (by omega) (by omega) rfl (fun h4 F4 f4 M4 => ?_) -- 155
  refine hI_go (pc' := 16) (off := (-142)) rfl (by decide) ?_ -- 158
  exact g0 h4 F4 f4 M4 a1 b1
def g_wk : List (Nat × Nat) := [(66, 1001), (67, 1001), (63, 1001), (65, 1001), (64, 1001), (49, 26)]
theorem l_wt100 {Z : PSt → List (Int × Int) → WKt → Prop} {F0 : Nat → Int} {V0 : Nat → Nat → Int} {W9 v w : Nat} (hw : d_sub g_wk W = true) (sh : p_sh (F0 17) (V0 22) (V0 23)) (n1 : F0 17 ≤ 16000) (hW : W9 ≤ 63) (cont : ∀ (lv : List (Nat × Value)) (h : MH) (V : Nat → Nat → Int) (t : Nat) (xt : Int32), MX 49 W ρ m A h0 h F V G → w_I F0 V0 F V → w_J (F0 17) (V0 22) (V 30) (V 31) (V 28) W9 t (w + 1) → w_X (F0 17) (V0 22) (V 27) (V 29) (V 28) (w + 1) → wk_J Z F0 V0 V t (w + 1) → xt.toInt = (t : Int) → m_lk lv 0 = some (.ref m) → m_lk lv 2 = some (.int xt) → HJ 220 148 lv [] h Q) (fw : F 26 = (w : Int)) : ∀ (d k t : Nat) (lv : List (Nat × Value)) (h : MH) (V : Nat → Nat → Int) (xt xv xk : Int32), V0 22 v ≤ (k : Int) + d → MX 49 W ρ m A h0 h F V G → w_I F0 V0 F V → w_K (F0 17) (V0 22) (V 30) (V 31) (V 28) W9 t k v w → w_X (F0 17) (V0 22) (V 27) (V 29) (V 28) (w + 1) → wk_K Z F0 V0 V t k v w → xt.toInt = (t : Int) → xv.toInt = (v : Int) → xk.toInt = (k : Int) → m_lk lv 0 = some (.ref m) → m_lk lv 2 = some (.int xt) → m_lk lv 3 = some (.int xv) → m_lk lv 4 = some (.int xk) → HJ 220 100 lv [] h Q := by
  have hw1 : d_sub [(66, 1001), (67, 1001)] W = true := d_subm hw (by decide +kernel)
  have endK : ∀ (V : Nat → Nat → Int) (k t : Nat), (v : Int) < F0 17 → (k : Int) = V0 22 v → wk_K Z F0 V0 V t k v w → wk_J Z F0 V0 V t (w + 1) := fun V k t v1 ek K S l R z => by
    obtain ⟨a, O, L, o, s, e⟩ := K S l R z
    refine ⟨a, O, o, ?_⟩
    rw [s, List.append_assoc]
    have : (ps_k S v).toNat = k := by
      rw [(a.2 v (by have := a.1; omega)).2.2.2.2.1]
      omega
    rw [this] at e
    exact e
  intro d
  induction d with
  | zero =>
    intro k t lv h V xt xv xk hd M I q X KJ ht hv hk e0 e2 e3 e4
    have kb := w_KB2 q hW
    have a1 := q.1.1
    have a2 := q.1.2.1
    have r22 : V 22 v = V0 22 v := by rw [I.2 22 (by decide)]
    exact s_wt100 M e0 e2 ht e3 hv e4 hk (by omega) (by omega) (by omega) (by omega) (by omega) (by rw [Int.toNat_natCast, r22]; exact a2) (fun z => by rw [Int.toNat_natCast, r22] at z; omega) hw1 (fun c => cont lv h V t xt M I (w_out q (by omega)) X (endK V k t a1 (by have := q.1.2.2.2.2; omega) KJ) ht e0 e2) (fun h6 V6 f6 h8 V8 f8 x9 q9 x10 q10 lv10 M8 e10_0 e10_2 e10_3 e10_4 c108 a7 b7 => by rw [Int.toNat_natCast, r22] at c108; omega)
  | succ d ih =>
    intro k t lv h V xt xv xk hd M I q X KJ ht hv hk e0 e2 e3 e4
    have kb := w_KB2 q hW
    have a1 := q.1.1
    have a2 := q.1.2.1
    have r22 : V 22 v = V0 22 v := by rw [I.2 22 (by decide)]
    have r23 : V 23 = V0 23 := I.2 23 (by decide)
    have s1 := sh v a1
    have eN : (6 * (v : Int) + (k : Int)).toNat = 6 * v + k := by omega
    refine s_wt100 M e0 e2 ht e3 hv e4 hk (by omega) (by omega) (by omega) (by omega) (by omega) (by rw [Int.toNat_natCast, r22]; exact a2) (fun z => ?_) hw1 (fun c => cont lv h V t xt M I (w_out q (by rw [Int.toNat_natCast, r22] at c; omega)) X (endK V k t a1 (by rw [Int.toNat_natCast, r22] at c; have := q.1.2.2.2.2; omega) KJ) ht e0 e2) (fun h6 V6 f6 h8 V8 f8 x9 q9 x10 q10 lv10 M8 e10_0 e10_2 e10_3 e10_4 c108 a7 b7 => ?_)
    · rw [Int.toNat_natCast, r22] at z
      obtain ⟨c1, c2, c3⟩ := s1.2 k z
      rw [eN, r23]
      omega
    · rw [Int.toNat_natCast, r22] at c108
      rw [eN, r23, Int.toNat_natCast] at f6
      rw [Int.toNat_natCast, fw] at f8
      have v30 : V8 30 = m_u (V 30) t (V0 23 (6 * v + k)) := by rw [f8, m_uN _ _ _ _ (by decide), f6, m_uE]
      have v31 : V8 31 = m_u (V 31) t (w : Int) := by rw [f8, m_uE, f6, m_uN _ _ _ _ (by decide)]
      have vo : ∀ K, K ≠ 30 → K ≠ 31 → V8 K = V K := fun K k1 k2 => by rw [f8, m_uN _ _ _ _ k2, f6, m_uN _ _ _ _ k1]
      refine ih (k + 1) (t + 1) lv10 h8 V8 x9 xv x10 (by omega) M8 ⟨I.1, fun K hK => by rw [vo K (by omega) (by omega), I.2 K hK]⟩ ?_ ?_ ?_ (by omega) hv (by omega) e10_0 e10_2 e10_3 e10_4
      · rw [vo 28 (by decide) (by decide), v30, v31]
        exact w_push sh q c108 (m_uE _ _ _) (fun j hj => m_uN _ _ _ _ (by omega)) (m_uE _ _ _) (fun j hj => m_uN _ _ _ _ (by omega))
      · rw [vo 27 (by decide) (by decide), vo 28 (by decide) (by decide), vo 29 (by decide) (by decide)]
        exact X
      · intro S l R z
        obtain ⟨a, O, L, o, s, e⟩ := KJ S l R z
        refine ⟨a, O, L, wk_ofC o (vo 27 (by decide) (by decide)) (vo 29 (by decide) (by decide)) (vo 28 (by decide) (by decide)), ?_, e⟩
        rw [wk_st, wk_ch, List.cons_append, wk_stC (P := V 30) (U := V 31) (fun j hj => ⟨by rw [v30, m_uN _ _ _ _ (by omega)], by rw [v31, m_uN _ _ _ _ (by omega)]⟩), s, v30, v31, m_uE, m_uE, Int.toNat_natCast, (a.2 v (by have := a.1; omega)).2.2.2.2.2 k c108]
theorem l_wt16 {Z : PSt → List (Int × Int) → WKt → Prop} {F0 : Nat → Int} {V0 : Nat → Nat → Int} {W9 : Nat} (hw : d_sub g_wk W = true) (sh : p_sh (F0 17) (V0 22) (V0 23)) (n1 : F0 17 ≤ 16000) (hW : W9 ≤ 63) (fin : ∀ (h : MH) (F : Nat → Int) (V : Nat → Nat → Int), MX 49 W ρ m A h0 h F V G → w_I F0 V0 F V → F 26 = (W9 : Int) → w_X (F0 17) (V0 22) (V 27) (V 29) (V 28) W9 → wk_J Z F0 V0 V 0 W9 → Q none h) : ∀ (d w t : Nat) (lv : List (Nat × Value)) (h : MH) (F : Nat → Int) (V : Nat → Nat → Int) (xt : Int32), W9 = w + d → F 26 = (w : Int) → MX 49 W ρ m A h0 h F V G → w_I F0 V0 F V → w_J (F0 17) (V0 22) (V 30) (V 31) (V 28) W9 t w → w_X (F0 17) (V0 22) (V 27) (V 29) (V 28) w → wk_J Z F0 V0 V t w → xt.toInt = (t : Int) → m_lk lv 0 = some (.ref m) → m_lk lv 2 = some (.int xt) → HJ 220 16 lv [] h Q := by
  have hw1 : d_sub [(63, 1001), (65, 1001), (64, 1001)] W = true := d_subm hw (by decide +kernel)
  have hw2 : d_sub [(49, 26)] W = true := d_subm hw (by decide +kernel)
  intro d
  induction d with
  | zero =>
    intro w t lv h F V xt hd fw M I q X KJ ht e0 e2
    have q2 := q.2
    have g := w_Sg (rk := V0 22) (P := V 30) t
    have t0 : t = 0 := by omega
    subst t0
    have ww : w = W9 := by omega
    subst ww
    exact s_wt16 M e0 e2 ht (by omega) (by omega) (fun z => by omega) (fun z => by omega) hw1 (fun c => fin h F V M I fw X KJ) (fun x1 q1 x2 q2 h5 V5 f5 h8 V8 f8 h18 V18 f18 x19 q19 lv20 M18 e20_0 e20_2 e20_3 e20_4 c17 a2 b2 a4 b4 a7 b7 c73 a15 b15 => by omega) (fun x1 q1 x2 q2 h5 V5 f5 h8 V8 f8 h22 V22 f22 x23 q23 lv24 M22 e24_0 e24_2 e24_3 e24_4 c17 a2 b2 a4 b4 a7 b7 c73 => by omega)
  | succ d ih =>
    intro w t lv h F V xt hd fw M I q X KJ ht e0 e2
    cases t with
    | zero =>
      have q2 := q.2
      rw [w_S] at q2
      omega
    | succ t =>
      obtain ⟨b1, b2⟩ := w_JB q hW
      obtain ⟨⟨p1, p2, p3⟩, p4⟩ := q.1 t (by omega)
      have s1 := (sh (V 30 t).toNat (by omega)).1
      have eN : (((t + 1 : Nat) : Int) + (-1)).toNat = t := by omega
      have wN : (F 26).toNat = w := by omega
      have dU : V 31 t ≠ -1 → 0 ≤ V 28 (V 31 t).toNat := fun z => by
        rcases p4 with y | y
        · exact absurd y z
        · exact (M.vi (by decide) (K := 28) (R2 := 64) rfl (by decide) rfl rfl (lo := 0) (hi := 5) (V 31 t).toNat rfl (by omega)).1
      have dU0 : 0 ≤ V 28 (V 31 t).toNat ∨ V 31 t = -1 := by
        by_cases z : V 31 t = -1
        · exact Or.inr z
        · exact Or.inl (dU z)
      -- the inner loop, from its beginning
      have inn : ∀ (dv : Int) (V8 : Nat → Nat → Int) (h8 : MH) (lv8 : List (Nat × Value)) (x1 x2 x3 : Int32), (V 31 t = -1 → dv = 0) → (V 31 t ≠ -1 → dv = V 28 (V 31 t).toNat + 1) → V8 27 = m_u (V 27) w (V 30 t) → V8 29 = m_u (V 29) w (V 31 t) → V8 28 = m_u (V 28) w dv → (∀ K, K ≠ 27 → K ≠ 28 → K ≠ 29 → V8 K = V K) → MX 49 W ρ m A h0 h8 F V8 G → x1.toInt = (t : Int) → x2.toInt = V 30 t → x3.toInt = 0 → m_lk lv8 0 = some (.ref m) → m_lk lv8 2 = some (.int x1) → m_lk lv8 3 = some (.int x2) → m_lk lv8 4 = some (.int x3) → HJ 220 100 lv8 [] h8 Q := fun dv V8 h8 lv8 x1 x2 x3 d1 d2 v27 v29 v28 vo M8 q1 q2 q3 a0 a2 a3 a4 => by
        refine l_wt100 (w := w) (v := (V 30 t).toNat) (F := F) hw sh n1 hW (Z := Z) (fun lv9 h9 V9 t9 x9 M9 I9 q9 X9 J9 y9 c0 c2 => ?_) fw 6 0 t lv8 h8 V8 x1 x2 x3 (by omega) M8 ⟨I.1, fun K hK => by rw [vo K (by omega) (by omega) (by omega), I.2 K hK]⟩ ?_ ?_ ?_ q1 (by omega) q3 a0 a2 a3 a4
        · refine s_wt148 M9 c0 c2 y9 (by omega) hw2 (fun h4 F4 f4 M4 a1 b1 => ?_)
          exact ih (w + 1) t9 lv9 h4 F4 V9 x9 (by omega) (by rw [f4, m_uE]; omega) M4 ⟨fun K hK => by rw [f4, m_uN _ _ _ _ hK, I9.1 K hK], I9.2⟩ q9 X9 J9 y9 c0 c2
        · rw [vo 30 (by decide) (by decide) (by decide), vo 31 (by decide) (by decide) (by decide), v28]
          by_cases z : V 31 t = -1
          · refine w_pop' sh q (by omega) (fun j hj => m_uN _ _ _ _ hj) (Or.inl ⟨z, by rw [m_uE]; exact d1 z⟩)
          · refine w_pop' sh q (by omega) (fun j hj => m_uN _ _ _ _ hj) (Or.inr ⟨z, by rw [m_uE]; exact d2 z, dU z⟩)
        · rw [v27, v28, v29]
          refine w_XS X (fun j hj => m_uN _ _ _ _ hj) (fun j hj => m_uN _ _ _ _ hj) (fun j hj => m_uN _ _ _ _ hj) (by rw [m_uE]; exact ⟨p1, p2, p3⟩) ?_
          rw [m_uE, m_uE]
          rcases p4 with y | ⟨y1, y2, y3⟩
          · exact Or.inl ⟨y, d1 y⟩
          · exact Or.inr ⟨y1, y2, d2 (by omega)⟩
        · intro S l R z
          obtain ⟨a, O, o, e⟩ := KJ S l R z
          have ev : (((V 30 t).toNat : Nat) : Int) = V 30 t := by omega
          refine ⟨a, wk_on (V 30 t) (V 31 t) O, wk_st (V 30) (V 31) t, wk_ofS o v27 v29 v28 (fun y => ?_) d1 d2, ?_, ?_⟩
          · rcases p4 with y2 | y2
            · exact absurd y2 y
            · omega
          · rw [wk_ch, List.nil_append, vo 30 (by decide) (by decide) (by decide), vo 31 (by decide) (by decide) (by decide)]
          · rw [wk_st, List.cons_append, show 64 - w = (64 - (w + 1)) + 1 by omega, wk_go, o.1] at e
            rw [ev]
            exact e
      refine s_wt16 M e0 e2 ht (by omega) (by omega) (fun z => by omega) (fun _ z => ?_) hw1 (fun c => by omega) (fun x1 q1 x2 q2 h5 V5 f5 h8 V8 f8 h18 V18 f18 x19 q19 lv20 M18 e20_0 e20_2 e20_3 e20_4 c17 a2 b2 a4 b4 a7 b7 c73 a15 b15 => ?_) (fun x1 q1 x2 q2 h5 V5 f5 h8 V8 f8 h22 V22 f22 x23 q23 lv24 M22 e24_0 e24_2 e24_3 e24_4 c17 a2 b2 a4 b4 a7 b7 c73 => ?_)
      · rw [eN] at z ⊢
        rcases p4 with y | ⟨y1, y2, y3⟩
        · exact absurd y z
        · omega
      · rw [eN] at q2 f5 f8 f18 c73
        rw [wN] at f5 f8 f18
        exact inn _ V18 h18 lv20 x1 x2 x19 (fun z => absurd z c73) (fun _ => rfl) (by rw [f18, m_uN _ _ _ _ (by decide), f8, m_uN _ _ _ _ (by decide), f5, m_uE]) (by rw [f18, m_uN _ _ _ _ (by decide), f8, m_uE, f5, m_uN _ _ _ _ (by decide)]) (by rw [f18, m_uE, f8, m_uN _ _ _ _ (by decide), f5, m_uN _ _ _ _ (by decide)]) (fun K k1 k2 k3 => by rw [f18, m_uN _ _ _ _ k2, f8, m_uN _ _ _ _ k3, f5, m_uN _ _ _ _ k1]) M18 (by omega) q2 q19 e20_0 e20_2 e20_3 e20_4
      · rw [eN] at q2 f5 f8 c73
        rw [wN] at f5 f8 f22
        exact inn _ V22 h22 lv24 x1 x2 x23 (fun _ => rfl) (fun z => absurd c73 z) (by rw [f22, m_uN _ _ _ _ (by decide), f8, m_uN _ _ _ _ (by decide), f5, m_uE]) (by rw [f22, m_uN _ _ _ _ (by decide), f8, m_uE, f5, m_uN _ _ _ _ (by decide)]) (by rw [f22, m_uE, f8, m_uN _ _ _ _ (by decide), f5, m_uN _ _ _ _ (by decide)]) (fun K k1 k2 k3 => by rw [f22, m_uN _ _ _ _ k2, f8, m_uN _ _ _ _ k3, f5, m_uN _ _ _ _ k1]) M22 (by omega) q2 q23 e24_0 e24_2 e24_3 e24_4
-- one tree
theorem c_walkTree {x : Int} {r w : Nat} {xx : Int32} (M : MX 49 W ρ m A h0 h F V G) (hw : d_sub g_wk W = true) (sh : p_sh (F 17) (V 22) (V 23)) (n1 : F 17 ≤ 16000) (hx : xx.toInt = x) (x0 : 0 ≤ x) (x1 : x < F 17) (rx : V 22 x.toNat = r) (r5 : r ≤ 5) (fw : F 26 = (w : Int)) (w63 : w + 2 ^ r ≤ 63) (X : w_X (F 17) (V 22) (V 27) (V 29) (V 28) w) (g : ∀ (h' : MH) (F' : Nat → Int) (V' : Nat → Nat → Int), MX 49 W ρ m A h0 h' F' V' G → w_I F V F' V' → F' 26 = ((w + 2 ^ r : Nat) : Int) → w_X (F 17) (V 22) (V' 27) (V' 29) (V' 28) (w + 2 ^ r) → (∀ S l R, rn_of F V S → (∃ O, wk_of V w O ∧ wk_go S (64 - w) ((x, -1) :: l) O = R) → ∃ O, wk_of V' (w + 2 ^ r) O ∧ wk_go S (64 - (w + 2 ^ r)) l O = R) → Q none h') : HJ 220 0 (lv_args 0 [.ref m, .int xx]) [] h Q := by
  have hw1 : d_sub [(66, 1001), (67, 1001)] W = true := d_subm hw (by decide +kernel)
  refine s_wt0 M rfl rfl hx x0 (by omega) hw1 (fun x1 q1 h4 V4 f4 h7 V7 f7 lv2 M7 e2_0 e2_2 => ?_)
  have v30 : V7 30 = m_u (V 30) 0 x := by rw [f7, m_uN _ _ _ _ (by decide), f4, m_uE]; rfl
  have v31 : V7 31 = m_u (V 31) 0 (-1) := by rw [f7, m_uE, f4, m_uN _ _ _ _ (by decide)]; rfl
  have vo : ∀ K, K ≠ 30 → K ≠ 31 → V7 K = V K := fun K k1 k2 => by rw [f7, m_uN _ _ _ _ k2, f4, m_uN _ _ _ _ k1]
  refine l_wt16 (Z := fun S l R => rn_of F V S ∧ ∃ O, wk_of V w O ∧ wk_go S (64 - w) ((x, -1) :: l) O = R) (F0 := F) (V0 := V) hw sh n1 w63 (fun h' F' V' M' I' f' X' J' => g h' F' V' M' I' f' X' (fun S l R a z => by
    obtain ⟨-, O, o, e⟩ := J' S l R ⟨a, z⟩
    exact ⟨O, o, e⟩)) (2 ^ r) w 1 lv2 h7 F V7 x1 rfl fw M7 ⟨fun _ _ => rfl, fun K hK => vo K (by omega) (by omega)⟩ ⟨fun j hj => ?_, ?_⟩ ?_ (fun S l R z => ?_) q1 e2_0 e2_2
  · have j0 : j = 0 := by omega
    subst j0
    unfold w_en
    rw [v30, v31, m_uE, m_uE]
    exact ⟨⟨x0, by omega, by omega⟩, Or.inl rfl⟩
  · rw [v30, w_S, w_S, m_uE, rx, Int.toNat_natCast]
    omega
  · rw [vo 27 (by decide) (by decide), vo 28 (by decide) (by decide), vo 29 (by decide) (by decide)]
    exact X
  · obtain ⟨a, O, o, e⟩ := z
    refine ⟨a, O, wk_ofC o (vo 27 (by decide) (by decide)) (vo 29 (by decide) (by decide)) (vo 28 (by decide) (by decide)), ?_⟩
    rw [wk_st, wk_st, v30, v31, m_uE, m_uE]
    exact e
theorem s_wa0 (M : MX 49 W ρ m A h0 h F V G) (e0 : m_lk lv 0 = some (.ref m)) (hw : d_sub [(49, 26)] W = true)
    (g0 : ∀ h2 : MH, ∀ F2 : Nat → Int, F2 = m_u F 26 (0) → ∀ x3 : Int32, x3.toInt = 0 → ∀ lv4 : List (Nat × Value), MX 49 W ρ m A h0 h2 F2 V G → m_lk lv4 0 = some (.ref m) → m_lk lv4 1 = some (.int x3) → HJ 219 7 lv4 [] h2 Q)
    : HJ 219 0 lv [] h Q := by
  refine hI_al (k := 0) rfl e0 rfl ?_ -- 0
  refine hM_ic (n := 0) rfl (by decide) rfl (fun x1 q1 => ?_) -- 1
  refine hM_pi M (by decide) ok_49 rfl rfl (k := 26) (c := 9) (lo := 0) (hi := 63) rfl rfl ⟨by decide, by decide +kernel, rfl⟩ rfl (d_subm hw (by decide +kernel)) q1 (by omega) (by omega) rfl (fun h2 F2 f2 M2 => ?_) -- 2
  refine hM_ic (n := 0) rfl (by decide) rfl (fun x3 q3 => ?_) -- 5
  refine hM_si (k := 1) rfl (by decide +kernel) rfl (fun lv4 e4_1 u4 => ?_) -- 6
  have e4_0 := u4 0 _ (by decide) (Or.inl rfl) e0
  exact g0 h2 F2 f2 x3 q3 lv4 M2 e4_0 e4_1
theorem s_wa7 {r : Int} (M : MX 49 W ρ m A h0 h F V G) (e0 : m_lk lv 0 = some (.ref m)) {lx1 : Int32} (e1 : m_lk lv 1 = some (.int lx1)) (lq1 : lx1.toInt = r) (r0 : 0 ≤ r)
    (g0 : r ≥ 6 → Q none h)
    (g1 : ∀ x4 : Int32, x4.toInt = r + 1 → ∀ lv4 : List (Nat × Value), m_lk lv4 0 = some (.ref m) → m_lk lv4 1 = some (.int x4) → r < 6 → (-1) ≤ V 24 (r).toNat → V 24 (r).toNat ≤ 15999 → V 24 (r).toNat = (-1) → HJ 219 7 lv4 [] h Q)
    (g2 : ∀ x5 : Int32, x5.toInt = V 24 (r).toNat → r < 6 → (-1) ≤ V 24 (r).toNat → V 24 (r).toNat ≤ 15999 → V 24 (r).toNat ≠ (-1) → HJ 220 0 (lv_args 0 [.ref m, .int x5]) [] h (fun v h' => HJ 219 33 lv (v.toList ++ []) h' Q))
    : HJ 219 7 lv [] h Q := by
  refine hI_il (k := 1) rfl e1 rfl ?_ -- 7
  refine hM_bp (n := 6) rfl (by decide) rfl (fun x1 q1 => ?_) -- 8
  refine hM_cge (off := 29) (t := 39) rfl lq1 q1 (by decide) rfl (fun c10 => ?_) (fun c10 => ?_) -- 10
  · refine hI_rv rfl rfl ?_
    exact g0 c10
  · refine hI_al (k := 0) rfl e0 rfl ?_ -- 13
    refine hM_ga M (by decide) rfl rfl (k := 24) (c := 9) rfl rfl rfl (by decide +kernel) rfl ?_ -- 14
    refine hI_il (k := 1) rfl e1 rfl ?_ -- 17
    refine hM_ia M (by decide) (K := 24) (R2 := 61) (L := 6) (H := 6) (lo := (-1)) (hi := 15999) rfl (by decide) rfl rfl (fun _ => rfl) rfl lq1 (by omega) (by omega) rfl (fun x2 q2 a2 b2 => ?_) -- 18
    refine hM_ic (n := (-1)) rfl (by decide) rfl (fun x3 q3 => ?_) -- 19
    refine hM_ceq (off := 13) (t := 33) rfl q2 q3 (by decide) rfl (fun c20 => ?_) (fun c20 => ?_) -- 20
    · refine hM_inc (k := 1) (z := 1) rfl e1 lq1 (by decide) (by omega) (by omega) (by decide +kernel) rfl (fun lv4 x4 q4 e4_1 u4 => ?_) -- 33
      have e4_0 := u4 0 _ (by decide) (Or.inl rfl) e0
      refine hI_go (pc' := 7) (off := (-29)) rfl (by decide) ?_ -- 36
      exact g1 x4 q4 lv4 e4_0 e4_1 c10 a2 b2 c20
    · refine hI_al (k := 0) rfl e0 rfl ?_ -- 23
      refine hI_al (k := 0) rfl e0 rfl ?_ -- 24
      refine hM_ga M (by decide) rfl rfl (k := 24) (c := 9) rfl rfl rfl (by decide +kernel) rfl ?_ -- 25
      refine hI_il (k := 1) rfl e1 rfl ?_ -- 28
      refine hM_ia M (by decide) (K := 24) (R2 := 61) (L := 6) (H := 6) (lo := (-1)) (hi := 15999) rfl (by decide) rfl rfl (fun _ => rfl) rfl lq1 (by omega) (by omega) rfl (fun x5 q5 a5 b5 => ?_) -- 29
      refine hM_iv M (by decide) rfl rfl (by decide) (as := [.int x5]) (r := []) rfl rfl (by decide +kernel) rfl (by decide +kernel) rfl rfl rfl rfl rfl ?_ -- 30
      exact g2 x5 q5 c10 a2 b2 c20
theorem s_wa33 {r : Int} (M : MX 49 W ρ m A h0 h F V G) (e0 : m_lk lv 0 = some (.ref m)) {lx1 : Int32} (e1 : m_lk lv 1 = some (.int lx1)) (lq1 : lx1.toInt = r) (r0 : 0 ≤ r) (r1 : r < 6)
    (g0 : ∀ x1 : Int32, x1.toInt = r + 1 → ∀ lv1 : List (Nat × Value), m_lk lv1 0 = some (.ref m) → m_lk lv1 1 = some (.int x1) → HJ 219 7 lv1 [] h Q)
    : HJ 219 33 lv [] h Q := by
  refine hM_inc (k := 1) (z := 1) rfl e1 lq1 (by decide) (by omega) (by omega) (by decide +kernel) rfl (fun lv1 x1 q1 e1_1 u1 => ?_) -- 33
  have e1_0 := u1 0 _ (by decide) (Or.inl rfl) e0
  refine hI_go (pc' := 7) (off := (-29)) rfl (by decide) ?_ -- 36
  exact g0 x1 q1 lv1 e1_0 e1_1
theorem l_wa {F0 : Nat → Int} {V0 : Nat → Nat → Int} (hw : d_sub g_wk W = true) (sh : p_sh (F0 17) (V0 22) (V0 23)) (hp : p_hp (F0 17) (V0 22) (V0 24)) (n1 : F0 17 ≤ 16000) (g : ∀ (h' : MH) (F' : Nat → Int) (V' : Nat → Nat → Int), MX 49 W ρ m A h0 h' F' V' G → w_I F0 V0 F' V' → F' 26 = (p_ws (V0 24) 6 : Int) → w_X (F0 17) (V0 22) (V' 27) (V' 29) (V' 28) (p_ws (V0 24) 6) → (∀ S, rn_of F0 V0 S → wk_of V' (p_ws (V0 24) 6) (wk_all S (V0 24))) → Q none h') : ∀ (d r : Nat) (lv : List (Nat × Value)) (h : MH) (F : Nat → Int) (V : Nat → Nat → Int) (xr : Int32), r + d = 6 → MX 49 W ρ m A h0 h F V G → w_I F0 V0 F V → F 26 = (p_ws (V0 24) r : Int) → w_X (F0 17) (V0 22) (V 27) (V 29) (V 28) (p_ws (V0 24) r) → (∀ S, rn_of F0 V0 S → ∃ O, wk_of V (p_ws (V0 24) r) O ∧ wk_go S (64 - p_ws (V0 24) r) (wk_rs (V0 24) d r) O = wk_all S (V0 24)) → xr.toInt = (r : Int) → m_lk lv 0 = some (.ref m) → m_lk lv 1 = some (.int xr) → HJ 219 7 lv [] h Q := by
  intro d
  induction d with
  | zero =>
    intro r lv h F V xr hd M I fw X KJ hr e0 e1
    have r6 : r = 6 := by omega
    subst r6
    exact s_wa7 M e0 e1 hr (by omega) (fun _ => g h F V M I fw X (fun S a => by
      obtain ⟨O, o, e⟩ := KJ S a
      rw [wk_rs, wk_go0] at e
      rw [← e]
      exact o)) (fun x4 q4 lv4 e4_0 e4_1 c10 a2 b2 c20 => by omega) (fun x5 q5 c10 a2 b2 c20 => by omega)
  | succ d ih =>
    intro r lv h F V xr hd M I fw X KJ hr e0 e1
    have v24 : V 24 = V0 24 := I.2 24 (by decide)
    have v22 : V 22 = V0 22 := I.2 22 (by decide)
    have v23 : V 23 = V0 23 := I.2 23 (by decide)
    have f17 : F 17 = F0 17 := I.1 17 (by decide)
    refine s_wa7 M e0 e1 hr (by omega) (fun _ => by omega) (fun x4 q4 lv4 e4_0 e4_1 c10 a2 b2 c20 => ?_) (fun x5 q5 c10 a2 b2 c20 => ?_)
    · rw [Int.toNat_natCast, v24] at c20
      have e : p_ws (V0 24) (r + 1) = p_ws (V0 24) r := by rw [p_ws, y_tg0 c20]; omega
      exact ih (r + 1) lv4 h F V x4 (by omega) M I (by rw [e]; exact fw) (by rw [e]; exact X) (fun S a => by
        obtain ⟨O, o, z⟩ := KJ S a
        rw [wk_rs, if_pos c20] at z
        rw [e]
        exact ⟨O, o, z⟩) (by omega) e4_0 e4_1
    · rw [Int.toNat_natCast, v24] at c20 a2 b2 q5
      obtain ⟨t0, t1, t2⟩ := (hp r (by omega)).resolve_left c20
      have e : p_ws (V0 24) (r + 1) = p_ws (V0 24) r + 2 ^ r := by rw [p_ws, y_tg1 c20]; omega
      have lt := p_wsL (f := V0 24) (r + 1)
      have l2 : 2 ^ (r + 1) ≤ 2 ^ 6 := Nat.pow_le_pow_right (by decide) (by omega)
      have l3 : (2 : Nat) ^ 6 = 64 := rfl
      refine c_walkTree (r := r) (w := p_ws (V0 24) r) M hw (by rw [f17, v22, v23]; exact sh) (by omega) q5 t0 (by omega) (by rw [v22]; exact t2) (by omega) fw (by omega) (by rw [f17, v22]; exact X) (fun h2 F2 V2 M2 I2 f2 X2 RJ => ?_)
      rw [f17, v22] at X2
      refine s_wa33 M2 e0 e1 hr (by omega) (by omega) (fun x1 q1 lv1 d0 d1 => ?_)
      exact ih (r + 1) lv1 h2 F2 V2 x1 (by omega) M2 ⟨fun K hK => (I2.1 K hK).trans (I.1 K hK), fun K hK => (I2.2 K hK).trans (I.2 K hK)⟩ (by rw [e]; exact f2) (by rw [e]; exact X2) (fun S a => by
        have k := KJ S a
        rw [wk_rs, if_neg c20] at k
        rw [e]
        exact RJ S _ _ (rn_ofV a f17 (I.2 20 (by decide)) (I.2 21 (by decide)) v22 v23) k) (by omega) d0 d1
theorem c_walkAll (M : MX 49 W ρ m A h0 h F V G) (b0_ : m_lk lv 0 = some (.ref m)) (hw : d_sub g_wk W = true) (sh : p_sh (F 17) (V 22) (V 23)) (hp : p_hp (F 17) (V 22) (V 24)) (n1 : F 17 ≤ 16000) (g : ∀ (h' : MH) (F' : Nat → Int) (V' : Nat → Nat → Int), MX 49 W ρ m A h0 h' F' V' G → w_I F V F' V' → F' 26 = (p_ws (V 24) 6 : Int) → w_X (F 17) (V 22) (V' 27) (V' 29) (V' 28) (p_ws (V 24) 6) → (∀ S h, rn_of F V S → hp6 (V 24) h → wk_of V' (p_ws (V 24) 6) (wk_all S h)) → Q none h') : HJ 219 0 lv [] h Q := by
  have hw2 : d_sub [(49, 26)] W = true := d_subm hw (by decide +kernel)
  refine s_wa0 M b0_ hw2 (fun h2 F2 f2 x3 q3 lv4 M2 e4_0 e4_1 => ?_)
  exact l_wa (F0 := F) (V0 := V) hw sh hp n1 (fun h' F' V' M' I' f' X' J' => g h' F' V' M' I' f' X' (fun S h a e => by
    have := J' S a
    unfold wk_all at this ⊢
    rw [wk_rsC (f := V 24) (h := h) (fun k _ k2 => e k (by omega))] at this
    exact this)) 6 0 lv4 h2 F2 V x3 rfl M2 ⟨fun K hK => by rw [f2, m_uN _ _ _ _ hK], fun _ _ => rfl⟩ (by rw [f2, m_uE]; rfl) (fun i hi => absurd hi (Nat.not_lt_zero i)) (fun S _ => ⟨wk_0, ⟨rfl, fun i hi => absurd hi (Nat.not_lt_zero i)⟩, rfl⟩) q3 e4_0 e4_1
end
end
section
-- A THING IS LOWERED
theorem p_shC {n : Int} {rk bl rk' bl' : Nat → Int} {u r : Int} (sh : p_sh n rk bl) (n0 : 0 ≤ n) (u0 : 0 ≤ u) (u1 : u < n) (ru : rk u.toNat = r) (hrk : rk' = m_u rk n.toNat r) (b1 : ∀ j, j < 6 * n.toNat → bl' j = bl j) (b2 : ∀ p, p < r.toNat → bl' (6 * n.toNat + p) = bl (6 * u.toNat + p)) : p_sh (n + 1) rk' bl' := by
  intro v hv
  have old : ∀ x : Nat, (x : Int) < n → rk' x = rk x := fun x hx => by rw [hrk, m_uN _ _ _ _ (by omega)]
  obtain ⟨s1, s2⟩ := sh u.toNat (by omega)
  rw [ru] at s1 s2
  by_cases e : v = n.toNat
  · have ev : rk' v = r := by rw [hrk, e, m_uE]
    rw [ev, e]
    refine ⟨s1, fun q hq => ?_⟩
    obtain ⟨t1, t2, t3⟩ := s2 q hq
    rw [b2 q (by omega)]
    exact ⟨t1, by omega, by rw [old _ (by omega)]; exact t3⟩
  · obtain ⟨s3, s4⟩ := sh v (by omega)
    rw [old v (by omega)]
    refine ⟨s3, fun q hq => ?_⟩
    obtain ⟨t1, t2, t3⟩ := s4 q hq
    rw [b1 _ (by omega)]
    exact ⟨t1, by omega, by rw [old _ (by omega)]; exact t3⟩
theorem p_shW {n : Int} {rk bl : Nat → Int} {y q : Nat} {x : Int} (sh : p_sh n rk bl) (q5 : q ≤ 5) (x0 : 0 ≤ x) (x1 : x < n) (rx : rk x.toNat = q) : p_sh n rk (m_u bl (6 * y + q) x) := by
  intro v hv
  obtain ⟨s1, s2⟩ := sh v hv
  refine ⟨s1, fun r hr => ?_⟩
  by_cases e : 6 * v + r = 6 * y + q
  · have : r = q := by omega
    rw [e, m_uE, this]
    exact ⟨x0, x1, rx⟩
  · rw [m_uN _ _ _ _ e]
    exact s2 r hr
-- the pure lowering, place by place
theorem lw_fP {S : PSt} {t k : Int} {O : WKt} : ∀ {d i : Nat}, lw_f S t k O d i ≠ -1 → (i : Int) ≤ lw_f S t k O d i ∧ lw_f S t k O d i < (i : Int) + d ∧ ps_t S (O.2.1 (lw_f S t k O d i).toNat).toNat = t ∧ k ≤ ps_y S (O.2.1 (lw_f S t k O d i).toNat).toNat
  | 0, _, h => absurd rfl h
  | d + 1, i, h => by
    rw [lw_f] at h ⊢
    by_cases c : ps_t S (O.2.1 i).toNat = t ∧ k ≤ ps_y S (O.2.1 i).toNat
    · rw [if_pos c, Int.toNat_natCast]
      exact ⟨by omega, by omega, c.1, c.2⟩
    · rw [if_neg c] at h ⊢
      obtain ⟨a, b, e, f⟩ := lw_fP h
      exact ⟨by omega, by omega, e, f⟩
theorem lw_mkV {S : PSt} {t k : Int} {y : Nat → Nat} {n e : Nat} : ∀ d, (ps_n (lw_mk S t k y n e d) = ps_n S + d ∧ ps_l (lw_mk S t k y n e d) = ps_l S) ∧ (∀ v, v < ps_n S → ps_t (lw_mk S t k y n e d) v = ps_t S v ∧ ps_y (lw_mk S t k y n e d) v = ps_y S v ∧ ps_k (lw_mk S t k y n e d) v = ps_k S v ∧ ∀ r, r < 6 → ps_b (lw_mk S t k y n e d) (6 * v + r) = ps_b S (6 * v + r)) ∧ ∀ j, j < d → ps_t (lw_mk S t k y n e d) (ps_n S + j) = (if j = e then t else ps_t S (y (if e < j then j - 1 else j))) ∧ ps_y (lw_mk S t k y n e d) (ps_n S + j) = (if j = e then k else ps_y S (y (if e < j then j - 1 else j))) ∧ ps_k (lw_mk S t k y n e d) (ps_n S + j) = ps_k S (y j) ∧ ∀ r, r < 6 → ps_b (lw_mk S t k y n e d) (6 * (ps_n S + j) + r) = if j < n ∧ (r : Int) = ps_k S (y (j + 1)) then ((ps_n S + j + 1 : Nat) : Int) else ps_b S (6 * y j + r)
  | 0 => ⟨⟨rfl, rfl⟩, fun _ _ => ⟨rfl, rfl, rfl, fun _ _ => rfl⟩, fun j hj => absurd hj (Nat.not_lt_zero j)⟩
  | d + 1 => by
    obtain ⟨⟨a1, a2⟩, a3, a4⟩ := lw_mkV (S := S) (t := t) (k := k) (y := y) (n := n) (e := e) d
    rw [lw_mk]
    obtain ⟨n1, n2, n3, n4, n5⟩ := ps_mkN (S := lw_mk S t k y n e d) (t := if d = e then t else ps_t S (y (if e < d then d - 1 else d))) (y := if d = e then k else ps_y S (y (if e < d then d - 1 else d))) (k := ps_k S (y d)) (f := fun r => if d < n ∧ (r : Int) = ps_k S (y (d + 1)) then ((ps_n S + d + 1 : Nat) : Int) else ps_b S (6 * y d + r))
    rw [n1, n2, n3, n4, n5, a1]
    refine ⟨⟨by omega, a2⟩, fun v hv => ?_, fun j hj => ?_⟩
    · rw [m_uN _ _ _ _ (by omega), m_uN _ _ _ _ (by omega), m_uN _ _ _ _ (by omega)]
      obtain ⟨b1, b2, b3, b4⟩ := a3 v hv
      exact ⟨b1, b2, b3, fun r hr => by rw [ps_mkB (by rw [a1]; omega)]; exact b4 r hr⟩
    · by_cases q : j = d
      · rw [q, m_uE, m_uE, m_uE]
        refine ⟨rfl, rfl, rfl, fun r hr => ?_⟩
        rw [← a1, ps_mkC hr, a1]
      · rw [m_uN _ _ _ _ (by omega), m_uN _ _ _ _ (by omega), m_uN _ _ _ _ (by omega)]
        obtain ⟨b1, b2, b3, b4⟩ := a4 j (by omega)
        exact ⟨b1, b2, b3, fun r hr => by rw [ps_mkB (by rw [a1]; omega)]; exact b4 r hr⟩
section
variable {lv : List (Nat × Value)} {Q : Option Value → MH → Prop} {W : List (Nat × Nat)} {ρ : Nat → Nat} {m : Nat} {A : Nat → Nat} {h0 h : MH} {F : Nat → Int} {V : Nat → Nat → Int} {G : Nat → Nat → Int64}
theorem s_ren0 {n : Int} (M : MX 49 W ρ m A h0 h F V G) (e0 : m_lk lv 0 = some (.ref m)) {lx1 : Int32} (e1 : m_lk lv 1 = some (.int lx1)) (lq1 : lx1.toInt = n) 
    (g0 : ∀ x1 : Int32, x1.toInt = F 17 → ∀ x3 : Int32, x3.toInt = 0 → ∀ lv4 : List (Nat × Value), m_lk lv4 0 = some (.ref m) → m_lk lv4 1 = some (.int lx1) → m_lk lv4 2 = some (.int x1) → m_lk lv4 3 = some (.int x3) → 0 ≤ F 17 → F 17 ≤ 16000 → HJ 221 7 lv4 [] h Q)
    : HJ 221 0 lv [] h Q := by
  refine hI_al (k := 0) rfl e0 rfl ?_ -- 0
  refine hM_gi M (by decide) rfl rfl rfl (k := 17) (c := 9) (lo := 0) (hi := 16000) rfl rfl rfl rfl rfl (fun x1 q1 a1 b1 => ?_) -- 1
  refine hM_si (k := 2) rfl (by decide +kernel) rfl (fun lv2 e2_2 u2 => ?_) -- 4
  have e2_0 := u2 0 _ (by decide) (Or.inl rfl) e0
  have e2_1 := u2 1 _ (by decide) (Or.inl rfl) e1
  refine hM_ic (n := 0) rfl (by decide) rfl (fun x3 q3 => ?_) -- 5
  refine hM_si (k := 3) rfl (by decide +kernel) rfl (fun lv4 e4_3 u4 => ?_) -- 6
  have e4_0 := u4 0 _ (by decide) (Or.inl rfl) e2_0
  have e4_1 := u4 1 _ (by decide) (Or.inl rfl) e2_1
  have e4_2 := u4 2 _ (by decide) (Or.inl rfl) e2_2
  exact g0 x1 q1 x3 q3 lv4 e4_0 e4_1 e4_2 e4_3 a1 b1
theorem s_ren7 {n f i : Int} (M : MX 49 W ρ m A h0 h F V G) (e0 : m_lk lv 0 = some (.ref m)) {lx1 : Int32} (e1 : m_lk lv 1 = some (.int lx1)) (lq1 : lx1.toInt = n) {lx2 : Int32} (e2 : m_lk lv 2 = some (.int lx2)) (lq2 : lx2.toInt = f) {lx3 : Int32} (e3 : m_lk lv 3 = some (.int lx3)) (lq3 : lx3.toInt = i) (i0 : 0 ≤ i) (n1 : n ≤ 5) (w0 : i ≤ n → 0 ≤ V 32 i.toNat ∧ V 32 i.toNat < 16000) (w1 : 0 ≤ V 32 (0 : Int).toNat ∧ V 32 (0 : Int).toNat < 16000) (r0 : 0 ≤ V 22 (V 32 (0 : Int).toNat).toNat ∧ V 22 (V 32 (0 : Int).toNat).toNat ≤ 5) (f0 : 0 ≤ f) (f1 : f < 16000)(hw : d_sub [(61, 1001)] W = true)
    (g0 : ∀ h4 : MH, ∀ V4 : Nat → Nat → Int, V4 = m_u V 24 (m_u (V 24) (V 22 (V 32 (0 : Int).toNat).toNat).toNat (f)) → MX 49 W ρ m A h0 h4 F V4 G → i > n → 0 ≤ V 32 (0 : Int).toNat → V 32 (0 : Int).toNat ≤ 15999 → Q none h4)
    (g1 : ∀ x5 : Int32, x5.toInt = V 33 (i).toNat → ∀ x6 : Int32, x6.toInt = V 34 (i).toNat → ∀ x8 : Int32, x8.toInt = V 22 (V 32 (i).toNat).toNat → i ≤ n → 0 ≤ V 32 (i).toNat → V 32 (i).toNat ≤ 15999 → HJ 212 0 (lv_args 0 [.ref m, .int x5, .int x6, .int x8]) [] h (fun v h' => HJ 221 39 lv (v.toList ++ []) h' Q))
    : HJ 221 7 lv [] h Q := by
  refine hI_il (k := 3) rfl e3 rfl ?_ -- 7
  refine hI_il (k := 1) rfl e1 rfl ?_ -- 8
  refine hM_cgt (off := 123) (t := 132) rfl lq3 lq1 (by decide) rfl (fun c9 => ?_) (fun c9 => ?_) -- 9
  · refine hI_al (k := 0) rfl e0 rfl ?_ -- 132
    refine hM_ga M (by decide) rfl rfl (k := 24) (c := 9) rfl rfl rfl (by decide +kernel) rfl ?_ -- 133
    refine hI_al (k := 0) rfl e0 rfl ?_ -- 136
    refine hM_ga M (by decide) rfl rfl (k := 22) (c := 9) rfl rfl rfl (by decide +kernel) rfl ?_ -- 137
    refine hI_al (k := 0) rfl e0 rfl ?_ -- 140
    refine hM_ga M (by decide) rfl rfl (k := 32) (c := 9) rfl rfl rfl (by decide +kernel) rfl ?_ -- 141
    refine hM_ic (n := 0) rfl (by decide) rfl (fun x1 q1 => ?_) -- 144
    refine hM_ia M (by decide) (K := 32) (R2 := 68) (L := 6) (H := 6) (lo := 0) (hi := 15999) rfl (by decide) rfl rfl (fun _ => rfl) rfl q1 (by omega) (by omega) rfl (fun x2 q2 a2 b2 => ?_) -- 145
    refine hM_ba M (by decide) (K := 22) (R2 := 59) (L := 16000) (H := 16000) (lo := (-2147483648)) (hi := 2147483647) rfl (by decide) rfl rfl (Or.inl rfl) (fun _ => rfl) rfl q2 (by omega) (by omega) rfl (fun x3 q3 a3 b3 => ?_) -- 146
    refine hI_il (k := 2) rfl e2 rfl ?_ -- 147
    refine hM_is M (by decide) ok_49 (K := 24) (R2 := 61) (L := 6) (H := 6) (lo := (-1)) (hi := 15999) rfl (by decide) rfl rfl rfl (fun _ => rfl) (d_subm hw (by decide +kernel)) rfl q3 lq2 (by omega) (by omega) (by omega) (by omega) rfl (fun h4 V4 f4 M4 => ?_) -- 148
    refine hI_rv rfl rfl ?_
    exact g0 h4 V4 f4 M4 c9 a2 b2
  · refine hI_al (k := 0) rfl e0 rfl ?_ -- 12
    refine hI_al (k := 0) rfl e0 rfl ?_ -- 13
    refine hM_ga M (by decide) rfl rfl (k := 33) (c := 9) rfl rfl rfl (by decide +kernel) rfl ?_ -- 14
    refine hI_il (k := 3) rfl e3 rfl ?_ -- 17
    refine hM_ia M (by decide) (K := 33) (R2 := 69) (L := 6) (H := 6) (lo := (-2147483648)) (hi := 2147483647) rfl (by decide) rfl rfl (fun _ => rfl) rfl lq3 (by omega) (by omega) rfl (fun x5 q5 a5 b5 => ?_) -- 18
    refine hI_al (k := 0) rfl e0 rfl ?_ -- 19
    refine hM_ga M (by decide) rfl rfl (k := 34) (c := 9) rfl rfl rfl (by decide +kernel) rfl ?_ -- 20
    refine hI_il (k := 3) rfl e3 rfl ?_ -- 23
    refine hM_ia M (by decide) (K := 34) (R2 := 70) (L := 6) (H := 6) (lo := (-2147483648)) (hi := 2147483647) rfl (by decide) rfl rfl (fun _ => rfl) rfl lq3 (by omega) (by omega) rfl (fun x6 q6 a6 b6 => ?_) -- 24
    refine hI_al (k := 0) rfl e0 rfl ?_ -- 25
    refine hM_ga M (by decide) rfl rfl (k := 22) (c := 9) rfl rfl rfl (by decide +kernel) rfl ?_ -- 26
    refine hI_al (k := 0) rfl e0 rfl ?_ -- 29
    refine hM_ga M (by decide) rfl rfl (k := 32) (c := 9) rfl rfl rfl (by decide +kernel) rfl ?_ -- 30
    refine hI_il (k := 3) rfl e3 rfl ?_ -- 33
    refine hM_ia M (by decide) (K := 32) (R2 := 68) (L := 6) (H := 6) (lo := 0) (hi := 15999) rfl (by decide) rfl rfl (fun _ => rfl) rfl lq3 (by omega) (by omega) rfl (fun x7 q7 a7 b7 => ?_) -- 34
    refine hM_ba M (by decide) (K := 22) (R2 := 59) (L := 16000) (H := 16000) (lo := (-2147483648)) (hi := 2147483647) rfl (by decide) rfl rfl (Or.inl rfl) (fun _ => rfl) rfl q7 (by omega) (by omega) rfl (fun x8 q8 a8 b8 => ?_) -- 35
    refine hM_iv M (by decide) rfl rfl (by decide) (as := [.int x5, .int x6, .int x8]) (r := []) rfl rfl (by decide +kernel) rfl (by decide +kernel) rfl rfl rfl rfl rfl ?_ -- 36
    exact g1 x5 q5 x6 q6 x8 q8 c9 a7 b7
theorem s_ren39 {n f i x : Int} (M : MX 49 W ρ m A h0 h F V G) (e0 : m_lk lv 0 = some (.ref m)) {lx1 : Int32} (e1 : m_lk lv 1 = some (.int lx1)) (lq1 : lx1.toInt = n) {lx2 : Int32} (e2 : m_lk lv 2 = some (.int lx2)) (lq2 : lx2.toInt = f) {lx3 : Int32} (e3 : m_lk lv 3 = some (.int lx3)) (lq3 : lx3.toInt = i) {sx0 : Int32} (sq0 : sx0.toInt = x) 
    (g0 : ∀ x2 : Int32, x2.toInt = 0 → ∀ lv3 : List (Nat × Value), m_lk lv3 0 = some (.ref m) → m_lk lv3 1 = some (.int lx1) → m_lk lv3 2 = some (.int lx2) → m_lk lv3 3 = some (.int lx3) → m_lk lv3 4 = some (.int sx0) → m_lk lv3 5 = some (.int x2) → HJ 221 44 lv3 [] h Q)
    : HJ 221 39 lv [.int sx0] h Q := by
  refine hM_si2 (k := 4) rfl (by decide +kernel) rfl (fun lv1 e1_4 u1 => ?_) -- 39
  have e1_0 := u1 0 _ (by decide) (Or.inl rfl) e0
  have e1_1 := u1 1 _ (by decide) (Or.inl rfl) e1
  have e1_2 := u1 2 _ (by decide) (Or.inl rfl) e2
  have e1_3 := u1 3 _ (by decide) (Or.inl rfl) e3
  refine hM_ic (n := 0) rfl (by decide) rfl (fun x2 q2 => ?_) -- 41
  refine hM_si2 (k := 5) rfl (by decide +kernel) rfl (fun lv3 e3_5 u3 => ?_) -- 42
  have e3_0 := u3 0 _ (by decide) (Or.inl rfl) e1_0
  have e3_1 := u3 1 _ (by decide) (Or.inl rfl) e1_1
  have e3_2 := u3 2 _ (by decide) (Or.inl rfl) e1_2
  have e3_3 := u3 3 _ (by decide) (Or.inl rfl) e1_3
  have e3_4 := u3 4 _ (by decide) (Or.inl rfl) e1_4
  exact g0 x2 q2 lv3 e3_0 e3_1 e3_2 e3_3 e3_4 e3_5
theorem s_ren44 {n f i x q : Int} (M : MX 49 W ρ m A h0 h F V G) (e0 : m_lk lv 0 = some (.ref m)) {lx1 : Int32} (e1 : m_lk lv 1 = some (.int lx1)) (lq1 : lx1.toInt = n) {lx2 : Int32} (e2 : m_lk lv 2 = some (.int lx2)) (lq2 : lx2.toInt = f) {lx3 : Int32} (e3 : m_lk lv 3 = some (.int lx3)) (lq3 : lx3.toInt = i) {lx4 : Int32} (e4 : m_lk lv 4 = some (.int lx4)) (lq4 : lx4.toInt = x) {lx5 : Int32} (e5 : m_lk lv 5 = some (.int lx5)) (lq5 : lx5.toInt = q) (i0 : 0 ≤ i) (i1 : i ≤ 5) (q0 : 0 ≤ q) (x0 : 0 ≤ x) (x1 : x < 16000) (w0 : 0 ≤ V 32 i.toNat ∧ V 32 i.toNat < 16000) (r0 : 0 ≤ V 22 (V 32 i.toNat).toNat ∧ V 22 (V 32 i.toNat).toNat ≤ 5)(hw : d_sub [(60, 1001)] W = true)
    (g0 : 0 ≤ V 32 (i).toNat → V 32 (i).toNat ≤ 15999 → q ≥ V 22 (V 32 (i).toNat).toNat → HJ 221 96 lv [] h Q)
    (g1 : ∀ h11 : MH, ∀ V11 : Nat → Nat → Int, V11 = m_u V 23 (m_u (V 23) ((6 * x) + q).toNat (V 23 ((6 * (V 32 (i).toNat)) + q).toNat)) → ∀ x12 : Int32, x12.toInt = q + 1 → ∀ lv12 : List (Nat × Value), MX 49 W ρ m A h0 h11 F V11 G → m_lk lv12 0 = some (.ref m) → m_lk lv12 1 = some (.int lx1) → m_lk lv12 2 = some (.int lx2) → m_lk lv12 3 = some (.int lx3) → m_lk lv12 4 = some (.int lx4) → m_lk lv12 5 = some (.int x12) → 0 ≤ V 32 (i).toNat → V 32 (i).toNat ≤ 15999 → q < V 22 (V 32 (i).toNat).toNat → HJ 221 44 lv12 [] h11 Q)
    : HJ 221 44 lv [] h Q := by
  refine hI_il2 (k := 5) rfl e5 rfl ?_ -- 44
  refine hI_al (k := 0) rfl e0 rfl ?_ -- 46
  refine hM_ga M (by decide) rfl rfl (k := 22) (c := 9) rfl rfl rfl (by decide +kernel) rfl ?_ -- 47
  refine hI_al (k := 0) rfl e0 rfl ?_ -- 50
  refine hM_ga M (by decide) rfl rfl (k := 32) (c := 9) rfl rfl rfl (by decide +kernel) rfl ?_ -- 51
  refine hI_il (k := 3) rfl e3 rfl ?_ -- 54
  refine hM_ia M (by decide) (K := 32) (R2 := 68) (L := 6) (H := 6) (lo := 0) (hi := 15999) rfl (by decide) rfl rfl (fun _ => rfl) rfl lq3 (by omega) (by omega) rfl (fun x1 q1 a1 b1 => ?_) -- 55
  refine hM_ba M (by decide) (K := 22) (R2 := 59) (L := 16000) (H := 16000) (lo := (-2147483648)) (hi := 2147483647) rfl (by decide) rfl rfl (Or.inl rfl) (fun _ => rfl) rfl q1 (by omega) (by omega) rfl (fun x2 q2 a2 b2 => ?_) -- 56
  refine hM_cge (off := 39) (t := 96) rfl lq5 q2 (by decide) rfl (fun c57 => ?_) (fun c57 => ?_) -- 57
  · exact g0 a1 b1 c57
  · refine hI_al (k := 0) rfl e0 rfl ?_ -- 60
    refine hM_ga M (by decide) rfl rfl (k := 23) (c := 9) rfl rfl rfl (by decide +kernel) rfl ?_ -- 61
    refine hM_bp (n := 6) rfl (by decide) rfl (fun x3 q3 => ?_) -- 64
    refine hI_il2 (k := 4) rfl e4 rfl ?_ -- 66
    refine hM_mul rfl q3 lq4 (by omega) (by omega) rfl (fun x4 q4 => ?_) -- 68
    refine hI_il2 (k := 5) rfl e5 rfl ?_ -- 69
    refine hM_add rfl q4 lq5 (by omega) (by omega) rfl (fun x5 q5 => ?_) -- 71
    refine hI_al (k := 0) rfl e0 rfl ?_ -- 72
    refine hM_ga M (by decide) rfl rfl (k := 23) (c := 9) rfl rfl rfl (by decide +kernel) rfl ?_ -- 73
    refine hM_bp (n := 6) rfl (by decide) rfl (fun x6 q6 => ?_) -- 76
    refine hI_al (k := 0) rfl e0 rfl ?_ -- 78
    refine hM_ga M (by decide) rfl rfl (k := 32) (c := 9) rfl rfl rfl (by decide +kernel) rfl ?_ -- 79
    refine hI_il (k := 3) rfl e3 rfl ?_ -- 82
    refine hM_ia M (by decide) (K := 32) (R2 := 68) (L := 6) (H := 6) (lo := 0) (hi := 15999) rfl (by decide) rfl rfl (fun _ => rfl) rfl lq3 (by omega) (by omega) rfl (fun x7 q7 a7 b7 => ?_) -- 83
    refine hM_mul rfl q6 q7 (by omega) (by omega) rfl (fun x8 q8 => ?_) -- 84
    refine hI_il2 (k := 5) rfl e5 rfl ?_ -- 85
    refine hM_add rfl q8 lq5 (by omega) (by omega) rfl (fun x9 q9 => ?_) -- 87
    refine hM_ia M (by decide) (K := 23) (R2 := 60) (L := 96000) (H := 96000) (lo := (-2147483648)) (hi := 2147483647) rfl (by decide) rfl rfl (fun _ => rfl) rfl q9 (by omega) (by omega) rfl (fun x10 q10 a10 b10 => ?_) -- 88
    refine hM_is M (by decide) ok_49 (K := 23) (R2 := 60) (L := 96000) (H := 96000) (lo := (-2147483648)) (hi := 2147483647) rfl (by decide) rfl rfl rfl (fun _ => rfl) (d_subm hw (by decide +kernel)) rfl q5 q10 (by omega) (by omega) (by omega) (by omega) rfl (fun h11 V11 f11 M11 => ?_) -- 89
    refine hM_inc (k := 5) (z := 1) rfl e5 lq5 (by decide) (by omega) (by omega) (by decide +kernel) rfl (fun lv12 x12 q12 e12_5 u12 => ?_) -- 90
    have e12_0 := u12 0 _ (by decide) (Or.inl rfl) e0
    have e12_1 := u12 1 _ (by decide) (Or.inl rfl) e1
    have e12_2 := u12 2 _ (by decide) (Or.inl rfl) e2
    have e12_3 := u12 3 _ (by decide) (Or.inl rfl) e3
    have e12_4 := u12 4 _ (by decide) (Or.inl rfl) e4
    refine hI_go (pc' := 44) (off := (-49)) rfl (by decide) ?_ -- 93
    exact g1 h11 V11 f11 x12 q12 lv12 M11 e12_0 e12_1 e12_2 e12_3 e12_4 e12_5 a1 b1 c57
theorem s_ren96 {n f i x : Int} (M : MX 49 W ρ m A h0 h F V G) (e0 : m_lk lv 0 = some (.ref m)) {lx1 : Int32} (e1 : m_lk lv 1 = some (.int lx1)) (lq1 : lx1.toInt = n) {lx2 : Int32} (e2 : m_lk lv 2 = some (.int lx2)) (lq2 : lx2.toInt = f) {lx3 : Int32} (e3 : m_lk lv 3 = some (.int lx3)) (lq3 : lx3.toInt = i) {lx4 : Int32} (e4 : m_lk lv 4 = some (.int lx4)) (lq4 : lx4.toInt = x) (i0 : 0 ≤ i) (i1 : i ≤ 5) (x0 : 0 ≤ x) (x1 : x < 16000) (x2 : 0 < i → 1 ≤ x) (w0 : 0 ≤ V 32 i.toNat ∧ V 32 i.toNat < 16000) (r0 : 0 ≤ V 22 (V 32 i.toNat).toNat ∧ V 22 (V 32 i.toNat).toNat ≤ 5)(hw : d_sub [(60, 1001)] W = true)
    (g0 : ∀ x1 : Int32, x1.toInt = i + 1 → ∀ lv1 : List (Nat × Value), m_lk lv1 0 = some (.ref m) → m_lk lv1 1 = some (.int lx1) → m_lk lv1 2 = some (.int lx2) → m_lk lv1 3 = some (.int x1) → i ≤ 0 → HJ 221 7 lv1 [] h Q)
    (g1 : ∀ h9 : MH, ∀ V9 : Nat → Nat → Int, V9 = m_u V 23 (m_u (V 23) ((6 * (x - 1)) + (V 22 (V 32 (i).toNat).toNat)).toNat (x)) → ∀ x10 : Int32, x10.toInt = i + 1 → ∀ lv10 : List (Nat × Value), MX 49 W ρ m A h0 h9 F V9 G → m_lk lv10 0 = some (.ref m) → m_lk lv10 1 = some (.int lx1) → m_lk lv10 2 = some (.int lx2) → m_lk lv10 3 = some (.int x10) → i > 0 → 0 ≤ V 32 (i).toNat → V 32 (i).toNat ≤ 15999 → HJ 221 7 lv10 [] h9 Q)
    : HJ 221 96 lv [] h Q := by
  refine hI_il (k := 3) rfl e3 rfl ?_ -- 96
  refine hM_zle (off := 29) (t := 126) rfl lq3 (by decide) rfl (fun c97 => ?_) (fun c97 => ?_) -- 97
  · refine hM_inc (k := 3) (z := 1) rfl e3 lq3 (by decide) (by omega) (by omega) (by decide +kernel) rfl (fun lv1 x1 q1 e1_3 u1 => ?_) -- 126
    have e1_0 := u1 0 _ (by decide) (Or.inl rfl) e0
    have e1_1 := u1 1 _ (by decide) (Or.inl rfl) e1
    have e1_2 := u1 2 _ (by decide) (Or.inl rfl) e2
    have e1_4 := u1 4 _ (by decide) (Or.inl rfl) e4
    refine hI_go (pc' := 7) (off := (-122)) rfl (by decide) ?_ -- 129
    exact g0 x1 q1 lv1 e1_0 e1_1 e1_2 e1_3 c97
  · refine hI_al (k := 0) rfl e0 rfl ?_ -- 100
    refine hM_ga M (by decide) rfl rfl (k := 23) (c := 9) rfl rfl rfl (by decide +kernel) rfl ?_ -- 101
    refine hM_bp (n := 6) rfl (by decide) rfl (fun x2 q2 => ?_) -- 104
    refine hI_il2 (k := 4) rfl e4 rfl ?_ -- 106
    refine hM_ic (n := 1) rfl (by decide) rfl (fun x3 q3 => ?_) -- 108
    refine hM_sub rfl lq4 q3 (by omega) (by omega) rfl (fun x4 q4 => ?_) -- 109
    refine hM_mul rfl q2 q4 (by omega) (by omega) rfl (fun x5 q5 => ?_) -- 110
    refine hI_al (k := 0) rfl e0 rfl ?_ -- 111
    refine hM_ga M (by decide) rfl rfl (k := 22) (c := 9) rfl rfl rfl (by decide +kernel) rfl ?_ -- 112
    refine hI_al (k := 0) rfl e0 rfl ?_ -- 115
    refine hM_ga M (by decide) rfl rfl (k := 32) (c := 9) rfl rfl rfl (by decide +kernel) rfl ?_ -- 116
    refine hI_il (k := 3) rfl e3 rfl ?_ -- 119
    refine hM_ia M (by decide) (K := 32) (R2 := 68) (L := 6) (H := 6) (lo := 0) (hi := 15999) rfl (by decide) rfl rfl (fun _ => rfl) rfl lq3 (by omega) (by omega) rfl (fun x6 q6 a6 b6 => ?_) -- 120
    refine hM_ba M (by decide) (K := 22) (R2 := 59) (L := 16000) (H := 16000) (lo := (-2147483648)) (hi := 2147483647) rfl (by decide) rfl rfl (Or.inl rfl) (fun _ => rfl) rfl q6 (by omega) (by omega) rfl (fun x7 q7 a7 b7 => ?_) -- 121
    refine hM_add rfl q5 q7 (by omega) (by omega) rfl (fun x8 q8 => ?_) -- 122
    refine hI_il2 (k := 4) rfl e4 rfl ?_ -- 123
    refine hM_is M (by decide) ok_49 (K := 23) (R2 := 60) (L := 96000) (H := 96000) (lo := (-2147483648)) (hi := 2147483647) rfl (by decide) rfl rfl rfl (fun _ => rfl) (d_subm hw (by decide +kernel)) rfl q8 lq4 (by omega) (by omega) (by omega) (by omega) rfl (fun h9 V9 f9 M9 => ?_) -- 125
    refine hM_inc (k := 3) (z := 1) rfl e3 lq3 (by decide) (by omega) (by omega) (by decide +kernel) rfl (fun lv10 x10 q10 e10_3 u10 => ?_) -- 126
    have e10_0 := u10 0 _ (by decide) (Or.inl rfl) e0
    have e10_1 := u10 1 _ (by decide) (Or.inl rfl) e1
    have e10_2 := u10 2 _ (by decide) (Or.inl rfl) e2
    have e10_4 := u10 4 _ (by decide) (Or.inl rfl) e4
    refine hI_go (pc' := 7) (off := (-122)) rfl (by decide) ?_ -- 129
    exact g1 h9 V9 f9 x10 q10 lv10 M9 e10_0 e10_1 e10_2 e10_3 c97 a6 b6
theorem l_ren44 {u x : Int} {i : Nat} {F : Nat → Int} {V0 V1 : Nat → Nat → Int} {r : Int} {xn xf xi xx : Int32} {n f : Int} (hw : d_sub [(60, 1001)] W = true) (i5 : i ≤ 5) (hn : xn.toInt = n) (hf : xf.toInt = f) (hi : xi.toInt = (i : Int)) (hx : xx.toInt = x) (x0 : 0 ≤ x) (x1 : x < 16000) (hu : V1 32 i = u) (u0 : 0 ≤ u) (u1 : u < x) (ru : V1 22 u.toNat = r) (r0 : 0 ≤ r) (r5 : r ≤ 5) (g : ∀ (lv : List (Nat × Value)) (h : MH) (V : Nat → Nat → Int), MX 49 W ρ m A h0 h F V G → (∀ K, K ≠ 23 → V K = V1 K) → (∀ j, j < 6 * x.toNat → V 23 j = V0 23 j) → (∀ p, p < r.toNat → V 23 (6 * x.toNat + p) = V0 23 (6 * u.toNat + p)) → m_lk lv 0 = some (.ref m) → m_lk lv 1 = some (.int xn) → m_lk lv 2 = some (.int xf) → m_lk lv 3 = some (.int xi) → m_lk lv 4 = some (.int xx) → HJ 221 96 lv [] h Q) : ∀ (d : Nat) (q : Int) (lv : List (Nat × Value)) (h : MH) (V : Nat → Nat → Int) (xq : Int32), q + d = r → 0 ≤ q → xq.toInt = q → MX 49 W ρ m A h0 h F V G → (∀ K, K ≠ 23 → V K = V1 K) → (∀ j, j < 6 * x.toNat → V 23 j = V0 23 j) → (∀ p, p < q.toNat → V 23 (6 * x.toNat + p) = V0 23 (6 * u.toNat + p)) → m_lk lv 0 = some (.ref m) → m_lk lv 1 = some (.int xn) → m_lk lv 2 = some (.int xf) → m_lk lv 3 = some (.int xi) → m_lk lv 4 = some (.int xx) → m_lk lv 5 = some (.int xq) → HJ 221 44 lv [] h Q := by
  intro d
  induction d with
  | zero =>
    intro q lv h V xq hd q0 hq M k1 k2 k3 e0 e1 e2 e3 e4 e5
    have vu : V 32 i = u := by rw [k1 32 (by decide), hu]
    have vr : V 22 u.toNat = r := by rw [k1 22 (by decide), ru]
    refine s_ren44 M e0 e1 hn e2 hf e3 hi e4 hx e5 hq (by omega) (by omega) q0 x0 x1 (by rw [Int.toNat_natCast, vu]; omega) (by rw [Int.toNat_natCast, vu, vr]; omega) hw (fun a1 b1 c57 => g lv h V M k1 k2 (fun p hp => k3 p (by omega)) e0 e1 e2 e3 e4) (fun h11 V11 f11 x12 q12 lv12 M11 e12_0 e12_1 e12_2 e12_3 e12_4 e12_5 a1 b1 c57 => ?_)
    rw [Int.toNat_natCast, vu, vr] at c57
    omega
  | succ d ih =>
    intro q lv h V xq hd q0 hq M k1 k2 k3 e0 e1 e2 e3 e4 e5
    have vu : V 32 i = u := by rw [k1 32 (by decide), hu]
    have vr : V 22 u.toNat = r := by rw [k1 22 (by decide), ru]
    refine s_ren44 M e0 e1 hn e2 hf e3 hi e4 hx e5 hq (by omega) (by omega) q0 x0 x1 (by rw [Int.toNat_natCast, vu]; omega) (by rw [Int.toNat_natCast, vu, vr]; omega) hw (fun a1 b1 c57 => ?_) (fun h11 V11 f11 x12 q12 lv12 M11 e12_0 e12_1 e12_2 e12_3 e12_4 e12_5 a1 b1 c57 => ?_)
    · rw [Int.toNat_natCast, vu, vr] at c57
      omega
    · rw [Int.toNat_natCast, vu] at f11
      have v6 : V11 23 = m_u (V 23) (6 * x + q).toNat (V 23 (6 * u + q).toNat) := by rw [f11, m_uE]
      refine ih (q + 1) lv12 h11 V11 x12 (by omega) (by omega) q12 M11 (fun K hK => by rw [f11, m_uN _ _ _ _ hK, k1 K hK]) (fun j hj => ?_) (fun p hp => ?_) e12_0 e12_1 e12_2 e12_3 e12_4 e12_5
      · rw [v6, m_uN _ _ _ _ (by omega)]
        exact k2 j hj
      · rw [v6]
        by_cases e : p = q.toNat
        · rw [show 6 * x.toNat + p = (6 * x + q).toNat by omega, m_uE, k2 _ (by omega), show (6 * u + q).toNat = 6 * u.toNat + p by omega]
        · rw [m_uN _ _ _ _ (by omega)]
          exact k3 p (by omega)
-- the way anew, from its root on
def g_ri (F0 : Nat → Int) (V0 : Nat → Nat → Int) (F : Nat → Int) (V : Nat → Nat → Int) (i : Nat) : Prop := p_sh (F 17) (V 22) (V 23) ∧ F 17 = F0 17 + i ∧ (∀ K, K ≠ 17 → F K = F0 K) ∧ (∀ v : Nat, (v : Int) < F0 17 → V 22 v = V0 22 v) ∧ (∀ j, j < i → V 22 ((F0 17).toNat + j) = V0 22 (V0 32 j).toNat) ∧ ∀ K, K ≠ 20 → K ≠ 21 → K ≠ 22 → K ≠ 23 → V K = V0 K
def g_rj (F0 : Nat → Int) (V0 V : Nat → Nat → Int) (n i : Nat) : Prop := (∀ j, j ≤ n → (0 ≤ V0 33 j ∧ V0 33 j ≤ 127) ∧ 0 ≤ V0 34 j ∧ V0 34 j ≤ 99) → (∀ v : Nat, (v : Int) < F0 17 → V 20 v = V0 20 v ∧ V 21 v = V0 21 v) ∧ (∀ j, j < 6 * (F0 17).toNat → V 23 j = V0 23 j) ∧ ∀ j, j < i → V 20 ((F0 17).toNat + j) = V0 33 j ∧ V 21 ((F0 17).toNat + j) = V0 34 j ∧ ∀ r : Nat, (r : Int) < V0 22 (V0 32 j).toNat → V 23 (6 * ((F0 17).toNat + j) + r) = if j + 1 < i ∧ (r : Int) = V0 22 (V0 32 (j + 1)).toNat then F0 17 + ((j : Int) + 1) else V0 23 (6 * (V0 32 j).toNat + r)
theorem l_ren7 {F0 : Nat → Int} {V0 : Nat → Nat → Int} {n : Nat} {xn xf : Int32} (hw : d_sub g_ln W = true) (hw2 : d_sub [(61, 1001)] W = true) (n0 : 0 ≤ F0 17) (n1 : F0 17 + 6 ≤ 16000) (n5 : n ≤ 5) (wy : ∀ j, j ≤ n → 0 ≤ V0 32 j ∧ V0 32 j < F0 17 ∧ 0 ≤ V0 22 (V0 32 j).toNat ∧ V0 22 (V0 32 j).toNat ≤ 5) (hn : xn.toInt = (n : Int)) (hf : xf.toInt = F0 17) (g : ∀ (h' : MH) (F' : Nat → Int) (V1 V' : Nat → Nat → Int), MX 49 W ρ m A h0 h' F' V' G → g_ri F0 V0 F' V1 (n + 1) → g_rj F0 V0 V1 n (n + 1) → V' = m_u V1 24 (m_u (V1 24) (V0 22 (V0 32 0).toNat).toNat (F0 17)) → Q none h') : ∀ (d i : Nat) (lv : List (Nat × Value)) (h : MH) (F : Nat → Int) (V : Nat → Nat → Int) (xi : Int32), i + d = n + 1 → MX 49 W ρ m A h0 h F V G → g_ri F0 V0 F V i → g_rj F0 V0 V n i → xi.toInt = (i : Int) → m_lk lv 0 = some (.ref m) → m_lk lv 1 = some (.int xn) → m_lk lv 2 = some (.int xf) → m_lk lv 3 = some (.int xi) → HJ 221 7 lv [] h Q := by
  have w1 : d_sub g_mk W = true := d_subm hw (by decide +kernel)
  have w2 : d_sub [(60, 1001)] W = true := d_subm hw (by decide +kernel)
  intro d
  induction d with
  | zero =>
    intro i lv h F V xi hd M I IJ hi e0 e1 e2 e3
    have I' := I
    obtain ⟨sh, fn, fo, ro, rn, vo⟩ := I'
    have v32 : V 32 = V0 32 := vo 32 (by decide) (by decide) (by decide) (by decide)
    obtain ⟨y1, y2, y3, y4⟩ := wy 0 (by omega)
    have i1 : i = n + 1 := by omega
    subst i1
    refine s_ren7 M e0 e1 hn e2 hf e3 hi (by omega) (by omega) (fun z => by omega) (by rw [v32]; show 0 ≤ V0 32 0 ∧ V0 32 0 < 16000; omega) (by rw [v32]; show 0 ≤ V 22 (V0 32 0).toNat ∧ V 22 (V0 32 0).toNat ≤ 5; rw [ro _ (by omega)]; omega) n0 (by omega) hw2 (fun h4 V4 f4 M4 c9 a2 b2 => ?_) (fun x5 q5 x6 q6 x8 q8 c9 a7 b7 => by omega)
    rw [v32] at f4
    have f4 : V4 = m_u V 24 (m_u (V 24) (V 22 (V0 32 0).toNat).toNat (F0 17)) := f4
    rw [ro _ (by omega)] at f4
    exact g h4 F V V4 M4 I IJ f4
  | succ d ih =>
    intro i lv h F V xi hd M I IJ hi e0 e1 e2 e3
    obtain ⟨sh, fn, fo, ro, rn, vo⟩ := I
    have v32 : V 32 = V0 32 := vo 32 (by decide) (by decide) (by decide) (by decide)
    obtain ⟨y1, y2, y3, y4⟩ := wy 0 (by omega)
    obtain ⟨z1, z2, z3, z4⟩ := wy i (by omega)
    have rw0 : V 22 (V0 32 i).toNat = V0 22 (V0 32 i).toNat := ro _ (by omega)
    refine s_ren7 M e0 e1 hn e2 hf e3 hi (by omega) (by omega) (fun z => by rw [Int.toNat_natCast, v32]; omega) (by rw [v32]; show 0 ≤ V0 32 0 ∧ V0 32 0 < 16000; omega) (by rw [v32]; show 0 ≤ V 22 (V0 32 0).toNat ∧ V 22 (V0 32 0).toNat ≤ 5; rw [ro _ (by omega)]; omega) n0 (by omega) hw2 (fun h4 V4 f4 M4 c9 a2 b2 => by omega) (fun x5 q5 x6 q6 x8 q8 c9 a7 b7 => ?_)
    rw [Int.toNat_natCast, v32, rw0] at q8
    refine c_make M w1 q5 q6 q8 (by omega) (by omega) z3 (by omega) (fun x h3 F3 V3 hx M3 f3 r3 o3 v20 v21 => ?_)
    have u32 : V3 32 = V0 32 := by rw [o3 32 (by decide) (by decide) (by decide), v32]
    refine s_ren39 (x := F 17) M3 e0 e1 hn e2 hf e3 hi hx (fun x2 q2 lv3 a0 a1 a2 a3 a4 a5 => ?_)
    refine l_ren44 (x := F 17) (u := V0 32 i) (r := V0 22 (V0 32 i).toNat) (V0 := V) (V1 := V3) w2 (by omega) hn hf hi hx (by omega) (by omega) (by rw [u32]) z1 (by omega) (by rw [r3, m_uN _ _ _ _ (by omega), rw0]) z3 z4 (fun lv4 h4 V4 M4 o4 b1 b2 c0 c1 c2 c3 c4 => ?_) (V0 22 (V0 32 i).toNat).toNat 0 lv3 h3 V3 x2 (by omega) (by omega) q2 M3 (fun _ _ => rfl) (fun j hj => by rw [o3 23 (by decide) (by decide) (by decide)]) (fun p hp => by omega) a0 a1 a2 a3 a4 a5
    have r4 : V4 22 = m_u (V 22) (F 17).toNat (V0 22 (V0 32 i).toNat) := by rw [o4 22 (by decide), r3]
    have s4 : p_sh (F 17 + 1) (V4 22) (V4 23) := p_shC sh (by omega) z1 (by omega) rw0 r4 b1 b2
    have f17 : F3 17 = F 17 + 1 := by rw [f3, m_uE]
    have w32 : V4 32 = V0 32 := by rw [o4 32 (by decide), u32]
    have rr : V4 22 (V0 32 i).toNat = V0 22 (V0 32 i).toNat := by rw [r4, m_uN _ _ _ _ (by omega), rw0]
    have J : ∀ V5 : Nat → Nat → Int, (∀ K, K ≠ 23 → V5 K = V4 K) → p_sh (F 17 + 1) (V5 22) (V5 23) → g_ri F0 V0 F3 V5 (i + 1) := fun V5 o5 s5 => by
      refine ⟨by rw [f17]; exact s5, by omega, fun K hK => by rw [f3, m_uN _ _ _ _ hK, fo K hK], fun v hv => ?_, fun j hj => ?_, fun K k1 k2 k3 k4 => by rw [o5 K k4, o4 K k4, o3 K k1 k2 k3, vo K k1 k2 k3 k4]⟩
      · rw [o5 22 (by decide), r4, m_uN _ _ _ _ (by omega)]
        exact ro v hv
      · rw [o5 22 (by decide), r4]
        by_cases e : j = i
        · rw [show (F0 17).toNat + j = (F 17).toNat by omega, m_uE, e]
        · rw [m_uN _ _ _ _ (by omega)]
          exact rn j (by omega)
    have v33 : V 33 = V0 33 := vo 33 (by decide) (by decide) (by decide) (by decide)
    have v34 : V 34 = V0 34 := vo 34 (by decide) (by decide) (by decide) (by decide)
    rw [Int.toNat_natCast, v33] at v20
    rw [Int.toNat_natCast, v34] at v21
    have nN : (F 17).toNat = (F0 17).toNat + i := by omega
    rw [nN] at b1 b2 v20 v21
    have JJ : ∀ V5 : Nat → Nat → Int, V5 20 = V4 20 → V5 21 = V4 21 → (∀ j, j < 6 * (F0 17).toNat → V5 23 j = V4 23 j) → (∀ j, j < i + 1 → ∀ r : Nat, (r : Int) < V0 22 (V0 32 j).toNat → V5 23 (6 * ((F0 17).toNat + j) + r) = if j + 1 = i ∧ (r : Int) = V0 22 (V0 32 (j + 1)).toNat then F0 17 + ((j : Int) + 1) else V4 23 (6 * ((F0 17).toNat + j) + r)) → g_rj F0 V0 V5 n (i + 1) := fun V5 k20 k21 k23 kc wq => by
      obtain ⟨q1, q2, q3⟩ := IJ wq
      obtain ⟨⟨c1, c2⟩, c3, c4⟩ := wq i (by omega)
      have w20 : V4 20 = m_u (V 20) ((F0 17).toNat + i) (V0 33 i) := by rw [o4 20 (by decide), v20 (by omega) (by omega)]
      have w21 : V4 21 = m_u (V 21) ((F0 17).toNat + i) (V0 34 i) := by rw [o4 21 (by decide), v21 (by omega) (by omega)]
      refine ⟨fun v hv => ?_, fun j hj => ?_, fun j hj => ?_⟩
      · rw [k20, k21, w20, w21, m_uN _ _ _ _ (by omega), m_uN _ _ _ _ (by omega)]
        exact q1 v hv
      · rw [k23 j hj, b1 j (by omega)]
        exact q2 j hj
      · rw [k20, k21, w20, w21]
        by_cases e : j = i
        · subst e
          rw [m_uE, m_uE]
          refine ⟨rfl, rfl, fun r hr => ?_⟩
          rw [kc j (by omega) r hr, if_neg (fun z => by omega), if_neg (fun z => by omega), b2 r (by omega)]
          exact q2 _ (by omega)
        · rw [m_uN _ _ _ _ (by omega), m_uN _ _ _ _ (by omega)]
          obtain ⟨t1, t2, t3⟩ := q3 j (by omega)
          refine ⟨t1, t2, fun r hr => ?_⟩
          have r5 := (wy j (by omega)).2.2.2
          rw [kc j (by omega) r hr]
          by_cases ej : j + 1 = i
          · by_cases er : (r : Int) = V0 22 (V0 32 (j + 1)).toNat
            · rw [if_pos ⟨ej, er⟩, if_pos ⟨by omega, er⟩]
            · rw [if_neg (fun z => er z.2), if_neg (fun z => er z.2), b1 _ (by omega), t3 r hr, if_neg (fun z => er z.2)]
          · rw [if_neg (fun z => ej z.1), b1 _ (by omega), t3 r hr]
            by_cases er : (r : Int) = V0 22 (V0 32 (j + 1)).toNat
            · rw [if_pos ⟨by omega, er⟩, if_pos ⟨by omega, er⟩]
            · rw [if_neg (fun z => er z.2), if_neg (fun z => er z.2)]
    refine s_ren96 (x := F 17) M4 c0 c1 hn c2 hf c3 hi c4 hx (by omega) (by omega) (by omega) (by omega) (fun z => by omega) (by rw [Int.toNat_natCast, w32]; omega) (by rw [Int.toNat_natCast, w32, rr]; omega) w2 (fun x1 q1 lv1 d0 d1 d2 d3 c97 => ?_) (fun h9 V9 f9 x10 q10 lv10 M9 d0 d1 d2 d3 c97 a6 b6 => ?_)
    · exact ih (i + 1) lv1 _ F3 V4 x1 (by omega) M4 (J V4 (fun _ _ => rfl) s4) (JJ V4 rfl rfl (fun _ _ => rfl) (fun j hj r hr => by rw [if_neg (fun z => by omega)])) (by omega) d0 d1 d2 d3
    · rw [Int.toNat_natCast, w32, rr] at f9
      have v9 : V9 23 = m_u (V4 23) (6 * (F 17 - 1) + V0 22 (V0 32 i).toNat).toNat (F 17) := by rw [f9, m_uE]
      refine ih (i + 1) lv10 h9 F3 V9 x10 (by omega) M9 (J V9 (fun K hK => by rw [f9, m_uN _ _ _ _ hK]) ?_) (JJ V9 (by rw [f9, m_uN _ _ _ _ (by decide)]) (by rw [f9, m_uN _ _ _ _ (by decide)]) (fun j hj => by rw [v9, m_uN _ _ _ _ (by omega)]) (fun j hj r hr => ?_)) (by omega) d0 d1 d2 d3
      rw [f9, m_uN _ _ _ _ (by decide), m_uE, show (6 * (F 17 - 1) + V0 22 (V0 32 i).toNat).toNat = 6 * (F 17 - 1).toNat + (V0 22 (V0 32 i).toNat).toNat by omega]
      exact p_shW s4 (by omega) (by omega) (by omega) (by rw [r4, m_uE]; omega)
      have r5 := (wy j (by omega)).2.2.2
      rw [v9]
      by_cases ej : j + 1 = i
      · by_cases er : (r : Int) = V0 22 (V0 32 (j + 1)).toNat
        · rw [if_pos ⟨ej, er⟩]
          rw [ej] at er
          rw [show 6 * ((F0 17).toNat + j) + r = (6 * (F 17 - 1) + V0 22 (V0 32 i).toNat).toNat by omega, m_uE]
          omega
        · rw [if_neg (fun z => er z.2), m_uN _ _ _ _ (by rw [ej] at er; omega)]
      · rw [if_neg (fun z => ej z.1), m_uN _ _ _ _ (by omega)]
theorem c_renew {n : Nat} {xn : Int32} (M : MX 49 W ρ m A h0 h F V G) (hw : d_sub g_md W = true) (sh : p_sh (F 17) (V 22) (V 23)) (hp : p_hp (F 17) (V 22) (V 24)) (n0 : 0 ≤ F 17) (n1 : F 17 + 6 ≤ 16000) (n5 : n ≤ 5) (wy : ∀ j, j ≤ n → 0 ≤ V 32 j ∧ V 32 j < F 17 ∧ 0 ≤ V 22 (V 32 j).toNat ∧ V 22 (V 32 j).toNat ≤ 5) (hn : xn.toInt = (n : Int)) (g : ∀ (h' : MH) (F' : Nat → Int) (V' : Nat → Nat → Int), MX 49 W ρ m A h0 h' F' V' G → g_ex F V F' V' 6 → g_rj F V V' n (n + 1) → F' 17 = F 17 + ((n : Int) + 1) → F' 19 = F 19 → F' 18 = F 18 → (∀ j, j < n + 1 → V' 22 ((F 17).toNat + j) = V 22 (V 32 j).toNat) → V' 24 = m_u (V 24) (V 22 (V 32 0).toNat).toNat (F 17) → Q none h') : HJ 221 0 (lv_args 0 [.ref m, .int xn]) [] h Q := by
  have w1 : d_sub g_ln W = true := d_subm hw (by decide +kernel)
  have w2 : d_sub [(61, 1001)] W = true := d_subm hw (by decide +kernel)
  refine s_ren0 M rfl rfl hn (fun x1 q1 x3 q3 lv4 e0 e1 e2 e3 a1 b1 => ?_)
  refine l_ren7 (F0 := F) (V0 := V) w1 w2 n0 n1 n5 wy hn q1 (fun h2 F2 V1 V2 M2 I IJ v2 => ?_) (n + 1) 0 lv4 h F V x3 (by omega) M ⟨sh, by omega, fun _ _ => rfl, fun _ _ => rfl, fun j hj => by omega, fun _ _ _ _ _ => rfl⟩ (fun _ => ⟨fun _ _ => ⟨rfl, rfl⟩, fun _ _ => rfl, fun j hj => absurd hj (Nat.not_lt_zero j)⟩) q3 e0 e1 e2 e3
  obtain ⟨i1, i2, i3, i4, i5, i6⟩ := I
  obtain ⟨y1, y2, y3, y4⟩ := wy 0 (by omega)
  have v22 : V2 22 = V1 22 := by rw [v2, m_uN _ _ _ _ (by decide)]
  have v23 : V2 23 = V1 23 := by rw [v2, m_uN _ _ _ _ (by decide)]
  have v24 : V2 24 = m_u (V 24) (V 22 (V 32 0).toNat).toNat (F 17) := by rw [v2, m_uE, i6 24 (by decide) (by decide) (by decide) (by decide)]
  refine g h2 F2 V2 M2 ⟨⟨by rw [v22, v23]; exact i1, fun r h6 => ?_⟩, ⟨by omega, by omega⟩, fun K k1 k2 k3 k4 => i3 K k1, fun v hv => by rw [v22]; exact i4 v hv, fun K hK => by rw [v2, m_uN _ _ _ _ (by omega)]; exact i6 K (by omega) (by omega) (by omega) (by omega)⟩ (fun wq => ?_) (by omega) (i3 19 (by decide)) (i3 18 (by decide)) (fun j hj => by rw [v22]; exact i5 j hj) v24
  rotate_left
  · have v20 : V2 20 = V1 20 := by rw [v2, m_uN _ _ _ _ (by decide)]
    have v21 : V2 21 = V1 21 := by rw [v2, m_uN _ _ _ _ (by decide)]
    rw [v20, v21, v23]
    exact IJ wq
  rw [v24, v22]
  by_cases e : r = (V 22 (V 32 0).toNat).toNat
  · rw [e, m_uE]
    refine Or.inr ⟨n0, by omega, ?_⟩
    have := i5 0 (by omega)
    rw [Nat.add_zero] at this
    rw [this]
    omega
  · rw [m_uN _ _ _ _ e]
    exact p_rtU (by omega) i4 (hp r h6)
theorem s_low0 {t k : Int} (M : MX 49 W ρ m A h0 h F V G) (e0 : m_lk lv 0 = some (.ref m)) {lx1 : Int32} (e1 : m_lk lv 1 = some (.int lx1)) (lq1 : lx1.toInt = t) {lx2 : Int32} (e2 : m_lk lv 2 = some (.int lx2)) (lq2 : lx2.toInt = k) 
    (g0 : HJ 219 0 (lv_args 0 [.ref m]) [] h (fun v h' => HJ 218 4 lv (v.toList ++ []) h' Q))
    : HJ 218 0 lv [] h Q := by
  refine hI_al (k := 0) rfl e0 rfl ?_ -- 0
  refine hM_iv M (by decide) rfl rfl (by decide) (as := []) (r := []) rfl rfl (by decide +kernel) rfl (by decide +kernel) rfl rfl rfl rfl rfl ?_ -- 1
  exact g0 
theorem s_low4 {t k : Int} (M : MX 49 W ρ m A h0 h F V G) (e0 : m_lk lv 0 = some (.ref m)) {lx1 : Int32} (e1 : m_lk lv 1 = some (.int lx1)) (lq1 : lx1.toInt = t) {lx2 : Int32} (e2 : m_lk lv 2 = some (.int lx2)) (lq2 : lx2.toInt = k) 
    (g0 : ∀ x1 : Int32, x1.toInt = (-1) → ∀ x3 : Int32, x3.toInt = 0 → ∀ lv4 : List (Nat × Value), m_lk lv4 0 = some (.ref m) → m_lk lv4 1 = some (.int lx1) → m_lk lv4 2 = some (.int lx2) → m_lk lv4 3 = some (.int x1) → m_lk lv4 4 = some (.int x3) → HJ 218 9 lv4 [] h Q)
    : HJ 218 4 lv [] h Q := by
  refine hM_ic (n := (-1)) rfl (by decide) rfl (fun x1 q1 => ?_) -- 4
  refine hM_si (k := 3) rfl (by decide +kernel) rfl (fun lv2 e2_3 u2 => ?_) -- 5
  have e2_0 := u2 0 _ (by decide) (Or.inl rfl) e0
  have e2_1 := u2 1 _ (by decide) (Or.inl rfl) e1
  have e2_2 := u2 2 _ (by decide) (Or.inl rfl) e2
  refine hM_ic (n := 0) rfl (by decide) rfl (fun x3 q3 => ?_) -- 6
  refine hM_si2 (k := 4) rfl (by decide +kernel) rfl (fun lv4 e4_4 u4 => ?_) -- 7
  have e4_0 := u4 0 _ (by decide) (Or.inl rfl) e2_0
  have e4_1 := u4 1 _ (by decide) (Or.inl rfl) e2_1
  have e4_2 := u4 2 _ (by decide) (Or.inl rfl) e2_2
  have e4_3 := u4 3 _ (by decide) (Or.inl rfl) e2_3
  exact g0 x1 q1 x3 q3 lv4 e4_0 e4_1 e4_2 e4_3 e4_4
theorem s_low9 {t k f i : Int} (M : MX 49 W ρ m A h0 h F V G) (e0 : m_lk lv 0 = some (.ref m)) {lx1 : Int32} (e1 : m_lk lv 1 = some (.int lx1)) (lq1 : lx1.toInt = t) {lx2 : Int32} (e2 : m_lk lv 2 = some (.int lx2)) (lq2 : lx2.toInt = k) {lx3 : Int32} (e3 : m_lk lv 3 = some (.int lx3)) (lq3 : lx3.toInt = f) {lx4 : Int32} (e4 : m_lk lv 4 = some (.int lx4)) (lq4 : lx4.toInt = i) (i0 : 0 ≤ i) (a0 : i < F 26 → 0 ≤ V 27 i.toNat ∧ V 27 i.toNat < 16000)
    (g0 : 0 ≤ F 26 → F 26 ≤ 63 → i ≥ F 26 → HJ 218 68 lv [] h Q)
    (g1 : 0 ≤ F 26 → F 26 ≤ 63 → i < F 26 → f ≠ (-1) → HJ 218 68 lv [] h Q)
    (g2 : ∀ x5 : Int32, x5.toInt = (-1) → ∀ x7 : Int32, x7.toInt = i + 1 → ∀ lv7 : List (Nat × Value), m_lk lv7 0 = some (.ref m) → m_lk lv7 1 = some (.int lx1) → m_lk lv7 2 = some (.int lx2) → m_lk lv7 3 = some (.int x5) → m_lk lv7 4 = some (.int x7) → 0 ≤ F 26 → F 26 ≤ 63 → i < F 26 → f = (-1) → 0 ≤ V 27 (i).toNat → V 27 (i).toNat ≤ 15999 → V 20 (V 27 (i).toNat).toNat ≠ t → HJ 218 9 lv7 [] h Q)
    (g3 : ∀ x10 : Int32, x10.toInt = (-1) → ∀ x12 : Int32, x12.toInt = i + 1 → ∀ lv12 : List (Nat × Value), m_lk lv12 0 = some (.ref m) → m_lk lv12 1 = some (.int lx1) → m_lk lv12 2 = some (.int lx2) → m_lk lv12 3 = some (.int x10) → m_lk lv12 4 = some (.int x12) → 0 ≤ F 26 → F 26 ≤ 63 → i < F 26 → f = (-1) → 0 ≤ V 27 (i).toNat → V 27 (i).toNat ≤ 15999 → V 20 (V 27 (i).toNat).toNat = t → V 21 (V 27 (i).toNat).toNat < k → HJ 218 9 lv12 [] h Q)
    (g4 : ∀ x14 : Int32, x14.toInt = i + 1 → ∀ lv14 : List (Nat × Value), m_lk lv14 0 = some (.ref m) → m_lk lv14 1 = some (.int lx1) → m_lk lv14 2 = some (.int lx2) → m_lk lv14 3 = some (.int lx4) → m_lk lv14 4 = some (.int x14) → 0 ≤ F 26 → F 26 ≤ 63 → i < F 26 → f = (-1) → 0 ≤ V 27 (i).toNat → V 27 (i).toNat ≤ 15999 → V 20 (V 27 (i).toNat).toNat = t → V 21 (V 27 (i).toNat).toNat ≥ k → HJ 218 9 lv14 [] h Q)
    : HJ 218 9 lv [] h Q := by
  refine hI_il2 (k := 4) rfl e4 rfl ?_ -- 9
  refine hI_al (k := 0) rfl e0 rfl ?_ -- 11
  refine hM_gi M (by decide) rfl rfl rfl (k := 26) (c := 9) (lo := 0) (hi := 63) rfl rfl rfl rfl rfl (fun x1 q1 a1 b1 => ?_) -- 12
  refine hM_cge (off := 53) (t := 68) rfl lq4 q1 (by decide) rfl (fun c15 => ?_) (fun c15 => ?_) -- 15
  · exact g0 a1 b1 c15
  · refine hI_il (k := 3) rfl e3 rfl ?_ -- 18
    refine hM_ic (n := (-1)) rfl (by decide) rfl (fun x2 q2 => ?_) -- 19
    refine hM_cne (off := 48) (t := 68) rfl lq3 q2 (by decide) rfl (fun c20 => ?_) (fun c20 => ?_) -- 20
    · exact g1 a1 b1 c15 c20
    · refine hI_al (k := 0) rfl e0 rfl ?_ -- 23
      refine hM_ga M (by decide) rfl rfl (k := 20) (c := 9) rfl rfl rfl (by decide +kernel) rfl ?_ -- 24
      refine hI_al (k := 0) rfl e0 rfl ?_ -- 27
      refine hM_ga M (by decide) rfl rfl (k := 27) (c := 9) rfl rfl rfl (by decide +kernel) rfl ?_ -- 28
      refine hI_il2 (k := 4) rfl e4 rfl ?_ -- 31
      refine hM_ia M (by decide) (K := 27) (R2 := 63) (L := 64) (H := 64) (lo := 0) (hi := 15999) rfl (by decide) rfl rfl (fun _ => rfl) rfl lq4 (by omega) (by omega) rfl (fun x3 q3 a3 b3 => ?_) -- 33
      refine hM_ba M (by decide) (K := 20) (R2 := 57) (L := 16000) (H := 16000) (lo := (-2147483648)) (hi := 2147483647) rfl (by decide) rfl rfl (Or.inl rfl) (fun _ => rfl) rfl q3 (by omega) (by omega) rfl (fun x4 q4 a4 b4 => ?_) -- 34
      refine hI_il (k := 1) rfl e1 rfl ?_ -- 35
      refine hM_cne (off := 24) (t := 60) rfl q4 lq1 (by decide) rfl (fun c36 => ?_) (fun c36 => ?_) -- 36
      · refine hM_ic (n := (-1)) rfl (by decide) rfl (fun x5 q5 => ?_) -- 60
        refine hM_si (k := 3) rfl (by decide +kernel) rfl (fun lv6 e6_3 u6 => ?_) -- 61
        have e6_0 := u6 0 _ (by decide) (Or.inl rfl) e0
        have e6_1 := u6 1 _ (by decide) (Or.inl rfl) e1
        have e6_2 := u6 2 _ (by decide) (Or.inl rfl) e2
        have e6_4 := u6 4 _ (by decide) (Or.inl rfl) e4
        refine hM_inc (k := 4) (z := 1) rfl e6_4 lq4 (by decide) (by omega) (by omega) (by decide +kernel) rfl (fun lv7 x7 q7 e7_4 u7 => ?_) -- 62
        have e7_0 := u7 0 _ (by decide) (Or.inl rfl) e6_0
        have e7_1 := u7 1 _ (by decide) (Or.inl rfl) e6_1
        have e7_2 := u7 2 _ (by decide) (Or.inl rfl) e6_2
        have e7_3 := u7 3 _ (by decide) (Or.inl rfl) e6_3
        refine hI_go (pc' := 9) (off := (-56)) rfl (by decide) ?_ -- 65
        exact g2 x5 q5 x7 q7 lv7 e7_0 e7_1 e7_2 e7_3 e7_4 a1 b1 c15 c20 a3 b3 c36
      · refine hI_al (k := 0) rfl e0 rfl ?_ -- 39
        refine hM_ga M (by decide) rfl rfl (k := 21) (c := 9) rfl rfl rfl (by decide +kernel) rfl ?_ -- 40
        refine hI_al (k := 0) rfl e0 rfl ?_ -- 43
        refine hM_ga M (by decide) rfl rfl (k := 27) (c := 9) rfl rfl rfl (by decide +kernel) rfl ?_ -- 44
        refine hI_il2 (k := 4) rfl e4 rfl ?_ -- 47
        refine hM_ia M (by decide) (K := 27) (R2 := 63) (L := 64) (H := 64) (lo := 0) (hi := 15999) rfl (by decide) rfl rfl (fun _ => rfl) rfl lq4 (by omega) (by omega) rfl (fun x8 q8 a8 b8 => ?_) -- 49
        refine hM_ba M (by decide) (K := 21) (R2 := 58) (L := 16000) (H := 16000) (lo := (-2147483648)) (hi := 2147483647) rfl (by decide) rfl rfl (Or.inl rfl) (fun _ => rfl) rfl q8 (by omega) (by omega) rfl (fun x9 q9 a9 b9 => ?_) -- 50
        refine hI_il (k := 2) rfl e2 rfl ?_ -- 51
        refine hM_clt (off := 8) (t := 60) rfl q9 lq2 (by decide) rfl (fun c52 => ?_) (fun c52 => ?_) -- 52
        · refine hM_ic (n := (-1)) rfl (by decide) rfl (fun x10 q10 => ?_) -- 60
          refine hM_si (k := 3) rfl (by decide +kernel) rfl (fun lv11 e11_3 u11 => ?_) -- 61
          have e11_0 := u11 0 _ (by decide) (Or.inl rfl) e0
          have e11_1 := u11 1 _ (by decide) (Or.inl rfl) e1
          have e11_2 := u11 2 _ (by decide) (Or.inl rfl) e2
          have e11_4 := u11 4 _ (by decide) (Or.inl rfl) e4
          refine hM_inc (k := 4) (z := 1) rfl e11_4 lq4 (by decide) (by omega) (by omega) (by decide +kernel) rfl (fun lv12 x12 q12 e12_4 u12 => ?_) -- 62
          have e12_0 := u12 0 _ (by decide) (Or.inl rfl) e11_0
          have e12_1 := u12 1 _ (by decide) (Or.inl rfl) e11_1
          have e12_2 := u12 2 _ (by decide) (Or.inl rfl) e11_2
          have e12_3 := u12 3 _ (by decide) (Or.inl rfl) e11_3
          refine hI_go (pc' := 9) (off := (-56)) rfl (by decide) ?_ -- 65
          exact g3 x10 q10 x12 q12 lv12 e12_0 e12_1 e12_2 e12_3 e12_4 a1 b1 c15 c20 a3 b3 c36 c52
        · refine hI_il2 (k := 4) rfl e4 rfl ?_ -- 55
          refine hI_go (pc' := 61) (off := 4) rfl (by decide) ?_ -- 57
          refine hM_si (k := 3) rfl (by decide +kernel) rfl (fun lv13 e13_3 u13 => ?_) -- 61
          have e13_0 := u13 0 _ (by decide) (Or.inl rfl) e0
          have e13_1 := u13 1 _ (by decide) (Or.inl rfl) e1
          have e13_2 := u13 2 _ (by decide) (Or.inl rfl) e2
          have e13_4 := u13 4 _ (by decide) (Or.inl rfl) e4
          refine hM_inc (k := 4) (z := 1) rfl e13_4 lq4 (by decide) (by omega) (by omega) (by decide +kernel) rfl (fun lv14 x14 q14 e14_4 u14 => ?_) -- 62
          have e14_0 := u14 0 _ (by decide) (Or.inl rfl) e13_0
          have e14_1 := u14 1 _ (by decide) (Or.inl rfl) e13_1
          have e14_2 := u14 2 _ (by decide) (Or.inl rfl) e13_2
          have e14_3 := u14 3 _ (by decide) (Or.inl rfl) e13_3
          refine hI_go (pc' := 9) (off := (-56)) rfl (by decide) ?_ -- 65
          exact g4 x14 q14 lv14 e14_0 e14_1 e14_2 e14_3 e14_4 a1 b1 c15 c20 a3 b3 c36 c52
theorem s_low68 {t k f : Int} (M : MX 49 W ρ m A h0 h F V G) (e0 : m_lk lv 0 = some (.ref m)) {lx1 : Int32} (e1 : m_lk lv 1 = some (.int lx1)) (lq1 : lx1.toInt = t) {lx2 : Int32} (e2 : m_lk lv 2 = some (.int lx2)) (lq2 : lx2.toInt = k) {lx3 : Int32} (e3 : m_lk lv 3 = some (.int lx3)) (lq3 : lx3.toInt = f) (f0 : -1 ≤ f) (f1 : f ≤ 62)
    (g0 : ∀ x2 : Int32, x2.toInt = V 28 (f).toNat → ∀ lv4 : List (Nat × Value), m_lk lv4 0 = some (.ref m) → m_lk lv4 1 = some (.int lx1) → m_lk lv4 2 = some (.int lx2) → m_lk lv4 3 = some (.int lx3) → m_lk lv4 4 = some (.int x2) → m_lk lv4 5 = some (.int x2) → f ≠ (-1) → 0 ≤ V 28 (f).toNat → V 28 (f).toNat ≤ 5 → HJ 218 87 lv4 [] h Q)
    (g1 : ∀ x5 : Int32, x5.toInt = 0 → f = (-1) → Q (some (.int x5)) h)
    : HJ 218 68 lv [] h Q := by
  refine hI_il (k := 3) rfl e3 rfl ?_ -- 68
  refine hM_ic (n := (-1)) rfl (by decide) rfl (fun x1 q1 => ?_) -- 69
  refine hM_cne (off := 5) (t := 75) rfl lq3 q1 (by decide) rfl (fun c70 => ?_) (fun c70 => ?_) -- 70
  · refine hI_al (k := 0) rfl e0 rfl ?_ -- 75
    refine hM_ga M (by decide) rfl rfl (k := 28) (c := 9) rfl rfl rfl (by decide +kernel) rfl ?_ -- 76
    refine hI_il (k := 3) rfl e3 rfl ?_ -- 79
    refine hM_ia M (by decide) (K := 28) (R2 := 64) (L := 64) (H := 64) (lo := 0) (hi := 5) rfl (by decide) rfl rfl (fun _ => rfl) rfl lq3 (by omega) (by omega) rfl (fun x2 q2 a2 b2 => ?_) -- 80
    refine hM_si2 (k := 4) rfl (by decide +kernel) rfl (fun lv3 e3_4 u3 => ?_) -- 81
    have e3_0 := u3 0 _ (by decide) (Or.inl rfl) e0
    have e3_1 := u3 1 _ (by decide) (Or.inl rfl) e1
    have e3_2 := u3 2 _ (by decide) (Or.inl rfl) e2
    have e3_3 := u3 3 _ (by decide) (Or.inl rfl) e3
    refine hI_il2 (k := 4) rfl e3_4 rfl ?_ -- 83
    refine hM_si2 (k := 5) rfl (by decide +kernel) rfl (fun lv4 e4_5 u4 => ?_) -- 85
    have e4_0 := u4 0 _ (by decide) (Or.inl rfl) e3_0
    have e4_1 := u4 1 _ (by decide) (Or.inl rfl) e3_1
    have e4_2 := u4 2 _ (by decide) (Or.inl rfl) e3_2
    have e4_3 := u4 3 _ (by decide) (Or.inl rfl) e3_3
    have e4_4 := u4 4 _ (by decide) (Or.inl rfl) e3_4
    exact g0 x2 q2 lv4 e4_0 e4_1 e4_2 e4_3 e4_4 e4_5 c70 a2 b2
  · refine hM_ic (n := 0) rfl (by decide) rfl (fun x5 q5 => ?_) -- 73
    refine hM_rb rfl rfl q5 (by omega) (by omega) ?_ -- 74
    exact g1 x5 q5 c70
theorem s_low87 {t k f n i : Int} (M : MX 49 W ρ m A h0 h F V G) (e0 : m_lk lv 0 = some (.ref m)) {lx1 : Int32} (e1 : m_lk lv 1 = some (.int lx1)) (lq1 : lx1.toInt = t) {lx2 : Int32} (e2 : m_lk lv 2 = some (.int lx2)) (lq2 : lx2.toInt = k) {lx3 : Int32} (e3 : m_lk lv 3 = some (.int lx3)) (lq3 : lx3.toInt = f) {lx4 : Int32} (e4 : m_lk lv 4 = some (.int lx4)) (lq4 : lx4.toInt = n) {lx5 : Int32} (e5 : m_lk lv 5 = some (.int lx5)) (lq5 : lx5.toInt = i) (i0 : -1 ≤ i) (i1 : i ≤ 5) (f0 : 0 ≤ i → 0 ≤ f ∧ f ≤ 62)(hw : d_sub [(68, 1001), (69, 1001), (70, 1001)] W = true)
    (g0 : i < 0 → HJ 218 156 lv [] h Q)
    (g1 : ∀ h2 : MH, ∀ V2 : Nat → Nat → Int, V2 = m_u V 32 (m_u (V 32) (i).toNat (V 27 (f).toNat)) → ∀ h5 : MH, ∀ V5 : Nat → Nat → Int, V5 = m_u V2 33 (m_u (V2 33) (i).toNat (V 20 (V 27 (f).toNat).toNat)) → ∀ h8 : MH, ∀ V8 : Nat → Nat → Int, V8 = m_u V5 34 (m_u (V5 34) (i).toNat (V 21 (V 27 (f).toNat).toNat)) → ∀ x9 : Int32, x9.toInt = V 29 (f).toNat → ∀ x11 : Int32, x11.toInt = i + (-1) → ∀ lv11 : List (Nat × Value), MX 49 W ρ m A h0 h8 F V8 G → m_lk lv11 0 = some (.ref m) → m_lk lv11 1 = some (.int lx1) → m_lk lv11 2 = some (.int lx2) → m_lk lv11 3 = some (.int x9) → m_lk lv11 4 = some (.int lx4) → m_lk lv11 5 = some (.int x11) → i ≥ 0 → 0 ≤ V 27 (f).toNat → V 27 (f).toNat ≤ 15999 → (-1) ≤ V 29 (f).toNat → V 29 (f).toNat ≤ 62 → HJ 218 87 lv11 [] h8 Q)
    : HJ 218 87 lv [] h Q := by
  refine hI_il2 (k := 5) rfl e5 rfl ?_ -- 87
  refine hM_zlt (off := 67) (t := 156) rfl lq5 (by decide) rfl (fun c89 => ?_) (fun c89 => ?_) -- 89
  · exact g0 c89
  · refine hI_al (k := 0) rfl e0 rfl ?_ -- 92
    refine hM_ga M (by decide) rfl rfl (k := 32) (c := 9) rfl rfl rfl (by decide +kernel) rfl ?_ -- 93
    refine hI_il2 (k := 5) rfl e5 rfl ?_ -- 96
    refine hI_al (k := 0) rfl e0 rfl ?_ -- 98
    refine hM_ga M (by decide) rfl rfl (k := 27) (c := 9) rfl rfl rfl (by decide +kernel) rfl ?_ -- 99
    refine hI_il (k := 3) rfl e3 rfl ?_ -- 102
    refine hM_ia M (by decide) (K := 27) (R2 := 63) (L := 64) (H := 64) (lo := 0) (hi := 15999) rfl (by decide) rfl rfl (fun _ => rfl) rfl lq3 (by omega) (by omega) rfl (fun x1 q1 a1 b1 => ?_) -- 103
    refine hM_is M (by decide) ok_49 (K := 32) (R2 := 68) (L := 6) (H := 6) (lo := 0) (hi := 15999) rfl (by decide) rfl rfl rfl (fun _ => rfl) (d_subm hw (by decide +kernel)) rfl lq5 q1 (by omega) (by omega) (by omega) (by omega) rfl (fun h2 V2 f2 M2 => ?_) -- 104
    refine hI_al (k := 0) rfl e0 rfl ?_ -- 105
    refine hM_ga M2 (by decide) rfl rfl (k := 33) (c := 9) rfl rfl rfl (by decide +kernel) rfl ?_ -- 106
    refine hI_il2 (k := 5) rfl e5 rfl ?_ -- 109
    refine hI_al (k := 0) rfl e0 rfl ?_ -- 111
    refine hM_ga M2 (by decide) rfl rfl (k := 20) (c := 9) rfl rfl rfl (by decide +kernel) rfl ?_ -- 112
    refine hI_al (k := 0) rfl e0 rfl ?_ -- 115
    refine hM_ga M2 (by decide) rfl rfl (k := 32) (c := 9) rfl rfl rfl (by decide +kernel) rfl ?_ -- 116
    refine hI_il2 (k := 5) rfl e5 rfl ?_ -- 119
    refine hM_ia M2 (by decide) (K := 32) (R2 := 68) (L := 6) (H := 6) (lo := 0) (hi := 15999) rfl (by decide) rfl rfl (fun _ => rfl) rfl lq5 (by omega) (by omega) rfl (fun x3 q3 a3 b3 => ?_) -- 121
    have w3 : V2 32 (i).toNat = V 27 (f).toNat := by rw [f2, m_uE, m_uE]
    rw [w3] at q3 a3 b3 -- 121
    refine hM_ba M2 (by decide) (K := 20) (R2 := 57) (L := 16000) (H := 16000) (lo := (-2147483648)) (hi := 2147483647) rfl (by decide) rfl rfl (Or.inl rfl) (fun _ => rfl) rfl q3 (by omega) (by omega) rfl (fun x4 q4 a4 b4 => ?_) -- 122
    have q4 : x4.toInt = V 20 (V 27 (f).toNat).toNat := by rw [q4, f2]; rfl
    rw [f2] at a4 b4
    change (-2147483648) ≤ V 20 (V 27 (f).toNat).toNat at a4
    change V 20 (V 27 (f).toNat).toNat ≤ 2147483647 at b4 -- 122
    refine hM_is M2 (by decide) ok_49 (K := 33) (R2 := 69) (L := 6) (H := 6) (lo := (-2147483648)) (hi := 2147483647) rfl (by decide) rfl rfl rfl (fun _ => rfl) (d_subm hw (by decide +kernel)) rfl lq5 q4 (by omega) (by omega) (by omega) (by omega) rfl (fun h5 V5 f5 M5 => ?_) -- 123
    refine hI_al (k := 0) rfl e0 rfl ?_ -- 124
    refine hM_ga M5 (by decide) rfl rfl (k := 34) (c := 9) rfl rfl rfl (by decide +kernel) rfl ?_ -- 125
    refine hI_il2 (k := 5) rfl e5 rfl ?_ -- 128
    refine hI_al (k := 0) rfl e0 rfl ?_ -- 130
    refine hM_ga M5 (by decide) rfl rfl (k := 21) (c := 9) rfl rfl rfl (by decide +kernel) rfl ?_ -- 131
    refine hI_al (k := 0) rfl e0 rfl ?_ -- 134
    refine hM_ga M5 (by decide) rfl rfl (k := 32) (c := 9) rfl rfl rfl (by decide +kernel) rfl ?_ -- 135
    refine hI_il2 (k := 5) rfl e5 rfl ?_ -- 138
    refine hM_ia M5 (by decide) (K := 32) (R2 := 68) (L := 6) (H := 6) (lo := 0) (hi := 15999) rfl (by decide) rfl rfl (fun _ => rfl) rfl lq5 (by omega) (by omega) rfl (fun x6 q6 a6 b6 => ?_) -- 140
    have w6 : V5 32 (i).toNat = V 27 (f).toNat := by rw [f5, m_uN _ _ _ _ (by decide), f2, m_uE, m_uE]
    rw [w6] at q6 a6 b6 -- 140
    refine hM_ba M5 (by decide) (K := 21) (R2 := 58) (L := 16000) (H := 16000) (lo := (-2147483648)) (hi := 2147483647) rfl (by decide) rfl rfl (Or.inl rfl) (fun _ => rfl) rfl q6 (by omega) (by omega) rfl (fun x7 q7 a7 b7 => ?_) -- 141
    have q7 : x7.toInt = V 21 (V 27 (f).toNat).toNat := by rw [q7, f5, f2]; rfl
    rw [f5, f2] at a7 b7
    change (-2147483648) ≤ V 21 (V 27 (f).toNat).toNat at a7
    change V 21 (V 27 (f).toNat).toNat ≤ 2147483647 at b7 -- 141
    refine hM_is M5 (by decide) ok_49 (K := 34) (R2 := 70) (L := 6) (H := 6) (lo := (-2147483648)) (hi := 2147483647) rfl (by decide) rfl rfl rfl (fun _ => rfl) (d_subm hw (by decide +kernel)) rfl lq5 q7 (by omega) (by omega) (by omega) (by omega) rfl (fun h8 V8 f8 M8 => ?_) -- 142
    refine hI_al (k := 0) rfl e0 rfl ?_ -- 143
    refine hM_ga M8 (by decide) rfl rfl (k := 29) (c := 9) rfl rfl rfl (by decide +kernel) rfl ?_ -- 144
    refine hI_il (k := 3) rfl e3 rfl ?_ -- 147
    refine hM_ia M8 (by decide) (K := 29) (R2 := 65) (L := 64) (H := 64) (lo := (-1)) (hi := 62) rfl (by decide) rfl rfl (fun _ => rfl) rfl lq3 (by omega) (by omega) rfl (fun x9 q9 a9 b9 => ?_) -- 148
    have q9 : x9.toInt = V 29 (f).toNat := by rw [q9, f8, f5, f2]; rfl
    rw [f8, f5, f2] at a9 b9
    change (-1) ≤ V 29 (f).toNat at a9
    change V 29 (f).toNat ≤ 62 at b9 -- 148
    refine hM_si (k := 3) rfl (by decide +kernel) rfl (fun lv10 e10_3 u10 => ?_) -- 149
    have e10_0 := u10 0 _ (by decide) (Or.inl rfl) e0
    have e10_1 := u10 1 _ (by decide) (Or.inl rfl) e1
    have e10_2 := u10 2 _ (by decide) (Or.inl rfl) e2
    have e10_4 := u10 4 _ (by decide) (Or.inl rfl) e4
    have e10_5 := u10 5 _ (by decide) (Or.inl rfl) e5
    refine hM_inc (k := 5) (z := (-1)) rfl e10_5 lq5 (by decide) (by omega) (by omega) (by decide +kernel) rfl (fun lv11 x11 q11 e11_5 u11 => ?_) -- 150
    have e11_0 := u11 0 _ (by decide) (Or.inl rfl) e10_0
    have e11_1 := u11 1 _ (by decide) (Or.inl rfl) e10_1
    have e11_2 := u11 2 _ (by decide) (Or.inl rfl) e10_2
    have e11_4 := u11 4 _ (by decide) (Or.inl rfl) e10_4
    have e11_3 := u11 3 _ (by decide) (Or.inl rfl) e10_3
    refine hI_go (pc' := 87) (off := (-66)) rfl (by decide) ?_ -- 153
    exact g1 h2 V2 f2 h5 V5 f5 h8 V8 f8 x9 q9 x11 q11 lv11 M8 e11_0 e11_1 e11_2 e11_3 e11_4 e11_5 c89 a1 b1 a9 b9
theorem s_low156 {k n : Int} (M : MX 49 W ρ m A h0 h F V G) (e0 : m_lk lv 0 = some (.ref m)) {lx2 : Int32} (e2 : m_lk lv 2 = some (.int lx2)) (lq2 : lx2.toInt = k) {lx4 : Int32} (e4 : m_lk lv 4 = some (.int lx4)) (lq4 : lx4.toInt = n) (n0 : 0 ≤ n) (n1 : n ≤ 5) (kT : -2147483648 ≤ k ∧ k ≤ 2147483647)(hw : d_sub [(70, 1001)] W = true)
    (g0 : ∀ h1 : MH, ∀ V1 : Nat → Nat → Int, V1 = m_u V 34 (m_u (V 34) (n).toNat (k)) → ∀ lv2 : List (Nat × Value), MX 49 W ρ m A h0 h1 F V1 G → m_lk lv2 0 = some (.ref m) → m_lk lv2 4 = some (.int lx4) → m_lk lv2 5 = some (.int lx4) → HJ 218 168 lv2 [] h1 Q)
    : HJ 218 156 lv [] h Q := by
  refine hI_al (k := 0) rfl e0 rfl ?_ -- 156
  refine hM_ga M (by decide) rfl rfl (k := 34) (c := 9) rfl rfl rfl (by decide +kernel) rfl ?_ -- 157
  refine hI_il2 (k := 4) rfl e4 rfl ?_ -- 160
  refine hI_il (k := 2) rfl e2 rfl ?_ -- 162
  refine hM_is M (by decide) ok_49 (K := 34) (R2 := 70) (L := 6) (H := 6) (lo := (-2147483648)) (hi := 2147483647) rfl (by decide) rfl rfl rfl (fun _ => rfl) (d_subm hw (by decide +kernel)) rfl lq4 lq2 (by omega) (by omega) (by omega) (by omega) rfl (fun h1 V1 f1 M1 => ?_) -- 163
  refine hI_il2 (k := 4) rfl e4 rfl ?_ -- 164
  refine hM_si2 (k := 5) rfl (by decide +kernel) rfl (fun lv2 e2_5 u2 => ?_) -- 166
  have e2_0 := u2 0 _ (by decide) (Or.inl rfl) e0
  have e2_2 := u2 2 _ (by decide) (Or.inl rfl) e2
  have e2_4 := u2 4 _ (by decide) (Or.inl rfl) e4
  exact g0 h1 V1 f1 lv2 M1 e2_0 e2_4 e2_5
theorem s_low168 {n i : Int} (M : MX 49 W ρ m A h0 h F V G) (e0 : m_lk lv 0 = some (.ref m)) {lx4 : Int32} (e4 : m_lk lv 4 = some (.int lx4)) (lq4 : lx4.toInt = n) {lx5 : Int32} (e5 : m_lk lv 5 = some (.int lx5)) (lq5 : lx5.toInt = i) (i0 : 0 ≤ i) (i1 : i ≤ 5)(hw : d_sub [(69, 1001), (70, 1001)] W = true)
    (g0 : i ≤ 0 → HJ 218 308 lv [] h Q)
    (g1 : ∀ h10 : MH, ∀ V10 : Nat → Nat → Int, V10 = m_u V 33 (m_u (V 33) (i).toNat (V 33 (i - 1).toNat)) → ∀ h13 : MH, ∀ V13 : Nat → Nat → Int, V13 = m_u V10 33 (m_u (V10 33) (i - 1).toNat (V 33 (i).toNat)) → ∀ h19 : MH, ∀ V19 : Nat → Nat → Int, V19 = m_u V13 34 (m_u (V13 34) (i).toNat (V 34 (i - 1).toNat)) → ∀ h22 : MH, ∀ V22 : Nat → Nat → Int, V22 = m_u V19 34 (m_u (V19 34) (i - 1).toNat (V 34 (i).toNat)) → ∀ x23 : Int32, x23.toInt = i + (-1) → ∀ lv23 : List (Nat × Value), MX 49 W ρ m A h0 h22 F V22 G → m_lk lv23 0 = some (.ref m) → m_lk lv23 4 = some (.int lx4) → m_lk lv23 5 = some (.int x23) → i > 0 → V 34 (i).toNat < V 34 (i - 1).toNat → HJ 218 168 lv23 [] h22 Q)
    (g2 : i > 0 → V 34 (i).toNat ≥ V 34 (i - 1).toNat → V 34 (i).toNat ≠ V 34 (i - 1).toNat → HJ 218 308 lv [] h Q)
    (g3 : i > 0 → V 34 (i).toNat ≥ V 34 (i - 1).toNat → V 34 (i).toNat = V 34 (i - 1).toNat → V 33 (i).toNat ≥ V 33 (i - 1).toNat → HJ 218 308 lv [] h Q)
    (g4 : ∀ h37 : MH, ∀ V37 : Nat → Nat → Int, V37 = m_u V 33 (m_u (V 33) (i).toNat (V 33 (i - 1).toNat)) → ∀ h40 : MH, ∀ V40 : Nat → Nat → Int, V40 = m_u V37 33 (m_u (V37 33) (i - 1).toNat (V 33 (i).toNat)) → ∀ h46 : MH, ∀ V46 : Nat → Nat → Int, V46 = m_u V40 34 (m_u (V40 34) (i).toNat (V 34 (i - 1).toNat)) → ∀ h49 : MH, ∀ V49 : Nat → Nat → Int, V49 = m_u V46 34 (m_u (V46 34) (i - 1).toNat (V 34 (i).toNat)) → ∀ x50 : Int32, x50.toInt = i + (-1) → ∀ lv50 : List (Nat × Value), MX 49 W ρ m A h0 h49 F V49 G → m_lk lv50 0 = some (.ref m) → m_lk lv50 4 = some (.int lx4) → m_lk lv50 5 = some (.int x50) → i > 0 → V 34 (i).toNat ≥ V 34 (i - 1).toNat → V 34 (i).toNat = V 34 (i - 1).toNat → V 33 (i).toNat < V 33 (i - 1).toNat → HJ 218 168 lv50 [] h49 Q)
    : HJ 218 168 lv [] h Q := by
  refine hI_il2 (k := 5) rfl e5 rfl ?_ -- 168
  refine hM_zle (off := 138) (t := 308) rfl lq5 (by decide) rfl (fun c170 => ?_) (fun c170 => ?_) -- 170
  · exact g0 c170
  · refine hI_al (k := 0) rfl e0 rfl ?_ -- 173
    refine hM_ga M (by decide) rfl rfl (k := 34) (c := 9) rfl rfl rfl (by decide +kernel) rfl ?_ -- 174
    refine hI_il2 (k := 5) rfl e5 rfl ?_ -- 177
    refine hM_ia M (by decide) (K := 34) (R2 := 70) (L := 6) (H := 6) (lo := (-2147483648)) (hi := 2147483647) rfl (by decide) rfl rfl (fun _ => rfl) rfl lq5 (by omega) (by omega) rfl (fun x1 q1 a1 b1 => ?_) -- 179
    refine hI_al (k := 0) rfl e0 rfl ?_ -- 180
    refine hM_ga M (by decide) rfl rfl (k := 34) (c := 9) rfl rfl rfl (by decide +kernel) rfl ?_ -- 181
    refine hI_il2 (k := 5) rfl e5 rfl ?_ -- 184
    refine hM_ic (n := 1) rfl (by decide) rfl (fun x2 q2 => ?_) -- 186
    refine hM_sub rfl lq5 q2 (by omega) (by omega) rfl (fun x3 q3 => ?_) -- 187
    refine hM_ia M (by decide) (K := 34) (R2 := 70) (L := 6) (H := 6) (lo := (-2147483648)) (hi := 2147483647) rfl (by decide) rfl rfl (fun _ => rfl) rfl q3 (by omega) (by omega) rfl (fun x4 q4 a4 b4 => ?_) -- 188
    refine hM_clt (off := 41) (t := 230) rfl q1 q4 (by decide) rfl (fun c189 => ?_) (fun c189 => ?_) -- 189
    · refine hI_al (k := 0) rfl e0 rfl ?_ -- 230
      refine hM_ga M (by decide) rfl rfl (k := 33) (c := 9) rfl rfl rfl (by decide +kernel) rfl ?_ -- 231
      refine hI_il2 (k := 5) rfl e5 rfl ?_ -- 234
      refine hM_ia M (by decide) (K := 33) (R2 := 69) (L := 6) (H := 6) (lo := (-2147483648)) (hi := 2147483647) rfl (by decide) rfl rfl (fun _ => rfl) rfl lq5 (by omega) (by omega) rfl (fun x5 q5 a5 b5 => ?_) -- 236
      refine hM_si2 (k := 6) rfl (by decide +kernel) rfl (fun lv6 e6_6 u6 => ?_) -- 237
      have e6_0 := u6 0 _ (by decide) (Or.inl rfl) e0
      have e6_4 := u6 4 _ (by decide) (Or.inl rfl) e4
      have e6_5 := u6 5 _ (by decide) (Or.inl rfl) e5
      refine hI_al (k := 0) rfl e6_0 rfl ?_ -- 239
      refine hM_ga M (by decide) rfl rfl (k := 33) (c := 9) rfl rfl rfl (by decide +kernel) rfl ?_ -- 240
      refine hI_il2 (k := 5) rfl e6_5 rfl ?_ -- 243
      refine hI_al (k := 0) rfl e6_0 rfl ?_ -- 245
      refine hM_ga M (by decide) rfl rfl (k := 33) (c := 9) rfl rfl rfl (by decide +kernel) rfl ?_ -- 246
      refine hI_il2 (k := 5) rfl e6_5 rfl ?_ -- 249
      refine hM_ic (n := 1) rfl (by decide) rfl (fun x7 q7 => ?_) -- 251
      refine hM_sub rfl lq5 q7 (by omega) (by omega) rfl (fun x8 q8 => ?_) -- 252
      refine hM_ia M (by decide) (K := 33) (R2 := 69) (L := 6) (H := 6) (lo := (-2147483648)) (hi := 2147483647) rfl (by decide) rfl rfl (fun _ => rfl) rfl q8 (by omega) (by omega) rfl (fun x9 q9 a9 b9 => ?_) -- 253
      refine hM_is M (by decide) ok_49 (K := 33) (R2 := 69) (L := 6) (H := 6) (lo := (-2147483648)) (hi := 2147483647) rfl (by decide) rfl rfl rfl (fun _ => rfl) (d_subm hw (by decide +kernel)) rfl lq5 q9 (by omega) (by omega) (by omega) (by omega) rfl (fun h10 V10 f10 M10 => ?_) -- 254
      refine hI_al (k := 0) rfl e6_0 rfl ?_ -- 255
      refine hM_ga M10 (by decide) rfl rfl (k := 33) (c := 9) rfl rfl rfl (by decide +kernel) rfl ?_ -- 256
      refine hI_il2 (k := 5) rfl e6_5 rfl ?_ -- 259
      refine hM_ic (n := 1) rfl (by decide) rfl (fun x11 q11 => ?_) -- 261
      refine hM_sub rfl lq5 q11 (by omega) (by omega) rfl (fun x12 q12 => ?_) -- 262
      refine hI_il2 (k := 6) rfl e6_6 rfl ?_ -- 263
      refine hM_is M10 (by decide) ok_49 (K := 33) (R2 := 69) (L := 6) (H := 6) (lo := (-2147483648)) (hi := 2147483647) rfl (by decide) rfl rfl rfl (fun _ => rfl) (d_subm hw (by decide +kernel)) rfl q12 q5 (by omega) (by omega) (by omega) (by omega) rfl (fun h13 V13 f13 M13 => ?_) -- 265
      refine hI_al (k := 0) rfl e6_0 rfl ?_ -- 266
      refine hM_ga M13 (by decide) rfl rfl (k := 34) (c := 9) rfl rfl rfl (by decide +kernel) rfl ?_ -- 267
      refine hI_il2 (k := 5) rfl e6_5 rfl ?_ -- 270
      refine hM_ia M13 (by decide) (K := 34) (R2 := 70) (L := 6) (H := 6) (lo := (-2147483648)) (hi := 2147483647) rfl (by decide) rfl rfl (fun _ => rfl) rfl lq5 (by omega) (by omega) rfl (fun x14 q14 a14 b14 => ?_) -- 272
      have q14 : x14.toInt = V 34 (i).toNat := by rw [q14, f13, f10]; rfl
      rw [f13, f10] at a14 b14
      change (-2147483648) ≤ V 34 (i).toNat at a14
      change V 34 (i).toNat ≤ 2147483647 at b14 -- 272
      refine hM_si2 (k := 6) rfl (by decide +kernel) rfl (fun lv15 e15_6 u15 => ?_) -- 273
      have e15_0 := u15 0 _ (by decide) (Or.inl rfl) e6_0
      have e15_4 := u15 4 _ (by decide) (Or.inl rfl) e6_4
      have e15_5 := u15 5 _ (by decide) (Or.inl rfl) e6_5
      refine hI_al (k := 0) rfl e15_0 rfl ?_ -- 275
      refine hM_ga M13 (by decide) rfl rfl (k := 34) (c := 9) rfl rfl rfl (by decide +kernel) rfl ?_ -- 276
      refine hI_il2 (k := 5) rfl e15_5 rfl ?_ -- 279
      refine hI_al (k := 0) rfl e15_0 rfl ?_ -- 281
      refine hM_ga M13 (by decide) rfl rfl (k := 34) (c := 9) rfl rfl rfl (by decide +kernel) rfl ?_ -- 282
      refine hI_il2 (k := 5) rfl e15_5 rfl ?_ -- 285
      refine hM_ic (n := 1) rfl (by decide) rfl (fun x16 q16 => ?_) -- 287
      refine hM_sub rfl lq5 q16 (by omega) (by omega) rfl (fun x17 q17 => ?_) -- 288
      refine hM_ia M13 (by decide) (K := 34) (R2 := 70) (L := 6) (H := 6) (lo := (-2147483648)) (hi := 2147483647) rfl (by decide) rfl rfl (fun _ => rfl) rfl q17 (by omega) (by omega) rfl (fun x18 q18 a18 b18 => ?_) -- 289
      have q18 : x18.toInt = V 34 (i - 1).toNat := by rw [q18, f13, f10]; rfl
      rw [f13, f10] at a18 b18
      change (-2147483648) ≤ V 34 (i - 1).toNat at a18
      change V 34 (i - 1).toNat ≤ 2147483647 at b18 -- 289
      refine hM_is M13 (by decide) ok_49 (K := 34) (R2 := 70) (L := 6) (H := 6) (lo := (-2147483648)) (hi := 2147483647) rfl (by decide) rfl rfl rfl (fun _ => rfl) (d_subm hw (by decide +kernel)) rfl lq5 q18 (by omega) (by omega) (by omega) (by omega) rfl (fun h19 V19 f19 M19 => ?_) -- 290
      refine hI_al (k := 0) rfl e15_0 rfl ?_ -- 291
      refine hM_ga M19 (by decide) rfl rfl (k := 34) (c := 9) rfl rfl rfl (by decide +kernel) rfl ?_ -- 292
      refine hI_il2 (k := 5) rfl e15_5 rfl ?_ -- 295
      refine hM_ic (n := 1) rfl (by decide) rfl (fun x20 q20 => ?_) -- 297
      refine hM_sub rfl lq5 q20 (by omega) (by omega) rfl (fun x21 q21 => ?_) -- 298
      refine hI_il2 (k := 6) rfl e15_6 rfl ?_ -- 299
      refine hM_is M19 (by decide) ok_49 (K := 34) (R2 := 70) (L := 6) (H := 6) (lo := (-2147483648)) (hi := 2147483647) rfl (by decide) rfl rfl rfl (fun _ => rfl) (d_subm hw (by decide +kernel)) rfl q21 q14 (by omega) (by omega) (by omega) (by omega) rfl (fun h22 V22 f22 M22 => ?_) -- 301
      refine hM_inc (k := 5) (z := (-1)) rfl e15_5 lq5 (by decide) (by omega) (by omega) (by decide +kernel) rfl (fun lv23 x23 q23 e23_5 u23 => ?_) -- 302
      have e23_0 := u23 0 _ (by decide) (Or.inl rfl) e15_0
      have e23_4 := u23 4 _ (by decide) (Or.inl rfl) e15_4
      have e23_6 := u23 6 _ (by decide) (Or.inl rfl) e15_6
      refine hI_go (pc' := 168) (off := (-137)) rfl (by decide) ?_ -- 305
      exact g1 h10 V10 f10 h13 V13 f13 h19 V19 f19 h22 V22 f22 x23 q23 lv23 M22 e23_0 e23_4 e23_5 c170 c189
    · refine hI_al (k := 0) rfl e0 rfl ?_ -- 192
      refine hM_ga M (by decide) rfl rfl (k := 34) (c := 9) rfl rfl rfl (by decide +kernel) rfl ?_ -- 193
      refine hI_il2 (k := 5) rfl e5 rfl ?_ -- 196
      refine hM_ia M (by decide) (K := 34) (R2 := 70) (L := 6) (H := 6) (lo := (-2147483648)) (hi := 2147483647) rfl (by decide) rfl rfl (fun _ => rfl) rfl lq5 (by omega) (by omega) rfl (fun x24 q24 a24 b24 => ?_) -- 198
      refine hI_al (k := 0) rfl e0 rfl ?_ -- 199
      refine hM_ga M (by decide) rfl rfl (k := 34) (c := 9) rfl rfl rfl (by decide +kernel) rfl ?_ -- 200
      refine hI_il2 (k := 5) rfl e5 rfl ?_ -- 203
      refine hM_ic (n := 1) rfl (by decide) rfl (fun x25 q25 => ?_) -- 205
      refine hM_sub rfl lq5 q25 (by omega) (by omega) rfl (fun x26 q26 => ?_) -- 206
      refine hM_ia M (by decide) (K := 34) (R2 := 70) (L := 6) (H := 6) (lo := (-2147483648)) (hi := 2147483647) rfl (by decide) rfl rfl (fun _ => rfl) rfl q26 (by omega) (by omega) rfl (fun x27 q27 a27 b27 => ?_) -- 207
      refine hM_cne (off := 100) (t := 308) rfl q24 q27 (by decide) rfl (fun c208 => ?_) (fun c208 => ?_) -- 208
      · exact g2 c170 c189 c208
      · refine hI_al (k := 0) rfl e0 rfl ?_ -- 211
        refine hM_ga M (by decide) rfl rfl (k := 33) (c := 9) rfl rfl rfl (by decide +kernel) rfl ?_ -- 212
        refine hI_il2 (k := 5) rfl e5 rfl ?_ -- 215
        refine hM_ia M (by decide) (K := 33) (R2 := 69) (L := 6) (H := 6) (lo := (-2147483648)) (hi := 2147483647) rfl (by decide) rfl rfl (fun _ => rfl) rfl lq5 (by omega) (by omega) rfl (fun x28 q28 a28 b28 => ?_) -- 217
        refine hI_al (k := 0) rfl e0 rfl ?_ -- 218
        refine hM_ga M (by decide) rfl rfl (k := 33) (c := 9) rfl rfl rfl (by decide +kernel) rfl ?_ -- 219
        refine hI_il2 (k := 5) rfl e5 rfl ?_ -- 222
        refine hM_ic (n := 1) rfl (by decide) rfl (fun x29 q29 => ?_) -- 224
        refine hM_sub rfl lq5 q29 (by omega) (by omega) rfl (fun x30 q30 => ?_) -- 225
        refine hM_ia M (by decide) (K := 33) (R2 := 69) (L := 6) (H := 6) (lo := (-2147483648)) (hi := 2147483647) rfl (by decide) rfl rfl (fun _ => rfl) rfl q30 (by omega) (by omega) rfl (fun x31 q31 a31 b31 => ?_) -- 226
        refine hM_cge (off := 81) (t := 308) rfl q28 q31 (by decide) rfl (fun c227 => ?_) (fun c227 => ?_) -- 227
        · exact g3 c170 c189 c208 c227
        · refine hI_al (k := 0) rfl e0 rfl ?_ -- 230
          refine hM_ga M (by decide) rfl rfl (k := 33) (c := 9) rfl rfl rfl (by decide +kernel) rfl ?_ -- 231
          refine hI_il2 (k := 5) rfl e5 rfl ?_ -- 234
          refine hM_ia M (by decide) (K := 33) (R2 := 69) (L := 6) (H := 6) (lo := (-2147483648)) (hi := 2147483647) rfl (by decide) rfl rfl (fun _ => rfl) rfl lq5 (by omega) (by omega) rfl (fun x32 q32 a32 b32 => ?_) -- 236
          refine hM_si2 (k := 6) rfl (by decide +kernel) rfl (fun lv33 e33_6 u33 => ?_) -- 237
          have e33_0 := u33 0 _ (by decide) (Or.inl rfl) e0
          have e33_4 := u33 4 _ (by decide) (Or.inl rfl) e4
          have e33_5 := u33 5 _ (by decide) (Or.inl rfl) e5
          refine hI_al (k := 0) rfl e33_0 rfl ?_ -- 239
          refine hM_ga M (by decide) rfl rfl (k := 33) (c := 9) rfl rfl rfl (by decide +kernel) rfl ?_ -- 240
          refine hI_il2 (k := 5) rfl e33_5 rfl ?_ -- 243
          refine hI_al (k := 0) rfl e33_0 rfl ?_ -- 245
          refine hM_ga M (by decide) rfl rfl (k := 33) (c := 9) rfl rfl rfl (by decide +kernel) rfl ?_ -- 246
          refine hI_il2 (k := 5) rfl e33_5 rfl ?_ -- 249
          refine hM_ic (n := 1) rfl (by decide) rfl (fun x34 q34 => ?_) -- 251
          refine hM_sub rfl lq5 q34 (by omega) (by omega) rfl (fun x35 q35 => ?_) -- 252
          refine hM_ia M (by decide) (K := 33) (R2 := 69) (L := 6) (H := 6) (lo := (-2147483648)) (hi := 2147483647) rfl (by decide) rfl rfl (fun _ => rfl) rfl q35 (by omega) (by omega) rfl (fun x36 q36 a36 b36 => ?_) -- 253
          refine hM_is M (by decide) ok_49 (K := 33) (R2 := 69) (L := 6) (H := 6) (lo := (-2147483648)) (hi := 2147483647) rfl (by decide) rfl rfl rfl (fun _ => rfl) (d_subm hw (by decide +kernel)) rfl lq5 q36 (by omega) (by omega) (by omega) (by omega) rfl (fun h37 V37 f37 M37 => ?_) -- 254
          refine hI_al (k := 0) rfl e33_0 rfl ?_ -- 255
          refine hM_ga M37 (by decide) rfl rfl (k := 33) (c := 9) rfl rfl rfl (by decide +kernel) rfl ?_ -- 256
          refine hI_il2 (k := 5) rfl e33_5 rfl ?_ -- 259
          refine hM_ic (n := 1) rfl (by decide) rfl (fun x38 q38 => ?_) -- 261
          refine hM_sub rfl lq5 q38 (by omega) (by omega) rfl (fun x39 q39 => ?_) -- 262
          refine hI_il2 (k := 6) rfl e33_6 rfl ?_ -- 263
          refine hM_is M37 (by decide) ok_49 (K := 33) (R2 := 69) (L := 6) (H := 6) (lo := (-2147483648)) (hi := 2147483647) rfl (by decide) rfl rfl rfl (fun _ => rfl) (d_subm hw (by decide +kernel)) rfl q39 q32 (by omega) (by omega) (by omega) (by omega) rfl (fun h40 V40 f40 M40 => ?_) -- 265
          refine hI_al (k := 0) rfl e33_0 rfl ?_ -- 266
          refine hM_ga M40 (by decide) rfl rfl (k := 34) (c := 9) rfl rfl rfl (by decide +kernel) rfl ?_ -- 267
          refine hI_il2 (k := 5) rfl e33_5 rfl ?_ -- 270
          refine hM_ia M40 (by decide) (K := 34) (R2 := 70) (L := 6) (H := 6) (lo := (-2147483648)) (hi := 2147483647) rfl (by decide) rfl rfl (fun _ => rfl) rfl lq5 (by omega) (by omega) rfl (fun x41 q41 a41 b41 => ?_) -- 272
          have q41 : x41.toInt = V 34 (i).toNat := by rw [q41, f40, f37]; rfl
          rw [f40, f37] at a41 b41
          change (-2147483648) ≤ V 34 (i).toNat at a41
          change V 34 (i).toNat ≤ 2147483647 at b41 -- 272
          refine hM_si2 (k := 6) rfl (by decide +kernel) rfl (fun lv42 e42_6 u42 => ?_) -- 273
          have e42_0 := u42 0 _ (by decide) (Or.inl rfl) e33_0
          have e42_4 := u42 4 _ (by decide) (Or.inl rfl) e33_4
          have e42_5 := u42 5 _ (by decide) (Or.inl rfl) e33_5
          refine hI_al (k := 0) rfl e42_0 rfl ?_ -- 275
          refine hM_ga M40 (by decide) rfl rfl (k := 34) (c := 9) rfl rfl rfl (by decide +kernel) rfl ?_ -- 276
          refine hI_il2 (k := 5) rfl e42_5 rfl ?_ -- 279
          refine hI_al (k := 0) rfl e42_0 rfl ?_ -- 281
          refine hM_ga M40 (by decide) rfl rfl (k := 34) (c := 9) rfl rfl rfl (by decide +kernel) rfl ?_ -- 282
          refine hI_il2 (k := 5) rfl e42_5 rfl ?_ -- 285
          refine hM_ic (n := 1) rfl (by decide) rfl (fun x43 q43 => ?_) -- 287
          refine hM_sub rfl lq5 q43 (by omega) (by omega) rfl (fun x44 q44 => ?_) -- 288
          refine hM_ia M40 (by decide) (K := 34) (R2 := 70) (L := 6) (H := 6) (lo := (-2147483648)) (hi := 2147483647) rfl (by decide) rfl rfl (fun _ => rfl) rfl q44 (by omega) (by omega) rfl (fun x45 q45 a45 b45 => ?_) -- 289
          have q45 : x45.toInt = V 34 (i - 1).toNat := by rw [q45, f40, f37]; rfl
          rw [f40, f37] at a45 b45
          change (-2147483648) ≤ V 34 (i - 1).toNat at a45
          change V 34 (i - 1).toNat ≤ 2147483647 at b45 -- 289
          refine hM_is M40 (by decide) ok_49 (K := 34) (R2 := 70) (L := 6) (H := 6) (lo := (-2147483648)) (hi := 2147483647) rfl (by decide) rfl rfl rfl (fun _ => rfl) (d_subm hw (by decide +kernel)) rfl lq5 q45 (by omega) (by omega) (by omega) (by omega) rfl (fun h46 V46 f46 M46 => ?_) -- 290
          refine hI_al (k := 0) rfl e42_0 rfl ?_ -- 291
          refine hM_ga M46 (by decide) rfl rfl (k := 34) (c := 9) rfl rfl rfl (by decide +kernel) rfl ?_ -- 292
          refine hI_il2 (k := 5) rfl e42_5 rfl ?_ -- 295
          refine hM_ic (n := 1) rfl (by decide) rfl (fun x47 q47 => ?_) -- 297
          refine hM_sub rfl lq5 q47 (by omega) (by omega) rfl (fun x48 q48 => ?_) -- 298
          refine hI_il2 (k := 6) rfl e42_6 rfl ?_ -- 299
          refine hM_is M46 (by decide) ok_49 (K := 34) (R2 := 70) (L := 6) (H := 6) (lo := (-2147483648)) (hi := 2147483647) rfl (by decide) rfl rfl rfl (fun _ => rfl) (d_subm hw (by decide +kernel)) rfl q48 q41 (by omega) (by omega) (by omega) (by omega) rfl (fun h49 V49 f49 M49 => ?_) -- 301
          refine hM_inc (k := 5) (z := (-1)) rfl e42_5 lq5 (by decide) (by omega) (by omega) (by decide +kernel) rfl (fun lv50 x50 q50 e50_5 u50 => ?_) -- 302
          have e50_0 := u50 0 _ (by decide) (Or.inl rfl) e42_0
          have e50_4 := u50 4 _ (by decide) (Or.inl rfl) e42_4
          have e50_6 := u50 6 _ (by decide) (Or.inl rfl) e42_6
          refine hI_go (pc' := 168) (off := (-137)) rfl (by decide) ?_ -- 305
          exact g4 h37 V37 f37 h40 V40 f40 h46 V46 f46 h49 V49 f49 x50 q50 lv50 M49 e50_0 e50_4 e50_5 c170 c189 c208 c227
theorem s_low308 {n : Int} (M : MX 49 W ρ m A h0 h F V G) (e0 : m_lk lv 0 = some (.ref m)) {lx4 : Int32} (e4 : m_lk lv 4 = some (.int lx4)) (lq4 : lx4.toInt = n) 
    (g0 : HJ 221 0 (lv_args 0 [.ref m, .int lx4]) [] h (fun v h' => HJ 218 314 lv (v.toList ++ []) h' Q))
    : HJ 218 308 lv [] h Q := by
  refine hI_al (k := 0) rfl e0 rfl ?_ -- 308
  refine hI_il2 (k := 4) rfl e4 rfl ?_ -- 309
  refine hM_iv M (by decide) rfl rfl (by decide) (as := [.int lx4]) (r := []) rfl rfl (by decide +kernel) rfl (by decide +kernel) rfl rfl rfl rfl rfl ?_ -- 311
  exact g0 
theorem s_low314 (M : MX 49 W ρ m A h0 h F V G)  
    (g0 : ∀ x1 : Int32, x1.toInt = 1 → Q (some (.int x1)) h)
    : HJ 218 314 lv [] h Q := by
  refine hM_ic (n := 1) rfl (by decide) rfl (fun x1 q1 => ?_) -- 314
  refine hM_rb rfl rfl q1 (by omega) (by omega) ?_ -- 315
  exact g0 x1 q1
theorem l_low9 {t k : Int} {w : Nat} {xt xk : Int32} (M : MX 49 W ρ m A h0 h F V G) (fw : F 26 = (w : Int)) (at_ : ∀ i, i < w → 0 ≤ V 27 i ∧ V 27 i < 16000) (at2 : ∀ i, i < w → V 27 i < F 17) (ht : xt.toInt = t) (hk : xk.toInt = k) (g : ∀ (lv : List (Nat × Value)) (xf : Int32), xf.toInt = -1 ∨ (0 ≤ xf.toInt ∧ xf.toInt < w) → (∀ S O, rs_of F V S → wk_of V w O → xf.toInt = lw_f S t k O w 0) → m_lk lv 0 = some (.ref m) → m_lk lv 1 = some (.int xt) → m_lk lv 2 = some (.int xk) → m_lk lv 3 = some (.int xf) → HJ 218 68 lv [] h Q) : ∀ (d i : Nat) (lv : List (Nat × Value)) (xf xi : Int32), i + d = w → xf.toInt = -1 ∨ (0 ≤ xf.toInt ∧ xf.toInt < w) → (∀ S O, rs_of F V S → wk_of V w O → (xf.toInt = -1 ∧ lw_f S t k O w 0 = lw_f S t k O d i) ∨ (xf.toInt ≠ -1 ∧ xf.toInt = lw_f S t k O w 0)) → xi.toInt = (i : Int) → m_lk lv 0 = some (.ref m) → m_lk lv 1 = some (.int xt) → m_lk lv 2 = some (.int xk) → m_lk lv 3 = some (.int xf) → m_lk lv 4 = some (.int xi) → HJ 218 9 lv [] h Q := by
  intro d
  induction d with
  | zero =>
    intro i lv xf xi hd I J hi e0 e1 e2 e3 e4
    exact s_low9 M e0 e1 ht e2 hk e3 rfl e4 hi (by omega) (fun z => by omega) (fun a1 b1 c15 => g lv xf I (fun S O a b => by
      rcases J S O a b with ⟨x1, x2⟩ | ⟨x1, x2⟩
      · rw [x1, x2]
        rfl
      · exact x2) e0 e1 e2 e3) (fun a1 b1 c15 c20 => by omega) (fun x5 q5 x7 q7 lv7 e7_0 e7_1 e7_2 e7_3 e7_4 a1 b1 c15 c20 a3 b3 c36 => by omega) (fun x5 q5 x7 q7 lv7 e7_0 e7_1 e7_2 e7_3 e7_4 a1 b1 c15 c20 a3 b3 c36 c52 => by omega) (fun x5 q5 lv7 e7_0 e7_1 e7_2 e7_3 e7_4 a1 b1 c15 c20 a3 b3 c36 c52 => by omega)
  | succ d ih =>
    intro i lv xf xi hd I J hi e0 e1 e2 e3 e4
    have tr : ∀ S O, rs_of F V S → wk_of V w O → ps_t S (O.2.1 i).toNat = V 20 (V 27 i).toNat ∧ ps_y S (O.2.1 i).toNat = V 21 (V 27 i).toNat := fun S O a b => by
      have a0 := at_ i (by omega)
      have a1 := at2 i (by omega)
      rw [(b.2 i (by omega)).1]
      obtain ⟨x1, -, x2, -⟩ := a.2.2.2 (V 27 i).toNat (by have := a.1; omega)
      exact ⟨x1, x2⟩
    have nxt : ∀ S O, rs_of F V S → wk_of V w O → xf.toInt = -1 → ¬ (V 20 (V 27 i).toNat = t ∧ k ≤ V 21 (V 27 i).toNat) → lw_f S t k O w 0 = lw_f S t k O d (i + 1) := fun S O a b x1 n => by
      obtain ⟨y1, y2⟩ := tr S O a b
      rw [((J S O a b).resolve_right (fun z => z.1 x1)).2, lw_f, y1, y2, if_neg n]
    have hit : ∀ S O, rs_of F V S → wk_of V w O → xf.toInt = -1 → (V 20 (V 27 i).toNat = t ∧ k ≤ V 21 (V 27 i).toNat) → lw_f S t k O w 0 = (i : Int) := fun S O a b x1 n => by
      obtain ⟨y1, y2⟩ := tr S O a b
      rw [((J S O a b).resolve_right (fun z => z.1 x1)).2, lw_f, y1, y2, if_pos n]
    refine s_low9 M e0 e1 ht e2 hk e3 rfl e4 hi (by omega) (fun z => by rw [Int.toNat_natCast]; exact at_ i (by omega)) (fun a1 b1 c15 => by omega) (fun a1 b1 c15 c20 => g lv xf I (fun S O a b => ((J S O a b).resolve_left (fun z => c20 z.1)).2) e0 e1 e2 e3) (fun x5 q5 x7 q7 lv7 e7_0 e7_1 e7_2 e7_3 e7_4 a1 b1 c15 c20 a3 b3 c36 => ?_) (fun x5 q5 x7 q7 lv7 e7_0 e7_1 e7_2 e7_3 e7_4 a1 b1 c15 c20 a3 b3 c36 c52 => ?_) (fun x7 q7 lv7 e7_0 e7_1 e7_2 e7_3 e7_4 a1 b1 c15 c20 a3 b3 c36 c52 => ?_)
    · rw [Int.toNat_natCast] at c36
      exact ih (i + 1) lv7 x5 x7 (by omega) (Or.inl q5) (fun S O a b => Or.inl ⟨q5, nxt S O a b c20 (fun z => c36 z.1)⟩) (by omega) e7_0 e7_1 e7_2 e7_3 e7_4
    · rw [Int.toNat_natCast] at c52
      exact ih (i + 1) lv7 x5 x7 (by omega) (Or.inl q5) (fun S O a b => Or.inl ⟨q5, nxt S O a b c20 (fun z => by omega)⟩) (by omega) e7_0 e7_1 e7_2 e7_3 e7_4
    · rw [Int.toNat_natCast] at c36 c52
      exact ih (i + 1) lv7 xi x7 (by omega) (Or.inr (by omega)) (fun S O a b => Or.inr ⟨by omega, by rw [hit S O a b c20 ⟨c36, by omega⟩]; omega⟩) (by omega) e7_0 e7_1 e7_2 e7_3 e7_4
theorem l_low87 {p t k : Int} {w n : Nat} {xt xk xn : Int32} {N : Int} {V0 : Nat → Nat → Int} (hw : d_sub [(68, 1001), (69, 1001), (70, 1001)] W = true) (N1 : N ≤ 16000) (w63 : w ≤ 63) (n5 : n ≤ 5) (X : w_X N (V0 22) (V0 27) (V0 29) (V0 28) w) (ht : xt.toInt = t) (hk : xk.toInt = k) (hn : xn.toInt = (n : Int)) (g : ∀ (lv : List (Nat × Value)) (h : MH) (V : Nat → Nat → Int), MX 49 W ρ m A h0 h F V G → (∀ K, K < 32 ∨ 34 < K → V K = V0 K) → (∀ j, j ≤ n → 0 ≤ V 32 j ∧ V 32 j < N ∧ V0 22 (V 32 j).toNat ≤ 5) → (∀ j, j ≤ n → V 33 j = V0 20 (V 32 j).toNat ∧ V 34 j = V0 21 (V 32 j).toNat) → (∀ O, wk_of V0 w O → ∀ j, j ≤ n → V 32 j = O.2.1 (lw_an O p (n - j)).toNat) → m_lk lv 0 = some (.ref m) → m_lk lv 2 = some (.int xk) → m_lk lv 4 = some (.int xn) → HJ 218 156 lv [] h Q) : ∀ (d : Nat) (i f : Int) (lv : List (Nat × Value)) (h : MH) (V : Nat → Nat → Int) (xf xi : Int32), i + 1 = d → i ≤ n → (0 ≤ i → 0 ≤ f ∧ f < w ∧ V0 28 f.toNat = i) → xf.toInt = f → xi.toInt = i → MX 49 W ρ m A h0 h F V G → (∀ K, K < 32 ∨ 34 < K → V K = V0 K) → (∀ j : Nat, i < j → j ≤ n → 0 ≤ V 32 j ∧ V 32 j < N ∧ V0 22 (V 32 j).toNat ≤ 5) → (∀ j : Nat, i < j → j ≤ n → V 33 j = V0 20 (V 32 j).toNat ∧ V 34 j = V0 21 (V 32 j).toNat) → (∀ O, wk_of V0 w O → (0 ≤ i → f = lw_an O p (n - i.toNat)) ∧ ∀ j : Nat, i < j → j ≤ n → V 32 j = O.2.1 (lw_an O p (n - j)).toNat) → m_lk lv 0 = some (.ref m) → m_lk lv 1 = some (.int xt) → m_lk lv 2 = some (.int xk) → m_lk lv 3 = some (.int xf) → m_lk lv 4 = some (.int xn) → m_lk lv 5 = some (.int xi) → HJ 218 87 lv [] h Q := by
  intro d
  induction d with
  | zero =>
    intro i f lv h V xf xi hd hin hf qf qi M vo wy wt wo e0 e1 e2 e3 e4 e5
    exact s_low87 M e0 e1 ht e2 hk e3 qf e4 hn e5 qi (by omega) (by omega) (fun z => by omega) hw (fun c => g lv h V M vo (fun j hj => wy j (by omega) hj) (fun j hj => wt j (by omega) hj) (fun O o j hj => (wo O o).2 j (by omega) hj) e0 e2 e4) (fun h2 V2 f2 h5 V5 f5 h8 V8 f8 x9 q9 x11 q11 lv11 M8 e11_0 e11_1 e11_2 e11_3 e11_4 e11_5 c89 a1 b1 a9 b9 => by omega)
  | succ d ih =>
    intro i f lv h V xf xi hd hin hf qf qi M vo wy wt wo e0 e1 e2 e3 e4 e5
    obtain ⟨g0, g1, g2⟩ := hf (by omega)
    obtain ⟨⟨x1, x2, x3⟩, x4⟩ := X f.toNat (by omega)
    refine s_low87 M e0 e1 ht e2 hk e3 qf e4 hn e5 qi (by omega) (by omega) (fun z => by omega) hw (fun c => by omega) (fun h2 V2 f2 h5 V5 f5 h8 V8 f8 x9 q9 x11 q11 lv11 M8 a0 a1 a2 a3 a4 a5 c89 _ _ _ _ => ?_)
    rw [vo 29 (by decide)] at q9
    have v32 : V8 32 = m_u (V 32) i.toNat (V0 27 f.toNat) := by rw [f8, m_uN _ _ _ _ (by decide), f5, m_uN _ _ _ _ (by decide), f2, m_uE, vo 27 (by decide)]
    refine ih (i + (-1)) (V0 29 f.toNat) lv11 h8 V8 x9 x11 (by omega) (by omega) (fun z => ?_) q9 q11 M8 (fun K hK => by rw [f8, m_uN _ _ _ _ (by omega), f5, m_uN _ _ _ _ (by omega), f2, m_uN _ _ _ _ (by omega), vo K hK]) (fun j j1 j2 => ?_) (fun j j1 j2 => ?_) (fun O o => ?_) a0 a1 a2 a3 a4 a5
    · rcases x4 with ⟨y1, y2⟩ | ⟨y1, y2, y3⟩ <;> omega
    · rw [v32]
      by_cases e : j = i.toNat
      · rw [e, m_uE]
        exact ⟨x1, x2, x3⟩
      · rw [m_uN _ _ _ _ e]
        exact wy j (by omega) j2
    · have v33 : V8 33 = m_u (V 33) i.toNat (V0 20 (V0 27 f.toNat).toNat) := by rw [f8, m_uN _ _ _ _ (by decide), f5, m_uE, f2, m_uN _ _ _ _ (by decide), vo 27 (by decide), vo 20 (by decide)]
      have v34 : V8 34 = m_u (V 34) i.toNat (V0 21 (V0 27 f.toNat).toNat) := by rw [f8, m_uE, f5, m_uN _ _ _ _ (by decide), f2, m_uN _ _ _ _ (by decide), vo 27 (by decide), vo 21 (by decide)]
      rw [v32, v33, v34]
      by_cases e : j = i.toNat
      · rw [e, m_uE, m_uE, m_uE]
        exact ⟨rfl, rfl⟩
      · rw [m_uN _ _ _ _ e, m_uN _ _ _ _ e, m_uN _ _ _ _ e]
        exact wt j (by omega) j2
    · obtain ⟨w1, w2⟩ := wo O o
      have w1 := w1 (by omega)
      have of := o.2 f.toNat (by omega)
      refine ⟨fun z => ?_, fun j j1 j2 => ?_⟩
      · rw [show n - (i + (-1)).toNat = n - i.toNat + 1 by omega, lw_an, ← w1]
        exact of.2.1.symm
      · rw [v32]
        by_cases e : j = i.toNat
        · rw [e, m_uE, ← w1]
          exact of.1.symm
        · rw [m_uN _ _ _ _ e]
          exact w2 j (by omega) j2
def b_J (T K : Nat → Int) (t k : Int) (n : Nat) (V : Nat → Nat → Int) (i : Nat) : Prop := ∀ j, j ≤ n → V 33 j = (if j = i then t else T (if i < j then j - 1 else j)) ∧ V 34 j = (if j = i then k else K (if i < j then j - 1 else j))
def b_R (T K : Nat → Int) (t k : Int) (n i : Nat) : Prop := ∀ S y, (∀ j, j ≤ n → ps_t S (y j) = T j ∧ ps_y S (y j) = K j) → lw_ri S t k y n = lw_ri S t k y i
theorem b_sw {T K : Nat → Int} {t k : Int} {n i : Nat} {V V' : Nat → Nat → Int} (B : b_J T K t k n V (i + 1)) (hi : i + 1 ≤ n) (a : V' 33 = m_u (m_u (V 33) (i + 1) (V 33 i)) i (V 33 (i + 1))) (b : V' 34 = m_u (m_u (V 34) (i + 1) (V 34 i)) i (V 34 (i + 1))) : b_J T K t k n V' i := fun j hj => by
  obtain ⟨p1, p2⟩ := B (i + 1) hi
  obtain ⟨q1, q2⟩ := B i (by omega)
  rw [if_pos rfl] at p1 p2
  rw [if_neg (by omega), if_neg (by omega)] at q1 q2
  rw [a, b]
  by_cases e : j = i
  · rw [e, m_uE, m_uE, if_pos rfl, if_pos rfl]
    exact ⟨p1, p2⟩
  · rw [m_uN _ _ _ _ e, m_uN _ _ _ _ e, if_neg e, if_neg e]
    by_cases e2 : j = i + 1
    · rw [e2, m_uE, m_uE, if_pos (by omega)]
      exact ⟨q1, q2⟩
    · rw [m_uN _ _ _ _ e2, m_uN _ _ _ _ e2]
      obtain ⟨r1, r2⟩ := B j hj
      rw [if_neg e2] at r1 r2
      by_cases e3 : i < j
      · rw [if_pos (show i + 1 < j by omega)] at r1 r2
        rw [if_pos e3]
        exact ⟨r1, r2⟩
      · rw [if_neg (show ¬ i + 1 < j by omega)] at r1 r2
        rw [if_neg e3]
        exact ⟨r1, r2⟩
theorem b_Rn {T K : Nat → Int} {t k : Int} {n i : Nat} (R : b_R T K t k n (i + 1)) (hi : i + 1 ≤ n) (c : k < K i ∨ (k = K i ∧ t < T i)) : b_R T K t k n i := fun S y e => by
  rw [R S y e, lw_ri, (e i (by omega)).1, (e i (by omega)).2, if_pos c]
theorem b_Re {T K : Nat → Int} {t k : Int} {n i : Nat} (R : b_R T K t k n (i + 1)) (hi : i + 1 ≤ n) (c : ¬ (k < K i ∨ (k = K i ∧ t < T i))) : ∀ S y, (∀ j, j ≤ n → ps_t S (y j) = T j ∧ ps_y S (y j) = K j) → lw_ri S t k y n = i + 1 := fun S y e => by
  rw [R S y e, lw_ri, (e i (by omega)).1, (e i (by omega)).2, if_neg c]
theorem b_JC {T K T2 K2 : Nat → Int} {t k : Int} {n i : Nat} {V : Nat → Nat → Int} (hi : i ≤ n) (e : ∀ j, j ≤ n → T j = T2 j ∧ K j = K2 j) (B : b_J T K t k n V i) : b_J T2 K2 t k n V i := fun j hj => by
  obtain ⟨b1, b2⟩ := B j hj
  have q : (if i < j then j - 1 else j) ≤ n := by split <;> omega
  rw [b1, b2, (e _ q).1, (e _ q).2]
  exact ⟨rfl, rfl⟩
theorem l_low168 {T K9 : Nat → Int} {t k : Int} {n : Nat} {xn : Int32} {V0 : Nat → Nat → Int} (hw : d_sub [(69, 1001), (70, 1001)] W = true) (hn : xn.toInt = (n : Int)) (g : ∀ (lv : List (Nat × Value)) (h : MH) (V : Nat → Nat → Int), MX 49 W ρ m A h0 h F V G → (∀ K, K ≠ 33 → K ≠ 34 → V K = V0 K) → (∃ e, e ≤ n ∧ b_J T K9 t k n V e ∧ ∀ S y, (∀ j, j ≤ n → ps_t S (y j) = T j ∧ ps_y S (y j) = K9 j) → lw_ri S t k y n = e) → m_lk lv 0 = some (.ref m) → m_lk lv 4 = some (.int xn) → HJ 218 308 lv [] h Q) : ∀ (i : Nat) (lv : List (Nat × Value)) (h : MH) (V : Nat → Nat → Int) (xi : Int32), i ≤ 5 → xi.toInt = (i : Int) → MX 49 W ρ m A h0 h F V G → (∀ K, K ≠ 33 → K ≠ 34 → V K = V0 K) → i ≤ n → b_J T K9 t k n V i → b_R T K9 t k n i → m_lk lv 0 = some (.ref m) → m_lk lv 4 = some (.int xn) → m_lk lv 5 = some (.int xi) → HJ 218 168 lv [] h Q := by
  intro i
  induction i with
  | zero =>
    intro lv h V xi h5 qi M vo en B R e0 e4 e5
    exact s_low168 M e0 e4 hn e5 qi (by omega) (by omega) hw (fun c => g lv h V M vo ⟨0, en, B, R⟩ e0 e4) (fun h10 V10 f10 h13 V13 f13 h19 V19 f19 h22 V22 f22 x23 q23 lv23 M22 e23_0 e23_4 e23_5 c170 c189 => by omega) (fun c170 c189 c208 => by omega) (fun c170 c189 c208 c227 => by omega) (fun h37 V37 f37 h40 V40 f40 h46 V46 f46 h49 V49 f49 x50 q50 lv50 M49 e50_0 e50_4 e50_5 c170 c189 c208 c227 => by omega)
  | succ i ih =>
    intro lv h V xi h5 qi M vo en B R e0 e4 e5
    have nx : ∀ {V1 V2 V3 V4 : Nat → Nat → Int} {a b c d : Nat → Int}, V1 = m_u V 33 a → V2 = m_u V1 33 b → V3 = m_u V2 34 c → V4 = m_u V3 34 d → ∀ K, K ≠ 33 → K ≠ 34 → V4 K = V0 K := fun p1 p2 p3 p4 K k1 k2 => by rw [p4, m_uN _ _ _ _ k2, p3, m_uN _ _ _ _ k2, p2, m_uN _ _ _ _ k1, p1, m_uN _ _ _ _ k1, vo K k1 k2]
    have iN : ((i + 1 : Nat) : Int).toNat = i + 1 := by omega
    have iM : (((i + 1 : Nat) : Int) - 1).toNat = i := by omega
    obtain ⟨p1, p2⟩ := B (i + 1) en
    obtain ⟨r1, r2⟩ := B i (by omega)
    rw [if_pos rfl] at p1 p2
    rw [if_neg (by omega), if_neg (by omega)] at r1 r2
    have sw : ∀ {V1 V2 V3 V4 : Nat → Nat → Int}, V1 = m_u V 33 (m_u (V 33) (i + 1) (V 33 i)) → V2 = m_u V1 33 (m_u (V1 33) i (V 33 (i + 1))) → V3 = m_u V2 34 (m_u (V2 34) (i + 1) (V 34 i)) → V4 = m_u V3 34 (m_u (V3 34) i (V 34 (i + 1))) → b_J T K9 t k n V4 i := fun {V1 V2 V3 V4} y1 y2 y3 y4 => b_sw B en (by rw [y4, m_uN _ _ _ _ (by decide), y3, m_uN _ _ _ _ (by decide), y2, m_uE, y1, m_uE]) (by rw [y4, m_uE, y3, m_uE, y2, m_uN _ _ _ _ (by decide), y1, m_uN _ _ _ _ (by decide)])
    have stop : ¬ (k < K9 i ∨ (k = K9 i ∧ t < T i)) → HJ 218 308 lv [] h Q := fun c => g lv h V M vo ⟨i + 1, en, B, b_Re R en c⟩ e0 e4
    exact s_low168 M e0 e4 hn e5 qi (by omega) (by omega) hw (fun c => by omega) (fun h10 V10 f10 h13 V13 f13 h19 V19 f19 h22 V22 f22 x23 q23 lv23 M22 a0 a4 a5 c170 c189 => by
      rw [iN, iM] at f10 f13 f19 f22 c189
      exact ih lv23 h22 V22 x23 (by omega) (by omega) M22 (nx f10 f13 f19 f22) (by omega) (sw f10 f13 f19 f22) (b_Rn R en (Or.inl (by omega))) a0 a4 a5) (fun c170 c189 c208 => by
      rw [iN, iM] at c189 c208
      exact stop (by omega)) (fun c170 c189 c208 c227 => by
      rw [iN, iM] at c189 c208 c227
      exact stop (by omega)) (fun h37 V37 f37 h40 V40 f40 h46 V46 f46 h49 V49 f49 x50 q50 lv50 M49 a0 a4 a5 c170 c189 c208 c227 => by
      rw [iN, iM] at f37 f40 f46 f49 c189 c208 c227
      exact ih lv50 h49 V49 x50 (by omega) (by omega) M49 (nx f37 f40 f46 f49) (by omega) (sw f37 f40 f46 f49) (b_Rn R en (Or.inr (by omega))) a0 a4 a5)
def g_lw : List (Nat × Nat) := g_md ++ g_wk ++ [(68, 1001), (69, 1001), (70, 1001)]
-- what a lowering must leave
def lp_P (F : Nat → Int) (V : Nat → Nat → Int) (S : PSt) (h : Nat → Int) (t k : Int) (F' : Nat → Int) (V' : Nat → Nat → Int) (x : Int) : Prop := (x = 0 ∧ lw_do S h t k = none ∧ rs_of F' V' S) ∨ (x = 1 ∧ ∃ X, lw_do S h t k = some X ∧ rs_of F' V' X.1 ∧ hp6 (V' 24) X.2)
theorem lw_fin {F1 F5 : Nat → Int} {V1 V4 V5 : Nat → Nat → Int} {S : PSt} {t k : Int} {n e : Nat} {y : Nat → Nat} (a : rs_of F1 V1 S) (sh : p_sh (F1 17) (V1 22) (V1 23)) (all : ∀ K, K < 32 ∨ 34 < K → V4 K = V1 K) (yw : ∀ j, j ≤ n → V4 32 j = (y j : Int) ∧ y j < ps_n S ∧ V1 22 (y j) ≤ 5) (t0 : 0 ≤ t) (t1 : t ≤ 127) (n5 : n ≤ 5) (k0 : 0 ≤ k) (k1 : k ≤ 99) (en : e ≤ n) (B : b_J (fun j => ps_t S (y j)) (fun j => ps_y S (y j)) t k n V4 e) (RJ : g_rj F1 V4 V5 n (n + 1)) (f17 : F5 17 = F1 17 + ((n : Int) + 1)) (f19 : F5 19 = F1 19) (k5 : ∀ j, j < n + 1 → V5 22 ((F1 17).toNat + j) = V4 22 (V4 32 j).toNat) (ko : ∀ v : Nat, (v : Int) < F1 17 → V5 22 v = V4 22 v) : rs_of F5 V5 (lw_mk S t k y n e (n + 1)) := by
  obtain ⟨i1, i2, i3, i4⟩ := a
  have nN : (F1 17).toNat = ps_n S := by omega
  obtain ⟨⟨m1, m2⟩, m3, m4⟩ := lw_mkV (S := S) (t := t) (k := k) (y := y) (n := n) (e := e) (n + 1)
  have ti : ∀ j, j ≤ n → (0 ≤ ps_t S (y j) ∧ ps_t S (y j) ≤ 127) ∧ 0 ≤ ps_y S (y j) ∧ ps_y S (y j) ≤ 99 := fun j hj => by
    obtain ⟨x1, x2, x3, x4, -⟩ := i4 (y j) (yw j hj).2.1
    rw [x1, x3]
    exact ⟨x2, x4⟩
  have bt : ∀ j, j ≤ n → (0 ≤ V4 33 j ∧ V4 33 j ≤ 127) ∧ 0 ≤ V4 34 j ∧ V4 34 j ≤ 99 := fun j hj => by
    obtain ⟨b1, b2⟩ := B j hj
    rw [b1, b2]
    by_cases q : j = e
    · rw [if_pos q, if_pos q]
      exact ⟨⟨t0, t1⟩, k0, k1⟩
    · rw [if_neg q, if_neg q]
      exact ti _ (by split <;> omega)
  obtain ⟨r1, r2, r3⟩ := RJ bt
  rw [nN] at r2 r3 k5
  unfold rs_of
  rw [m1, m2]
  refine ⟨by omega, by omega, ⟨by omega, by omega⟩, fun v hv => ?_⟩
  by_cases q : v < ps_n S
  · obtain ⟨c1, c2, c3, c4⟩ := m3 v q
    obtain ⟨x1, x2, x3, x4, x5, x6⟩ := i4 v q
    obtain ⟨d1, d2⟩ := r1 v (by omega)
    have e20 : V5 20 v = V1 20 v := by rw [d1, all 20 (by decide)]
    have e21 : V5 21 v = V1 21 v := by rw [d2, all 21 (by decide)]
    have e22 : V5 22 v = V1 22 v := by rw [ko v (by omega), all 22 (by decide)]
    rw [c1, c2, c3, e20, e21, e22]
    refine ⟨x1, x2, x3, x4, x5, fun r hr => ?_⟩
    have := (sh v (by omega)).1
    rw [c4 r (by omega), r2 _ (by omega), all 23 (by decide)]
    exact x6 r hr
  · obtain ⟨j, rfl⟩ : ∃ j, v = ps_n S + j := ⟨v - ps_n S, by omega⟩
    have hj : j < n + 1 := by omega
    obtain ⟨c1, c2, c3, c4⟩ := m4 j hj
    obtain ⟨b1, b2⟩ := B j (by omega)
    obtain ⟨d1, d2, d3⟩ := r3 j hj
    obtain ⟨y1, y2, y3⟩ := yw j (by omega)
    have wy : (V4 32 j).toNat = y j := by omega
    obtain ⟨x1, x2, x3, x4, x5, x6⟩ := i4 (y j) y2
    have e22 : V5 22 (ps_n S + j) = V1 22 (y j) := by rw [k5 j hj, wy, all 22 (by decide)]
    rw [c1, c2, c3, d1, d2, e22]
    refine ⟨b1.symm, (bt j (by omega)).1, b2.symm, (bt j (by omega)).2, x5, fun r hr => ?_⟩
    rw [c4 r (by omega), d3 r (by rw [wy, all 22 (by decide)]; exact hr), wy, all 23 (by decide), x6 r hr]
    by_cases jn : j < n
    · obtain ⟨z1, z2, z3⟩ := yw (j + 1) (by omega)
      have wz : (V4 32 (j + 1)).toNat = y (j + 1) := by omega
      rw [wz, all 22 (by decide), (i4 (y (j + 1)) z2).2.2.2.2.1]
      by_cases er : (r : Int) = V1 22 (y (j + 1))
      · rw [if_pos ⟨jn, er⟩, if_pos ⟨by omega, er⟩]
        omega
      · rw [if_neg (fun z => er z.2), if_neg (fun z => er z.2)]
    · rw [if_neg (fun z => jn z.1), if_neg (fun z => by omega)]
theorem lw_do0 {S : PSt} {h : Nat → Int} {t k : Int} (e : lw_f S t k (wk_all S h) (wk_all S h).1 0 = -1) : lw_do S h t k = none := by
  unfold lw_do
  simp only [if_pos e]
theorem lw_do1 {S : PSt} {h : Nat → Int} {t k p : Int} {n : Nat} {y : Nat → Nat} (e : lw_f S t k (wk_all S h) (wk_all S h).1 0 = p) (e1 : p ≠ -1) (en : ((wk_all S h).2.2.2 p.toNat).toNat = n) (ey : lw_y (wk_all S h) p n = y) : lw_do S h t k = some (lw_mk S t k y n (lw_ri S t k y n) (n + 1), m_u h (ps_k S (y 0)).toNat (ps_n S : Int)) := by
  subst e en ey
  unfold lw_do
  simp only [if_neg e1]
theorem c_lowers {xt xk : Int32} (M : MX 49 W ρ m A h0 h F V G) (b0_ : m_lk lv 0 = some (.ref m)) (b1_ : m_lk lv 1 = some (.int xt)) (b2_ : m_lk lv 2 = some (.int xk)) (hw : d_sub g_lw W = true) (sh : p_sh (F 17) (V 22) (V 23)) (hp : p_hp (F 17) (V 22) (V 24)) (n0 : 0 ≤ F 17) (n1 : F 17 + 6 ≤ 16000) (g : ∀ (x : Int32) (h' : MH) (F' : Nat → Int) (V' : Nat → Nat → Int), 0 ≤ x.toInt → x.toInt ≤ 1 → MX 49 W ρ m A h0 h' F' V' G → g_ex F V F' V' 6 → (∀ S h, rs_of F V S → hp6 (V 24) h → 0 ≤ xk.toInt → xk.toInt ≤ 99 → lp_P F V S h xt.toInt xk.toInt F' V' x.toInt) → F' 18 = F 18 → Q (some (.int x)) h') : HJ 218 0 lv [] h Q := by
  have w1 : d_sub g_wk W = true := d_subm hw (by decide +kernel)
  have w2 : d_sub g_md W = true := d_subm hw (by decide +kernel)
  have w3 : d_sub [(68, 1001), (69, 1001), (70, 1001)] W = true := d_subm hw (by decide +kernel)
  have w4 : d_sub [(69, 1001), (70, 1001)] W = true := d_subm hw (by decide +kernel)
  have w5 : d_sub [(70, 1001)] W = true := d_subm hw (by decide +kernel)
  have kT : -2147483648 ≤ xk.toInt ∧ xk.toInt ≤ 2147483647 := g_iT xk
  have w63 := p_wsL (f := V 24) 6
  have p64 : (2 : Nat) ^ 6 = 64 := rfl
  refine s_low0 M b0_ b1_ rfl b2_ rfl (c_walkAll M rfl w1 sh hp (by omega) (fun h1 F1 V1 M1 I1 fw X WO => ?_))
  have rs1 : ∀ S, rs_of F V S → rs_of F1 V1 S := fun S a => rs_ofV a (I1.1 17 (by decide)) (I1.1 19 (by decide)) (I1.2 20 (by decide)) (I1.2 21 (by decide)) (I1.2 22 (by decide)) (I1.2 23 (by decide))
  have v22 : V1 22 = V 22 := I1.2 22 (by decide)
  have v23 : V1 23 = V 23 := I1.2 23 (by decide)
  have v24 : V1 24 = V 24 := I1.2 24 (by decide)
  have f17 : F1 17 = F 17 := I1.1 17 (by decide)
  refine s_low4 M1 b0_ b1_ rfl b2_ rfl (fun x1 q1 x3 q3 lv4 e0 e1 e2 e3 e4 => ?_)
  refine l_low9 M1 fw (fun i hi => ?_) (fun i hi => by rw [f17]; exact (X i hi).1.2.1) rfl rfl (fun lv5 xf hf LF d0 d1 d2 d3 => ?_) (p_ws (V 24) 6) 0 lv4 x1 x3 (by omega) (Or.inl q1) (fun _ _ _ _ => Or.inl ⟨q1, rfl⟩) q3 e0 e1 e2 e3 e4
  · have := (X i hi).1
    omega
  · refine s_low68 M1 d0 d1 rfl d2 rfl d3 rfl (by omega) (by omega) (fun x2 q2 lv6 a0 a1 a2 a3 a4 a5 c70 _ _ => ?_) (fun x5 q5 c5 => g x5 h1 F1 V1 (by omega) (by omega) M1 ⟨⟨by rw [f17, v22, v23]; exact sh, by rw [f17, v22, v24]; exact hp⟩, ⟨by omega, by omega⟩, fun K k1 k2 k3 k4 => I1.1 K k4, fun v hv => by rw [v22], fun K hK => I1.2 K (by omega)⟩ (fun S hh a e _ _ => Or.inl ⟨q5, lw_do0 (by rw [(WO S hh (rn_rs a) e).1, ← LF S _ (rs1 S a) (WO S hh (rn_rs a) e)]; exact c5), rs1 S a⟩) (I1.1 18 (by decide)))
    have hf1 := hf.resolve_left c70
    have dn := M1.vi (by decide) (K := 28) (R2 := 64) rfl (by decide) rfl rfl (lo := 0) (hi := 5) xf.toInt.toNat rfl (by omega)
    refine l_low87 (N := F 17) (V0 := V1) (w := p_ws (V 24) 6) (n := (V1 28 xf.toInt.toNat).toNat) w3 (by omega) (by omega) (by omega) (by rw [v22]; exact X) rfl rfl (by omega) (p := xf.toInt) (fun lv7 h2 V2 M2 vo wy wt wo b0 b2 b4 => ?_) (V1 28 xf.toInt.toNat + 1).toNat (V1 28 xf.toInt.toNat) xf.toInt lv6 h1 V1 xf x2 (by omega) (by omega) (fun _ => ⟨by omega, by omega, rfl⟩) rfl q2 M1 (fun _ _ => rfl) (fun j j1 j2 => by omega) (fun j j1 j2 => by omega) (fun O o => ⟨fun _ => by rw [Nat.sub_self]; rfl, fun j j1 j2 => by omega⟩) a0 a1 a2 a3 a4 a5
    refine s_low156 (k := xk.toInt) (n := V1 28 xf.toInt.toNat) M2 b0 b2 rfl b4 q2 (by omega) (by omega) kT w5 (fun h3 V3 f3 lv8 M3 c0 c4 c5 => ?_)
    generalize hT : V2 33 (V1 28 xf.toInt.toNat).toNat = T9
    refine l_low168 (T := V2 33) (K9 := V2 34) (t := T9) (k := xk.toInt) (V0 := V3) (n := (V1 28 xf.toInt.toNat).toNat) w4 (by omega) (fun lv9 h4 V4 M4 vo4 BE k0 k4 => ?_) (V1 28 xf.toInt.toNat).toNat lv8 h3 V3 x2 (by omega) (by omega) M3 (fun _ _ _ => rfl) (Nat.le_refl _) (fun j hj => ?_) (fun _ _ _ => rfl) c0 c4 c5
    rotate_left
    · rw [f3, m_uN _ _ _ _ (by decide), m_uE]
      by_cases ej : j = (V1 28 xf.toInt.toNat).toNat
      · rw [ej, m_uE, if_pos rfl, if_pos rfl]
        exact ⟨hT, rfl⟩
      · rw [m_uN _ _ _ _ ej, if_neg ej, if_neg ej, if_neg (by omega)]
        exact ⟨rfl, rfl⟩
    have all : ∀ K, K < 32 ∨ 34 < K → V4 K = V1 K := fun K hK => by rw [vo4 K (by omega) (by omega), f3, m_uN _ _ _ _ (by omega), vo K hK]
    have w32 : V4 32 = V2 32 := by rw [vo4 32 (by decide) (by decide), f3, m_uN _ _ _ _ (by decide)]
    have r22 : V4 22 = V 22 := (all 22 (by decide)).trans v22
    refine s_low308 (n := V1 28 xf.toInt.toNat) M4 k0 k4 q2 ?_
    refine c_renew (n := (V1 28 xf.toInt.toNat).toNat) M4 w2 (by rw [f17, r22, all 23 (by decide), v23]; exact sh) (by rw [f17, r22, all 24 (by decide), v24]; exact hp) (by omega) (by omega) (by omega) (fun j hj => ?_) (by omega) (fun h5 F5 V5 M5 J RJ n5 l5 t5 k5 h24 => ?_)
    · obtain ⟨y1, y2, y3⟩ := wy j hj
      rw [w32, r22, f17]
      rw [v22] at y3
      exact ⟨y1, y2, ((sh _ (by omega)).1).1, y3⟩
    · refine s_low314 M5 (fun x q => g x h5 F5 V5 (by omega) (by omega) M5 ?_ (fun S hh a e y0 y1 => ?_) (t5.trans (I1.1 18 (by decide))))
      rotate_left
      · have o := WO S hh (rn_rs a) e
        have a1 := rs1 S a
        have lf := LF S _ a1 o
        obtain ⟨e9, en, B, ER⟩ := BE
        have dn9 : (wk_all S hh).2.2.2 xf.toInt.toNat = V1 28 xf.toInt.toNat := (o.2 _ (by omega)).2.2
        have yv : ∀ j, j ≤ (V1 28 xf.toInt.toNat).toNat → V2 32 j = ((lw_y (wk_all S hh) xf.toInt (V1 28 xf.toInt.toNat).toNat j : Nat) : Int) := fun j hj => by
          have z1 := wo _ o j hj
          have z2 := (wy j hj).1
          unfold lw_y
          rw [← z1]
          omega
        have yl : ∀ j, j ≤ (V1 28 xf.toInt.toNat).toNat → lw_y (wk_all S hh) xf.toInt (V1 28 xf.toInt.toNat).toNat j < ps_n S := fun j hj => by
          have z1 := yv j hj
          have z2 := (wy j hj).2.1
          have z3 := a.1
          omega
        have P := lw_fP (S := S) (t := xt.toInt) (k := xk.toInt) (O := wk_all S hh) (d := p_ws (V 24) 6) (i := 0) (by rw [← lf]; exact c70)
        rw [← lf] at P
        have tt : T9 = xt.toInt := by
          rw [← hT, (wt _ (Nat.le_refl _)).1, wo _ o _ (Nat.le_refl _), Nat.sub_self, lw_an, ← (a1.2.2.2 _ (by
            have z1 := yl _ (Nat.le_refl _)
            unfold lw_y at z1
            rw [Nat.sub_self, lw_an] at z1
            exact z1)).1]
          exact P.2.2.1
        subst tt
        have ty : ∀ j, j ≤ (V1 28 xf.toInt.toNat).toNat → ps_t S (lw_y (wk_all S hh) xf.toInt (V1 28 xf.toInt.toNat).toNat j) = V2 33 j ∧ ps_y S (lw_y (wk_all S hh) xf.toInt (V1 28 xf.toInt.toNat).toNat j) = V2 34 j := fun j hj => by
          obtain ⟨q1, q2⟩ := wt j hj
          obtain ⟨x1, -, x3, -⟩ := a1.2.2.2 _ (yl j hj)
          rw [q1, q2, yv j hj, Int.toNat_natCast]
          exact ⟨x1, x3⟩
        have re := ER S _ ty
        refine Or.inr ⟨q, _, lw_do1 (p := xf.toInt) (n := (V1 28 xf.toInt.toNat).toNat) (by rw [o.1]; exact lf.symm) c70 (by rw [dn9]) rfl, ?_, ?_⟩
        · rw [re]
          have tr := P.2.2.1
          obtain ⟨-, x2, -⟩ := a1.2.2.2 _ (yl (V1 28 xf.toInt.toNat).toNat (Nat.le_refl _))
          have x1 := (a1.2.2.2 _ (yl (V1 28 xf.toInt.toNat).toNat (Nat.le_refl _))).1
          have x0 : ps_t S (lw_y (wk_all S hh) xf.toInt (V1 28 xf.toInt.toNat).toNat (V1 28 xf.toInt.toNat).toNat) = xt.toInt := by
            unfold lw_y
            rw [Nat.sub_self, lw_an]
            exact tr
          refine lw_fin a1 (by rw [f17, v22, v23]; exact sh) all (fun j hj => ⟨by rw [w32]; exact yv j hj, yl j hj, ?_⟩) (by omega) (by omega) (by omega) y0 y1 en (b_JC en (fun j hj => ⟨(ty j hj).1.symm, (ty j hj).2.symm⟩) B) RJ n5 l5 k5 J.2.2.2.1
          have z3 := (wy j hj).2.2
          rw [yv j hj, Int.toNat_natCast] at z3
          exact z3
        · have z0 := yv 0 (Nat.zero_le _)
          have z1 := a1.1
          rw [h24, all 24 (by decide), v24, all 22 (by decide), w32, z0, Int.toNat_natCast, z1, ← (a1.2.2.2 _ (yl 0 (Nat.zero_le _))).2.2.2.2.1]
          exact hp6_u e
      obtain ⟨j1, ⟨j2, j3⟩, j4, j5, j6⟩ := J
      refine ⟨j1, ⟨by omega, by omega⟩, fun K k1 k2 k3 k4 => (j4 K k1 k2 k3 k4).trans (I1.1 K k4), fun v hv => by rw [j5 v (by omega), r22], fun K hK => by rw [j6 K hK, all K (by omega), I1.2 K (by omega)]⟩
end
end
