-- THE REFERENCE'S HEAPS, by hand in whole numbers (stretches printed by wip/ck/ga.py)
theorem p_rtU {n n' : Int} {rk rk' : Nat → Int} {x : Int} {r : Nat} (hn : n ≤ n') (hr : ∀ v : Nat, (v : Int) < n → rk' v = rk v) (h : p_rt n rk x r) : p_rt n' rk' x r := by
  rcases h with h | ⟨h1, h2, h3⟩
  · exact Or.inl h
  · exact Or.inr ⟨h1, by omega, by rw [hr _ (by omega)]; exact h3⟩
theorem p_hpU {n n' : Int} {rk rk' hp : Nat → Int} (hn : n ≤ n') (hr : ∀ v : Nat, (v : Int) < n → rk' v = rk v) (h : p_hp n rk hp) : p_hp n' rk' hp := fun r h6 => p_rtU hn hr (h r h6)
theorem p_roU {n n' vs : Int} {rk rk' ro : Nat → Int} (hn : n ≤ n') (hr : ∀ v : Nat, (v : Int) < n → rk' v = rk v) (h : p_ro n vs rk ro) : p_ro n' vs rk' ro := fun w r hw h6 => p_rtU hn hr (h w r hw h6)
theorem p_shL {n : Int} {rk bl rk' bl' : Nat → Int} {u w r : Int} (sh : p_sh n rk bl) (n0 : 0 ≤ n) (u0 : 0 ≤ u) (u1 : u < n) (w0 : 0 ≤ w) (w1 : w < n) (ru : rk u.toNat = r) (rw_ : rk w.toNat = r) (r0 : 0 ≤ r) (r5 : r ≤ 5) (hrk : rk' = m_u rk n.toNat (r + 1)) (b1 : ∀ j, j < 6 * n.toNat → bl' j = bl j) (b2 : ∀ p, p < r.toNat → bl' (6 * n.toNat + p) = bl (6 * u.toNat + p)) (b3 : bl' (6 * n.toNat + r.toNat) = w) : p_sh (n + 1) rk' bl' := by
  intro v hv
  have old : ∀ x : Nat, (x : Int) < n → rk' x = rk x := fun x hx => by rw [hrk, m_uN _ _ _ _ (by omega)]
  by_cases e : v = n.toNat
  · have ev : rk' v = r + 1 := by rw [hrk, e, m_uE]
    refine ⟨by omega, fun q hq => ?_⟩
    rw [ev] at hq
    rw [e]
    by_cases eq : (q : Int) < r
    · obtain ⟨s1, s2⟩ := sh u.toNat (by omega)
      obtain ⟨t1, t2, t3⟩ := s2 q (by rw [ru]; exact eq)
      rw [b2 q (by omega)]
      refine ⟨t1, by omega, ?_⟩
      rw [old _ (by omega)]
      exact t3
    · have : q = r.toNat := by omega
      rw [this, b3]
      refine ⟨w0, by omega, ?_⟩
      rw [old _ (by omega), rw_]
      omega
  · obtain ⟨s1, s2⟩ := sh v (by omega)
    rw [old v (by omega)]
    refine ⟨s1, fun q hq => ?_⟩
    obtain ⟨t1, t2, t3⟩ := s2 q hq
    rw [b1 _ (by omega)]
    refine ⟨t1, by omega, ?_⟩
    rw [old _ (by omega)]
    exact t3
def y_ls (V : Nat → Nat → Int) (a b : Int) : Prop := V 21 a.toNat < V 21 b.toNat ∨ (V 21 a.toNat = V 21 b.toNat ∧ V 20 a.toNat < V 20 b.toNat)
theorem rs_ls {F : Nat → Int} {V : Nat → Nat → Int} {S : PSt} {a b : Int} (I : rs_of F V S) (a0 : 0 ≤ a) (a1 : a < F 17) (b0 : 0 ≤ b) (b1 : b < F 17) : y_ls V a b ↔ ps_ls S a b := by
  obtain ⟨i1, i2, i3, i4⟩ := I
  obtain ⟨x1, -, x2, -⟩ := i4 a.toNat (by omega)
  obtain ⟨z1, -, z2, -⟩ := i4 b.toNat (by omega)
  unfold ps_ls y_ls
  rw [x1, x2, z1, z2]
section
variable {lv : List (Nat × Value)} {Q : Option Value → MH → Prop} {W : List (Nat × Nat)} {ρ : Nat → Nat} {m : Nat} {A : Nat → Nat} {h0 h : MH} {F : Nat → Int} {V : Nat → Nat → Int} {G : Nat → Nat → Int64}
theorem s_less {a b : Int} (M : MX 49 W ρ m A h0 h F V G) (e0 : m_lk lv 0 = some (.ref m)) {lx1 : Int32} (e1 : m_lk lv 1 = some (.int lx1)) (lq1 : lx1.toInt = a) {lx2 : Int32} (e2 : m_lk lv 2 = some (.int lx2)) (lq2 : lx2.toInt = b) (a0 : 0 ≤ a) (a1 : a < 16000) (b0 : 0 ≤ b) (b1 : b < 16000)
    (g0 : ∀ x3 : Int32, x3.toInt = 1 → V 21 (a).toNat < V 21 (b).toNat → Q (some (.int x3)) h)
    (g1 : ∀ x6 : Int32, x6.toInt = 0 → V 21 (a).toNat ≥ V 21 (b).toNat → V 21 (a).toNat ≠ V 21 (b).toNat → Q (some (.int x6)) h)
    (g2 : ∀ x9 : Int32, x9.toInt = 0 → V 21 (a).toNat ≥ V 21 (b).toNat → V 21 (a).toNat = V 21 (b).toNat → V 20 (a).toNat ≥ V 20 (b).toNat → Q (some (.int x9)) h)
    (g3 : ∀ x10 : Int32, x10.toInt = 1 → V 21 (a).toNat ≥ V 21 (b).toNat → V 21 (a).toNat = V 21 (b).toNat → V 20 (a).toNat < V 20 (b).toNat → Q (some (.int x10)) h)
    : HJ 211 0 lv [] h Q := by
  refine hI_al (k := 0) rfl e0 rfl ?_ -- 0
  refine hM_ga M (by decide) rfl rfl (k := 21) (c := 9) rfl rfl rfl (by decide +kernel) rfl ?_ -- 1
  refine hI_il (k := 1) rfl e1 rfl ?_ -- 4
  refine hM_ba M (by decide) (K := 21) (R2 := 58) (L := 16000) (H := 16000) (lo := (-2147483648)) (hi := 2147483647) rfl (by decide) rfl rfl (Or.inl rfl) (fun _ => rfl) rfl lq1 (by omega) (by omega) rfl (fun x1 q1 a1 b1 => ?_) -- 5
  refine hI_al (k := 0) rfl e0 rfl ?_ -- 6
  refine hM_ga M (by decide) rfl rfl (k := 21) (c := 9) rfl rfl rfl (by decide +kernel) rfl ?_ -- 7
  refine hI_il (k := 2) rfl e2 rfl ?_ -- 10
  refine hM_ba M (by decide) (K := 21) (R2 := 58) (L := 16000) (H := 16000) (lo := (-2147483648)) (hi := 2147483647) rfl (by decide) rfl rfl (Or.inl rfl) (fun _ => rfl) rfl lq2 (by omega) (by omega) rfl (fun x2 q2 a2 b2 => ?_) -- 11
  refine hM_clt (off := 33) (t := 45) rfl q1 q2 (by decide) rfl (fun c12 => ?_) (fun c12 => ?_) -- 12
  · refine hM_ic (n := 1) rfl (by decide) rfl (fun x3 q3 => ?_) -- 45
    refine hI_go (pc' := 50) (off := 4) rfl (by decide) ?_ -- 46
    refine hM_rb rfl rfl q3 (by omega) (by omega) ?_ -- 50
    exact g0 x3 q3 c12
  · refine hI_al (k := 0) rfl e0 rfl ?_ -- 15
    refine hM_ga M (by decide) rfl rfl (k := 21) (c := 9) rfl rfl rfl (by decide +kernel) rfl ?_ -- 16
    refine hI_il (k := 1) rfl e1 rfl ?_ -- 19
    refine hM_ba M (by decide) (K := 21) (R2 := 58) (L := 16000) (H := 16000) (lo := (-2147483648)) (hi := 2147483647) rfl (by decide) rfl rfl (Or.inl rfl) (fun _ => rfl) rfl lq1 (by omega) (by omega) rfl (fun x4 q4 a4 b4 => ?_) -- 20
    refine hI_al (k := 0) rfl e0 rfl ?_ -- 21
    refine hM_ga M (by decide) rfl rfl (k := 21) (c := 9) rfl rfl rfl (by decide +kernel) rfl ?_ -- 22
    refine hI_il (k := 2) rfl e2 rfl ?_ -- 25
    refine hM_ba M (by decide) (K := 21) (R2 := 58) (L := 16000) (H := 16000) (lo := (-2147483648)) (hi := 2147483647) rfl (by decide) rfl rfl (Or.inl rfl) (fun _ => rfl) rfl lq2 (by omega) (by omega) rfl (fun x5 q5 a5 b5 => ?_) -- 26
    refine hM_cne (off := 22) (t := 49) rfl q4 q5 (by decide) rfl (fun c27 => ?_) (fun c27 => ?_) -- 27
    · refine hM_ic (n := 0) rfl (by decide) rfl (fun x6 q6 => ?_) -- 49
      refine hM_rb rfl rfl q6 (by omega) (by omega) ?_ -- 50
      exact g1 x6 q6 c12 c27
    · refine hI_al (k := 0) rfl e0 rfl ?_ -- 30
      refine hM_ga M (by decide) rfl rfl (k := 20) (c := 9) rfl rfl rfl (by decide +kernel) rfl ?_ -- 31
      refine hI_il (k := 1) rfl e1 rfl ?_ -- 34
      refine hM_ba M (by decide) (K := 20) (R2 := 57) (L := 16000) (H := 16000) (lo := (-2147483648)) (hi := 2147483647) rfl (by decide) rfl rfl (Or.inl rfl) (fun _ => rfl) rfl lq1 (by omega) (by omega) rfl (fun x7 q7 a7 b7 => ?_) -- 35
      refine hI_al (k := 0) rfl e0 rfl ?_ -- 36
      refine hM_ga M (by decide) rfl rfl (k := 20) (c := 9) rfl rfl rfl (by decide +kernel) rfl ?_ -- 37
      refine hI_il (k := 2) rfl e2 rfl ?_ -- 40
      refine hM_ba M (by decide) (K := 20) (R2 := 57) (L := 16000) (H := 16000) (lo := (-2147483648)) (hi := 2147483647) rfl (by decide) rfl rfl (Or.inl rfl) (fun _ => rfl) rfl lq2 (by omega) (by omega) rfl (fun x8 q8 a8 b8 => ?_) -- 41
      refine hM_cge (off := 7) (t := 49) rfl q7 q8 (by decide) rfl (fun c42 => ?_) (fun c42 => ?_) -- 42
      · refine hM_ic (n := 0) rfl (by decide) rfl (fun x9 q9 => ?_) -- 49
        refine hM_rb rfl rfl q9 (by omega) (by omega) ?_ -- 50
        exact g2 x9 q9 c12 c27 c42
      · refine hM_ic (n := 1) rfl (by decide) rfl (fun x10 q10 => ?_) -- 45
        refine hI_go (pc' := 50) (off := 4) rfl (by decide) ?_ -- 46
        refine hM_rb rfl rfl q10 (by omega) (by omega) ?_ -- 50
        exact g3 x10 q10 c12 c27 c42
theorem c_less {a b : Int} {xa xb : Int32} (M : MX 49 W ρ m A h0 h F V G) (ha : xa.toInt = a) (hb : xb.toInt = b) (a0 : 0 ≤ a) (a1 : a < 16000) (b0 : 0 ≤ b) (b1 : b < 16000) (g : ∀ x : Int32, 0 ≤ x.toInt → x.toInt ≤ 1 → ((x.toInt = 1 ∧ y_ls V a b) ∨ (x.toInt = 0 ∧ ¬ y_ls V a b)) → Q (some (.int x)) h) : HJ 211 0 (lv_args 0 [.ref m, .int xa, .int xb]) [] h Q :=
  s_less M rfl rfl ha rfl hb a0 a1 b0 b1 (fun x q c => g x (by omega) (by omega) (Or.inl ⟨q, Or.inl c⟩)) (fun x q c d => g x (by omega) (by omega) (Or.inr ⟨q, fun z => by rcases z with z | z <;> omega⟩)) (fun x q c d e => g x (by omega) (by omega) (Or.inr ⟨q, fun z => by rcases z with z | z <;> omega⟩)) (fun x q _ d e => g x (by omega) (by omega) (Or.inl ⟨q, Or.inr ⟨d, e⟩⟩))
def g_mk : List (Nat × Nat) := [(57, 1001), (58, 1001), (59, 1001), (49, 17)]
theorem s_make {t k r : Int} (M : MX 49 W ρ m A h0 h F V G) (e0 : m_lk lv 0 = some (.ref m)) {lx1 : Int32} (e1 : m_lk lv 1 = some (.int lx1)) (lq1 : lx1.toInt = t) {lx2 : Int32} (e2 : m_lk lv 2 = some (.int lx2)) (lq2 : lx2.toInt = k) {lx3 : Int32} (e3 : m_lk lv 3 = some (.int lx3)) (lq3 : lx3.toInt = r) (n0 : 0 ≤ F 17) (n1 : F 17 < 16000)(hw : d_sub [(57, 1001), (58, 1001), (59, 1001), (49, 17)] W = true)
    (g0 : ∀ z2 : Int, -128 ≤ z2 → z2 ≤ 127 → (-128 ≤ t → t ≤ 127 → z2 = t) → ∀ h3 : MH, ∀ V3 : Nat → Nat → Int, V3 = m_u V 20 (m_u (V 20) (F 17).toNat (z2)) → ∀ z5 : Int, -128 ≤ z5 → z5 ≤ 127 → (-128 ≤ k → k ≤ 127 → z5 = k) → ∀ h6 : MH, ∀ V6 : Nat → Nat → Int, V6 = m_u V3 21 (m_u (V3 21) (F 17).toNat (z5)) → ∀ z8 : Int, -128 ≤ z8 → z8 ≤ 127 → (-128 ≤ r → r ≤ 127 → z8 = r) → ∀ h9 : MH, ∀ V9 : Nat → Nat → Int, V9 = m_u V6 22 (m_u (V6 22) (F 17).toNat (z8)) → ∀ h13 : MH, ∀ F13 : Nat → Int, F13 = m_u F 17 ((F 17) + 1) → ∀ x16 : Int32, x16.toInt = (((F 17) + 1)) - 1 → MX 49 W ρ m A h0 h13 F13 V9 G → 0 ≤ F 17 → F 17 ≤ 16000 → 0 ≤ ((F 17) + 1) → ((F 17) + 1) ≤ 16000 → Q (some (.int x16)) h13)
    : HJ 212 0 lv [] h Q := by
  refine hI_al (k := 0) rfl e0 rfl ?_ -- 0
  refine hM_ga M (by decide) rfl rfl (k := 20) (c := 9) rfl rfl rfl (by decide +kernel) rfl ?_ -- 1
  refine hI_al (k := 0) rfl e0 rfl ?_ -- 4
  refine hM_gi M (by decide) rfl rfl rfl (k := 17) (c := 9) (lo := 0) (hi := 16000) rfl rfl rfl rfl rfl (fun x1 q1 a1 b1 => ?_) -- 5
  refine hI_il (k := 1) rfl e1 rfl ?_ -- 8
  refine hM_i2b rfl lq1 rfl (fun x2 z2 q2 a2 b2 c2 => ?_) -- 9
  refine hM_bs M (by decide) ok_49 (K := 20) (R2 := 57) (L := 16000) (H := 16000) (lo := (-2147483648)) (hi := 2147483647) rfl (by decide) rfl rfl rfl (fun _ => rfl) (by decide) (by decide) (d_subm hw (by decide +kernel)) rfl q1 q2 (by omega) (by omega) (by omega) (by omega) rfl (fun h3 V3 f3 M3 => ?_) -- 10
  refine hI_al (k := 0) rfl e0 rfl ?_ -- 11
  refine hM_ga M3 (by decide) rfl rfl (k := 21) (c := 9) rfl rfl rfl (by decide +kernel) rfl ?_ -- 12
  refine hI_al (k := 0) rfl e0 rfl ?_ -- 15
  refine hM_gi M3 (by decide) rfl rfl rfl (k := 17) (c := 9) (lo := 0) (hi := 16000) rfl rfl rfl rfl rfl (fun x4 q4 a4 b4 => ?_) -- 16
  refine hI_il (k := 2) rfl e2 rfl ?_ -- 19
  refine hM_i2b rfl lq2 rfl (fun x5 z5 q5 a5 b5 c5 => ?_) -- 20
  refine hM_bs M3 (by decide) ok_49 (K := 21) (R2 := 58) (L := 16000) (H := 16000) (lo := (-2147483648)) (hi := 2147483647) rfl (by decide) rfl rfl rfl (fun _ => rfl) (by decide) (by decide) (d_subm hw (by decide +kernel)) rfl q4 q5 (by omega) (by omega) (by omega) (by omega) rfl (fun h6 V6 f6 M6 => ?_) -- 21
  refine hI_al (k := 0) rfl e0 rfl ?_ -- 22
  refine hM_ga M6 (by decide) rfl rfl (k := 22) (c := 9) rfl rfl rfl (by decide +kernel) rfl ?_ -- 23
  refine hI_al (k := 0) rfl e0 rfl ?_ -- 26
  refine hM_gi M6 (by decide) rfl rfl rfl (k := 17) (c := 9) (lo := 0) (hi := 16000) rfl rfl rfl rfl rfl (fun x7 q7 a7 b7 => ?_) -- 27
  refine hI_il (k := 3) rfl e3 rfl ?_ -- 30
  refine hM_i2b rfl lq3 rfl (fun x8 z8 q8 a8 b8 c8 => ?_) -- 31
  refine hM_bs M6 (by decide) ok_49 (K := 22) (R2 := 59) (L := 16000) (H := 16000) (lo := (-2147483648)) (hi := 2147483647) rfl (by decide) rfl rfl rfl (fun _ => rfl) (by decide) (by decide) (d_subm hw (by decide +kernel)) rfl q7 q8 (by omega) (by omega) (by omega) (by omega) rfl (fun h9 V9 f9 M9 => ?_) -- 32
  refine hI_al (k := 0) rfl e0 rfl ?_ -- 33
  refine hI_dup rfl rfl rfl ?_ -- 34
  refine hM_gi M9 (by decide) rfl rfl rfl (k := 17) (c := 9) (lo := 0) (hi := 16000) rfl rfl rfl rfl rfl (fun x10 q10 a10 b10 => ?_) -- 35
  refine hM_ic (n := 1) rfl (by decide) rfl (fun x11 q11 => ?_) -- 38
  refine hM_add rfl q10 q11 (by omega) (by omega) rfl (fun x12 q12 => ?_) -- 39
  refine hM_pi M9 (by decide) ok_49 rfl rfl (k := 17) (c := 9) (lo := 0) (hi := 16000) rfl rfl ⟨by decide, by decide +kernel, rfl⟩ rfl (d_subm hw (by decide +kernel)) q12 (by omega) (by omega) rfl (fun h13 F13 f13 M13 => ?_) -- 40
  refine hI_al (k := 0) rfl e0 rfl ?_ -- 43
  refine hM_gi M13 (by decide) rfl rfl rfl (k := 17) (c := 9) (lo := 0) (hi := 16000) rfl rfl rfl rfl rfl (fun x14 q14 a14 b14 => ?_) -- 44
  have q14 : x14.toInt = ((F 17) + 1) := by rw [q14, f13]; rfl
  have a14 := a14
  rw [f13] at a14 b14
  change 0 ≤ ((F 17) + 1) at a14
  change ((F 17) + 1) ≤ 16000 at b14 -- 44
  refine hM_ic (n := 1) rfl (by decide) rfl (fun x15 q15 => ?_) -- 47
  refine hM_sub rfl q14 q15 (by omega) (by omega) rfl (fun x16 q16 => ?_) -- 48
  refine hI_ri rfl rfl ?_ -- 49
  exact g0 z2 a2 b2 c2 h3 V3 f3 z5 a5 b5 c5 h6 V6 f6 z8 a8 b8 c8 h9 V9 f9 h13 F13 f13 x16 q16 M13 a1 b1 a14 b14
theorem c_make {t k r : Int} {xt xk xr : Int32} (M : MX 49 W ρ m A h0 h F V G) (hw : d_sub g_mk W = true) (ht : xt.toInt = t) (hk : xk.toInt = k) (hr : xr.toInt = r) (n0 : 0 ≤ F 17) (n1 : F 17 < 16000) (r0 : 0 ≤ r) (r1 : r ≤ 100) (g : ∀ (x : Int32) (h' : MH) (F' : Nat → Int) (V' : Nat → Nat → Int), x.toInt = F 17 → MX 49 W ρ m A h0 h' F' V' G → F' = m_u F 17 (F 17 + 1) → V' 22 = m_u (V 22) (F 17).toNat r → (∀ K, K ≠ 20 → K ≠ 21 → K ≠ 22 → V' K = V K) → (-128 ≤ t → t ≤ 127 → V' 20 = m_u (V 20) (F 17).toNat t) → (-128 ≤ k → k ≤ 127 → V' 21 = m_u (V 21) (F 17).toNat k) → Q (some (.int x)) h') : HJ 212 0 (lv_args 0 [.ref m, .int xt, .int xk, .int xr]) [] h Q :=
  s_make M rfl rfl ht rfl hk rfl hr n0 n1 hw (fun z2 a2 b2 c2 h3 V3 f3 z5 a5 b5 c5 h6 V6 f6 z8 a8 b8 c8 h9 V9 f9 h13 F13 f13 x16 q16 M13 a1 b1 a14 b14 => by
    refine g x16 h13 F13 V9 (by omega) M13 f13 ?_ (fun K k1 k2 k3 => ?_) (fun t0 t1 => ?_) (fun t0 t1 => ?_)
    · rw [f9, m_uE, c8 (by omega) (by omega), f6, m_uN _ _ _ _ (by decide), f3, m_uN _ _ _ _ (by decide)]
    · rw [f9, m_uN _ _ _ _ k3, f6, m_uN _ _ _ _ k2, f3, m_uN _ _ _ _ k1]
    · rw [f9, m_uN _ _ _ _ (by decide), f6, m_uN _ _ _ _ (by decide), f3, m_uE, c2 t0 t1]
    · rw [f9, m_uN _ _ _ _ (by decide), f6, m_uE, f3, m_uN _ _ _ _ (by decide), c5 t0 t1])
def g_ln : List (Nat × Nat) := g_mk ++ [(60, 1001), (49, 19)]
theorem s_link0 {a b : Int} (M : MX 49 W ρ m A h0 h F V G) (e0 : m_lk lv 0 = some (.ref m)) {lx1 : Int32} (e1 : m_lk lv 1 = some (.int lx1)) (lq1 : lx1.toInt = a) {lx2 : Int32} (e2 : m_lk lv 2 = some (.int lx2)) (lq2 : lx2.toInt = b) (a0 : 0 ≤ a) (a1 : a < 16000) (b0 : 0 ≤ b) (b1 : b < 16000)
    (g0 : HJ 211 0 (lv_args 0 [.ref m, .int lx2, .int lx1]) [] h (fun v h' => HJ 210 6 lv (v.toList ++ []) h' Q))
    : HJ 210 0 lv [] h Q := by
  refine hI_al (k := 0) rfl e0 rfl ?_ -- 0
  refine hI_il (k := 2) rfl e2 rfl ?_ -- 1
  refine hI_il (k := 1) rfl e1 rfl ?_ -- 2
  refine hM_iv M (by decide) rfl rfl (by decide) (as := [.int lx2, .int lx1]) (r := []) rfl rfl (by decide +kernel) rfl (by decide +kernel) rfl rfl rfl rfl rfl ?_ -- 3
  exact g0 
theorem s_link6 {a b z : Int} (M : MX 49 W ρ m A h0 h F V G) (e0 : m_lk lv 0 = some (.ref m)) {lx1 : Int32} (e1 : m_lk lv 1 = some (.int lx1)) (lq1 : lx1.toInt = a) {lx2 : Int32} (e2 : m_lk lv 2 = some (.int lx2)) (lq2 : lx2.toInt = b) {sx0 : Int32} (sq0 : sx0.toInt = z) (a0 : 0 ≤ a) (a1 : a < 16000) (b0 : 0 ≤ b) (b1 : b < 16000)
    (g0 : ∀ lv2 : List (Nat × Value), m_lk lv2 0 = some (.ref m) → m_lk lv2 3 = some (.int lx1) → m_lk lv2 4 = some (.int lx2) → z = 0 → a ≠ b → HJ 210 32 lv2 [] h Q)
    (g1 : ∀ lv3 : List (Nat × Value), m_lk lv3 0 = some (.ref m) → m_lk lv3 3 = some (.int lx1) → m_lk lv3 4 = some (.int lx2) → z = 0 → a = b → HJ 210 32 lv3 [] h Q)
    (g2 : ∀ lv5 : List (Nat × Value), m_lk lv5 0 = some (.ref m) → m_lk lv5 3 = some (.int lx2) → m_lk lv5 4 = some (.int lx2) → z ≠ 0 → b = a → HJ 210 32 lv5 [] h Q)
    (g3 : ∀ lv6 : List (Nat × Value), m_lk lv6 0 = some (.ref m) → m_lk lv6 3 = some (.int lx2) → m_lk lv6 4 = some (.int lx1) → z ≠ 0 → b ≠ a → HJ 210 32 lv6 [] h Q)
    : HJ 210 6 lv [.int sx0] h Q := by
  refine hM_zeq (off := 7) (t := 13) rfl sq0 (by decide) rfl (fun c6 => ?_) (fun c6 => ?_) -- 6
  · refine hI_il (k := 1) rfl e1 rfl ?_ -- 13
    refine hM_si (k := 3) rfl (by decide +kernel) rfl (fun lv1 e1_3 u1 => ?_) -- 14
    have e1_0 := u1 0 _ (by decide) (Or.inl rfl) e0
    have e1_1 := u1 1 _ (by decide) (Or.inl rfl) e1
    have e1_2 := u1 2 _ (by decide) (Or.inl rfl) e2
    refine hI_il (k := 3) rfl e1_3 rfl ?_ -- 15
    refine hI_il (k := 2) rfl e1_2 rfl ?_ -- 16
    refine hM_cne (off := 12) (t := 29) rfl lq1 lq2 (by decide) rfl (fun c17 => ?_) (fun c17 => ?_) -- 17
    · refine hI_il (k := 2) rfl e1_2 rfl ?_ -- 29
      refine hM_si2 (k := 4) rfl (by decide +kernel) rfl (fun lv2 e2_4 u2 => ?_) -- 30
      have e2_0 := u2 0 _ (by decide) (Or.inl rfl) e1_0
      have e2_1 := u2 1 _ (by decide) (Or.inl rfl) e1_1
      have e2_2 := u2 2 _ (by decide) (Or.inl rfl) e1_2
      have e2_3 := u2 3 _ (by decide) (Or.inl rfl) e1_3
      exact g0 lv2 e2_0 e2_3 e2_4 c6 c17
    · refine hI_il (k := 3) rfl e1_3 rfl ?_ -- 20
      refine hI_il (k := 1) rfl e1_1 rfl ?_ -- 21
      refine hM_ceq (off := 7) (t := 29) rfl lq1 lq1 (by decide) rfl (fun c22 => ?_) (fun c22 => ?_) -- 22
      · refine hI_il (k := 2) rfl e1_2 rfl ?_ -- 29
        refine hM_si2 (k := 4) rfl (by decide +kernel) rfl (fun lv3 e3_4 u3 => ?_) -- 30
        have e3_0 := u3 0 _ (by decide) (Or.inl rfl) e1_0
        have e3_1 := u3 1 _ (by decide) (Or.inl rfl) e1_1
        have e3_2 := u3 2 _ (by decide) (Or.inl rfl) e1_2
        have e3_3 := u3 3 _ (by decide) (Or.inl rfl) e1_3
        exact g1 lv3 e3_0 e3_3 e3_4 c6 c17
      · exfalso; omega
  · refine hI_il (k := 2) rfl e2 rfl ?_ -- 9
    refine hI_go (pc' := 14) (off := 4) rfl (by decide) ?_ -- 10
    refine hM_si (k := 3) rfl (by decide +kernel) rfl (fun lv4 e4_3 u4 => ?_) -- 14
    have e4_0 := u4 0 _ (by decide) (Or.inl rfl) e0
    have e4_1 := u4 1 _ (by decide) (Or.inl rfl) e1
    have e4_2 := u4 2 _ (by decide) (Or.inl rfl) e2
    refine hI_il (k := 3) rfl e4_3 rfl ?_ -- 15
    refine hI_il (k := 2) rfl e4_2 rfl ?_ -- 16
    refine hM_cne (off := 12) (t := 29) rfl lq2 lq2 (by decide) rfl (fun c17 => ?_) (fun c17 => ?_) -- 17
    · exfalso; omega
    · refine hI_il (k := 3) rfl e4_3 rfl ?_ -- 20
      refine hI_il (k := 1) rfl e4_1 rfl ?_ -- 21
      refine hM_ceq (off := 7) (t := 29) rfl lq2 lq1 (by decide) rfl (fun c22 => ?_) (fun c22 => ?_) -- 22
      · refine hI_il (k := 2) rfl e4_2 rfl ?_ -- 29
        refine hM_si2 (k := 4) rfl (by decide +kernel) rfl (fun lv5 e5_4 u5 => ?_) -- 30
        have e5_0 := u5 0 _ (by decide) (Or.inl rfl) e4_0
        have e5_1 := u5 1 _ (by decide) (Or.inl rfl) e4_1
        have e5_2 := u5 2 _ (by decide) (Or.inl rfl) e4_2
        have e5_3 := u5 3 _ (by decide) (Or.inl rfl) e4_3
        exact g2 lv5 e5_0 e5_3 e5_4 c6 c22
      · refine hI_il (k := 1) rfl e4_1 rfl ?_ -- 25
        refine hI_go (pc' := 30) (off := 4) rfl (by decide) ?_ -- 26
        refine hM_si2 (k := 4) rfl (by decide +kernel) rfl (fun lv6 e6_4 u6 => ?_) -- 30
        have e6_0 := u6 0 _ (by decide) (Or.inl rfl) e4_0
        have e6_1 := u6 1 _ (by decide) (Or.inl rfl) e4_1
        have e6_2 := u6 2 _ (by decide) (Or.inl rfl) e4_2
        have e6_3 := u6 3 _ (by decide) (Or.inl rfl) e4_3
        exact g3 lv6 e6_0 e6_3 e6_4 c6 c22
theorem s_link32 {u w : Int} (M : MX 49 W ρ m A h0 h F V G) (e0 : m_lk lv 0 = some (.ref m)) {lx3 : Int32} (e3 : m_lk lv 3 = some (.int lx3)) (lq3 : lx3.toInt = u) {lx4 : Int32} (e4 : m_lk lv 4 = some (.int lx4)) (lq4 : lx4.toInt = w) (u0 : 0 ≤ u) (u1 : u < 16000) (r0 : 0 ≤ V 22 u.toNat) (r1 : V 22 u.toNat ≤ 5)
    (g0 : ∀ x1 : Int32, x1.toInt = V 20 (u).toNat → ∀ x2 : Int32, x2.toInt = V 21 (u).toNat → ∀ x5 : Int32, x5.toInt = (V 22 (u).toNat) + 1 → HJ 212 0 (lv_args 0 [.ref m, .int x1, .int x2, .int x5]) [] h (fun v h' => HJ 210 56 lv (v.toList ++ []) h' Q))
    : HJ 210 32 lv [] h Q := by
  refine hI_al (k := 0) rfl e0 rfl ?_ -- 32
  refine hI_al (k := 0) rfl e0 rfl ?_ -- 33
  refine hM_ga M (by decide) rfl rfl (k := 20) (c := 9) rfl rfl rfl (by decide +kernel) rfl ?_ -- 34
  refine hI_il (k := 3) rfl e3 rfl ?_ -- 37
  refine hM_ba M (by decide) (K := 20) (R2 := 57) (L := 16000) (H := 16000) (lo := (-2147483648)) (hi := 2147483647) rfl (by decide) rfl rfl (Or.inl rfl) (fun _ => rfl) rfl lq3 (by omega) (by omega) rfl (fun x1 q1 a1 b1 => ?_) -- 38
  refine hI_al (k := 0) rfl e0 rfl ?_ -- 39
  refine hM_ga M (by decide) rfl rfl (k := 21) (c := 9) rfl rfl rfl (by decide +kernel) rfl ?_ -- 40
  refine hI_il (k := 3) rfl e3 rfl ?_ -- 43
  refine hM_ba M (by decide) (K := 21) (R2 := 58) (L := 16000) (H := 16000) (lo := (-2147483648)) (hi := 2147483647) rfl (by decide) rfl rfl (Or.inl rfl) (fun _ => rfl) rfl lq3 (by omega) (by omega) rfl (fun x2 q2 a2 b2 => ?_) -- 44
  refine hI_al (k := 0) rfl e0 rfl ?_ -- 45
  refine hM_ga M (by decide) rfl rfl (k := 22) (c := 9) rfl rfl rfl (by decide +kernel) rfl ?_ -- 46
  refine hI_il (k := 3) rfl e3 rfl ?_ -- 49
  refine hM_ba M (by decide) (K := 22) (R2 := 59) (L := 16000) (H := 16000) (lo := (-2147483648)) (hi := 2147483647) rfl (by decide) rfl rfl (Or.inl rfl) (fun _ => rfl) rfl lq3 (by omega) (by omega) rfl (fun x3 q3 a3 b3 => ?_) -- 50
  refine hM_ic (n := 1) rfl (by decide) rfl (fun x4 q4 => ?_) -- 51
  refine hM_add rfl q3 q4 (by omega) (by omega) rfl (fun x5 q5 => ?_) -- 52
  refine hM_iv M (by decide) rfl rfl (by decide) (as := [.int x1, .int x2, .int x5]) (r := []) rfl rfl (by decide +kernel) rfl (by decide +kernel) rfl rfl rfl rfl rfl ?_ -- 53
  exact g0 x1 q1 x2 q2 x5 q5
theorem s_link56 {u w n : Int} (M : MX 49 W ρ m A h0 h F V G) (e0 : m_lk lv 0 = some (.ref m)) {lx3 : Int32} (e3 : m_lk lv 3 = some (.int lx3)) (lq3 : lx3.toInt = u) {lx4 : Int32} (e4 : m_lk lv 4 = some (.int lx4)) (lq4 : lx4.toInt = w) {sx0 : Int32} (sq0 : sx0.toInt = n) 
    (g0 : ∀ x2 : Int32, x2.toInt = 0 → ∀ lv3 : List (Nat × Value), m_lk lv3 0 = some (.ref m) → m_lk lv3 3 = some (.int lx3) → m_lk lv3 4 = some (.int lx4) → m_lk lv3 5 = some (.int sx0) → m_lk lv3 6 = some (.int x2) → HJ 210 61 lv3 [] h Q)
    : HJ 210 56 lv [.int sx0] h Q := by
  refine hM_si2 (k := 5) rfl (by decide +kernel) rfl (fun lv1 e1_5 u1 => ?_) -- 56
  have e1_0 := u1 0 _ (by decide) (Or.inl rfl) e0
  have e1_3 := u1 3 _ (by decide) (Or.inl rfl) e3
  have e1_4 := u1 4 _ (by decide) (Or.inl rfl) e4
  refine hM_ic (n := 0) rfl (by decide) rfl (fun x2 q2 => ?_) -- 58
  refine hM_si2 (k := 6) rfl (by decide +kernel) rfl (fun lv3 e3_6 u3 => ?_) -- 59
  have e3_0 := u3 0 _ (by decide) (Or.inl rfl) e1_0
  have e3_3 := u3 3 _ (by decide) (Or.inl rfl) e1_3
  have e3_4 := u3 4 _ (by decide) (Or.inl rfl) e1_4
  have e3_5 := u3 5 _ (by decide) (Or.inl rfl) e1_5
  exact g0 x2 q2 lv3 e3_0 e3_3 e3_4 e3_5 e3_6
theorem s_link61 {u w n q : Int} (M : MX 49 W ρ m A h0 h F V G) (e0 : m_lk lv 0 = some (.ref m)) {lx3 : Int32} (e3 : m_lk lv 3 = some (.int lx3)) (lq3 : lx3.toInt = u) {lx4 : Int32} (e4 : m_lk lv 4 = some (.int lx4)) (lq4 : lx4.toInt = w) {lx5 : Int32} (e5 : m_lk lv 5 = some (.int lx5)) (lq5 : lx5.toInt = n) {lx6 : Int32} (e6 : m_lk lv 6 = some (.int lx6)) (lq6 : lx6.toInt = q) (w0 : 0 ≤ w) (w1 : w < 16000) (u0 : 0 ≤ u) (u1 : u < 16000) (n0 : 0 ≤ n) (n1 : n < 16000) (p0 : 0 ≤ q) (r0 : 0 ≤ V 22 u.toNat) (r1 : V 22 u.toNat ≤ 5)(hw : d_sub [(60, 1001), (49, 19)] W = true)
    (g0 : ∀ h6 : MH, ∀ V6 : Nat → Nat → Int, V6 = m_u V 23 (m_u (V 23) ((6 * n) + (V 22 (u).toNat)).toNat (w)) → ∀ z9 : Int, -2147483648 ≤ z9 → z9 ≤ 2147483647 → (-2147483648 ≤ F 19 + 1 → F 19 + 1 ≤ 2147483647 → z9 = F 19 + 1) → ∀ h10 : MH, ∀ F10 : Nat → Int, F10 = m_u F 19 (z9) → MX 49 W ρ m A h0 h10 F10 V6 G → q ≥ V 22 (u).toNat → (-2147483648) ≤ F 19 → F 19 ≤ 2147483647 → Q (some (.int lx5)) h10)
    (g1 : ∀ h18 : MH, ∀ V18 : Nat → Nat → Int, V18 = m_u V 23 (m_u (V 23) ((6 * n) + q).toNat (V 23 ((6 * u) + q).toNat)) → ∀ x19 : Int32, x19.toInt = q + 1 → ∀ lv19 : List (Nat × Value), MX 49 W ρ m A h0 h18 F V18 G → m_lk lv19 0 = some (.ref m) → m_lk lv19 3 = some (.int lx3) → m_lk lv19 4 = some (.int lx4) → m_lk lv19 5 = some (.int lx5) → m_lk lv19 6 = some (.int x19) → q < V 22 (u).toNat → HJ 210 61 lv19 [] h18 Q)
    : HJ 210 61 lv [] h Q := by
  refine hI_il2 (k := 6) rfl e6 rfl ?_ -- 61
  refine hI_al (k := 0) rfl e0 rfl ?_ -- 63
  refine hM_ga M (by decide) rfl rfl (k := 22) (c := 9) rfl rfl rfl (by decide +kernel) rfl ?_ -- 64
  refine hI_il (k := 3) rfl e3 rfl ?_ -- 67
  refine hM_ba M (by decide) (K := 22) (R2 := 59) (L := 16000) (H := 16000) (lo := (-2147483648)) (hi := 2147483647) rfl (by decide) rfl rfl (Or.inl rfl) (fun _ => rfl) rfl lq3 (by omega) (by omega) rfl (fun x1 q1 a1 b1 => ?_) -- 68
  refine hM_cge (off := 34) (t := 103) rfl lq6 q1 (by decide) rfl (fun c69 => ?_) (fun c69 => ?_) -- 69
  · refine hI_al (k := 0) rfl e0 rfl ?_ -- 103
    refine hM_ga M (by decide) rfl rfl (k := 23) (c := 9) rfl rfl rfl (by decide +kernel) rfl ?_ -- 104
    refine hM_bp (n := 6) rfl (by decide) rfl (fun x2 q2 => ?_) -- 107
    refine hI_il2 (k := 5) rfl e5 rfl ?_ -- 109
    refine hM_mul rfl q2 lq5 (by omega) (by omega) rfl (fun x3 q3 => ?_) -- 111
    refine hI_al (k := 0) rfl e0 rfl ?_ -- 112
    refine hM_ga M (by decide) rfl rfl (k := 22) (c := 9) rfl rfl rfl (by decide +kernel) rfl ?_ -- 113
    refine hI_il (k := 3) rfl e3 rfl ?_ -- 116
    refine hM_ba M (by decide) (K := 22) (R2 := 59) (L := 16000) (H := 16000) (lo := (-2147483648)) (hi := 2147483647) rfl (by decide) rfl rfl (Or.inl rfl) (fun _ => rfl) rfl lq3 (by omega) (by omega) rfl (fun x4 q4 a4 b4 => ?_) -- 117
    refine hM_add rfl q3 q4 (by omega) (by omega) rfl (fun x5 q5 => ?_) -- 118
    refine hI_il2 (k := 4) rfl e4 rfl ?_ -- 119
    refine hM_is M (by decide) ok_49 (K := 23) (R2 := 60) (L := 96000) (H := 96000) (lo := (-2147483648)) (hi := 2147483647) rfl (by decide) rfl rfl rfl (fun _ => rfl) (d_subm hw (by decide +kernel)) rfl q5 lq4 (by omega) (by omega) (by omega) (by omega) rfl (fun h6 V6 f6 M6 => ?_) -- 121
    refine hI_al (k := 0) rfl e0 rfl ?_ -- 122
    refine hI_dup rfl rfl rfl ?_ -- 123
    refine hM_gi M6 (by decide) rfl rfl rfl (k := 19) (c := 9) (lo := (-2147483648)) (hi := 2147483647) rfl rfl rfl rfl rfl (fun x7 q7 a7 b7 => ?_) -- 124
    refine hM_ic (n := 1) rfl (by decide) rfl (fun x8 q8 => ?_) -- 127
    refine hM_addx rfl q7 q8 rfl (fun x9 z9 q9 a9 b9 c9 => ?_) -- 128
    refine hM_pi M6 (by decide) ok_49 rfl rfl (k := 19) (c := 9) (lo := (-2147483648)) (hi := 2147483647) rfl rfl ⟨by decide, by decide +kernel, rfl⟩ rfl (d_subm hw (by decide +kernel)) q9 (by omega) (by omega) rfl (fun h10 F10 f10 M10 => ?_) -- 129
    refine hI_il2 (k := 5) rfl e5 rfl ?_ -- 132
    refine hI_ri rfl rfl ?_ -- 134
    exact g0 h6 V6 f6 z9 a9 b9 c9 h10 F10 f10 M10 c69 a7 b7
  · refine hI_al (k := 0) rfl e0 rfl ?_ -- 72
    refine hM_ga M (by decide) rfl rfl (k := 23) (c := 9) rfl rfl rfl (by decide +kernel) rfl ?_ -- 73
    refine hM_bp (n := 6) rfl (by decide) rfl (fun x11 q11 => ?_) -- 76
    refine hI_il2 (k := 5) rfl e5 rfl ?_ -- 78
    refine hM_mul rfl q11 lq5 (by omega) (by omega) rfl (fun x12 q12 => ?_) -- 80
    refine hI_il2 (k := 6) rfl e6 rfl ?_ -- 81
    refine hM_add rfl q12 lq6 (by omega) (by omega) rfl (fun x13 q13 => ?_) -- 83
    refine hI_al (k := 0) rfl e0 rfl ?_ -- 84
    refine hM_ga M (by decide) rfl rfl (k := 23) (c := 9) rfl rfl rfl (by decide +kernel) rfl ?_ -- 85
    refine hM_bp (n := 6) rfl (by decide) rfl (fun x14 q14 => ?_) -- 88
    refine hI_il (k := 3) rfl e3 rfl ?_ -- 90
    refine hM_mul rfl q14 lq3 (by omega) (by omega) rfl (fun x15 q15 => ?_) -- 91
    refine hI_il2 (k := 6) rfl e6 rfl ?_ -- 92
    refine hM_add rfl q15 lq6 (by omega) (by omega) rfl (fun x16 q16 => ?_) -- 94
    refine hM_ia M (by decide) (K := 23) (R2 := 60) (L := 96000) (H := 96000) (lo := (-2147483648)) (hi := 2147483647) rfl (by decide) rfl rfl (fun _ => rfl) rfl q16 (by omega) (by omega) rfl (fun x17 q17 a17 b17 => ?_) -- 95
    refine hM_is M (by decide) ok_49 (K := 23) (R2 := 60) (L := 96000) (H := 96000) (lo := (-2147483648)) (hi := 2147483647) rfl (by decide) rfl rfl rfl (fun _ => rfl) (d_subm hw (by decide +kernel)) rfl q13 q17 (by omega) (by omega) (by omega) (by omega) rfl (fun h18 V18 f18 M18 => ?_) -- 96
    refine hM_inc (k := 6) (z := 1) rfl e6 lq6 (by decide) (by omega) (by omega) (by decide +kernel) rfl (fun lv19 x19 q19 e19_6 u19 => ?_) -- 97
    have e19_0 := u19 0 _ (by decide) (Or.inl rfl) e0
    have e19_3 := u19 3 _ (by decide) (Or.inl rfl) e3
    have e19_4 := u19 4 _ (by decide) (Or.inl rfl) e4
    have e19_5 := u19 5 _ (by decide) (Or.inl rfl) e5
    refine hI_go (pc' := 61) (off := (-39)) rfl (by decide) ?_ -- 100
    exact g1 h18 V18 f18 x19 q19 lv19 M18 e19_0 e19_3 e19_4 e19_5 e19_6 c69
theorem l_link {u w n r : Int} {F : Nat → Int} {V0 V1 : Nat → Nat → Int} (hw : d_sub [(60, 1001), (49, 19)] W = true) (sh : p_sh n (V0 22) (V0 23)) (n0 : 0 ≤ n) (u0 : 0 ≤ u) (u1 : u < n) (w0 : 0 ≤ w) (w1 : w < n) (ru : V0 22 u.toNat = r) (rw_ : V0 22 w.toNat = r) (r0 : 0 ≤ r) (r5 : r ≤ 5) (n1 : n < 16000) (hv : V1 22 = m_u (V0 22) n.toNat (r + 1)) {xu xw xn : Int32} (hu : xu.toInt = u) (hw' : xw.toInt = w) (hn : xn.toInt = n) (g : ∀ (h' : MH) (F' : Nat → Int) (V' : Nat → Nat → Int), MX 49 W ρ m A h0 h' F' V' G → (∀ K, K ≠ 19 → F' K = F K) → (∀ K, K ≠ 23 → V' K = V1 K) → p_sh (n + 1) (V' 22) (V' 23) → (∀ j, j < 6 * n.toNat → V' 23 j = V0 23 j) → (∀ p : Nat, (p : Int) < r → V' 23 (6 * n.toNat + p) = V0 23 (6 * u.toNat + p)) → V' 23 (6 * n.toNat + r.toNat) = w → (-2147483648 ≤ F 19 + 1 → F 19 + 1 ≤ 2147483647 → F' 19 = F 19 + 1) → Q (some (.int xn)) h') : ∀ (d : Nat) (q : Int) (lv : List (Nat × Value)) (h : MH) (V : Nat → Nat → Int) (xq : Int32), q + d = r → 0 ≤ q → xq.toInt = q → MX 49 W ρ m A h0 h F V G → (∀ K, K ≠ 23 → V K = V1 K) → (∀ j, j < 6 * n.toNat → V 23 j = V0 23 j) → (∀ p, p < q.toNat → V 23 (6 * n.toNat + p) = V0 23 (6 * u.toNat + p)) → m_lk lv 0 = some (.ref m) → m_lk lv 3 = some (.int xu) → m_lk lv 4 = some (.int xw) → m_lk lv 5 = some (.int xn) → m_lk lv 6 = some (.int xq) → HJ 210 61 lv [] h Q := by
  intro d
  induction d with
  | zero =>
    intro q lv h V xq hd q0 hq M k1 k2 k3 e0 e3 e4 e5 e6
    have vu : V 22 u.toNat = r := by rw [k1 22 (by decide), hv, m_uN _ _ _ _ (by omega), ru]
    refine s_link61 M e0 e3 hu e4 hw' e5 hn e6 hq w0 (by omega) u0 (by omega) n0 n1 q0 (by omega) (by omega) hw (fun h6 V6 f6 z9 a9 b9 c9 h10 F10 f10 M10 c69 a7 b7 => ?_) (fun h18 V18 f18 x19 q19 lv19 M18 e19_0 e19_3 e19_4 e19_5 e19_6 c69 => absurd c69 (by omega))
    have v6 : V6 23 = m_u (V 23) (6 * n + V 22 u.toNat).toNat w := by rw [f6, m_uE]
    have vo : ∀ K, K ≠ 23 → V6 K = V1 K := fun K hK => by rw [f6, m_uN _ _ _ _ hK, k1 K hK]
    have b9 : ∀ j, j < 6 * n.toNat → V6 23 j = V0 23 j := fun j hj => by
      rw [v6, m_uN _ _ _ _ (by omega)]
      exact k2 j hj
    have d1 : ∀ p : Nat, (p : Int) < r → V6 23 (6 * n.toNat + p) = V0 23 (6 * u.toNat + p) := fun p hp => by
      rw [v6, m_uN _ _ _ _ (by omega)]
      exact k3 p (by omega)
    have d2 : V6 23 (6 * n.toNat + r.toNat) = w := by rw [v6, vu, show 6 * n.toNat + r.toNat = (6 * n + r).toNat by omega, m_uE]
    refine g h10 F10 V6 M10 (fun K hK => by rw [f10, m_uN _ _ _ _ hK]) vo (p_shL sh n0 u0 u1 w0 w1 ru rw_ r0 r5 ((vo 22 (by decide)).trans hv) (fun j hj => ?_) (fun p hp => d1 p (by omega)) d2) b9 d1 d2 (fun l0 l1 => by rw [f10, m_uE, c9 l0 l1])
    rw [v6, m_uN _ _ _ _ (by omega)]
    exact k2 j hj
  | succ d ih =>
    intro q lv h V xq hd q0 hq M k1 k2 k3 e0 e3 e4 e5 e6
    have vu : V 22 u.toNat = r := by rw [k1 22 (by decide), hv, m_uN _ _ _ _ (by omega), ru]
    refine s_link61 M e0 e3 hu e4 hw' e5 hn e6 hq w0 (by omega) u0 (by omega) n0 n1 q0 (by omega) (by omega) hw (fun h6 V6 f6 z9 a9 b9 c9 h10 F10 f10 M10 c69 a7 b7 => absurd c69 (by omega)) (fun h18 V18 f18 x19 q19 lv19 M18 e19_0 e19_3 e19_4 e19_5 e19_6 c69 => ?_)
    have v6 : V18 23 = m_u (V 23) (6 * n + q).toNat (V 23 (6 * u + q).toNat) := by rw [f18, m_uE]
    refine ih (q + 1) lv19 h18 V18 x19 (by omega) (by omega) q19 M18 (fun K hK => by rw [f18, m_uN _ _ _ _ hK, k1 K hK]) (fun j hj => ?_) (fun p hp => ?_) e19_0 e19_3 e19_4 e19_5 e19_6
    · rw [v6, m_uN _ _ _ _ (by omega)]
      exact k2 j hj
    · rw [v6]
      by_cases e : p = q.toNat
      · rw [show 6 * n.toNat + p = (6 * n + q).toNat by omega, m_uE, k2 _ (by omega), show (6 * u + q).toNat = 6 * u.toNat + p by omega]
      · rw [m_uN _ _ _ _ (by omega)]
        exact k3 p (by omega)
-- a link: a further node, one rank more
theorem c_link {a b r : Int} {xa xb : Int32} (M : MX 49 W ρ m A h0 h F V G) (hw : d_sub g_ln W = true) (sh : p_sh (F 17) (V 22) (V 23)) (ha : xa.toInt = a) (hb : xb.toInt = b) (n0 : 0 ≤ F 17) (n1 : F 17 < 16000) (a0 : 0 ≤ a) (a1 : a < F 17) (b0 : 0 ≤ b) (b1 : b < F 17) (ra : V 22 a.toNat = r) (rb : V 22 b.toNat = r) (r0 : 0 ≤ r) (r5 : r ≤ 5) (g : ∀ (x : Int32) (h' : MH) (F' : Nat → Int) (V' : Nat → Nat → Int), x.toInt = F 17 → MX 49 W ρ m A h0 h' F' V' G → F' 17 = F 17 + 1 → (∀ K, K ≠ 17 → K ≠ 19 → F' K = F K) → p_sh (F 17 + 1) (V' 22) (V' 23) → V' 22 = m_u (V 22) (F 17).toNat (r + 1) → (∀ K, K ≠ 20 → K ≠ 21 → K ≠ 22 → K ≠ 23 → V' K = V K) → (∀ j, j < 6 * (F 17).toNat → V' 23 j = V 23 j) → (∀ S, rs_of F V S → rs_of F' V' (ps_link S a b)) → Q (some (.int x)) h') : HJ 210 0 (lv_args 0 [.ref m, .int xa, .int xb]) [] h Q := by
  have hw1 : d_sub g_mk W = true := d_subm hw (by decide +kernel)
  have hw2 : d_sub [(60, 1001), (49, 19)] W = true := d_subm hw (by decide +kernel)
  have key : ∀ (u w : Int) (xu xw : Int32) (lv : List (Nat × Value)), 0 ≤ u → u < F 17 → 0 ≤ w → w < F 17 → V 22 u.toNat = r → V 22 w.toNat = r → xu.toInt = u → xw.toInt = w → m_lk lv 0 = some (.ref m) → m_lk lv 3 = some (.int xu) → m_lk lv 4 = some (.int xw) → (∀ S, rs_of F V S → ps_up S a b = u ∧ ps_dn S a b = w) → HJ 210 32 lv [] h Q := fun u w xu xw lv u0 u1 w0 w1 ru rw_ hu hw' e0 e3 e4 ud => by
    refine s_link32 M e0 e3 hu e4 hw' u0 (by omega) (by omega) (by omega) (fun x1 q1 x2 q2 x5 q5 => ?_)
    refine c_make M hw1 q1 q2 q5 n0 n1 (by omega) (by omega) (fun x h' F' V' hx M' f' v' vo v20 v21 => ?_)
    refine s_link56 (n := F 17) M' e0 e3 hu e4 hw' hx (fun x2 q2 lv3 e3_0 e3_3 e3_4 e3_5 e3_6 => ?_)
    refine l_link (V0 := V) (V1 := V') hw2 sh n0 u0 u1 w0 w1 ru rw_ r0 r5 n1 (by rw [v', ru]) hu hw' hx (fun h2 F2 V2 M2 f2 v2 s2 b2 b3 b4 l2 => ?_) r.toNat 0 lv3 h' V' x2 (by omega) (by omega) q2 M' (fun _ _ => rfl) (fun j hj => by rw [vo 23 (by decide) (by decide) (by decide)]) (fun p hp => by omega) e3_0 e3_3 e3_4 e3_5 e3_6
    refine g x h2 F2 V2 hx M2 (by rw [f2 17 (by decide), f', m_uE]) (fun K k1 k2 => by rw [f2 K k2, f', m_uN _ _ _ _ k1]) s2 (by rw [v2 22 (by decide), v', ru]) (fun K k1 k2 k3 k4 => by rw [v2 K k4, vo K k1 k2 k3]) b2 (fun S I => ?_)
    obtain ⟨e1, e2⟩ := ud S I
    unfold ps_link
    rw [e1, e2]
    obtain ⟨i1, i2, i3, i4⟩ := I
    obtain ⟨-, t2, -, y2, -, -⟩ := i4 u.toNat (by omega)
    have l19 : F' 19 = F 19 := by rw [f', m_uN _ _ _ _ (by decide)]
    exact rs_lk ⟨i1, i2, i3, i4⟩ sh u0 u1 ru r5 (by rw [f2 17 (by decide), f', m_uE]) (by rw [l2 (by omega) (by omega), l19]) (by rw [v2 20 (by decide), v20 (by omega) (by omega)]) (by rw [v2 21 (by decide), v21 (by omega) (by omega)]) (by rw [v2 22 (by decide), v', ru]) b2 b3 b4
  refine s_link0 M rfl rfl ha rfl hb a0 (by omega) b0 (by omega) ?_
  refine c_less M hb ha b0 (by omega) a0 (by omega) (fun z z0 z1 zz => ?_)
  have uF : z.toInt = 0 → ∀ S, rs_of F V S → ps_up S a b = a ∧ ps_dn S a b = b := fun z9 S I => ps_udF (fun y => by
    rcases zz with ⟨q, -⟩ | ⟨-, q⟩
    · omega
    · exact q ((rs_ls I b0 b1 a0 a1).mpr y))
  have uT : z.toInt ≠ 0 → ∀ S, rs_of F V S → ps_up S a b = b ∧ ps_dn S a b = a := fun z9 S I => ps_udT (by
    rcases zz with ⟨-, q⟩ | ⟨q, -⟩
    · exact (rs_ls I b0 b1 a0 a1).mp q
    · exact absurd q z9)
  exact s_link6 (a := a) (b := b) (z := z.toInt) M rfl rfl ha rfl hb rfl a0 (by omega) b0 (by omega)
    (fun lv2 e2_0 e2_3 e2_4 c6 c17 => key a b _ _ lv2 a0 a1 b0 b1 ra rb ha hb e2_0 e2_3 e2_4 (uF c6))
    (fun lv2 e2_0 e2_3 e2_4 c6 c17 => key a b _ _ lv2 a0 a1 b0 b1 ra rb ha hb e2_0 e2_3 e2_4 (uF c6))
    (fun lv2 e2_0 e2_3 e2_4 c6 c22 => key b b _ _ lv2 b0 b1 b0 b1 rb rb hb hb e2_0 e2_3 e2_4 (fun S I => by rw [(uT c6 S I).1, (uT c6 S I).2]; exact ⟨rfl, c22.symm⟩))
    (fun lv2 e2_0 e2_3 e2_4 c6 c22 => key b a _ _ lv2 b0 b1 a0 a1 rb ra hb ha e2_0 e2_3 e2_4 (uT c6))
-- heaps melded, rank by rank
def g_mi (F0 : Nat → Int) (V0 : Nat → Nat → Int) (F : Nat → Int) (V : Nat → Nat → Int) (r : Nat) (c : Int) : Prop := (p_sh (F 17) (V 22) (V 23) ∧ p_hp (F 17) (V 22) (V 24) ∧ p_rt (F 17) (V 22) c r) ∧ (F0 17 ≤ F 17 ∧ F 17 ≤ F0 17 + r) ∧ (∀ K, K ≠ 17 → K ≠ 19 → F K = F0 K) ∧ (∀ v : Nat, (v : Int) < F0 17 → V 22 v = V0 22 v) ∧ (∀ K, K ≠ 20 → K ≠ 21 → K ≠ 22 → K ≠ 23 → K ≠ 24 → V K = V0 K) ∧ (∀ k, r ≤ k → V 24 k = V0 24 k) ∧ p_ws (V 24) r + y_tg c * 2 ^ r = p_ws (V0 24) r + p_ws (V0 25) r ∧ ∀ j, j < 6 * (F0 17).toNat → V 23 j = V0 23 j
def g_mf (F0 : Nat → Int) (V0 : Nat → Nat → Int) (F : Nat → Int) (V : Nat → Nat → Int) (r : Nat) (c : Int) : Prop := ∀ S h s, rs_of F0 V0 S → hp6 (V0 24) h → hp6 (V0 25) s → rs_of F V (pm_run s (S, h, -1) r).1 ∧ hp6 (V 24) (pm_run s (S, h, -1) r).2.1 ∧ c = (pm_run s (S, h, -1) r).2.2
theorem hp6_u {f h : Nat → Int} {r : Nat} {y : Int} (e : hp6 f h) : hp6 (m_u f r y) (m_u h r y) := fun k hk => by
  by_cases q : k = r
  · rw [q, m_uE, m_uE]
  · rw [m_uN _ _ _ _ q, m_uN _ _ _ _ q]
    exact e k hk
-- a step of the meld, by what stands there
theorem pm_st1 {s : Nat → Int} {X : PXt} {r : Nat} {a b y : Int} (ea : X.2.1 r = a) (eb : s r = b) (ey : X.2.2 = y) (ha : a ≠ -1) (hb : b ≠ -1) : pm_st s X r = (ps_link X.1 a b, m_u X.2.1 r y, (ps_n X.1 : Int)) := by
  unfold pm_st
  rw [ea, eb, ey, if_pos ⟨ha, hb⟩]
theorem pm_st2 {s : Nat → Int} {X : PXt} {r : Nat} {a b c o : Int} (ea : X.2.1 r = a) (eb : s r = b) (ec : X.2.2 = c) (hn : ¬ (a ≠ -1 ∧ b ≠ -1)) (hc : c ≠ -1) (ho : pm_one a b = o) (h1 : o ≠ -1) : pm_st s X r = (ps_link X.1 c o, m_u X.2.1 r (-1), (ps_n X.1 : Int)) := by
  unfold pm_st
  rw [ea, eb, ec, ho, if_neg hn, if_pos ⟨hc, h1⟩]
theorem pm_st3 {s : Nat → Int} {X : PXt} {r : Nat} {a b c o y : Int} (ea : X.2.1 r = a) (eb : s r = b) (ec : X.2.2 = c) (hn : ¬ (a ≠ -1 ∧ b ≠ -1)) (ho : pm_one a b = o) (h1 : ¬ (c ≠ -1 ∧ o ≠ -1)) (hy : pm_one c o = y) : pm_st s X r = (X.1, m_u X.2.1 r y, -1) := by
  unfold pm_st
  rw [ea, eb, ec, ho, if_neg hn, if_neg h1, hy]
theorem pm_oneT {x y : Int} (h : x = -1) : pm_one x y = y := if_pos h
theorem pm_oneF {x y : Int} (h : x ≠ -1) : pm_one x y = x := if_neg h
theorem g_miS {F0 F F' : Nat → Int} {V0 V V' : Nat → Nat → Int} {r : Nat} {c c' y : Int} (I : g_mi F0 V0 F V r c) (sh : p_sh (F' 17) (V' 22) (V' 23)) (py : p_rt (F' 17) (V' 22) y r) (pc : p_rt (F' 17) (V' 22) c' (r + 1)) (n0 : F 17 ≤ F' 17) (n1 : F' 17 ≤ F 17 + 1) (fo : ∀ K, K ≠ 17 → K ≠ 19 → F' K = F K) (ro : ∀ v : Nat, (v : Int) < F 17 → V' 22 v = V 22 v) (hy : V' 24 = m_u (V 24) r y) (vo : ∀ K, K ≠ 20 → K ≠ 21 → K ≠ 22 → K ≠ 23 → K ≠ 24 → V' K = V K) (wt : y_tg y + 2 * y_tg c' = y_tg c + y_tg (V 24 r) + y_tg (V0 25 r)) (bo : ∀ j, j < 6 * (F 17).toNat → V' 23 j = V 23 j) : g_mi F0 V0 F' V' (r + 1) c' := by
  obtain ⟨⟨i1, i2, i3⟩, ⟨i4, i5⟩, i6, i7, i8, i9, i10, i11⟩ := I
  refine ⟨⟨sh, fun q h6 => ?_, pc⟩, ⟨by omega, by omega⟩, fun K k1 k2 => (fo K k1 k2).trans (i6 K k1 k2), fun v hv => (ro v (by omega)).trans (i7 v hv), fun K k1 k2 k3 k4 k5 => (vo K k1 k2 k3 k4 k5).trans (i8 K k1 k2 k3 k4 k5), fun k hk => ?_, ?_, fun j hj => (bo j (by omega)).trans (i11 j hj)⟩
  · rw [hy]
    by_cases e : q = r
    · rw [e, m_uE]
      exact py
    · rw [m_uN _ _ _ _ e]
      exact p_rtU n0 ro (i2 q h6)
  · rw [hy, m_uN _ _ _ _ (by omega)]
    exact i9 k (by omega)
  · rw [p_ws, p_ws, p_ws, hy, m_uE, p_wsC (f := V 24) (fun j hj => m_uN _ _ _ _ (by omega)), ← i9 r (Nat.le_refl _), Nat.pow_succ]
    have w2 := congrArg (· * 2 ^ r) wt
    simp only [Nat.add_mul] at w2
    have e1 : 2 * y_tg c' * 2 ^ r = y_tg c' * (2 ^ r * 2) := by
      rw [Nat.mul_comm 2 (y_tg c'), Nat.mul_assoc, Nat.mul_comm 2]
    omega
theorem s_meld0 (M : MX 49 W ρ m A h0 h F V G) (e0 : m_lk lv 0 = some (.ref m)) 
    (g0 : ∀ x1 : Int32, x1.toInt = (-1) → ∀ x3 : Int32, x3.toInt = 0 → ∀ lv4 : List (Nat × Value), m_lk lv4 0 = some (.ref m) → m_lk lv4 1 = some (.int x1) → m_lk lv4 2 = some (.int x3) → HJ 209 4 lv4 [] h Q)
    : HJ 209 0 lv [] h Q := by
  refine hM_ic (n := (-1)) rfl (by decide) rfl (fun x1 q1 => ?_) -- 0
  refine hM_si (k := 1) rfl (by decide +kernel) rfl (fun lv2 e2_1 u2 => ?_) -- 1
  have e2_0 := u2 0 _ (by decide) (Or.inl rfl) e0
  refine hM_ic (n := 0) rfl (by decide) rfl (fun x3 q3 => ?_) -- 2
  refine hM_si (k := 2) rfl (by decide +kernel) rfl (fun lv4 e4_2 u4 => ?_) -- 3
  have e4_0 := u4 0 _ (by decide) (Or.inl rfl) e2_0
  have e4_1 := u4 1 _ (by decide) (Or.inl rfl) e2_1
  exact g0 x1 q1 x3 q3 lv4 e4_0 e4_1 e4_2
theorem s_meld {c r : Int} (M : MX 49 W ρ m A h0 h F V G) (e0 : m_lk lv 0 = some (.ref m)) {lx1 : Int32} (e1 : m_lk lv 1 = some (.int lx1)) (lq1 : lx1.toInt = c) {lx2 : Int32} (e2 : m_lk lv 2 = some (.int lx2)) (lq2 : lx2.toInt = r) (r0 : 0 ≤ r) (c0 : -1 ≤ c) (c1 : c ≤ 15999)(hw : d_sub [(61, 1001)] W = true)
    (g0 : r ≥ 6 → Q none h)
    (g1 : ∀ x2 : Int32, x2.toInt = V 24 (r).toNat → ∀ x4 : Int32, x4.toInt = V 25 (r).toNat → ∀ h16 : MH, ∀ V16 : Nat → Nat → Int, V16 = m_u V 24 (m_u (V 24) (r).toNat (c)) → ∀ lv14 : List (Nat × Value), MX 49 W ρ m A h0 h16 F V16 G → m_lk lv14 0 = some (.ref m) → m_lk lv14 1 = some (.int lx1) → m_lk lv14 2 = some (.int lx2) → r < 6 → (-1) ≤ V 24 (r).toNat → V 24 (r).toNat ≤ 15999 → (-1) ≤ V 25 (r).toNat → V 25 (r).toNat ≤ 15999 → c ≠ (-1) → V 24 (r).toNat ≠ (-1) → V 25 (r).toNat ≠ (-1) → HJ 210 0 (lv_args 0 [.ref m, .int x2, .int x4]) [] h16 (fun v h' => HJ 209 80 lv14 (v.toList ++ []) h' Q))
    (g2 : ∀ x2 : Int32, x2.toInt = V 24 (r).toNat → ∀ h28 : MH, ∀ V28 : Nat → Nat → Int, V28 = m_u V 24 (m_u (V 24) (r).toNat ((-1))) → ∀ lv26 : List (Nat × Value), MX 49 W ρ m A h0 h28 F V28 G → m_lk lv26 0 = some (.ref m) → m_lk lv26 1 = some (.int lx1) → m_lk lv26 2 = some (.int lx2) → r < 6 → (-1) ≤ V 24 (r).toNat → V 24 (r).toNat ≤ 15999 → (-1) ≤ V 25 (r).toNat → V 25 (r).toNat ≤ 15999 → c ≠ (-1) → V 24 (r).toNat ≠ (-1) → V 25 (r).toNat = (-1) → HJ 210 0 (lv_args 0 [.ref m, .int lx1, .int x2]) [] h28 (fun v h' => HJ 209 135 lv26 (v.toList ++ []) h' Q))
    (g3 : ∀ x4 : Int32, x4.toInt = V 25 (r).toNat → ∀ h43 : MH, ∀ V43 : Nat → Nat → Int, V43 = m_u V 24 (m_u (V 24) (r).toNat ((-1))) → ∀ lv41 : List (Nat × Value), MX 49 W ρ m A h0 h43 F V43 G → m_lk lv41 0 = some (.ref m) → m_lk lv41 1 = some (.int lx1) → m_lk lv41 2 = some (.int lx2) → r < 6 → (-1) ≤ V 24 (r).toNat → V 24 (r).toNat ≤ 15999 → (-1) ≤ V 25 (r).toNat → V 25 (r).toNat ≤ 15999 → c ≠ (-1) → V 24 (r).toNat = (-1) → V 25 (r).toNat ≠ (-1) → HJ 210 0 (lv_args 0 [.ref m, .int lx1, .int x4]) [] h43 (fun v h' => HJ 209 135 lv41 (v.toList ++ []) h' Q))
    (g4 : ∀ h50 : MH, ∀ V50 : Nat → Nat → Int, V50 = m_u V 24 (m_u (V 24) (r).toNat (c)) → ∀ x51 : Int32, x51.toInt = (-1) → ∀ x53 : Int32, x53.toInt = r + 1 → ∀ lv53 : List (Nat × Value), MX 49 W ρ m A h0 h50 F V50 G → m_lk lv53 0 = some (.ref m) → m_lk lv53 1 = some (.int x51) → m_lk lv53 2 = some (.int x53) → r < 6 → (-1) ≤ V 24 (r).toNat → V 24 (r).toNat ≤ 15999 → (-1) ≤ V 25 (r).toNat → V 25 (r).toNat ≤ 15999 → c ≠ (-1) → V 24 (r).toNat = (-1) → V 25 (r).toNat = (-1) → HJ 209 4 lv53 [] h50 Q)
    (g5 : ∀ x2 : Int32, x2.toInt = V 24 (r).toNat → ∀ x4 : Int32, x4.toInt = V 25 (r).toNat → ∀ h69 : MH, ∀ V69 : Nat → Nat → Int, V69 = m_u V 24 (m_u (V 24) (r).toNat ((-1))) → ∀ lv67 : List (Nat × Value), MX 49 W ρ m A h0 h69 F V69 G → m_lk lv67 0 = some (.ref m) → m_lk lv67 1 = some (.int lx1) → m_lk lv67 2 = some (.int lx2) → r < 6 → (-1) ≤ V 24 (r).toNat → V 24 (r).toNat ≤ 15999 → (-1) ≤ V 25 (r).toNat → V 25 (r).toNat ≤ 15999 → c = (-1) → V 24 (r).toNat ≠ (-1) → V 25 (r).toNat ≠ (-1) → HJ 210 0 (lv_args 0 [.ref m, .int x2, .int x4]) [] h69 (fun v h' => HJ 209 135 lv67 (v.toList ++ []) h' Q))
    (g6 : ∀ h77 : MH, ∀ V77 : Nat → Nat → Int, V77 = m_u V 24 (m_u (V 24) (r).toNat (V 24 (r).toNat)) → ∀ x78 : Int32, x78.toInt = (-1) → ∀ x80 : Int32, x80.toInt = r + 1 → ∀ lv80 : List (Nat × Value), MX 49 W ρ m A h0 h77 F V77 G → m_lk lv80 0 = some (.ref m) → m_lk lv80 1 = some (.int x78) → m_lk lv80 2 = some (.int x80) → r < 6 → (-1) ≤ V 24 (r).toNat → V 24 (r).toNat ≤ 15999 → (-1) ≤ V 25 (r).toNat → V 25 (r).toNat ≤ 15999 → c = (-1) → V 24 (r).toNat ≠ (-1) → V 25 (r).toNat = (-1) → HJ 209 4 lv80 [] h77 Q)
    (g7 : ∀ h91 : MH, ∀ V91 : Nat → Nat → Int, V91 = m_u V 24 (m_u (V 24) (r).toNat (V 25 (r).toNat)) → ∀ x92 : Int32, x92.toInt = (-1) → ∀ x94 : Int32, x94.toInt = r + 1 → ∀ lv94 : List (Nat × Value), MX 49 W ρ m A h0 h91 F V91 G → m_lk lv94 0 = some (.ref m) → m_lk lv94 1 = some (.int x92) → m_lk lv94 2 = some (.int x94) → r < 6 → (-1) ≤ V 24 (r).toNat → V 24 (r).toNat ≤ 15999 → (-1) ≤ V 25 (r).toNat → V 25 (r).toNat ≤ 15999 → c = (-1) → V 24 (r).toNat = (-1) → V 25 (r).toNat ≠ (-1) → HJ 209 4 lv94 [] h91 Q)
    (g8 : ∀ h102 : MH, ∀ V102 : Nat → Nat → Int, V102 = m_u V 24 (m_u (V 24) (r).toNat (V 25 (r).toNat)) → ∀ x103 : Int32, x103.toInt = (-1) → ∀ x105 : Int32, x105.toInt = r + 1 → ∀ lv105 : List (Nat × Value), MX 49 W ρ m A h0 h102 F V102 G → m_lk lv105 0 = some (.ref m) → m_lk lv105 1 = some (.int x103) → m_lk lv105 2 = some (.int x105) → r < 6 → (-1) ≤ V 24 (r).toNat → V 24 (r).toNat ≤ 15999 → (-1) ≤ V 25 (r).toNat → V 25 (r).toNat ≤ 15999 → c = (-1) → V 24 (r).toNat = (-1) → V 25 (r).toNat = (-1) → HJ 209 4 lv105 [] h102 Q)
    : HJ 209 4 lv [] h Q := by
  refine hI_il (k := 2) rfl e2 rfl ?_ -- 4
  refine hM_bp (n := 6) rfl (by decide) rfl (fun x1 q1 => ?_) -- 5
  refine hM_cge (off := 166) (t := 173) rfl lq2 q1 (by decide) rfl (fun c7 => ?_) (fun c7 => ?_) -- 7
  · refine hI_rv rfl rfl ?_
    exact g0 c7
  · refine hI_al (k := 0) rfl e0 rfl ?_ -- 10
    refine hM_ga M (by decide) rfl rfl (k := 24) (c := 9) rfl rfl rfl (by decide +kernel) rfl ?_ -- 11
    refine hI_il (k := 2) rfl e2 rfl ?_ -- 14
    refine hM_ia M (by decide) (K := 24) (R2 := 61) (L := 6) (H := 6) (lo := (-1)) (hi := 15999) rfl (by decide) rfl rfl (fun _ => rfl) rfl lq2 (by omega) (by omega) rfl (fun x2 q2 a2 b2 => ?_) -- 15
    refine hM_si (k := 3) rfl (by decide +kernel) rfl (fun lv3 e3_3 u3 => ?_) -- 16
    have e3_0 := u3 0 _ (by decide) (Or.inl rfl) e0
    have e3_1 := u3 1 _ (by decide) (Or.inl rfl) e1
    have e3_2 := u3 2 _ (by decide) (Or.inl rfl) e2
    refine hI_al (k := 0) rfl e3_0 rfl ?_ -- 17
    refine hM_ga M (by decide) rfl rfl (k := 25) (c := 9) rfl rfl rfl (by decide +kernel) rfl ?_ -- 18
    refine hI_il (k := 2) rfl e3_2 rfl ?_ -- 21
    refine hM_ia M (by decide) (K := 25) (R2 := 62) (L := 6) (H := 6) (lo := (-1)) (hi := 15999) rfl (by decide) rfl rfl (fun _ => rfl) rfl lq2 (by omega) (by omega) rfl (fun x4 q4 a4 b4 => ?_) -- 22
    refine hM_si2 (k := 4) rfl (by decide +kernel) rfl (fun lv5 e5_4 u5 => ?_) -- 23
    have e5_0 := u5 0 _ (by decide) (Or.inl rfl) e3_0
    have e5_1 := u5 1 _ (by decide) (Or.inl rfl) e3_1
    have e5_2 := u5 2 _ (by decide) (Or.inl rfl) e3_2
    have e5_3 := u5 3 _ (by decide) (Or.inl rfl) e3_3
    refine hI_il (k := 1) rfl e5_1 rfl ?_ -- 25
    refine hM_ic (n := (-1)) rfl (by decide) rfl (fun x6 q6 => ?_) -- 26
    refine hM_cne (off := 7) (t := 34) rfl lq1 q6 (by decide) rfl (fun c27 => ?_) (fun c27 => ?_) -- 27
    · refine hM_ic (n := 1) rfl (by decide) rfl (fun x7 q7 => ?_) -- 34
      refine hI_il (k := 3) rfl e5_3 rfl ?_ -- 35
      refine hM_ic (n := (-1)) rfl (by decide) rfl (fun x8 q8 => ?_) -- 36
      refine hM_cne (off := 7) (t := 44) rfl q2 q8 (by decide) rfl (fun c37 => ?_) (fun c37 => ?_) -- 37
      · refine hM_ic (n := 1) rfl (by decide) rfl (fun x9 q9 => ?_) -- 44
        refine hM_add rfl q7 q9 (by omega) (by omega) rfl (fun x10 q10 => ?_) -- 45
        refine hI_il2 (k := 4) rfl e5_4 rfl ?_ -- 46
        refine hM_ic (n := (-1)) rfl (by decide) rfl (fun x11 q11 => ?_) -- 48
        refine hM_cne (off := 7) (t := 56) rfl q4 q11 (by decide) rfl (fun c49 => ?_) (fun c49 => ?_) -- 49
        · refine hM_ic (n := 1) rfl (by decide) rfl (fun x12 q12 => ?_) -- 56
          refine hM_add rfl q10 q12 (by omega) (by omega) rfl (fun x13 q13 => ?_) -- 57
          refine hM_si2 (k := 5) rfl (by decide +kernel) rfl (fun lv14 e14_5 u14 => ?_) -- 58
          have e14_0 := u14 0 _ (by decide) (Or.inl rfl) e5_0
          have e14_1 := u14 1 _ (by decide) (Or.inl rfl) e5_1
          have e14_2 := u14 2 _ (by decide) (Or.inl rfl) e5_2
          have e14_3 := u14 3 _ (by decide) (Or.inl rfl) e5_3
          have e14_4 := u14 4 _ (by decide) (Or.inl rfl) e5_4
          refine hI_il2 (k := 5) rfl e14_5 rfl ?_ -- 60
          refine hM_ic (n := 3) rfl (by decide) rfl (fun x15 q15 => ?_) -- 62
          refine hM_cne (off := 21) (t := 84) rfl q13 q15 (by decide) rfl (fun c63 => ?_) (fun c63 => ?_) -- 63
          · exfalso; omega
          · refine hI_al (k := 0) rfl e14_0 rfl ?_ -- 66
            refine hM_ga M (by decide) rfl rfl (k := 24) (c := 9) rfl rfl rfl (by decide +kernel) rfl ?_ -- 67
            refine hI_il (k := 2) rfl e14_2 rfl ?_ -- 70
            refine hI_il (k := 1) rfl e14_1 rfl ?_ -- 71
            refine hM_is M (by decide) ok_49 (K := 24) (R2 := 61) (L := 6) (H := 6) (lo := (-1)) (hi := 15999) rfl (by decide) rfl rfl rfl (fun _ => rfl) (d_subm hw (by decide +kernel)) rfl lq2 lq1 (by omega) (by omega) (by omega) (by omega) rfl (fun h16 V16 f16 M16 => ?_) -- 72
            refine hI_al (k := 0) rfl e14_0 rfl ?_ -- 73
            refine hI_il (k := 3) rfl e14_3 rfl ?_ -- 74
            refine hI_il2 (k := 4) rfl e14_4 rfl ?_ -- 75
            refine hM_iv M16 (by decide) rfl rfl (by decide) (as := [.int x2, .int x4]) (r := []) rfl rfl (by decide +kernel) rfl (by decide +kernel) rfl rfl rfl rfl rfl ?_ -- 77
            exact g1 x2 q2 x4 q4 h16 V16 f16 lv14 M16 e14_0 e14_1 e14_2 c7 a2 b2 a4 b4 c27 c37 c49
        · refine hM_ic (n := 0) rfl (by decide) rfl (fun x17 q17 => ?_) -- 52
          refine hI_go (pc' := 57) (off := 4) rfl (by decide) ?_ -- 53
          refine hM_add rfl q10 q17 (by omega) (by omega) rfl (fun x18 q18 => ?_) -- 57
          refine hM_si2 (k := 5) rfl (by decide +kernel) rfl (fun lv19 e19_5 u19 => ?_) -- 58
          have e19_0 := u19 0 _ (by decide) (Or.inl rfl) e5_0
          have e19_1 := u19 1 _ (by decide) (Or.inl rfl) e5_1
          have e19_2 := u19 2 _ (by decide) (Or.inl rfl) e5_2
          have e19_3 := u19 3 _ (by decide) (Or.inl rfl) e5_3
          have e19_4 := u19 4 _ (by decide) (Or.inl rfl) e5_4
          refine hI_il2 (k := 5) rfl e19_5 rfl ?_ -- 60
          refine hM_ic (n := 3) rfl (by decide) rfl (fun x20 q20 => ?_) -- 62
          refine hM_cne (off := 21) (t := 84) rfl q18 q20 (by decide) rfl (fun c63 => ?_) (fun c63 => ?_) -- 63
          · refine hI_il2 (k := 5) rfl e19_5 rfl ?_ -- 84
            refine hM_ic (n := 2) rfl (by decide) rfl (fun x21 q21 => ?_) -- 86
            refine hM_cne (off := 52) (t := 139) rfl q18 q21 (by decide) rfl (fun c87 => ?_) (fun c87 => ?_) -- 87
            · exfalso; omega
            · refine hI_il (k := 1) rfl e19_1 rfl ?_ -- 90
              refine hM_ic (n := (-1)) rfl (by decide) rfl (fun x22 q22 => ?_) -- 91
              refine hM_ceq (off := 7) (t := 99) rfl lq1 q22 (by decide) rfl (fun c92 => ?_) (fun c92 => ?_) -- 92
              · exfalso; omega
              · refine hI_il (k := 1) rfl e19_1 rfl ?_ -- 95
                refine hI_go (pc' := 100) (off := 4) rfl (by decide) ?_ -- 96
                refine hM_si2 (k := 6) rfl (by decide +kernel) rfl (fun lv23 e23_6 u23 => ?_) -- 100
                have e23_0 := u23 0 _ (by decide) (Or.inl rfl) e19_0
                have e23_1 := u23 1 _ (by decide) (Or.inl rfl) e19_1
                have e23_2 := u23 2 _ (by decide) (Or.inl rfl) e19_2
                have e23_3 := u23 3 _ (by decide) (Or.inl rfl) e19_3
                have e23_4 := u23 4 _ (by decide) (Or.inl rfl) e19_4
                have e23_5 := u23 5 _ (by decide) (Or.inl rfl) e19_5
                refine hI_il (k := 1) rfl e23_1 rfl ?_ -- 102
                refine hM_ic (n := (-1)) rfl (by decide) rfl (fun x24 q24 => ?_) -- 103
                refine hM_ceq (off := 12) (t := 116) rfl lq1 q24 (by decide) rfl (fun c104 => ?_) (fun c104 => ?_) -- 104
                · exfalso; omega
                · refine hI_il (k := 3) rfl e23_3 rfl ?_ -- 107
                  refine hM_ic (n := (-1)) rfl (by decide) rfl (fun x25 q25 => ?_) -- 108
                  refine hM_ceq (off := 7) (t := 116) rfl q2 q25 (by decide) rfl (fun c109 => ?_) (fun c109 => ?_) -- 109
                  · exfalso; omega
                  · refine hI_il (k := 3) rfl e23_3 rfl ?_ -- 112
                    refine hI_go (pc' := 118) (off := 5) rfl (by decide) ?_ -- 113
                    refine hM_si2 (k := 7) rfl (by decide +kernel) rfl (fun lv26 e26_7 u26 => ?_) -- 118
                    have e26_0 := u26 0 _ (by decide) (Or.inl rfl) e23_0
                    have e26_1 := u26 1 _ (by decide) (Or.inl rfl) e23_1
                    have e26_2 := u26 2 _ (by decide) (Or.inl rfl) e23_2
                    have e26_3 := u26 3 _ (by decide) (Or.inl rfl) e23_3
                    have e26_4 := u26 4 _ (by decide) (Or.inl rfl) e23_4
                    have e26_5 := u26 5 _ (by decide) (Or.inl rfl) e23_5
                    have e26_6 := u26 6 _ (by decide) (Or.inl rfl) e23_6
                    refine hI_al (k := 0) rfl e26_0 rfl ?_ -- 120
                    refine hM_ga M (by decide) rfl rfl (k := 24) (c := 9) rfl rfl rfl (by decide +kernel) rfl ?_ -- 121
                    refine hI_il (k := 2) rfl e26_2 rfl ?_ -- 124
                    refine hM_ic (n := (-1)) rfl (by decide) rfl (fun x27 q27 => ?_) -- 125
                    refine hM_is M (by decide) ok_49 (K := 24) (R2 := 61) (L := 6) (H := 6) (lo := (-1)) (hi := 15999) rfl (by decide) rfl rfl rfl (fun _ => rfl) (d_subm hw (by decide +kernel)) rfl lq2 q27 (by omega) (by omega) (by omega) (by omega) rfl (fun h28 V28 f28 M28 => ?_) -- 126
                    refine hI_al (k := 0) rfl e26_0 rfl ?_ -- 127
                    refine hI_il2 (k := 6) rfl e26_6 rfl ?_ -- 128
                    refine hI_il2 (k := 7) rfl e26_7 rfl ?_ -- 130
                    refine hM_iv M28 (by decide) rfl rfl (by decide) (as := [.int lx1, .int x2]) (r := []) rfl rfl (by decide +kernel) rfl (by decide +kernel) rfl rfl rfl rfl rfl ?_ -- 132
                    exact g2 x2 q2 h28 V28 f28 lv26 M28 e26_0 e26_1 e26_2 c7 a2 b2 a4 b4 c27 c37 c49
          · exfalso; omega
      · refine hM_ic (n := 0) rfl (by decide) rfl (fun x29 q29 => ?_) -- 40
        refine hI_go (pc' := 45) (off := 4) rfl (by decide) ?_ -- 41
        refine hM_add rfl q7 q29 (by omega) (by omega) rfl (fun x30 q30 => ?_) -- 45
        refine hI_il2 (k := 4) rfl e5_4 rfl ?_ -- 46
        refine hM_ic (n := (-1)) rfl (by decide) rfl (fun x31 q31 => ?_) -- 48
        refine hM_cne (off := 7) (t := 56) rfl q4 q31 (by decide) rfl (fun c49 => ?_) (fun c49 => ?_) -- 49
        · refine hM_ic (n := 1) rfl (by decide) rfl (fun x32 q32 => ?_) -- 56
          refine hM_add rfl q30 q32 (by omega) (by omega) rfl (fun x33 q33 => ?_) -- 57
          refine hM_si2 (k := 5) rfl (by decide +kernel) rfl (fun lv34 e34_5 u34 => ?_) -- 58
          have e34_0 := u34 0 _ (by decide) (Or.inl rfl) e5_0
          have e34_1 := u34 1 _ (by decide) (Or.inl rfl) e5_1
          have e34_2 := u34 2 _ (by decide) (Or.inl rfl) e5_2
          have e34_3 := u34 3 _ (by decide) (Or.inl rfl) e5_3
          have e34_4 := u34 4 _ (by decide) (Or.inl rfl) e5_4
          refine hI_il2 (k := 5) rfl e34_5 rfl ?_ -- 60
          refine hM_ic (n := 3) rfl (by decide) rfl (fun x35 q35 => ?_) -- 62
          refine hM_cne (off := 21) (t := 84) rfl q33 q35 (by decide) rfl (fun c63 => ?_) (fun c63 => ?_) -- 63
          · refine hI_il2 (k := 5) rfl e34_5 rfl ?_ -- 84
            refine hM_ic (n := 2) rfl (by decide) rfl (fun x36 q36 => ?_) -- 86
            refine hM_cne (off := 52) (t := 139) rfl q33 q36 (by decide) rfl (fun c87 => ?_) (fun c87 => ?_) -- 87
            · exfalso; omega
            · refine hI_il (k := 1) rfl e34_1 rfl ?_ -- 90
              refine hM_ic (n := (-1)) rfl (by decide) rfl (fun x37 q37 => ?_) -- 91
              refine hM_ceq (off := 7) (t := 99) rfl lq1 q37 (by decide) rfl (fun c92 => ?_) (fun c92 => ?_) -- 92
              · exfalso; omega
              · refine hI_il (k := 1) rfl e34_1 rfl ?_ -- 95
                refine hI_go (pc' := 100) (off := 4) rfl (by decide) ?_ -- 96
                refine hM_si2 (k := 6) rfl (by decide +kernel) rfl (fun lv38 e38_6 u38 => ?_) -- 100
                have e38_0 := u38 0 _ (by decide) (Or.inl rfl) e34_0
                have e38_1 := u38 1 _ (by decide) (Or.inl rfl) e34_1
                have e38_2 := u38 2 _ (by decide) (Or.inl rfl) e34_2
                have e38_3 := u38 3 _ (by decide) (Or.inl rfl) e34_3
                have e38_4 := u38 4 _ (by decide) (Or.inl rfl) e34_4
                have e38_5 := u38 5 _ (by decide) (Or.inl rfl) e34_5
                refine hI_il (k := 1) rfl e38_1 rfl ?_ -- 102
                refine hM_ic (n := (-1)) rfl (by decide) rfl (fun x39 q39 => ?_) -- 103
                refine hM_ceq (off := 12) (t := 116) rfl lq1 q39 (by decide) rfl (fun c104 => ?_) (fun c104 => ?_) -- 104
                · exfalso; omega
                · refine hI_il (k := 3) rfl e38_3 rfl ?_ -- 107
                  refine hM_ic (n := (-1)) rfl (by decide) rfl (fun x40 q40 => ?_) -- 108
                  refine hM_ceq (off := 7) (t := 116) rfl q2 q40 (by decide) rfl (fun c109 => ?_) (fun c109 => ?_) -- 109
                  · refine hI_il2 (k := 4) rfl e38_4 rfl ?_ -- 116
                    refine hM_si2 (k := 7) rfl (by decide +kernel) rfl (fun lv41 e41_7 u41 => ?_) -- 118
                    have e41_0 := u41 0 _ (by decide) (Or.inl rfl) e38_0
                    have e41_1 := u41 1 _ (by decide) (Or.inl rfl) e38_1
                    have e41_2 := u41 2 _ (by decide) (Or.inl rfl) e38_2
                    have e41_3 := u41 3 _ (by decide) (Or.inl rfl) e38_3
                    have e41_4 := u41 4 _ (by decide) (Or.inl rfl) e38_4
                    have e41_5 := u41 5 _ (by decide) (Or.inl rfl) e38_5
                    have e41_6 := u41 6 _ (by decide) (Or.inl rfl) e38_6
                    refine hI_al (k := 0) rfl e41_0 rfl ?_ -- 120
                    refine hM_ga M (by decide) rfl rfl (k := 24) (c := 9) rfl rfl rfl (by decide +kernel) rfl ?_ -- 121
                    refine hI_il (k := 2) rfl e41_2 rfl ?_ -- 124
                    refine hM_ic (n := (-1)) rfl (by decide) rfl (fun x42 q42 => ?_) -- 125
                    refine hM_is M (by decide) ok_49 (K := 24) (R2 := 61) (L := 6) (H := 6) (lo := (-1)) (hi := 15999) rfl (by decide) rfl rfl rfl (fun _ => rfl) (d_subm hw (by decide +kernel)) rfl lq2 q42 (by omega) (by omega) (by omega) (by omega) rfl (fun h43 V43 f43 M43 => ?_) -- 126
                    refine hI_al (k := 0) rfl e41_0 rfl ?_ -- 127
                    refine hI_il2 (k := 6) rfl e41_6 rfl ?_ -- 128
                    refine hI_il2 (k := 7) rfl e41_7 rfl ?_ -- 130
                    refine hM_iv M43 (by decide) rfl rfl (by decide) (as := [.int lx1, .int x4]) (r := []) rfl rfl (by decide +kernel) rfl (by decide +kernel) rfl rfl rfl rfl rfl ?_ -- 132
                    exact g3 x4 q4 h43 V43 f43 lv41 M43 e41_0 e41_1 e41_2 c7 a2 b2 a4 b4 c27 c37 c49
                  · exfalso; omega
          · exfalso; omega
        · refine hM_ic (n := 0) rfl (by decide) rfl (fun x44 q44 => ?_) -- 52
          refine hI_go (pc' := 57) (off := 4) rfl (by decide) ?_ -- 53
          refine hM_add rfl q30 q44 (by omega) (by omega) rfl (fun x45 q45 => ?_) -- 57
          refine hM_si2 (k := 5) rfl (by decide +kernel) rfl (fun lv46 e46_5 u46 => ?_) -- 58
          have e46_0 := u46 0 _ (by decide) (Or.inl rfl) e5_0
          have e46_1 := u46 1 _ (by decide) (Or.inl rfl) e5_1
          have e46_2 := u46 2 _ (by decide) (Or.inl rfl) e5_2
          have e46_3 := u46 3 _ (by decide) (Or.inl rfl) e5_3
          have e46_4 := u46 4 _ (by decide) (Or.inl rfl) e5_4
          refine hI_il2 (k := 5) rfl e46_5 rfl ?_ -- 60
          refine hM_ic (n := 3) rfl (by decide) rfl (fun x47 q47 => ?_) -- 62
          refine hM_cne (off := 21) (t := 84) rfl q45 q47 (by decide) rfl (fun c63 => ?_) (fun c63 => ?_) -- 63
          · refine hI_il2 (k := 5) rfl e46_5 rfl ?_ -- 84
            refine hM_ic (n := 2) rfl (by decide) rfl (fun x48 q48 => ?_) -- 86
            refine hM_cne (off := 52) (t := 139) rfl q45 q48 (by decide) rfl (fun c87 => ?_) (fun c87 => ?_) -- 87
            · refine hI_al (k := 0) rfl e46_0 rfl ?_ -- 139
              refine hM_ga M (by decide) rfl rfl (k := 24) (c := 9) rfl rfl rfl (by decide +kernel) rfl ?_ -- 140
              refine hI_il (k := 2) rfl e46_2 rfl ?_ -- 143
              refine hI_il (k := 1) rfl e46_1 rfl ?_ -- 144
              refine hM_ic (n := (-1)) rfl (by decide) rfl (fun x49 q49 => ?_) -- 145
              refine hM_ceq (off := 7) (t := 153) rfl lq1 q49 (by decide) rfl (fun c146 => ?_) (fun c146 => ?_) -- 146
              · exfalso; omega
              · refine hI_il (k := 1) rfl e46_1 rfl ?_ -- 149
                refine hI_go (pc' := 164) (off := 14) rfl (by decide) ?_ -- 150
                refine hM_is M (by decide) ok_49 (K := 24) (R2 := 61) (L := 6) (H := 6) (lo := (-1)) (hi := 15999) rfl (by decide) rfl rfl rfl (fun _ => rfl) (d_subm hw (by decide +kernel)) rfl lq2 lq1 (by omega) (by omega) (by omega) (by omega) rfl (fun h50 V50 f50 M50 => ?_) -- 164
                refine hM_ic (n := (-1)) rfl (by decide) rfl (fun x51 q51 => ?_) -- 165
                refine hM_si (k := 1) rfl (by decide +kernel) rfl (fun lv52 e52_1 u52 => ?_) -- 166
                have e52_0 := u52 0 _ (by decide) (Or.inl rfl) e46_0
                have e52_2 := u52 2 _ (by decide) (Or.inl rfl) e46_2
                have e52_3 := u52 3 _ (by decide) (Or.inl rfl) e46_3
                have e52_4 := u52 4 _ (by decide) (Or.inl rfl) e46_4
                have e52_5 := u52 5 _ (by decide) (Or.inl rfl) e46_5
                refine hM_inc (k := 2) (z := 1) rfl e52_2 lq2 (by decide) (by omega) (by omega) (by decide +kernel) rfl (fun lv53 x53 q53 e53_2 u53 => ?_) -- 167
                have e53_0 := u53 0 _ (by decide) (Or.inl rfl) e52_0
                have e53_3 := u53 3 _ (by decide) (Or.inl rfl) e52_3
                have e53_4 := u53 4 _ (by decide) (Or.inl rfl) e52_4
                have e53_5 := u53 5 _ (by decide) (Or.inl rfl) e52_5
                have e53_1 := u53 1 _ (by decide) (Or.inl rfl) e52_1
                refine hI_go (pc' := 4) (off := (-166)) rfl (by decide) ?_ -- 170
                exact g4 h50 V50 f50 x51 q51 x53 q53 lv53 M50 e53_0 e53_1 e53_2 c7 a2 b2 a4 b4 c27 c37 c49
            · exfalso; omega
          · exfalso; omega
    · refine hM_ic (n := 0) rfl (by decide) rfl (fun x54 q54 => ?_) -- 30
      refine hI_go (pc' := 35) (off := 4) rfl (by decide) ?_ -- 31
      refine hI_il (k := 3) rfl e5_3 rfl ?_ -- 35
      refine hM_ic (n := (-1)) rfl (by decide) rfl (fun x55 q55 => ?_) -- 36
      refine hM_cne (off := 7) (t := 44) rfl q2 q55 (by decide) rfl (fun c37 => ?_) (fun c37 => ?_) -- 37
      · refine hM_ic (n := 1) rfl (by decide) rfl (fun x56 q56 => ?_) -- 44
        refine hM_add rfl q54 q56 (by omega) (by omega) rfl (fun x57 q57 => ?_) -- 45
        refine hI_il2 (k := 4) rfl e5_4 rfl ?_ -- 46
        refine hM_ic (n := (-1)) rfl (by decide) rfl (fun x58 q58 => ?_) -- 48
        refine hM_cne (off := 7) (t := 56) rfl q4 q58 (by decide) rfl (fun c49 => ?_) (fun c49 => ?_) -- 49
        · refine hM_ic (n := 1) rfl (by decide) rfl (fun x59 q59 => ?_) -- 56
          refine hM_add rfl q57 q59 (by omega) (by omega) rfl (fun x60 q60 => ?_) -- 57
          refine hM_si2 (k := 5) rfl (by decide +kernel) rfl (fun lv61 e61_5 u61 => ?_) -- 58
          have e61_0 := u61 0 _ (by decide) (Or.inl rfl) e5_0
          have e61_1 := u61 1 _ (by decide) (Or.inl rfl) e5_1
          have e61_2 := u61 2 _ (by decide) (Or.inl rfl) e5_2
          have e61_3 := u61 3 _ (by decide) (Or.inl rfl) e5_3
          have e61_4 := u61 4 _ (by decide) (Or.inl rfl) e5_4
          refine hI_il2 (k := 5) rfl e61_5 rfl ?_ -- 60
          refine hM_ic (n := 3) rfl (by decide) rfl (fun x62 q62 => ?_) -- 62
          refine hM_cne (off := 21) (t := 84) rfl q60 q62 (by decide) rfl (fun c63 => ?_) (fun c63 => ?_) -- 63
          · refine hI_il2 (k := 5) rfl e61_5 rfl ?_ -- 84
            refine hM_ic (n := 2) rfl (by decide) rfl (fun x63 q63 => ?_) -- 86
            refine hM_cne (off := 52) (t := 139) rfl q60 q63 (by decide) rfl (fun c87 => ?_) (fun c87 => ?_) -- 87
            · exfalso; omega
            · refine hI_il (k := 1) rfl e61_1 rfl ?_ -- 90
              refine hM_ic (n := (-1)) rfl (by decide) rfl (fun x64 q64 => ?_) -- 91
              refine hM_ceq (off := 7) (t := 99) rfl lq1 q64 (by decide) rfl (fun c92 => ?_) (fun c92 => ?_) -- 92
              · refine hI_il (k := 3) rfl e61_3 rfl ?_ -- 99
                refine hM_si2 (k := 6) rfl (by decide +kernel) rfl (fun lv65 e65_6 u65 => ?_) -- 100
                have e65_0 := u65 0 _ (by decide) (Or.inl rfl) e61_0
                have e65_1 := u65 1 _ (by decide) (Or.inl rfl) e61_1
                have e65_2 := u65 2 _ (by decide) (Or.inl rfl) e61_2
                have e65_3 := u65 3 _ (by decide) (Or.inl rfl) e61_3
                have e65_4 := u65 4 _ (by decide) (Or.inl rfl) e61_4
                have e65_5 := u65 5 _ (by decide) (Or.inl rfl) e61_5
                refine hI_il (k := 1) rfl e65_1 rfl ?_ -- 102
                refine hM_ic (n := (-1)) rfl (by decide) rfl (fun x66 q66 => ?_) -- 103
                refine hM_ceq (off := 12) (t := 116) rfl lq1 q66 (by decide) rfl (fun c104 => ?_) (fun c104 => ?_) -- 104
                · refine hI_il2 (k := 4) rfl e65_4 rfl ?_ -- 116
                  refine hM_si2 (k := 7) rfl (by decide +kernel) rfl (fun lv67 e67_7 u67 => ?_) -- 118
                  have e67_0 := u67 0 _ (by decide) (Or.inl rfl) e65_0
                  have e67_1 := u67 1 _ (by decide) (Or.inl rfl) e65_1
                  have e67_2 := u67 2 _ (by decide) (Or.inl rfl) e65_2
                  have e67_3 := u67 3 _ (by decide) (Or.inl rfl) e65_3
                  have e67_4 := u67 4 _ (by decide) (Or.inl rfl) e65_4
                  have e67_5 := u67 5 _ (by decide) (Or.inl rfl) e65_5
                  have e67_6 := u67 6 _ (by decide) (Or.inl rfl) e65_6
                  refine hI_al (k := 0) rfl e67_0 rfl ?_ -- 120
                  refine hM_ga M (by decide) rfl rfl (k := 24) (c := 9) rfl rfl rfl (by decide +kernel) rfl ?_ -- 121
                  refine hI_il (k := 2) rfl e67_2 rfl ?_ -- 124
                  refine hM_ic (n := (-1)) rfl (by decide) rfl (fun x68 q68 => ?_) -- 125
                  refine hM_is M (by decide) ok_49 (K := 24) (R2 := 61) (L := 6) (H := 6) (lo := (-1)) (hi := 15999) rfl (by decide) rfl rfl rfl (fun _ => rfl) (d_subm hw (by decide +kernel)) rfl lq2 q68 (by omega) (by omega) (by omega) (by omega) rfl (fun h69 V69 f69 M69 => ?_) -- 126
                  refine hI_al (k := 0) rfl e67_0 rfl ?_ -- 127
                  refine hI_il2 (k := 6) rfl e67_6 rfl ?_ -- 128
                  refine hI_il2 (k := 7) rfl e67_7 rfl ?_ -- 130
                  refine hM_iv M69 (by decide) rfl rfl (by decide) (as := [.int x2, .int x4]) (r := []) rfl rfl (by decide +kernel) rfl (by decide +kernel) rfl rfl rfl rfl rfl ?_ -- 132
                  exact g5 x2 q2 x4 q4 h69 V69 f69 lv67 M69 e67_0 e67_1 e67_2 c7 a2 b2 a4 b4 c27 c37 c49
                · exfalso; omega
              · exfalso; omega
          · exfalso; omega
        · refine hM_ic (n := 0) rfl (by decide) rfl (fun x70 q70 => ?_) -- 52
          refine hI_go (pc' := 57) (off := 4) rfl (by decide) ?_ -- 53
          refine hM_add rfl q57 q70 (by omega) (by omega) rfl (fun x71 q71 => ?_) -- 57
          refine hM_si2 (k := 5) rfl (by decide +kernel) rfl (fun lv72 e72_5 u72 => ?_) -- 58
          have e72_0 := u72 0 _ (by decide) (Or.inl rfl) e5_0
          have e72_1 := u72 1 _ (by decide) (Or.inl rfl) e5_1
          have e72_2 := u72 2 _ (by decide) (Or.inl rfl) e5_2
          have e72_3 := u72 3 _ (by decide) (Or.inl rfl) e5_3
          have e72_4 := u72 4 _ (by decide) (Or.inl rfl) e5_4
          refine hI_il2 (k := 5) rfl e72_5 rfl ?_ -- 60
          refine hM_ic (n := 3) rfl (by decide) rfl (fun x73 q73 => ?_) -- 62
          refine hM_cne (off := 21) (t := 84) rfl q71 q73 (by decide) rfl (fun c63 => ?_) (fun c63 => ?_) -- 63
          · refine hI_il2 (k := 5) rfl e72_5 rfl ?_ -- 84
            refine hM_ic (n := 2) rfl (by decide) rfl (fun x74 q74 => ?_) -- 86
            refine hM_cne (off := 52) (t := 139) rfl q71 q74 (by decide) rfl (fun c87 => ?_) (fun c87 => ?_) -- 87
            · refine hI_al (k := 0) rfl e72_0 rfl ?_ -- 139
              refine hM_ga M (by decide) rfl rfl (k := 24) (c := 9) rfl rfl rfl (by decide +kernel) rfl ?_ -- 140
              refine hI_il (k := 2) rfl e72_2 rfl ?_ -- 143
              refine hI_il (k := 1) rfl e72_1 rfl ?_ -- 144
              refine hM_ic (n := (-1)) rfl (by decide) rfl (fun x75 q75 => ?_) -- 145
              refine hM_ceq (off := 7) (t := 153) rfl lq1 q75 (by decide) rfl (fun c146 => ?_) (fun c146 => ?_) -- 146
              · refine hI_il (k := 3) rfl e72_3 rfl ?_ -- 153
                refine hM_ic (n := (-1)) rfl (by decide) rfl (fun x76 q76 => ?_) -- 154
                refine hM_ceq (off := 7) (t := 162) rfl q2 q76 (by decide) rfl (fun c155 => ?_) (fun c155 => ?_) -- 155
                · exfalso; omega
                · refine hI_il (k := 3) rfl e72_3 rfl ?_ -- 158
                  refine hI_go (pc' := 164) (off := 5) rfl (by decide) ?_ -- 159
                  refine hM_is M (by decide) ok_49 (K := 24) (R2 := 61) (L := 6) (H := 6) (lo := (-1)) (hi := 15999) rfl (by decide) rfl rfl rfl (fun _ => rfl) (d_subm hw (by decide +kernel)) rfl lq2 q2 (by omega) (by omega) (by omega) (by omega) rfl (fun h77 V77 f77 M77 => ?_) -- 164
                  refine hM_ic (n := (-1)) rfl (by decide) rfl (fun x78 q78 => ?_) -- 165
                  refine hM_si (k := 1) rfl (by decide +kernel) rfl (fun lv79 e79_1 u79 => ?_) -- 166
                  have e79_0 := u79 0 _ (by decide) (Or.inl rfl) e72_0
                  have e79_2 := u79 2 _ (by decide) (Or.inl rfl) e72_2
                  have e79_3 := u79 3 _ (by decide) (Or.inl rfl) e72_3
                  have e79_4 := u79 4 _ (by decide) (Or.inl rfl) e72_4
                  have e79_5 := u79 5 _ (by decide) (Or.inl rfl) e72_5
                  refine hM_inc (k := 2) (z := 1) rfl e79_2 lq2 (by decide) (by omega) (by omega) (by decide +kernel) rfl (fun lv80 x80 q80 e80_2 u80 => ?_) -- 167
                  have e80_0 := u80 0 _ (by decide) (Or.inl rfl) e79_0
                  have e80_3 := u80 3 _ (by decide) (Or.inl rfl) e79_3
                  have e80_4 := u80 4 _ (by decide) (Or.inl rfl) e79_4
                  have e80_5 := u80 5 _ (by decide) (Or.inl rfl) e79_5
                  have e80_1 := u80 1 _ (by decide) (Or.inl rfl) e79_1
                  refine hI_go (pc' := 4) (off := (-166)) rfl (by decide) ?_ -- 170
                  exact g6 h77 V77 f77 x78 q78 x80 q80 lv80 M77 e80_0 e80_1 e80_2 c7 a2 b2 a4 b4 c27 c37 c49
              · exfalso; omega
            · exfalso; omega
          · exfalso; omega
      · refine hM_ic (n := 0) rfl (by decide) rfl (fun x81 q81 => ?_) -- 40
        refine hI_go (pc' := 45) (off := 4) rfl (by decide) ?_ -- 41
        refine hM_add rfl q54 q81 (by omega) (by omega) rfl (fun x82 q82 => ?_) -- 45
        refine hI_il2 (k := 4) rfl e5_4 rfl ?_ -- 46
        refine hM_ic (n := (-1)) rfl (by decide) rfl (fun x83 q83 => ?_) -- 48
        refine hM_cne (off := 7) (t := 56) rfl q4 q83 (by decide) rfl (fun c49 => ?_) (fun c49 => ?_) -- 49
        · refine hM_ic (n := 1) rfl (by decide) rfl (fun x84 q84 => ?_) -- 56
          refine hM_add rfl q82 q84 (by omega) (by omega) rfl (fun x85 q85 => ?_) -- 57
          refine hM_si2 (k := 5) rfl (by decide +kernel) rfl (fun lv86 e86_5 u86 => ?_) -- 58
          have e86_0 := u86 0 _ (by decide) (Or.inl rfl) e5_0
          have e86_1 := u86 1 _ (by decide) (Or.inl rfl) e5_1
          have e86_2 := u86 2 _ (by decide) (Or.inl rfl) e5_2
          have e86_3 := u86 3 _ (by decide) (Or.inl rfl) e5_3
          have e86_4 := u86 4 _ (by decide) (Or.inl rfl) e5_4
          refine hI_il2 (k := 5) rfl e86_5 rfl ?_ -- 60
          refine hM_ic (n := 3) rfl (by decide) rfl (fun x87 q87 => ?_) -- 62
          refine hM_cne (off := 21) (t := 84) rfl q85 q87 (by decide) rfl (fun c63 => ?_) (fun c63 => ?_) -- 63
          · refine hI_il2 (k := 5) rfl e86_5 rfl ?_ -- 84
            refine hM_ic (n := 2) rfl (by decide) rfl (fun x88 q88 => ?_) -- 86
            refine hM_cne (off := 52) (t := 139) rfl q85 q88 (by decide) rfl (fun c87 => ?_) (fun c87 => ?_) -- 87
            · refine hI_al (k := 0) rfl e86_0 rfl ?_ -- 139
              refine hM_ga M (by decide) rfl rfl (k := 24) (c := 9) rfl rfl rfl (by decide +kernel) rfl ?_ -- 140
              refine hI_il (k := 2) rfl e86_2 rfl ?_ -- 143
              refine hI_il (k := 1) rfl e86_1 rfl ?_ -- 144
              refine hM_ic (n := (-1)) rfl (by decide) rfl (fun x89 q89 => ?_) -- 145
              refine hM_ceq (off := 7) (t := 153) rfl lq1 q89 (by decide) rfl (fun c146 => ?_) (fun c146 => ?_) -- 146
              · refine hI_il (k := 3) rfl e86_3 rfl ?_ -- 153
                refine hM_ic (n := (-1)) rfl (by decide) rfl (fun x90 q90 => ?_) -- 154
                refine hM_ceq (off := 7) (t := 162) rfl q2 q90 (by decide) rfl (fun c155 => ?_) (fun c155 => ?_) -- 155
                · refine hI_il2 (k := 4) rfl e86_4 rfl ?_ -- 162
                  refine hM_is M (by decide) ok_49 (K := 24) (R2 := 61) (L := 6) (H := 6) (lo := (-1)) (hi := 15999) rfl (by decide) rfl rfl rfl (fun _ => rfl) (d_subm hw (by decide +kernel)) rfl lq2 q4 (by omega) (by omega) (by omega) (by omega) rfl (fun h91 V91 f91 M91 => ?_) -- 164
                  refine hM_ic (n := (-1)) rfl (by decide) rfl (fun x92 q92 => ?_) -- 165
                  refine hM_si (k := 1) rfl (by decide +kernel) rfl (fun lv93 e93_1 u93 => ?_) -- 166
                  have e93_0 := u93 0 _ (by decide) (Or.inl rfl) e86_0
                  have e93_2 := u93 2 _ (by decide) (Or.inl rfl) e86_2
                  have e93_3 := u93 3 _ (by decide) (Or.inl rfl) e86_3
                  have e93_4 := u93 4 _ (by decide) (Or.inl rfl) e86_4
                  have e93_5 := u93 5 _ (by decide) (Or.inl rfl) e86_5
                  refine hM_inc (k := 2) (z := 1) rfl e93_2 lq2 (by decide) (by omega) (by omega) (by decide +kernel) rfl (fun lv94 x94 q94 e94_2 u94 => ?_) -- 167
                  have e94_0 := u94 0 _ (by decide) (Or.inl rfl) e93_0
                  have e94_3 := u94 3 _ (by decide) (Or.inl rfl) e93_3
                  have e94_4 := u94 4 _ (by decide) (Or.inl rfl) e93_4
                  have e94_5 := u94 5 _ (by decide) (Or.inl rfl) e93_5
                  have e94_1 := u94 1 _ (by decide) (Or.inl rfl) e93_1
                  refine hI_go (pc' := 4) (off := (-166)) rfl (by decide) ?_ -- 170
                  exact g7 h91 V91 f91 x92 q92 x94 q94 lv94 M91 e94_0 e94_1 e94_2 c7 a2 b2 a4 b4 c27 c37 c49
                · exfalso; omega
              · exfalso; omega
            · exfalso; omega
          · exfalso; omega
        · refine hM_ic (n := 0) rfl (by decide) rfl (fun x95 q95 => ?_) -- 52
          refine hI_go (pc' := 57) (off := 4) rfl (by decide) ?_ -- 53
          refine hM_add rfl q82 q95 (by omega) (by omega) rfl (fun x96 q96 => ?_) -- 57
          refine hM_si2 (k := 5) rfl (by decide +kernel) rfl (fun lv97 e97_5 u97 => ?_) -- 58
          have e97_0 := u97 0 _ (by decide) (Or.inl rfl) e5_0
          have e97_1 := u97 1 _ (by decide) (Or.inl rfl) e5_1
          have e97_2 := u97 2 _ (by decide) (Or.inl rfl) e5_2
          have e97_3 := u97 3 _ (by decide) (Or.inl rfl) e5_3
          have e97_4 := u97 4 _ (by decide) (Or.inl rfl) e5_4
          refine hI_il2 (k := 5) rfl e97_5 rfl ?_ -- 60
          refine hM_ic (n := 3) rfl (by decide) rfl (fun x98 q98 => ?_) -- 62
          refine hM_cne (off := 21) (t := 84) rfl q96 q98 (by decide) rfl (fun c63 => ?_) (fun c63 => ?_) -- 63
          · refine hI_il2 (k := 5) rfl e97_5 rfl ?_ -- 84
            refine hM_ic (n := 2) rfl (by decide) rfl (fun x99 q99 => ?_) -- 86
            refine hM_cne (off := 52) (t := 139) rfl q96 q99 (by decide) rfl (fun c87 => ?_) (fun c87 => ?_) -- 87
            · refine hI_al (k := 0) rfl e97_0 rfl ?_ -- 139
              refine hM_ga M (by decide) rfl rfl (k := 24) (c := 9) rfl rfl rfl (by decide +kernel) rfl ?_ -- 140
              refine hI_il (k := 2) rfl e97_2 rfl ?_ -- 143
              refine hI_il (k := 1) rfl e97_1 rfl ?_ -- 144
              refine hM_ic (n := (-1)) rfl (by decide) rfl (fun x100 q100 => ?_) -- 145
              refine hM_ceq (off := 7) (t := 153) rfl lq1 q100 (by decide) rfl (fun c146 => ?_) (fun c146 => ?_) -- 146
              · refine hI_il (k := 3) rfl e97_3 rfl ?_ -- 153
                refine hM_ic (n := (-1)) rfl (by decide) rfl (fun x101 q101 => ?_) -- 154
                refine hM_ceq (off := 7) (t := 162) rfl q2 q101 (by decide) rfl (fun c155 => ?_) (fun c155 => ?_) -- 155
                · refine hI_il2 (k := 4) rfl e97_4 rfl ?_ -- 162
                  refine hM_is M (by decide) ok_49 (K := 24) (R2 := 61) (L := 6) (H := 6) (lo := (-1)) (hi := 15999) rfl (by decide) rfl rfl rfl (fun _ => rfl) (d_subm hw (by decide +kernel)) rfl lq2 q4 (by omega) (by omega) (by omega) (by omega) rfl (fun h102 V102 f102 M102 => ?_) -- 164
                  refine hM_ic (n := (-1)) rfl (by decide) rfl (fun x103 q103 => ?_) -- 165
                  refine hM_si (k := 1) rfl (by decide +kernel) rfl (fun lv104 e104_1 u104 => ?_) -- 166
                  have e104_0 := u104 0 _ (by decide) (Or.inl rfl) e97_0
                  have e104_2 := u104 2 _ (by decide) (Or.inl rfl) e97_2
                  have e104_3 := u104 3 _ (by decide) (Or.inl rfl) e97_3
                  have e104_4 := u104 4 _ (by decide) (Or.inl rfl) e97_4
                  have e104_5 := u104 5 _ (by decide) (Or.inl rfl) e97_5
                  refine hM_inc (k := 2) (z := 1) rfl e104_2 lq2 (by decide) (by omega) (by omega) (by decide +kernel) rfl (fun lv105 x105 q105 e105_2 u105 => ?_) -- 167
                  have e105_0 := u105 0 _ (by decide) (Or.inl rfl) e104_0
                  have e105_3 := u105 3 _ (by decide) (Or.inl rfl) e104_3
                  have e105_4 := u105 4 _ (by decide) (Or.inl rfl) e104_4
                  have e105_5 := u105 5 _ (by decide) (Or.inl rfl) e104_5
                  have e105_1 := u105 1 _ (by decide) (Or.inl rfl) e104_1
                  refine hI_go (pc' := 4) (off := (-166)) rfl (by decide) ?_ -- 170
                  exact g8 h102 V102 f102 x103 q103 x105 q105 lv105 M102 e105_0 e105_1 e105_2 c7 a2 b2 a4 b4 c27 c37 c49
                · exfalso; omega
              · exfalso; omega
            · exfalso; omega
          · exfalso; omega
theorem s_meld80 {c r : Int} (M : MX 49 W ρ m A h0 h F V G) (e0 : m_lk lv 0 = some (.ref m)) {lx2 : Int32} (e2 : m_lk lv 2 = some (.int lx2)) (lq2 : lx2.toInt = r) {sx0 : Int32} (sq0 : sx0.toInt = c) (r0 : 0 ≤ r) (r1 : r < 6)
    (g0 : ∀ x2 : Int32, x2.toInt = r + 1 → ∀ lv2 : List (Nat × Value), m_lk lv2 0 = some (.ref m) → m_lk lv2 1 = some (.int sx0) → m_lk lv2 2 = some (.int x2) → HJ 209 4 lv2 [] h Q)
    : HJ 209 80 lv [.int sx0] h Q := by
  refine hM_si (k := 1) rfl (by decide +kernel) rfl (fun lv1 e1_1 u1 => ?_) -- 80
  have e1_0 := u1 0 _ (by decide) (Or.inl rfl) e0
  have e1_2 := u1 2 _ (by decide) (Or.inl rfl) e2
  refine hI_go (pc' := 167) (off := 86) rfl (by decide) ?_ -- 81
  refine hM_inc (k := 2) (z := 1) rfl e1_2 lq2 (by decide) (by omega) (by omega) (by decide +kernel) rfl (fun lv2 x2 q2 e2_2 u2 => ?_) -- 167
  have e2_0 := u2 0 _ (by decide) (Or.inl rfl) e1_0
  have e2_1 := u2 1 _ (by decide) (Or.inl rfl) e1_1
  refine hI_go (pc' := 4) (off := (-166)) rfl (by decide) ?_ -- 170
  exact g0 x2 q2 lv2 e2_0 e2_1 e2_2
theorem s_meld135 {c r : Int} (M : MX 49 W ρ m A h0 h F V G) (e0 : m_lk lv 0 = some (.ref m)) {lx2 : Int32} (e2 : m_lk lv 2 = some (.int lx2)) (lq2 : lx2.toInt = r) {sx0 : Int32} (sq0 : sx0.toInt = c) (r0 : 0 ≤ r) (r1 : r < 6)
    (g0 : ∀ x2 : Int32, x2.toInt = r + 1 → ∀ lv2 : List (Nat × Value), m_lk lv2 0 = some (.ref m) → m_lk lv2 1 = some (.int sx0) → m_lk lv2 2 = some (.int x2) → HJ 209 4 lv2 [] h Q)
    : HJ 209 135 lv [.int sx0] h Q := by
  refine hM_si (k := 1) rfl (by decide +kernel) rfl (fun lv1 e1_1 u1 => ?_) -- 135
  have e1_0 := u1 0 _ (by decide) (Or.inl rfl) e0
  have e1_2 := u1 2 _ (by decide) (Or.inl rfl) e2
  refine hI_go (pc' := 167) (off := 31) rfl (by decide) ?_ -- 136
  refine hM_inc (k := 2) (z := 1) rfl e1_2 lq2 (by decide) (by omega) (by omega) (by decide +kernel) rfl (fun lv2 x2 q2 e2_2 u2 => ?_) -- 167
  have e2_0 := u2 0 _ (by decide) (Or.inl rfl) e1_0
  have e2_1 := u2 1 _ (by decide) (Or.inl rfl) e1_1
  refine hI_go (pc' := 4) (off := (-166)) rfl (by decide) ?_ -- 170
  exact g0 x2 q2 lv2 e2_0 e2_1 e2_2
def g_md : List (Nat × Nat) := g_ln ++ [(61, 1001)]
theorem l_meld {F0 : Nat → Int} {V0 : Nat → Nat → Int} (hw : d_sub g_md W = true) (n0 : 0 ≤ F0 17) (n1 : F0 17 + 6 ≤ 16000) (h2 : p_hp (F0 17) (V0 22) (V0 25)) (g : ∀ (h' : MH) (F' : Nat → Int) (V' : Nat → Nat → Int) (c : Int), MX 49 W ρ m A h0 h' F' V' G → g_mi F0 V0 F' V' 6 c → g_mf F0 V0 F' V' 6 c → Q none h') : ∀ (d r : Nat) (c : Int) (lv : List (Nat × Value)) (h : MH) (F : Nat → Int) (V : Nat → Nat → Int) (xc xr : Int32), r + d = 6 → MX 49 W ρ m A h0 h F V G → g_mi F0 V0 F V r c → g_mf F0 V0 F V r c → xc.toInt = c → xr.toInt = (r : Int) → m_lk lv 0 = some (.ref m) → m_lk lv 1 = some (.int xc) → m_lk lv 2 = some (.int xr) → HJ 209 4 lv [] h Q := by
  have hw1 : d_sub g_ln W = true := d_subm hw (by decide +kernel)
  have hw2 : d_sub [(61, 1001)] W = true := d_subm hw (by decide +kernel)
  intro d
  induction d with
  | zero =>
    intro r c lv h F V xc xr hd M I J hc hr e0 e1 e2
    have r6 : r = 6 := by omega
    subst r6
    have i3 := I.1.2.2
    have c0 : -1 ≤ c ∧ c ≤ 15999 := by
      have i4 := I.2.1
      rcases i3 with z | z <;> omega
    refine s_meld M e0 e1 hc e2 hr (by omega) c0.1 c0.2 hw2 (fun c7 => g h F V c M I J) ?_ ?_ ?_ ?_ ?_ ?_ ?_ ?_ <;> intros <;> exfalso <;> omega
  | succ d ih =>
    intro r c lv h F V xc xr hd M I J hc hr e0 e1 e2
    have I' := I
    obtain ⟨⟨i1, i2, i3⟩, ⟨i4, i5⟩, i6, i7, i8, i9, i10, i11⟩ := I'
    have eb : V 25 r = V0 25 r := by rw [i8 25 (by decide) (by decide) (by decide) (by decide) (by decide)]
    have pa : p_rt (F 17) (V 22) (V 24 r) r := i2 r (by omega)
    have pb : p_rt (F 17) (V 22) (V 25 r) r := by
      rw [eb]
      exact p_rtU i4 i7 (h2 r (by omega))
    have rN : (r : Int).toNat = r := Int.toNat_natCast r
    have c0 : -1 ≤ c ∧ c ≤ 15999 := by
      rcases i3 with z | z <;> omega
    have nd : ∀ {x : Int}, p_rt (F 17) (V 22) x r → x ≠ -1 → 0 ≤ x ∧ x < F 17 ∧ V 22 x.toNat = r := fun p z => p.resolve_left z
    -- no link
    have nol : ∀ (y : Int) (V2 : Nat → Nat → Int) (h2 : MH) (lv2 : List (Nat × Value)) (x1 x2 : Int32), p_rt (F 17) (V 22) y r → y_tg y + 2 * 0 = y_tg c + y_tg (V 24 r) + y_tg (V 25 r) → V2 = m_u V 24 (m_u (V 24) r y) → MX 49 W ρ m A h0 h2 F V2 G → x1.toInt = -1 → x2.toInt = (r : Int) + 1 → m_lk lv2 0 = some (.ref m) → m_lk lv2 1 = some (.int x1) → m_lk lv2 2 = some (.int x2) → (∀ s X, X.2.1 r = V 24 r → s r = V 25 r → X.2.2 = c → pm_st s X r = (X.1, m_u X.2.1 r y, -1)) → HJ 209 4 lv2 [] h2 Q := fun y V2 h2 lv2 x1 x2 py wt v2 M2 q1 q2 a0 a1 a2 K => by
      have v22 : V2 22 = V 22 := by rw [v2]; rfl
      refine ih (r + 1) (-1) lv2 h2 F V2 x1 x2 (by omega) M2 (g_miS I (y := y) (c' := -1) ?_ ?_ (Or.inl rfl) (Int.le_refl _) (by omega) (fun _ _ _ => rfl) (fun v _ => by rw [v22]) (by rw [v2, m_uE]) (fun K _ _ _ _ k5 => by rw [v2, m_uN _ _ _ _ k5]) (by rw [← eb]; exact wt) (fun j _ => by rw [v2, m_uN _ _ _ _ (by decide)])) (fun S h s b1 b2 b3 => ?_) q1 (by omega) a0 a1 a2
      · rw [v2]
        exact i1
      · rw [v2]
        exact py
      · obtain ⟨j1, j2, j3⟩ := J S h s b1 b2 b3
        rw [pm_run, K s _ (j2 r (by omega)).symm (by rw [eb]; exact (b3 r (by omega)).symm) j3.symm]
        refine ⟨rs_ofV j1 rfl rfl (by rw [v2]; rfl) (by rw [v2]; rfl) (by rw [v2]; rfl) (by rw [v2]; rfl), ?_, rfl⟩
        rw [v2, m_uE]
        exact hp6_u j2
    -- a link
    have lnk : ∀ (pc : Nat) (_ : pc = 80 ∨ pc = 135) (y a b : Int) (xa xb : Int32) (V2 : Nat → Nat → Int) (h2 : MH) (lv2 : List (Nat × Value)), p_rt (F 17) (V 22) y r → y_tg y + 2 * 1 = y_tg c + y_tg (V 24 r) + y_tg (V 25 r) → V2 = m_u V 24 (m_u (V 24) r y) → MX 49 W ρ m A h0 h2 F V2 G → xa.toInt = a → xb.toInt = b → (0 ≤ a ∧ a < F 17 ∧ V 22 a.toNat = r) → (0 ≤ b ∧ b < F 17 ∧ V 22 b.toNat = r) → m_lk lv2 0 = some (.ref m) → m_lk lv2 2 = some (.int xr) → (∀ s X, X.2.1 r = V 24 r → s r = V 25 r → X.2.2 = c → pm_st s X r = (ps_link X.1 a b, m_u X.2.1 r y, (ps_n X.1 : Int))) → HJ 210 0 (lv_args 0 [.ref m, .int xa, .int xb]) [] h2 (fun v h' => HJ 209 pc lv2 (v.toList ++ []) h' Q) := fun pc hpc y a b xa xb V2 h2 lv2 py wt v2 M2 qa qb na nb a0 a2 K => by
      have v22 : V2 22 = V 22 := by rw [v2]; rfl
      have v23 : V2 23 = V 23 := by rw [v2]; rfl
      have v24 : V2 24 = m_u (V 24) r y := by rw [v2]; rfl
      refine c_link (r := (r : Int)) M2 hw1 (by rw [v22, v23]; exact i1) qa qb (by omega) (by omega) na.1 na.2.1 nb.1 nb.2.1 (by rw [v22]; exact na.2.2) (by rw [v22]; exact nb.2.2) (by omega) (by omega) (fun x h3 F3 V3 hx M3 f17 fo sh vr vo b3 fr => ?_)
      have J3 : g_mf F0 V0 F3 V3 (r + 1) (F 17) := fun S h s b1 b2 b3 => by
        obtain ⟨j1, j2, j3⟩ := J S h s b1 b2 b3
        rw [pm_run, K s _ (j2 r (by omega)).symm (by rw [eb]; exact (b3 r (by omega)).symm) j3.symm]
        refine ⟨fr _ (rs_ofV j1 rfl rfl (by rw [v2]; rfl) (by rw [v2]; rfl) v22 v23), ?_, j1.1⟩
        rw [vo 24 (by decide) (by decide) (by decide) (by decide), v24]
        exact hp6_u j2
      have J : g_mi F0 V0 F3 V3 (r + 1) (F 17) := by
        rw [← f17] at sh
        have up : ∀ v : Nat, (v : Int) < F 17 → V3 22 v = V 22 v := fun v hv => by rw [vr, m_uN _ _ _ _ (by omega), v22]
        refine g_miS I (y := y) (c' := F 17) sh (p_rtU (by omega) up py) (Or.inr ⟨by omega, by omega, by rw [vr, m_uE]; omega⟩) (by omega) (by omega) (fun K k1 k2 => fo K k1 k2) up (by rw [vo 24 (by decide) (by decide) (by decide) (by decide), v24]) (fun K k1 k2 k3 k4 k5 => by rw [vo K k1 k2 k3 k4, v2, m_uN _ _ _ _ k5]) ?_ (fun j hj => by rw [b3 j hj, v23])
        rw [← eb, ← wt, y_tg1 (x := F 17) (by omega)]
      rcases hpc with e | e
      · subst e
        exact s_meld80 (c := F 17) (r := r) M3 a0 a2 hr hx (by omega) (by omega) (fun x2 q2 lv3 b0 b1 b2 => ih (r + 1) (F 17) lv3 h3 F3 V3 x x2 (by omega) M3 J J3 hx (by omega) b0 b1 b2)
      · subst e
        exact s_meld135 (c := F 17) (r := r) M3 a0 a2 hr hx (by omega) (by omega) (fun x2 q2 lv3 b0 b1 b2 => ih (r + 1) (F 17) lv3 h3 F3 V3 x x2 (by omega) M3 J J3 hx (by omega) b0 b1 b2)
    refine s_meld M e0 e1 hc e2 hr (by omega) c0.1 c0.2 hw2 (fun c7 => by omega)
      (fun x2 q2 x4 q4 h16 V16 f16 lv14 M16 a0 a1 a2 _ _ _ _ _ c27 c37 c49 => by
        simp only [Int.toNat_natCast] at q2 q4 f16 c37 c49
        exact lnk 80 (Or.inl rfl) c _ _ x2 x4 V16 h16 lv14 i3 (by have : y_tg (-1) = 0 := rfl; have := y_tg1 c27; have := y_tg1 c37; have := y_tg1 c49; omega) f16 M16 q2 q4 (nd pa c37) (nd pb c49) a0 a2 (fun s X x1 x2 x3 => pm_st1 x1 x2 x3 c37 c49))
      (fun x2 q2 h16 V16 f16 lv14 M16 a0 a1 a2 _ _ _ _ _ c27 c37 c49 => by
        simp only [Int.toNat_natCast] at q2 f16 c37 c49
        exact lnk 135 (Or.inr rfl) (-1) _ _ xc x2 V16 h16 lv14 (Or.inl rfl) (by have : y_tg (-1) = 0 := rfl; have := y_tg1 c27; have := y_tg1 c37; have := y_tg0 c49; omega) f16 M16 hc q2 (nd i3 c27) (nd pa c37) a0 a2 (fun s X x1 x2 x3 => pm_st2 x1 x2 x3 (fun z => z.2 c49) c27 (pm_oneF c37) c37))
      (fun x4 q4 h16 V16 f16 lv14 M16 a0 a1 a2 _ _ _ _ _ c27 c37 c49 => by
        simp only [Int.toNat_natCast] at q4 f16 c37 c49
        exact lnk 135 (Or.inr rfl) (-1) _ _ xc x4 V16 h16 lv14 (Or.inl rfl) (by have : y_tg (-1) = 0 := rfl; have := y_tg1 c27; have := y_tg0 c37; have := y_tg1 c49; omega) f16 M16 hc q4 (nd i3 c27) (nd pb c49) a0 a2 (fun s X x1 x2 x3 => pm_st2 x1 x2 x3 (fun z => z.1 c37) c27 (pm_oneT c37) c49))
      (fun h16 V16 f16 x51 q51 x53 q53 lv14 M16 a0 a1 a2 _ _ _ _ _ c27 c37 c49 => by
        simp only [Int.toNat_natCast] at f16 c37 c49
        exact nol c V16 h16 lv14 x51 x53 i3 (by have : y_tg (-1) = 0 := rfl; have := y_tg1 c27; have := y_tg0 c37; have := y_tg0 c49; omega) f16 M16 q51 q53 a0 a1 a2 (fun s X x1 x2 x3 => pm_st3 x1 x2 x3 (fun z => z.1 c37) (pm_oneT c37) (fun z => z.2 c49) (pm_oneF c27)))
      (fun x2 q2 x4 q4 h16 V16 f16 lv14 M16 a0 a1 a2 _ _ _ _ _ c27 c37 c49 => by
        simp only [Int.toNat_natCast] at q2 q4 f16 c37 c49
        exact lnk 135 (Or.inr rfl) (-1) _ _ x2 x4 V16 h16 lv14 (Or.inl rfl) (by have : y_tg (-1) = 0 := rfl; have := y_tg0 c27; have := y_tg1 c37; have := y_tg1 c49; omega) f16 M16 q2 q4 (nd pa c37) (nd pb c49) a0 a2 (fun s X x1 x2 x3 => pm_st1 x1 x2 (x3.trans c27) c37 c49))
      (fun h16 V16 f16 x51 q51 x53 q53 lv14 M16 a0 a1 a2 _ _ _ _ _ c27 c37 c49 => by
        simp only [Int.toNat_natCast] at f16 c37 c49
        exact nol (V 24 r) V16 h16 lv14 x51 x53 pa (by have : y_tg (-1) = 0 := rfl; have := y_tg0 c27; have := y_tg1 c37; have := y_tg0 c49; omega) f16 M16 q51 q53 a0 a1 a2 (fun s X x1 x2 x3 => pm_st3 x1 x2 x3 (fun z => z.2 c49) (pm_oneF c37) (fun z => z.1 c27) (pm_oneT c27)))
      (fun h16 V16 f16 x51 q51 x53 q53 lv14 M16 a0 a1 a2 _ _ _ _ _ c27 c37 c49 => by
        simp only [Int.toNat_natCast] at f16 c37 c49
        exact nol (V 25 r) V16 h16 lv14 x51 x53 pb (by have : y_tg (-1) = 0 := rfl; have := y_tg0 c27; have := y_tg0 c37; have := y_tg1 c49; omega) f16 M16 q51 q53 a0 a1 a2 (fun s X x1 x2 x3 => pm_st3 x1 x2 x3 (fun z => z.1 c37) (pm_oneT c37) (fun z => z.1 c27) (pm_oneT c27)))
      (fun h16 V16 f16 x51 q51 x53 q53 lv14 M16 a0 a1 a2 _ _ _ _ _ c27 c37 c49 => by
        simp only [Int.toNat_natCast] at f16 c37 c49
        exact nol (V 25 r) V16 h16 lv14 x51 x53 pb (by have : y_tg (-1) = 0 := rfl; have := y_tg0 c27; have := y_tg0 c37; have := y_tg0 c49; omega) f16 M16 q51 q53 a0 a1 a2 (fun s X x1 x2 x3 => pm_st3 x1 x2 x3 (fun z => z.1 c37) (pm_oneT c37) (fun z => z.1 c27) (pm_oneT c27)))
end
