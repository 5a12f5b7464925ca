-- A ROW OF ACTS LAID
def g_ly (F : Nat → Int) (V : Nat → Nat → Int) (k : Int) : Prop := (p_sh (F 17) (V 22) (V 23) ∧ p_hp (F 17) (V 22) (V 24) ∧ p_ro (F 17) (F 35) (V 22) (V 36)) ∧ (0 ≤ F 17 ∧ F 17 ≤ 378 * k) ∧ (1 ≤ F 35 ∧ F 35 ≤ k + 1) ∧ V 39 0 = -1 ∧ V 40 0 = -1
theorem g_lyM {F : Nat → Int} {V : Nat → Nat → Int} {k k2 : Int} (h : k ≤ k2) (I : g_ly F V k) : g_ly F V k2 := by
  obtain ⟨i1, i2, i3, i4⟩ := I
  exact ⟨i1, by omega, by omega, i4⟩
-- behind an act: as far as what is kept goes
theorem g_lyD {F F' : Nat → Int} {V V' : Nat → Nat → Int} {k : Int} (I : g_ly F V k) (J : g_ex F V F' V' 378) : g_ly F' V' (k + 1) := by
  obtain ⟨⟨i1, i2, i3⟩, i4, i5, i6, i7⟩ := I
  obtain ⟨⟨j1, j2⟩, ⟨j3, j4⟩, j5, j6, j7⟩ := J
  have e : F' 35 = F 35 := j5 35 (by decide) (by decide) (by decide) (by decide)
  refine ⟨⟨j1, j2, ?_⟩, by omega, by omega, by rw [j7 39 (by decide)]; exact i6, by rw [j7 40 (by decide)]; exact i7⟩
  rw [e, j7 36 (by decide)]
  exact p_roU j3 j6 i3
-- one more version is kept
theorem g_lyK {F F' : Nat → Int} {V V' : Nat → Nat → Int} {k : Int} {s : Nat} {a b : Int} (I : g_ly F V k) (fs : F 35 = (s : Int)) (hk : F 35 ≤ k) (f : F' = m_u F 35 ((s : Int) + 1)) (r1 : ∀ r, r < 6 → V' 36 (6 * s + r) = V 24 r) (r2 : ∀ j, j < 6 * s → V' 36 j = V 36 j) (pa : V' 39 = m_u (V 39) s a) (pb : V' 40 = m_u (V 40) s b) (vo : ∀ K, K ≠ 36 → K ≠ 39 → K ≠ 40 → V' K = V K) : g_ly F' V' k := by
  obtain ⟨⟨i1, i2, i3⟩, i4, i5, i6, i7⟩ := I
  have f17 : F' 17 = F 17 := by rw [f, m_uN _ _ _ _ (by decide)]
  have f35 : F' 35 = (s : Int) + 1 := by rw [f, m_uE]
  have v22 : V' 22 = V 22 := vo 22 (by decide) (by decide) (by decide)
  refine ⟨⟨by rw [f17, v22, vo 23 (by decide) (by decide) (by decide)]; exact i1, by rw [f17, v22, vo 24 (by decide) (by decide) (by decide)]; exact i2, fun w r hw h6 => ?_⟩, by omega, by omega, by rw [pa, m_uN _ _ _ _ (by omega)]; exact i6, by rw [pb, m_uN _ _ _ _ (by omega)]; exact i7⟩
  rw [f17, v22]
  by_cases e : w = s
  · rw [e, r1 r h6]
    exact i2 r h6
  · rw [r2 _ (by omega)]
    exact i3 w r (by omega) h6
-- the pure run beside the rows
theorem rs_z {F : Nat → Int} {V : Nat → Nat → Int} {S : PSt} (I : rs_of F V S) : rs_of (m_u F 19 0) V (ps_le S 0) := by
  obtain ⟨i1, i2, i3, i4⟩ := I
  refine ⟨by rw [m_uN _ _ _ _ (by decide)]; exact i1, m_uE _ _ _, ⟨Int.le_refl _, ?_⟩, i4⟩
  show (0 : Int) ≤ (ps_n S : Int)
  omega
def ly_J (T : Nat → Int) (n : Nat) (F : Nat → Int) (V : Nat → Nat → Int) (k : Nat) (c : Int) : Prop := k ≤ n ∧ ((∀ q, q < n → av_1 (T (4 * q)) (T (4 * q + 2)) (T (4 * q + 3))) → ry_of (m_u F 19 0) V (ry_z (ry_run T k).1) ∧ ry_t (ry_run T k).1 ≤ (k : Int) ∧ ((c ≠ 0 ∧ (ry_run T k).2 = true ∧ ry_v (ry_run T k).1 = k + 1) ∨ (c = 0 ∧ (ry_run T k).2 = false)))
def ly_E (T : Nat → Int) (n : Nat) (F : Nat → Int) (V : Nat → Nat → Int) : Prop := (∀ q, q < n → av_1 (T (4 * q)) (T (4 * q + 2)) (T (4 * q + 3))) → ry_of (m_u F 19 0) V (ry_z (ry_run T n).1)
-- from which versions each comes
def fr_I (Y : RYt) : Prop := ∀ u, u < ry_v Y → (-1 ≤ ry_a Y u ∧ ry_a Y u < (u : Int)) ∧ (-1 ≤ ry_b Y u ∧ ry_b Y u < (u : Int))
def ly_H (T : Nat → Int) (n : Nat) (L : Nat → Int64) (k : Nat) : Prop := (∀ q, q < n → av_1 (T (4 * q)) (T (4 * q + 2)) (T (4 * q + 3))) → fr_I (ry_run T k).1 ∧ fro_of L (ry_run T k).1
theorem fo_C {L L' : Nat → Int64} {s : Nat} {a : Int} (e : ∀ j, j ≠ s → L' j = L j) (h : a < (s : Int)) : fo_of L' a = fo_of L a := by
  unfold fo_of
  split
  · exact e _ (by omega)
  · rfl
theorem ly_HK {Z : RYt} {L L' : Nat → Int64} {X : PSt × (Nat → Int) × Int} {k : Nat} {w v a p q : Int} (I : fr_I Z) (fr : fro_of L Z) (ep : p = if w = 0 then -1 else v) (eq : q = if w = 2 then a else -1) (p0 : -1 ≤ p) (p1 : p < (ry_v Z : Int)) (q0 : -1 ≤ q) (q1 : q < (ry_v Z : Int)) (k1 : ∀ j, j ≠ ry_v Z → L' j = L j) (k2 : L' (ry_v Z) = bt (ry_v Z : Int) ||| fo_of L p ||| fo_of L q) : fr_I (ry_kp Z k w v a X) ∧ fro_of L' (ry_kp Z k w v a X) := by
  have ea : ∀ u, ry_a (ry_kp Z k w v a X) u = m_u (ry_a Z) (ry_v Z) p u := fun u => by rw [ep]; rfl
  have eb : ∀ u, ry_b (ry_kp Z k w v a X) u = m_u (ry_b Z) (ry_v Z) q u := fun u => by rw [eq]; rfl
  refine ⟨fun u hu => ?_, fun u hu => ?_⟩
  · have hu : u < ry_v Z + 1 := hu
    rw [ea, eb]
    by_cases e : u = ry_v Z
    · rw [e, m_uE, m_uE]
      exact ⟨⟨p0, p1⟩, q0, q1⟩
    · rw [m_uN _ _ _ _ e, m_uN _ _ _ _ e]
      exact I u (by omega)
  · have hu : u < ry_v Z + 1 := hu
    rw [ea, eb]
    by_cases e : u = ry_v Z
    · rw [e, m_uE, m_uE, fo_C k1 p1, fo_C k1 q1]
      exact k2
    · have i := I u (by omega)
      rw [m_uN _ _ _ _ e, m_uN _ _ _ _ e, fo_C k1 (by omega), fo_C k1 (by omega), k1 u e]
      exact fr u (by omega)
theorem ry_ofK {F F7 F9 : Nat → Int} {V V8 V9 : Nat → Nat → Int} {Z : RYt} {X : PSt × (Nat → Int) × Int} {k : Nat} {w v a p q : Int} (y : ry_of F V Z) (ev : ry_v Z = k + 1) (rx : rs_of F7 V8 X.1) (hx : hp6 (V8 24) X.2.1) (tx : F7 18 = X.2.2) (t0 : 0 ≤ X.2.2) (v36 : V8 36 = V 36) (v37 : V8 37 = m_u (V 37) k (F7 17 - F 17)) (v38 : V8 38 = m_u (V 38) k (F7 19)) (v39 : V8 39 = V 39) (v40 : V8 40 = V 40) (ep : p = if w = 0 then -1 else v) (eq : q = if w = 2 then a else -1) (f9 : F9 = m_u F7 35 (((k + 1 : Nat) : Int) + 1)) (k1 : ∀ r, r < 6 → V9 36 (6 * (k + 1) + r) = V8 24 r) (k2 : ∀ j, j < 6 * (k + 1) → V9 36 j = V8 36 j) (k3 : V9 39 = m_u (V8 39) (k + 1) p) (k4 : V9 40 = m_u (V8 40) (k + 1) q) (k5 : ∀ K, K ≠ 36 → K ≠ 39 → K ≠ 40 → V9 K = V8 K) : ry_of (m_u F9 19 0) V9 (ry_z (ry_kp Z k w v a X)) := by
  obtain ⟨y1, y2, y3, y4, y5, y6⟩ := y
  have r9 : rs_of F9 V9 X.1 := rs_ofV rx (by rw [f9, m_uN _ _ _ _ (by decide)]) (by rw [f9, m_uN _ _ _ _ (by decide)]) (k5 20 (by decide) (by decide) (by decide)) (k5 21 (by decide) (by decide) (by decide)) (k5 22 (by decide) (by decide) (by decide)) (k5 23 (by decide) (by decide) (by decide))
  have e1 : ry_v (ry_z (ry_kp Z k w v a X)) = k + 1 + 1 := by
    show ry_v Z + 1 = _
    rw [ev]
  refine ⟨rs_z r9, ⟨?_, t0⟩, ?_, fun j hj => ?_, fun u hu => ?_, fun j hj => ?_⟩
  · rw [m_uN _ _ _ _ (by decide), f9, m_uN _ _ _ _ (by decide)]
    exact tx
  · rw [m_uN _ _ _ _ (by decide), f9, m_uE, e1]
    omega
  · rw [e1] at hj
    show V9 36 j = if 6 * ry_v Z ≤ j ∧ j < 6 * ry_v Z + 6 then X.2.1 (j - 6 * ry_v Z) else ry_r Z j
    rw [ev]
    by_cases h : 6 * (k + 1) ≤ j
    · rw [if_pos ⟨h, by omega⟩]
      have := k1 (j - 6 * (k + 1)) (by omega)
      rw [show 6 * (k + 1) + (j - 6 * (k + 1)) = j by omega] at this
      rw [this]
      exact hx _ (by omega)
    · rw [if_neg (fun z => h z.1), k2 j (by omega), v36]
      exact y4 j (by omega)
  · rw [e1] at hu
    show V9 39 u = m_u (ry_a Z) (ry_v Z) (if w = 0 then -1 else v) u ∧ V9 40 u = m_u (ry_b Z) (ry_v Z) (if w = 2 then a else -1) u
    rw [k3, k4, v39, v40, ev, ← ep, ← eq]
    by_cases h : u = k + 1
    · rw [h, m_uE, m_uE, m_uE, m_uE]
      exact ⟨rfl, rfl⟩
    · rw [m_uN _ _ _ _ h, m_uN _ _ _ _ h, m_uN _ _ _ _ h, m_uN _ _ _ _ h]
      exact y5 u (by omega)
  · rw [e1] at hj
    show V9 37 j = m_u (ry_m Z) k ((ps_n X.1 : Int) - (ps_n (ry_s Z) : Int)) j ∧ V9 38 j = m_u (ry_l Z) k (ps_l X.1) j
    rw [k5 37 (by decide) (by decide) (by decide), k5 38 (by decide) (by decide) (by decide), v37, v38, rx.1, rx.2.1, y1.1]
    by_cases h : j = k
    · rw [h, m_uE, m_uE, m_uE, m_uE]
      exact ⟨rfl, rfl⟩
    · rw [m_uN _ _ _ _ h, m_uN _ _ _ _ h, m_uN _ _ _ _ h, m_uN _ _ _ _ h]
      exact y6 j (by omega)
section
variable {lv : List (Nat × Value)} {Q : Option Value → MH → Prop} {W : List (Nat × Nat)} {ρ : Nat → Nat} {m : Nat} {A : Nat → Nat} {h0 h : MH} {F : Nat → Int} {V : Nat → Nat → Int} {G : Nat → Nat → Int64}
theorem s_lay0 {r : Int} (M : MX 49 W ρ m A h0 h F V G) (e0 : m_lk lv 0 = some (.ref m)) {lx1 : Int32} (e1 : m_lk lv 1 = some (.int lx1)) (lq1 : lx1.toInt = r) 
    (g0 : HJ 188 0 (lv_args 0 [.ref m, .int lx1]) [] h (fun v h' => HJ 201 5 lv (v.toList ++ []) h' Q))
    : HJ 201 0 lv [] h Q := by
  refine hI_al (k := 0) rfl e0 rfl ?_ -- 0
  refine hI_il (k := 1) rfl e1 rfl ?_ -- 1
  refine hM_iv M (by decide) rfl rfl (by decide) (as := [.int lx1]) (r := []) rfl rfl (by decide +kernel) rfl (by decide +kernel) rfl rfl rfl rfl rfl ?_ -- 2
  exact g0 
theorem s_lay5 {r z : Int} (M : MX 49 W ρ m A h0 h F V G) (e0 : m_lk lv 0 = some (.ref m)) {lx1 : Int32} (e1 : m_lk lv 1 = some (.int lx1)) (lq1 : lx1.toInt = r) {sx0 : Int32} (sq0 : sx0.toInt = z) (hw : d_sub [(49, 17), (49, 18), (49, 35)] W = true)
    (g0 : ∀ h2 : MH, ∀ F2 : Nat → Int, F2 = m_u F 17 (0) → ∀ h4 : MH, ∀ F4 : Nat → Int, F4 = m_u F2 18 (0) → ∀ h6 : MH, ∀ F6 : Nat → Int, F6 = m_u F4 35 (0) → MX 49 W ρ m A h0 h6 F6 V G → z ≠ 0 → HJ 202 0 (lv_args 0 [.ref m]) [] h6 (fun v h' => HJ 201 29 lv (v.toList ++ []) h' Q))
    (g1 : ∀ x7 : Int32, x7.toInt = 0 → z = 0 → Q (some (.int x7)) h)
    : HJ 201 5 lv [.int sx0] h Q := by
  refine hM_zne (off := 5) (t := 10) rfl sq0 (by decide) rfl (fun c5 => ?_) (fun c5 => ?_) -- 5
  · refine hI_al (k := 0) rfl e0 rfl ?_ -- 10
    refine hM_ic (n := 0) rfl (by decide) rfl (fun x1 q1 => ?_) -- 11
    refine hM_pi M (by decide) ok_49 rfl rfl (k := 17) (c := 9) (lo := 0) (hi := 16000) rfl rfl ⟨by decide, by decide +kernel, rfl⟩ rfl (d_subm hw (by decide +kernel)) q1 (by omega) (by omega) rfl (fun h2 F2 f2 M2 => ?_) -- 12
    refine hI_al (k := 0) rfl e0 rfl ?_ -- 15
    refine hM_ic (n := 0) rfl (by decide) rfl (fun x3 q3 => ?_) -- 16
    refine hM_pi M2 (by decide) ok_49 rfl rfl (k := 18) (c := 9) (lo := (-2147483648)) (hi := 2147483647) rfl rfl ⟨by decide, by decide +kernel, rfl⟩ rfl (d_subm hw (by decide +kernel)) q3 (by omega) (by omega) rfl (fun h4 F4 f4 M4 => ?_) -- 17
    refine hI_al (k := 0) rfl e0 rfl ?_ -- 20
    refine hM_ic (n := 0) rfl (by decide) rfl (fun x5 q5 => ?_) -- 21
    refine hM_pi M4 (by decide) ok_49 rfl rfl (k := 35) (c := 9) (lo := 0) (hi := 41) rfl rfl ⟨by decide, by decide +kernel, rfl⟩ rfl (d_subm hw (by decide +kernel)) q5 (by omega) (by omega) rfl (fun h6 F6 f6 M6 => ?_) -- 22
    refine hI_al (k := 0) rfl e0 rfl ?_ -- 25
    refine hM_iv M6 (by decide) rfl rfl (by decide) (as := []) (r := []) rfl rfl (by decide +kernel) rfl (by decide +kernel) rfl rfl rfl rfl rfl ?_ -- 26
    exact g0 h2 F2 f2 h4 F4 f4 h6 F6 f6 M6 c5
  · refine hM_ic (n := 0) rfl (by decide) rfl (fun x7 q7 => ?_) -- 8
    refine hM_rb rfl rfl q7 (by omega) (by omega) ?_ -- 9
    exact g1 x7 q7 c5
theorem s_lay29 {r : Int} (M : MX 49 W ρ m A h0 h F V G) (e0 : m_lk lv 0 = some (.ref m)) {lx1 : Int32} (e1 : m_lk lv 1 = some (.int lx1)) (lq1 : lx1.toInt = r) 
    (g0 : ∀ x1 : Int32, x1.toInt = (-1) → ∀ x2 : Int32, x2.toInt = (-1) → HJ 203 0 (lv_args 0 [.ref m, .int x1, .int x2]) [] h (fun v h' => HJ 201 35 lv (v.toList ++ []) h' Q))
    : HJ 201 29 lv [] h Q := by
  refine hI_al (k := 0) rfl e0 rfl ?_ -- 29
  refine hM_ic (n := (-1)) rfl (by decide) rfl (fun x1 q1 => ?_) -- 30
  refine hM_ic (n := (-1)) rfl (by decide) rfl (fun x2 q2 => ?_) -- 31
  refine hM_iv M (by decide) rfl rfl (by decide) (as := [.int x1, .int x2]) (r := []) rfl rfl (by decide +kernel) rfl (by decide +kernel) rfl rfl rfl rfl rfl ?_ -- 32
  exact g0 x1 q1 x2 q2
theorem s_lay35 {r : Int} (M : MX 49 W ρ m A h0 h F V G) (e0 : m_lk lv 0 = some (.ref m)) {lx1 : Int32} (e1 : m_lk lv 1 = some (.int lx1)) (lq1 : lx1.toInt = r) 
    (g0 : ∀ x1 : Int32, x1.toInt = 1 → ∀ x3 : Int32, x3.toInt = 0 → ∀ lv4 : List (Nat × Value), m_lk lv4 0 = some (.ref m) → m_lk lv4 1 = some (.int lx1) → m_lk lv4 2 = some (.int x1) → m_lk lv4 3 = some (.int x3) → HJ 201 39 lv4 [] h Q)
    : HJ 201 35 lv [] h Q := by
  refine hM_ic (n := 1) rfl (by decide) rfl (fun x1 q1 => ?_) -- 35
  refine hM_si (k := 2) rfl (by decide +kernel) rfl (fun lv2 e2_2 u2 => ?_) -- 36
  have e2_0 := u2 0 _ (by decide) (Or.inl rfl) e0
  have e2_1 := u2 1 _ (by decide) (Or.inl rfl) e1
  refine hM_ic (n := 0) rfl (by decide) rfl (fun x3 q3 => ?_) -- 37
  refine hM_si (k := 3) rfl (by decide +kernel) rfl (fun lv4 e4_3 u4 => ?_) -- 38
  have e4_0 := u4 0 _ (by decide) (Or.inl rfl) e2_0
  have e4_1 := u4 1 _ (by decide) (Or.inl rfl) e2_1
  have e4_2 := u4 2 _ (by decide) (Or.inl rfl) e2_2
  exact g0 x1 q1 x3 q3 lv4 e4_0 e4_1 e4_2 e4_3
theorem s_lay39 {r c k : Int} (M : MX 49 W ρ m A h0 h F V G) (e0 : m_lk lv 0 = some (.ref m)) {lx1 : Int32} (e1 : m_lk lv 1 = some (.int lx1)) (lq1 : lx1.toInt = r) {lx2 : Int32} (e2 : m_lk lv 2 = some (.int lx2)) (lq2 : lx2.toInt = c) {lx3 : Int32} (e3 : m_lk lv 3 = some (.int lx3)) (lq3 : lx3.toInt = k) 
    (g0 : HJ 198 0 (lv_args 0 [.ref m, .int lx1]) [] h (fun v h' => HJ 201 45 lv (v.toList ++ [.int lx3]) h' Q))
    : HJ 201 39 lv [] h Q := by
  refine hI_il (k := 3) rfl e3 rfl ?_ -- 39
  refine hI_al (k := 0) rfl e0 rfl ?_ -- 40
  refine hI_il (k := 1) rfl e1 rfl ?_ -- 41
  refine hM_iv M (by decide) rfl rfl (by decide) (as := [.int lx1]) (r := [.int lx3]) rfl rfl (by decide +kernel) rfl (by decide +kernel) rfl rfl rfl rfl rfl ?_ -- 42
  exact g0 
theorem s_lay45 {r c k n : Int} (M : MX 49 W ρ m A h0 h F V G) (e0 : m_lk lv 0 = some (.ref m)) {lx1 : Int32} (e1 : m_lk lv 1 = some (.int lx1)) (lq1 : lx1.toInt = r) {lx2 : Int32} (e2 : m_lk lv 2 = some (.int lx2)) (lq2 : lx2.toInt = c) {lx3 : Int32} (e3 : m_lk lv 3 = some (.int lx3)) (lq3 : lx3.toInt = k) {sx0 : Int32} (sq0 : sx0.toInt = k) {sx1 : Int32} (sq1 : sx1.toInt = n) (hw : d_sub [(49, 19)] W = true)
    (g0 : ∀ x1 : Int32, x1.toInt = 1 → k ≥ n → Q (some (.int x1)) h)
    (g1 : ∀ x2 : Int32, x2.toInt = 1 → k < n → c = 0 → Q (some (.int x2)) h)
    (g2 : ∀ x3 : Int32, x3.toInt = F 17 → ∀ h6 : MH, ∀ F6 : Nat → Int, F6 = m_u F 19 (0) → ∀ x7 : Int32, x7.toInt = 0 → ∀ lv4 : List (Nat × Value), MX 49 W ρ m A h0 h6 F6 V G → m_lk lv4 0 = some (.ref m) → m_lk lv4 1 = some (.int lx1) → m_lk lv4 2 = some (.int lx2) → m_lk lv4 3 = some (.int lx3) → m_lk lv4 4 = some (.int x3) → k < n → c ≠ 0 → 0 ≤ F 17 → F 17 ≤ 16000 → HJ 199 0 (lv_args 0 [.ref m, .int lx1, .int lx3, .int x7]) [] h6 (fun v h' => HJ 201 70 lv4 (v.toList ++ []) h' Q))
    : HJ 201 45 lv [.int sx1, .int sx0] h Q := by
  refine hM_cge (off := 124) (t := 169) rfl sq0 sq1 (by decide) rfl (fun c45 => ?_) (fun c45 => ?_) -- 45
  · refine hM_ic (n := 1) rfl (by decide) rfl (fun x1 q1 => ?_) -- 169
    refine hM_rb rfl rfl q1 (by omega) (by omega) ?_ -- 170
    exact g0 x1 q1 c45
  · refine hI_il (k := 2) rfl e2 rfl ?_ -- 48
    refine hM_zeq (off := 120) (t := 169) rfl lq2 (by decide) rfl (fun c49 => ?_) (fun c49 => ?_) -- 49
    · refine hM_ic (n := 1) rfl (by decide) rfl (fun x2 q2 => ?_) -- 169
      refine hM_rb rfl rfl q2 (by omega) (by omega) ?_ -- 170
      exact g1 x2 q2 c45 c49
    · refine hI_al (k := 0) rfl e0 rfl ?_ -- 52
      refine hM_gi M (by decide) rfl rfl rfl (k := 17) (c := 9) (lo := 0) (hi := 16000) rfl rfl rfl rfl rfl (fun x3 q3 a3 b3 => ?_) -- 53
      refine hM_si2 (k := 4) rfl (by decide +kernel) rfl (fun lv4 e4_4 u4 => ?_) -- 56
      have e4_0 := u4 0 _ (by decide) (Or.inl rfl) e0
      have e4_1 := u4 1 _ (by decide) (Or.inl rfl) e1
      have e4_2 := u4 2 _ (by decide) (Or.inl rfl) e2
      have e4_3 := u4 3 _ (by decide) (Or.inl rfl) e3
      refine hI_al (k := 0) rfl e4_0 rfl ?_ -- 58
      refine hM_ic (n := 0) rfl (by decide) rfl (fun x5 q5 => ?_) -- 59
      refine hM_pi M (by decide) ok_49 rfl rfl (k := 19) (c := 9) (lo := (-2147483648)) (hi := 2147483647) rfl rfl ⟨by decide, by decide +kernel, rfl⟩ rfl (d_subm hw (by decide +kernel)) q5 (by omega) (by omega) rfl (fun h6 F6 f6 M6 => ?_) -- 60
      refine hI_al (k := 0) rfl e4_0 rfl ?_ -- 63
      refine hI_il (k := 1) rfl e4_1 rfl ?_ -- 64
      refine hI_il (k := 3) rfl e4_3 rfl ?_ -- 65
      refine hM_ic (n := 0) rfl (by decide) rfl (fun x7 q7 => ?_) -- 66
      refine hM_iv M6 (by decide) rfl rfl (by decide) (as := [.int lx1, .int lx3, .int x7]) (r := []) rfl rfl (by decide +kernel) rfl (by decide +kernel) rfl rfl rfl rfl rfl ?_ -- 67
      exact g2 x3 q3 h6 F6 f6 x7 q7 lv4 M6 e4_0 e4_1 e4_2 e4_3 e4_4 c45 c49 a3 b3
theorem s_lay70 {r c k b w : Int} (M : MX 49 W ρ m A h0 h F V G) (e0 : m_lk lv 0 = some (.ref m)) {lx1 : Int32} (e1 : m_lk lv 1 = some (.int lx1)) (lq1 : lx1.toInt = r) {lx2 : Int32} (e2 : m_lk lv 2 = some (.int lx2)) (lq2 : lx2.toInt = c) {lx3 : Int32} (e3 : m_lk lv 3 = some (.int lx3)) (lq3 : lx3.toInt = k) {lx4 : Int32} (e4 : m_lk lv 4 = some (.int lx4)) (lq4 : lx4.toInt = b) {sx0 : Int32} (sq0 : sx0.toInt = w) 
    (g0 : ∀ x2 : Int32, x2.toInt = 1 → ∀ lv1 : List (Nat × Value), m_lk lv1 0 = some (.ref m) → m_lk lv1 1 = some (.int lx1) → m_lk lv1 2 = some (.int lx2) → m_lk lv1 3 = some (.int lx3) → m_lk lv1 4 = some (.int lx4) → m_lk lv1 5 = some (.int sx0) → HJ 199 0 (lv_args 0 [.ref m, .int lx1, .int lx3, .int x2]) [] h (fun v h' => HJ 201 79 lv1 (v.toList ++ []) h' Q))
    : HJ 201 70 lv [.int sx0] h Q := by
  refine hM_si2 (k := 5) rfl (by decide +kernel) rfl (fun lv1 e1_5 u1 => ?_) -- 70
  have e1_0 := u1 0 _ (by decide) (Or.inl rfl) e0
  have e1_1 := u1 1 _ (by decide) (Or.inl rfl) e1
  have e1_2 := u1 2 _ (by decide) (Or.inl rfl) e2
  have e1_3 := u1 3 _ (by decide) (Or.inl rfl) e3
  have e1_4 := u1 4 _ (by decide) (Or.inl rfl) e4
  refine hI_al (k := 0) rfl e1_0 rfl ?_ -- 72
  refine hI_il (k := 1) rfl e1_1 rfl ?_ -- 73
  refine hI_il (k := 3) rfl e1_3 rfl ?_ -- 74
  refine hM_ic (n := 1) rfl (by decide) rfl (fun x2 q2 => ?_) -- 75
  refine hM_iv M (by decide) rfl rfl (by decide) (as := [.int lx1, .int lx3, .int x2]) (r := []) rfl rfl (by decide +kernel) rfl (by decide +kernel) rfl rfl rfl rfl rfl ?_ -- 76
  exact g0 x2 q2 lv1 e1_0 e1_1 e1_2 e1_3 e1_4 e1_5
theorem s_lay79 {r c k b w v : Int} (M : MX 49 W ρ m A h0 h F V G) (e0 : m_lk lv 0 = some (.ref m)) {lx1 : Int32} (e1 : m_lk lv 1 = some (.int lx1)) (lq1 : lx1.toInt = r) {lx2 : Int32} (e2 : m_lk lv 2 = some (.int lx2)) (lq2 : lx2.toInt = c) {lx3 : Int32} (e3 : m_lk lv 3 = some (.int lx3)) (lq3 : lx3.toInt = k) {lx4 : Int32} (e4 : m_lk lv 4 = some (.int lx4)) (lq4 : lx4.toInt = b) {lx5 : Int32} (e5 : m_lk lv 5 = some (.int lx5)) (lq5 : lx5.toInt = w) {sx0 : Int32} (sq0 : sx0.toInt = v) 
    (g0 : ∀ x2 : Int32, x2.toInt = 2 → ∀ lv1 : List (Nat × Value), m_lk lv1 0 = some (.ref m) → m_lk lv1 1 = some (.int lx1) → m_lk lv1 2 = some (.int lx2) → m_lk lv1 3 = some (.int lx3) → m_lk lv1 4 = some (.int lx4) → m_lk lv1 5 = some (.int lx5) → m_lk lv1 6 = some (.int sx0) → HJ 199 0 (lv_args 0 [.ref m, .int lx1, .int lx3, .int x2]) [] h (fun v h' => HJ 201 93 lv1 (v.toList ++ [.int sx0, .int lx5, .ref m]) h' Q))
    : HJ 201 79 lv [.int sx0] h Q := by
  refine hM_si2 (k := 6) rfl (by decide +kernel) rfl (fun lv1 e1_6 u1 => ?_) -- 79
  have e1_0 := u1 0 _ (by decide) (Or.inl rfl) e0
  have e1_1 := u1 1 _ (by decide) (Or.inl rfl) e1
  have e1_2 := u1 2 _ (by decide) (Or.inl rfl) e2
  have e1_3 := u1 3 _ (by decide) (Or.inl rfl) e3
  have e1_4 := u1 4 _ (by decide) (Or.inl rfl) e4
  have e1_5 := u1 5 _ (by decide) (Or.inl rfl) e5
  refine hI_al (k := 0) rfl e1_0 rfl ?_ -- 81
  refine hI_il2 (k := 5) rfl e1_5 rfl ?_ -- 82
  refine hI_il2 (k := 6) rfl e1_6 rfl ?_ -- 84
  refine hI_al (k := 0) rfl e1_0 rfl ?_ -- 86
  refine hI_il (k := 1) rfl e1_1 rfl ?_ -- 87
  refine hI_il (k := 3) rfl e1_3 rfl ?_ -- 88
  refine hM_ic (n := 2) rfl (by decide) rfl (fun x2 q2 => ?_) -- 89
  refine hM_iv M (by decide) rfl rfl (by decide) (as := [.int lx1, .int lx3, .int x2]) (r := [.int sx0, .int lx5, .ref m]) rfl rfl (by decide +kernel) rfl (by decide +kernel) rfl rfl rfl rfl rfl ?_ -- 90
  exact g0 x2 q2 lv1 e1_0 e1_1 e1_2 e1_3 e1_4 e1_5 e1_6
theorem s_lay93 {r c k b w v x : Int} (M : MX 49 W ρ m A h0 h F V G) (e0 : m_lk lv 0 = some (.ref m)) {lx1 : Int32} (e1 : m_lk lv 1 = some (.int lx1)) (lq1 : lx1.toInt = r) {lx2 : Int32} (e2 : m_lk lv 2 = some (.int lx2)) (lq2 : lx2.toInt = c) {lx3 : Int32} (e3 : m_lk lv 3 = some (.int lx3)) (lq3 : lx3.toInt = k) {lx4 : Int32} (e4 : m_lk lv 4 = some (.int lx4)) (lq4 : lx4.toInt = b) {lx5 : Int32} (e5 : m_lk lv 5 = some (.int lx5)) (lq5 : lx5.toInt = w) {lx6 : Int32} (e6 : m_lk lv 6 = some (.int lx6)) (lq6 : lx6.toInt = v) {sx1 : Int32} (sq1 : sx1.toInt = w) {sx2 : Int32} (sq2 : sx2.toInt = v) {sx3 : Int32} (sq3 : sx3.toInt = x) 
    (g0 : ∀ x1 : Int32, x1.toInt = 3 → HJ 199 0 (lv_args 0 [.ref m, .int lx1, .int lx3, .int x1]) [] h (fun v h' => HJ 201 100 lv (v.toList ++ [.int sx3, .int sx2, .int sx1, .ref m]) h' Q))
    : HJ 201 93 lv [.int sx3, .int sx2, .int sx1, .ref m] h Q := by
  refine hI_al (k := 0) rfl e0 rfl ?_ -- 93
  refine hI_il (k := 1) rfl e1 rfl ?_ -- 94
  refine hI_il (k := 3) rfl e3 rfl ?_ -- 95
  refine hM_ic (n := 3) rfl (by decide) rfl (fun x1 q1 => ?_) -- 96
  refine hM_iv M (by decide) rfl rfl (by decide) (as := [.int lx1, .int lx3, .int x1]) (r := [.int sx3, .int sx2, .int sx1, .ref m]) rfl rfl (by decide +kernel) rfl (by decide +kernel) rfl rfl rfl rfl rfl ?_ -- 97
  exact g0 x1 q1
theorem s_lay100 {r c k b w v x y : Int} (M : MX 49 W ρ m A h0 h F V G) (e0 : m_lk lv 0 = some (.ref m)) {lx1 : Int32} (e1 : m_lk lv 1 = some (.int lx1)) (lq1 : lx1.toInt = r) {lx2 : Int32} (e2 : m_lk lv 2 = some (.int lx2)) (lq2 : lx2.toInt = c) {lx3 : Int32} (e3 : m_lk lv 3 = some (.int lx3)) (lq3 : lx3.toInt = k) {lx4 : Int32} (e4 : m_lk lv 4 = some (.int lx4)) (lq4 : lx4.toInt = b) {lx5 : Int32} (e5 : m_lk lv 5 = some (.int lx5)) (lq5 : lx5.toInt = w) {lx6 : Int32} (e6 : m_lk lv 6 = some (.int lx6)) (lq6 : lx6.toInt = v) {sx1 : Int32} (sq1 : sx1.toInt = w) {sx2 : Int32} (sq2 : sx2.toInt = v) {sx3 : Int32} (sq3 : sx3.toInt = x) {sx4 : Int32} (sq4 : sx4.toInt = y) 
    (g0 : HJ 204 0 (lv_args 0 [.ref m, .int sx1, .int sx2, .int sx3, .int sx4]) [] h (fun v h' => HJ 201 103 lv (v.toList ++ []) h' Q))
    : HJ 201 100 lv [.int sx4, .int sx3, .int sx2, .int sx1, .ref m] h Q := by
  refine hM_iv M (by decide) rfl rfl (by decide) (as := [.int sx1, .int sx2, .int sx3, .int sx4]) (r := []) rfl rfl (by decide +kernel) rfl (by decide +kernel) rfl rfl rfl rfl rfl ?_ -- 100
  exact g0 
theorem s_lay103 {r c k b w v z : Int} (M : MX 49 W ρ m A h0 h F V G) (e0 : m_lk lv 0 = some (.ref m)) {lx1 : Int32} (e1 : m_lk lv 1 = some (.int lx1)) (lq1 : lx1.toInt = r) {lx2 : Int32} (e2 : m_lk lv 2 = some (.int lx2)) (lq2 : lx2.toInt = c) {lx3 : Int32} (e3 : m_lk lv 3 = some (.int lx3)) (lq3 : lx3.toInt = k) {lx4 : Int32} (e4 : m_lk lv 4 = some (.int lx4)) (lq4 : lx4.toInt = b) {lx5 : Int32} (e5 : m_lk lv 5 = some (.int lx5)) (lq5 : lx5.toInt = w) {lx6 : Int32} (e6 : m_lk lv 6 = some (.int lx6)) (lq6 : lx6.toInt = v) {sx0 : Int32} (sq0 : sx0.toInt = z) (k0 : 0 ≤ k) (k1 : k ≤ 39) (b0 : 0 ≤ b) (b1 : b ≤ 16000)(hw : d_sub [(72, 1001), (73, 1001)] W = true)
    (g0 : ∀ x2 : Int32, x2.toInt = k + 1 → ∀ lv2 : List (Nat × Value), m_lk lv2 0 = some (.ref m) → m_lk lv2 1 = some (.int lx1) → m_lk lv2 2 = some (.int sx0) → m_lk lv2 3 = some (.int x2) → z = 0 → HJ 201 39 lv2 [] h Q)
    (g1 : ∀ h5 : MH, ∀ V5 : Nat → Nat → Int, V5 = m_u V 37 (m_u (V 37) (k).toNat ((F 17) - b)) → ∀ h7 : MH, ∀ V7 : Nat → Nat → Int, V7 = m_u V5 38 (m_u (V5 38) (k).toNat (F 19)) → ∀ x9 : Int32, x9.toInt = (-1) → ∀ lv1 : List (Nat × Value), MX 49 W ρ m A h0 h7 F V7 G → m_lk lv1 0 = some (.ref m) → m_lk lv1 1 = some (.int lx1) → m_lk lv1 2 = some (.int sx0) → m_lk lv1 3 = some (.int lx3) → z ≠ 0 → 0 ≤ F 17 → F 17 ≤ 16000 → (-2147483648) ≤ F 19 → F 19 ≤ 2147483647 → w ≠ 0 → w ≠ 2 → HJ 203 0 (lv_args 0 [.ref m, .int lx6, .int x9]) [] h7 (fun v h' => HJ 201 163 lv1 (v.toList ++ []) h' Q))
    (g2 : ∀ h5 : MH, ∀ V5 : Nat → Nat → Int, V5 = m_u V 37 (m_u (V 37) (k).toNat ((F 17) - b)) → ∀ h7 : MH, ∀ V7 : Nat → Nat → Int, V7 = m_u V5 38 (m_u (V5 38) (k).toNat (F 19)) → ∀ x10 : Int32, x10.toInt = 2 → ∀ lv1 : List (Nat × Value), MX 49 W ρ m A h0 h7 F V7 G → m_lk lv1 0 = some (.ref m) → m_lk lv1 1 = some (.int lx1) → m_lk lv1 2 = some (.int sx0) → m_lk lv1 3 = some (.int lx3) → z ≠ 0 → 0 ≤ F 17 → F 17 ≤ 16000 → (-2147483648) ≤ F 19 → F 19 ≤ 2147483647 → w ≠ 0 → w = 2 → HJ 199 0 (lv_args 0 [.ref m, .int lx1, .int lx3, .int x10]) [] h7 (fun v h' => HJ 201 156 lv1 (v.toList ++ [.int lx6, .ref m]) h' Q))
    (g3 : ∀ h5 : MH, ∀ V5 : Nat → Nat → Int, V5 = m_u V 37 (m_u (V 37) (k).toNat ((F 17) - b)) → ∀ h7 : MH, ∀ V7 : Nat → Nat → Int, V7 = m_u V5 38 (m_u (V5 38) (k).toNat (F 19)) → ∀ x11 : Int32, x11.toInt = (-1) → ∀ x13 : Int32, x13.toInt = (-1) → ∀ lv1 : List (Nat × Value), MX 49 W ρ m A h0 h7 F V7 G → m_lk lv1 0 = some (.ref m) → m_lk lv1 1 = some (.int lx1) → m_lk lv1 2 = some (.int sx0) → m_lk lv1 3 = some (.int lx3) → z ≠ 0 → 0 ≤ F 17 → F 17 ≤ 16000 → (-2147483648) ≤ F 19 → F 19 ≤ 2147483647 → w = 0 → w ≠ 2 → HJ 203 0 (lv_args 0 [.ref m, .int x11, .int x13]) [] h7 (fun v h' => HJ 201 163 lv1 (v.toList ++ []) h' Q))
    (g4 : ∀ h5 : MH, ∀ V5 : Nat → Nat → Int, V5 = m_u V 37 (m_u (V 37) (k).toNat ((F 17) - b)) → ∀ h7 : MH, ∀ V7 : Nat → Nat → Int, V7 = m_u V5 38 (m_u (V5 38) (k).toNat (F 19)) → ∀ x11 : Int32, x11.toInt = (-1) → ∀ x14 : Int32, x14.toInt = 2 → ∀ lv1 : List (Nat × Value), MX 49 W ρ m A h0 h7 F V7 G → m_lk lv1 0 = some (.ref m) → m_lk lv1 1 = some (.int lx1) → m_lk lv1 2 = some (.int sx0) → m_lk lv1 3 = some (.int lx3) → z ≠ 0 → 0 ≤ F 17 → F 17 ≤ 16000 → (-2147483648) ≤ F 19 → F 19 ≤ 2147483647 → w = 0 → w = 2 → HJ 199 0 (lv_args 0 [.ref m, .int lx1, .int lx3, .int x14]) [] h7 (fun v h' => HJ 201 156 lv1 (v.toList ++ [.int x11, .ref m]) h' Q))
    : HJ 201 103 lv [.int sx0] h Q := by
  refine hM_si (k := 2) rfl (by decide +kernel) rfl (fun lv1 e1_2 u1 => ?_) -- 103
  have e1_0 := u1 0 _ (by decide) (Or.inl rfl) e0
  have e1_1 := u1 1 _ (by decide) (Or.inl rfl) e1
  have e1_3 := u1 3 _ (by decide) (Or.inl rfl) e3
  have e1_4 := u1 4 _ (by decide) (Or.inl rfl) e4
  have e1_5 := u1 5 _ (by decide) (Or.inl rfl) e5
  have e1_6 := u1 6 _ (by decide) (Or.inl rfl) e6
  refine hI_il (k := 2) rfl e1_2 rfl ?_ -- 104
  refine hM_zeq (off := 58) (t := 163) rfl sq0 (by decide) rfl (fun c105 => ?_) (fun c105 => ?_) -- 105
  · refine hM_inc (k := 3) (z := 1) rfl e1_3 lq3 (by decide) (by omega) (by omega) (by decide +kernel) rfl (fun lv2 x2 q2 e2_3 u2 => ?_) -- 163
    have e2_0 := u2 0 _ (by decide) (Or.inl rfl) e1_0
    have e2_1 := u2 1 _ (by decide) (Or.inl rfl) e1_1
    have e2_4 := u2 4 _ (by decide) (Or.inl rfl) e1_4
    have e2_5 := u2 5 _ (by decide) (Or.inl rfl) e1_5
    have e2_6 := u2 6 _ (by decide) (Or.inl rfl) e1_6
    have e2_2 := u2 2 _ (by decide) (Or.inl rfl) e1_2
    refine hI_go (pc' := 39) (off := (-127)) rfl (by decide) ?_ -- 166
    exact g0 x2 q2 lv2 e2_0 e2_1 e2_2 e2_3 c105
  · refine hI_al (k := 0) rfl e1_0 rfl ?_ -- 108
    refine hM_ga M (by decide) rfl rfl (k := 37) (c := 9) rfl rfl rfl (by decide +kernel) rfl ?_ -- 109
    refine hI_il (k := 3) rfl e1_3 rfl ?_ -- 112
    refine hI_al (k := 0) rfl e1_0 rfl ?_ -- 113
    refine hM_gi M (by decide) rfl rfl rfl (k := 17) (c := 9) (lo := 0) (hi := 16000) rfl rfl rfl rfl rfl (fun x3 q3 a3 b3 => ?_) -- 114
    refine hI_il2 (k := 4) rfl e1_4 rfl ?_ -- 117
    refine hM_sub rfl q3 lq4 (by omega) (by omega) rfl (fun x4 q4 => ?_) -- 119
    refine hM_is M (by decide) ok_49 (K := 37) (R2 := 72) (L := 40) (H := 40) (lo := (-2147483648)) (hi := 2147483647) rfl (by decide) rfl rfl rfl (fun _ => rfl) (d_subm hw (by decide +kernel)) rfl lq3 q4 (by omega) (by omega) (by omega) (by omega) rfl (fun h5 V5 f5 M5 => ?_) -- 120
    refine hI_al (k := 0) rfl e1_0 rfl ?_ -- 121
    refine hM_ga M5 (by decide) rfl rfl (k := 38) (c := 9) rfl rfl rfl (by decide +kernel) rfl ?_ -- 122
    refine hI_il (k := 3) rfl e1_3 rfl ?_ -- 125
    refine hI_al (k := 0) rfl e1_0 rfl ?_ -- 126
    refine hM_gi M5 (by decide) rfl rfl rfl (k := 19) (c := 9) (lo := (-2147483648)) (hi := 2147483647) rfl rfl rfl rfl rfl (fun x6 q6 a6 b6 => ?_) -- 127
    refine hM_is M5 (by decide) ok_49 (K := 38) (R2 := 73) (L := 40) (H := 40) (lo := (-2147483648)) (hi := 2147483647) rfl (by decide) rfl rfl rfl (fun _ => rfl) (d_subm hw (by decide +kernel)) rfl lq3 q6 (by omega) (by omega) (by omega) (by omega) rfl (fun h7 V7 f7 M7 => ?_) -- 130
    refine hI_al (k := 0) rfl e1_0 rfl ?_ -- 131
    refine hI_il2 (k := 5) rfl e1_5 rfl ?_ -- 132
    refine hM_zne (off := 7) (t := 141) rfl lq5 (by decide) rfl (fun c134 => ?_) (fun c134 => ?_) -- 134
    · refine hI_il2 (k := 6) rfl e1_6 rfl ?_ -- 141
      refine hI_il2 (k := 5) rfl e1_5 rfl ?_ -- 143
      refine hM_ic (n := 2) rfl (by decide) rfl (fun x8 q8 => ?_) -- 145
      refine hM_cne (off := 13) (t := 159) rfl lq5 q8 (by decide) rfl (fun c146 => ?_) (fun c146 => ?_) -- 146
      · refine hM_ic (n := (-1)) rfl (by decide) rfl (fun x9 q9 => ?_) -- 159
        refine hM_iv M7 (by decide) rfl rfl (by decide) (as := [.int lx6, .int x9]) (r := []) rfl rfl (by decide +kernel) rfl (by decide +kernel) rfl rfl rfl rfl rfl ?_ -- 160
        exact g1 h5 V5 f5 h7 V7 f7 x9 q9 lv1 M7 e1_0 e1_1 e1_2 e1_3 c105 a3 b3 a6 b6 c134 c146
      · refine hI_al (k := 0) rfl e1_0 rfl ?_ -- 149
        refine hI_il (k := 1) rfl e1_1 rfl ?_ -- 150
        refine hI_il (k := 3) rfl e1_3 rfl ?_ -- 151
        refine hM_ic (n := 2) rfl (by decide) rfl (fun x10 q10 => ?_) -- 152
        refine hM_iv M7 (by decide) rfl rfl (by decide) (as := [.int lx1, .int lx3, .int x10]) (r := [.int lx6, .ref m]) rfl rfl (by decide +kernel) rfl (by decide +kernel) rfl rfl rfl rfl rfl ?_ -- 153
        exact g2 h5 V5 f5 h7 V7 f7 x10 q10 lv1 M7 e1_0 e1_1 e1_2 e1_3 c105 a3 b3 a6 b6 c134 c146
    · refine hM_ic (n := (-1)) rfl (by decide) rfl (fun x11 q11 => ?_) -- 137
      refine hI_go (pc' := 143) (off := 5) rfl (by decide) ?_ -- 138
      refine hI_il2 (k := 5) rfl e1_5 rfl ?_ -- 143
      refine hM_ic (n := 2) rfl (by decide) rfl (fun x12 q12 => ?_) -- 145
      refine hM_cne (off := 13) (t := 159) rfl lq5 q12 (by decide) rfl (fun c146 => ?_) (fun c146 => ?_) -- 146
      · refine hM_ic (n := (-1)) rfl (by decide) rfl (fun x13 q13 => ?_) -- 159
        refine hM_iv M7 (by decide) rfl rfl (by decide) (as := [.int x11, .int x13]) (r := []) rfl rfl (by decide +kernel) rfl (by decide +kernel) rfl rfl rfl rfl rfl ?_ -- 160
        exact g3 h5 V5 f5 h7 V7 f7 x11 q11 x13 q13 lv1 M7 e1_0 e1_1 e1_2 e1_3 c105 a3 b3 a6 b6 c134 c146
      · refine hI_al (k := 0) rfl e1_0 rfl ?_ -- 149
        refine hI_il (k := 1) rfl e1_1 rfl ?_ -- 150
        refine hI_il (k := 3) rfl e1_3 rfl ?_ -- 151
        refine hM_ic (n := 2) rfl (by decide) rfl (fun x14 q14 => ?_) -- 152
        refine hM_iv M7 (by decide) rfl rfl (by decide) (as := [.int lx1, .int lx3, .int x14]) (r := [.int x11, .ref m]) rfl rfl (by decide +kernel) rfl (by decide +kernel) rfl rfl rfl rfl rfl ?_ -- 153
        exact g4 h5 V5 f5 h7 V7 f7 x11 q11 x14 q14 lv1 M7 e1_0 e1_1 e1_2 e1_3 c105 a3 b3 a6 b6 c134 c146
theorem s_lay156 {r c k p q : Int} (M : MX 49 W ρ m A h0 h F V G) (e0 : m_lk lv 0 = some (.ref m)) {lx1 : Int32} (e1 : m_lk lv 1 = some (.int lx1)) (lq1 : lx1.toInt = r) {lx2 : Int32} (e2 : m_lk lv 2 = some (.int lx2)) (lq2 : lx2.toInt = c) {lx3 : Int32} (e3 : m_lk lv 3 = some (.int lx3)) (lq3 : lx3.toInt = k) {sx1 : Int32} (sq1 : sx1.toInt = p) {sx2 : Int32} (sq2 : sx2.toInt = q) 
    (g0 : HJ 203 0 (lv_args 0 [.ref m, .int sx1, .int sx2]) [] h (fun v h' => HJ 201 163 lv (v.toList ++ []) h' Q))
    : HJ 201 156 lv [.int sx2, .int sx1, .ref m] h Q := by
  refine hI_go (pc' := 160) (off := 4) rfl (by decide) ?_ -- 156
  refine hM_iv M (by decide) rfl rfl (by decide) (as := [.int sx1, .int sx2]) (r := []) rfl rfl (by decide +kernel) rfl (by decide +kernel) rfl rfl rfl rfl rfl ?_ -- 160
  exact g0 
theorem s_lay163 {r c k : Int} (M : MX 49 W ρ m A h0 h F V G) (e0 : m_lk lv 0 = some (.ref m)) {lx1 : Int32} (e1 : m_lk lv 1 = some (.int lx1)) (lq1 : lx1.toInt = r) {lx2 : Int32} (e2 : m_lk lv 2 = some (.int lx2)) (lq2 : lx2.toInt = c) {lx3 : Int32} (e3 : m_lk lv 3 = some (.int lx3)) (lq3 : lx3.toInt = k) (k1 : k ≤ 39) (k0 : 0 ≤ k)
    (g0 : ∀ x1 : Int32, x1.toInt = k + 1 → ∀ lv1 : List (Nat × Value), m_lk lv1 0 = some (.ref m) → m_lk lv1 1 = some (.int lx1) → m_lk lv1 2 = some (.int lx2) → m_lk lv1 3 = some (.int x1) → HJ 201 39 lv1 [] h Q)
    : HJ 201 163 lv [] h Q := by
  refine hM_inc (k := 3) (z := 1) rfl e3 lq3 (by decide) (by omega) (by omega) (by decide +kernel) rfl (fun lv1 x1 q1 e1_3 u1 => ?_) -- 163
  have e1_0 := u1 0 _ (by decide) (Or.inl rfl) e0
  have e1_1 := u1 1 _ (by decide) (Or.inl rfl) e1
  have e1_2 := u1 2 _ (by decide) (Or.inl rfl) e2
  refine hI_go (pc' := 39) (off := (-127)) rfl (by decide) ?_ -- 166
  exact g0 x1 q1 lv1 e1_0 e1_1 e1_2 e1_3
def g_la : List (Nat × Nat) := g_do ++ g_kp ++ [(72, 1001), (73, 1001)]
theorem l_lay {r : Int} {xr : Int32} {R6 T : Nat → Int} {n : Nat} (hT : ∀ j, R6 (161 * r.toNat + 1 + j) = T j) (hn : R6 (161 * r).toNat = (n : Int)) (hw : d_sub g_la W = true) (qr : xr.toInt = r) (r0 : 0 ≤ r) (r3 : r ≤ 3) (n40 : R6 (161 * r).toNat ≤ 40) (g : ∀ (x : Int32) (h' : MH) (F' : Nat → Int) (V' : Nat → Nat → Int) (G' : Nat → Nat → Int64), x.toInt = 1 → MX 49 W ρ m A h0 h' F' V' G' → g_ly F' V' 40 → ly_E T n F' V' → ly_H T n (G' 41) n → Q (some (.int x)) h') : ∀ (d k : Nat) (c : Int) (lv : List (Nat × Value)) (h : MH) (F : Nat → Int) (V : Nat → Nat → Int) (G : Nat → Nat → Int64) (xc xk : Int32), k + d = 40 → MX 49 W ρ m A h0 h F V G → V 6 = R6 → g_ly F V k → ly_J T n F V k c → ly_H T n (G 41) k → xc.toInt = c → xk.toInt = (k : Int) → m_lk lv 0 = some (.ref m) → m_lk lv 1 = some (.int xr) → m_lk lv 2 = some (.int xc) → m_lk lv 3 = some (.int xk) → HJ 201 39 lv [] h Q := by
  have w1 : d_sub g_do W = true := d_subm hw (by decide +kernel)
  have w2 : d_sub g_kp W = true := d_subm hw (by decide +kernel)
  have w3 : d_sub [(49, 19)] W = true := d_subm hw (by decide +kernel)
  have w4 : d_sub [(72, 1001), (73, 1001)] W = true := d_subm hw (by decide +kernel)
  have stop : ∀ (F : Nat → Int) (V : Nat → Nat → Int) (k : Nat) (c : Int), ly_J T n F V k c → ((k : Int) ≥ R6 (161 * r).toNat ∨ c = 0) → ly_E T n F V := fun F V k c J s av => by
    obtain ⟨y, -, f⟩ := J.2 av
    have e : ry_run T n = ry_run T k := by
      rcases f with ⟨f1, -, -⟩ | ⟨-, f2⟩
      · rcases s with s | s
        · rw [show n = k by have := J.1; omega]
        · exact absurd s f1
      · have := ry_runE f2 (n - k)
        rw [show k + (n - k) = n by have := J.1; omega] at this
        exact this
    rw [e]
    exact y
  have stopH : ∀ (F : Nat → Int) (V : Nat → Nat → Int) (L : Nat → Int64) (k : Nat) (c : Int), ly_J T n F V k c → ly_H T n L k → ((k : Int) ≥ R6 (161 * r).toNat ∨ c = 0) → ly_H T n L n := fun F V L k c J JG s av => by
    obtain ⟨y, -, f⟩ := J.2 av
    have e : ry_run T n = ry_run T k := by
      rcases f with ⟨f1, -, -⟩ | ⟨-, f2⟩
      · rcases s with s | s
        · rw [show n = k by have := J.1; omega]
        · exact absurd s f1
      · have := ry_runE f2 (n - k)
        rw [show k + (n - k) = n by have := J.1; omega] at this
        exact this
    rw [e]
    exact JG av
  intro d
  induction d with
  | zero =>
    intro k c lv h F V G xc xk hd M v6 I JL JG hc hk e0 e1 e2 e3
    refine s_lay39 M e0 e1 qr e2 hc e3 hk (c_acts M qr r0 r3 (fun xn qn => ?_))
    rw [v6] at qn
    refine s_lay45 (k := (k : Int)) (n := R6 (161 * r).toNat) M e0 e1 qr e2 hc e3 hk hk qn w3 (fun x1 q1 c45 => g x1 h F V G q1 M (g_lyM (by omega) I) (stop F V k c JL (Or.inl c45)) (stopH F V _ k c JL JG (Or.inl c45))) (fun x1 q1 _ c49 => g x1 h F V G q1 M (g_lyM (by omega) I) (stop F V k c JL (Or.inr c49)) (stopH F V _ k c JL JG (Or.inr c49))) (fun x3 q3 h6 F6 f6 x7 q7 lv4 M6 e4_0 e4_1 e4_2 e4_3 e4_4 c45 c49 a3 b3 => by omega)
  | succ d ih =>
    intro k c lv h F V G xc xk hd M v6 I JL JG hc hk e0 e1 e2 e3
    refine s_lay39 M e0 e1 qr e2 hc e3 hk (c_acts M qr r0 r3 (fun xn qn => ?_))
    rw [v6] at qn
    refine s_lay45 (k := (k : Int)) (n := R6 (161 * r).toNat) M e0 e1 qr e2 hc e3 hk hk qn w3 (fun x1 q1 c45 => g x1 h F V G q1 M (g_lyM (by omega) I) (stop F V k c JL (Or.inl c45)) (stopH F V _ k c JL JG (Or.inl c45))) (fun x1 q1 _ c49 => g x1 h F V G q1 M (g_lyM (by omega) I) (stop F V k c JL (Or.inr c49)) (stopH F V _ k c JL JG (Or.inr c49))) (fun x3 q3 h6 F6 f6 x7 q7 lv4 M6 a0 a1 a2 a3 a4 c45 c49 _ _ => ?_)
    have g17 : F6 17 = F 17 := by rw [f6, m_uN _ _ _ _ (by decide)]
    have g35 : F6 35 = F 35 := by rw [f6, m_uN _ _ _ _ (by decide)]
    have I6 : g_ly F6 V k := by
      unfold g_ly
      rw [g17, g35]
      exact I
    have I6' := I6
    obtain ⟨⟨i1, i2, i3⟩, i4, i5, i6, i7⟩ := I6'
    refine c_act M6 qr hk q7 r0 r3 (by omega) (by omega) (by omega) (by omega) (fun xw qw => ?_)
    refine s_lay70 M6 a0 a1 qr a2 hc a3 hk a4 q3 qw (fun x8 q8 lv5 b0 b1 b2 b3 b4 b5 => ?_)
    refine c_act M6 qr hk q8 r0 r3 (by omega) (by omega) (by omega) (by omega) (fun xv qv => ?_)
    refine s_lay79 M6 b0 b1 qr b2 hc b3 hk b4 q3 b5 qw qv (fun x9 q9 lv6 d0 d1 d2 d3 d4 d5 d6 => ?_)
    refine c_act M6 qr hk q9 r0 r3 (by omega) (by omega) (by omega) (by omega) (fun xa qa => ?_)
    refine s_lay93 M6 d0 d1 qr d2 hc d3 hk d4 q3 d5 qw d6 qv qw qv qa (fun x10 q10 => ?_)
    refine c_act M6 qr hk q10 r0 r3 (by omega) (by omega) (by omega) (by omega) (fun xb qb => ?_)
    refine s_lay100 M6 d0 d1 qr d2 hc d3 hk d4 q3 d5 qw d6 qv qw qv qa qb ?_
    refine c_does M6 rfl rfl rfl rfl rfl w1 qw qv qa qb i1 i2 i3 i4.1 (by omega) (by omega) (fun z h7 F7 V7 z0 z1 M7 J jv ja R => ?_)
    have J6 := g_lyD I6 J
    have e35 : F7 35 = F6 35 := J.2.2.1 35 (by decide) (by decide) (by decide) (by decide)
    have v7 : V7 6 = R6 := by rw [J.2.2.2.2 6 (by decide), v6]
    have rr : ∀ u : Nat, (161 * r + 1 + 4 * (k : Int) + (u : Int)).toNat = 161 * r.toNat + 1 + (4 * k + u) := fun u => by omega
    have ew : V 6 (161 * r + 1 + 4 * (k : Int) + 0).toNat = T (4 * k) := by
      rw [v6, ← hT]
      exact congrArg R6 (rr 0)
    have ev : V 6 (161 * r + 1 + 4 * (k : Int) + 1).toNat = T (4 * k + 1) := by
      rw [v6, ← hT]
      exact congrArg R6 (rr 1)
    have ea : V 6 (161 * r + 1 + 4 * (k : Int) + 2).toNat = T (4 * k + 2) := by
      rw [v6, ← hT]
      exact congrArg R6 (rr 2)
    have eb : V 6 (161 * r + 1 + 4 * (k : Int) + 3).toNat = T (4 * k + 3) := by
      rw [v6, ← hT]
      exact congrArg R6 (rr 3)
    have DP : (∀ q, q < n → av_1 (T (4 * q)) (T (4 * q + 2)) (T (4 * q + 3))) → ((ry_run T k).2 = true ∧ ry_v (ry_run T k).1 = k + 1) ∧ ry_of F6 V (ry_z (ry_run T k).1) ∧ ry_t (ry_run T k).1 ≤ (k : Int) ∧ do_P (ry_z (ry_run T k).1) (T (4 * k)) (T (4 * k + 1)) (T (4 * k + 2)) (T (4 * k + 3)) F7 V7 z.toInt := fun av => by
      obtain ⟨y, t, f⟩ := JL.2 av
      obtain ⟨-, f1, f2⟩ := f.resolve_right (fun z9 => c49 z9.1)
      rw [← f6] at y
      have d := R _ y (by rw [f6, m_uE]) (by show ry_t (ry_run T k).1 ≤ 127; omega) (by rw [ew, ea, eb]; exact av k (by omega))
      rw [ew, ev, ea, eb] at d
      exact ⟨⟨f1, f2⟩, y, t, d⟩
    -- what is kept
    have kp : ∀ (p q : Int) (xp xq : Int32) (V8 : Nat → Nat → Int) (h8 : MH) (lv8 : List (Nat × Value)), z.toInt ≠ 0 → xp.toInt = p → xq.toInt = q → -1 ≤ p → p ≤ 40 → p < F7 35 → -1 ≤ q → q ≤ 40 → q < F7 35 → (∀ K, K ≠ 37 → K ≠ 38 → V8 K = V7 K) → V8 37 = m_u (V7 37) k (F7 17 - F 17) → V8 38 = m_u (V7 38) k (F7 19) → p = (if T (4 * k) = 0 then -1 else T (4 * k + 1)) → q = (if T (4 * k) = 2 then T (4 * k + 2) else -1) → MX 49 W ρ m A h0 h8 F7 V8 G → m_lk lv8 0 = some (.ref m) → m_lk lv8 1 = some (.int xr) → m_lk lv8 2 = some (.int z) → m_lk lv8 3 = some (.int xk) → HJ 203 0 (lv_args 0 [.ref m, .int xp, .int xq]) [] h8 (fun v h' => HJ 201 163 lv8 (v.toList ++ []) h' Q)   := fun p q xp xq V8 h8 lv8 zn qp qq p0 p1 p7 q0 q1 q7 vo v37 v38 ep eq M8 b0 b1 b2 b3 => by
      have I8 : g_ly F7 V8 (k + 1) := by
        unfold g_ly
        rw [vo 22 (by decide) (by decide), vo 23 (by decide) (by decide), vo 24 (by decide) (by decide), vo 36 (by decide) (by decide), vo 39 (by decide) (by decide), vo 40 (by decide) (by decide)]
        exact J6
      have s7 : F7 35 = (((F7 35).toNat : Nat) : Int) := by omega
      refine c_keep (s := (F7 35).toNat) M8 w2 s7 (by omega) qp qq p0 p1 q0 q1 (fun h9 F9 V9 G9 M9 f9 k1 k2 k3 k4 k5 k6 k7 => ?_)
      have I9 := g_lyK I8 s7 (by omega) f9 k1 k2 k3 k4 k5
      refine s_lay163 (c := z.toInt) M9 b0 b1 qr b2 rfl b3 hk (by omega) (by omega) (fun x1 q1 lv1 c0 c1 c2 c3 => ?_)
      refine ih (k + 1) z.toInt lv1 h9 F9 V9 G9 z x1 (by omega) M9 (by rw [k5 6 (by decide) (by decide) (by decide), vo 6 (by decide) (by decide), v7]) I9 ⟨by omega, fun av => ?_⟩ (fun av => ?_) rfl (by omega) c0 c1 c2 c3
      rotate_left
      · obtain ⟨⟨r1, r2⟩, y, t, d⟩ := DP av
        obtain ⟨-, X, d1, -⟩ := d.resolve_left (fun z9 => zn z9.1)
        obtain ⟨fI, fr⟩ := JG av
        have e9 : F6 35 = ((ry_v (ry_run T k).1 : Nat) : Int) := y.2.2.1
        have sN : (F7 35).toNat = ry_v (ry_run T k).1 := by omega
        have sI : F7 35 = ((ry_v (ry_run T k).1 : Nat) : Int) := by omega
        rw [sN] at k7
        have pZ : p < ((ry_v (ry_run T k).1 : Nat) : Int) := by omega
        have qZ : q < ((ry_v (ry_run T k).1 : Nat) : Int) := by omega
        rw [ry_run1 r1 d1]
        exact ly_HK (Z := ry_z (ry_run T k).1) fI fr ep eq p0 pZ q0 qZ k7.1 (k7.2 pZ qZ)
      obtain ⟨⟨r1, r2⟩, y, t, d⟩ := DP av
      obtain ⟨-, X, d1, d2, d3, d4, d5⟩ := d.resolve_left (fun z9 => zn z9.1)
      have tz : ry_t (ry_z (ry_run T k).1) = ry_t (ry_run T k).1 := rfl
      have t0 := y.2.1.2
      have sN : (F7 35).toNat = k + 1 := by
        have e9 : F6 35 = ((ry_v (ry_run T k).1 : Nat) : Int) := y.2.2.1
        omega
      rw [sN] at f9 k1 k2 k3 k4
      have o7 : ∀ K, 34 < K → V7 K = V K := fun K hK => J.2.2.2.2 K (Or.inr hK)
      have o8 : ∀ K, 34 < K → K ≠ 37 → K ≠ 38 → V8 K = V K := fun K hK h7 h8 => (vo K h7 h8).trans (o7 K hK)
      rw [ry_run1 r1 d1]
      refine ⟨ry_ofK (p := p) (q := q) y r2 (rs_ofV d2 rfl rfl (vo 20 (by decide) (by decide)) (vo 21 (by decide) (by decide)) (vo 22 (by decide) (by decide)) (vo 23 (by decide) (by decide))) (by rw [vo 24 (by decide) (by decide)]; exact d3) d4 (by omega) (o8 36 (by decide) (by decide) (by decide)) (by rw [v37, o7 37 (by decide), g17]) (by rw [v38, o7 38 (by decide)]) (o8 39 (by decide) (by decide) (by decide)) (o8 40 (by decide) (by decide) (by decide)) ep eq f9 k1 k2 k3 k4 k5, ?_, Or.inl ⟨zn, rfl, ?_⟩⟩
      · show X.2.2 ≤ _
        omega
      · show ry_v (ry_z (ry_run T k).1) + 1 = k + 1 + 1
        show ry_v (ry_run T k).1 + 1 = k + 1 + 1
        rw [r2]
    refine s_lay103 (z := z.toInt) M7 d0 d1 qr d2 hc d3 hk d4 q3 d5 qw d6 qv rfl (by omega) (by omega) (by omega) (by omega) w4 (fun x2 q2 lv2 b0 b1 b2 b3 c105 => ?_) (fun h5 V5 f5 h7 V8 f8 x9 q9 lv1 M8 b0 b1 b2 b3 c105 _ _ _ _ c134 c146 => ?_) (fun h5 V5 f5 h7 V8 f8 x10 q10 lv1 M8 b0 b1 b2 b3 c105 _ _ _ _ c134 c146 => ?_) (fun h5 V5 f5 h7 V8 f8 x11 q11 x13 q13 lv1 M8 b0 b1 b2 b3 c105 _ _ _ _ c134 c146 => ?_) (fun h5 V5 f5 h7 V8 f8 x11 q11 x14 q14 lv1 M8 b0 b1 b2 b3 c105 _ _ _ _ c134 c146 => ?_)
    · refine ih (k + 1) z.toInt lv2 h7 F7 V7 G z x2 (by omega) M7 v7 J6 ⟨by omega, fun av => ?_⟩ (fun av => ?_) rfl (by omega) b0 b1 b2 b3
      rotate_left
      · obtain ⟨⟨r1, r2⟩, y, t, d⟩ := DP av
        obtain ⟨-, d1, d2, d3⟩ := d.resolve_right (fun z9 => by omega)
        rw [ry_run0 r1 d1]
        exact JG av
      obtain ⟨⟨r1, r2⟩, y, t, d⟩ := DP av
      obtain ⟨-, d1, d2, d3⟩ := d.resolve_right (fun z9 => by omega)
      have o7 : ∀ K, 34 < K → V7 K = V K := fun K hK => J.2.2.2.2 K (Or.inr hK)
      obtain ⟨y1, y2, y3, y4, y5, y6⟩ := y
      rw [ry_run0 r1 d1]
      refine ⟨⟨rs_z d2, ⟨by rw [m_uN _ _ _ _ (by decide)]; exact d3, y2.2⟩, by rw [m_uN _ _ _ _ (by decide), e35]; exact y3, ?_, ?_, ?_⟩, by show ry_t (ry_run T k).1 ≤ _; omega, Or.inr ⟨c105, rfl⟩⟩
      · rw [o7 36 (by decide)]
        exact y4
      · rw [o7 39 (by decide), o7 40 (by decide)]
        exact y5
      · rw [o7 37 (by decide), o7 38 (by decide)]
        exact y6
    · have v := jv (by omega) c134
      exact kp _ _ xv x9 V8 h7 lv1 c105 qv q9 (by omega) (by omega) (by omega) (by omega) (by omega) (by omega) (fun K j1 j2 => by rw [f8, m_uN _ _ _ _ j2, f5, m_uN _ _ _ _ j1]) (by rw [f8, m_uN _ _ _ _ (by decide), f5, m_uE, Int.toNat_natCast]) (by rw [f8, m_uE, f5, m_uN _ _ _ _ (by decide), Int.toNat_natCast]) (by rw [if_neg (by rw [← ew]; exact c134)]; exact ev) (by rw [if_neg (by rw [← ew]; exact c146)]) M8 b0 b1 b2 b3
    · have v := jv (by omega) c134
      have a := ja (by omega) c146
      have v8 : V8 6 = V 6 := by rw [f8, m_uN _ _ _ _ (by decide), f5, m_uN _ _ _ _ (by decide), J.2.2.2.2 6 (by decide)]
      refine c_act M8 qr hk q10 r0 r3 (by omega) (by omega) (by omega) (by omega) (fun xa2 qa2 => ?_)
      rw [v8] at qa2
      refine s_lay156 M8 b0 b1 qr b2 rfl b3 hk qv qa2 ?_
      exact kp _ _ xv xa2 V8 h7 lv1 c105 qv qa2 (by omega) (by omega) (by omega) (by omega) (by omega) (by omega) (fun K j1 j2 => by rw [f8, m_uN _ _ _ _ j2, f5, m_uN _ _ _ _ j1]) (by rw [f8, m_uN _ _ _ _ (by decide), f5, m_uE, Int.toNat_natCast]) (by rw [f8, m_uE, f5, m_uN _ _ _ _ (by decide), Int.toNat_natCast]) (by rw [if_neg (by rw [← ew]; exact c134)]; exact ev) (by rw [if_pos (by rw [← ew]; exact c146)]; exact ea) M8 b0 b1 b2 b3
    · exact kp _ _ x11 x13 V8 h7 lv1 c105 q11 q13 (by omega) (by omega) (by omega) (by omega) (by omega) (by omega) (fun K j1 j2 => by rw [f8, m_uN _ _ _ _ j2, f5, m_uN _ _ _ _ j1]) (by rw [f8, m_uN _ _ _ _ (by decide), f5, m_uE, Int.toNat_natCast]) (by rw [f8, m_uE, f5, m_uN _ _ _ _ (by decide), Int.toNat_natCast]) (by rw [if_pos (by rw [← ew]; exact c134)]) (by rw [if_neg (by rw [← ew]; exact c146)]) M8 b0 b1 b2 b3
    · omega
theorem c_layG {r : Int} {xr : Int32} (M : MX 49 W ρ m A h0 h F V G) (b0_ : m_lk lv 0 = some (.ref m)) (b1_ : m_lk lv 1 = some (.int xr)) (hw : d_sub g_la W = true) (qr : xr.toInt = r) (rw_ : p_rw (V 6)) (g : ∀ (x : Int32) (h' : MH) (F' : Nat → Int) (V' : Nat → Nat → Int) (G' : Nat → Nat → Int64), MX 49 W ρ m A h0 h' F' V' G' → ((x.toInt = 0 ∧ ¬ (0 ≤ r ∧ r < V 5 0)) ∨ (x.toInt = 1 ∧ g_ly F' V' 40 ∧ 0 ≤ r ∧ r < V 5 0 ∧ ly_E (fun j => V 6 (161 * r.toNat + 1 + j)) (V 6 (161 * r).toNat).toNat F' V' ∧ ly_H (fun j => V 6 (161 * r.toNat + 1 + j)) (V 6 (161 * r).toNat).toNat (G' 41) (V 6 (161 * r).toNat).toNat)) → Q (some (.int x)) h') : HJ 201 0 lv [] h Q := by
  have w1 : d_sub [(61, 1001)] W = true := d_subm hw (by decide +kernel)
  have w2 : d_sub g_kp W = true := d_subm hw (by decide +kernel)
  have w3 : d_sub [(49, 17), (49, 18), (49, 35)] W = true := d_subm hw (by decide +kernel)
  refine s_lay0 M b0_ b1_ qr (c_isR M qr (fun z hz => ?_))
  refine s_lay5 (z := z.toInt) M b0_ b1_ qr rfl w3 (fun h2 F2 f2 h4 F4 f4 h6 F6 f6 M6 c5 => ?_) (fun x7 q7 c5 => g x7 h F V G M (Or.inl ⟨q7, (hz.resolve_left (fun z9 => by omega)).2⟩))
  obtain ⟨-, r0, r3, r5⟩ := hz.resolve_right (fun z9 => c5 z9.1)
  refine c_emp M6 w1 (fun h7 V7 M7 k1 k2 => ?_)
  refine s_lay29 M7 b0_ b1_ qr (fun x1 q1 x2 q2 => ?_)
  have f17 : F6 17 = 0 := by rw [f6, m_uN _ _ _ _ (by decide), f4, m_uN _ _ _ _ (by decide), f2, m_uE]
  have f35 : F6 35 = 0 := by rw [f6, m_uE]
  refine c_keep (s := 0) M7 w2 f35 (by omega) q1 q2 (by omega) (by omega) (by omega) (by omega) (fun h8 F8 V8 G8 M8 f8 k3 k4 k5 k6 k7 k8 k9 => ?_)
  have n40 := rw_ r.toNat (by omega)
  have v6 : V8 6 = V 6 := by rw [k7 6 (by decide) (by decide) (by decide), k2 6 (by decide)]
  refine s_lay35 M8 b0_ b1_ qr (fun x3 q3 x4 q4 lv4 e0 e1 e2 e3 => ?_)
  have nn : (161 * r).toNat = 161 * r.toNat := by omega
  refine l_lay (R6 := V 6) (T := fun j => V 6 (161 * r.toNat + 1 + j)) (n := (V 6 (161 * r).toNat).toNat) (fun _ => rfl) (by rw [nn]; omega) hw qr r0 r3 (by rw [nn]; exact n40.2) (fun x h' F' V' G' q M' I E EG => g x h' F' V' G' M' (Or.inr ⟨q, I, r0, r5, E, EG⟩)) 40 0 1 lv4 h8 F8 V8 G8 x3 x4 rfl M8 v6 ?_ ⟨Nat.zero_le _, fun _ => ?_⟩ (fun _ => ⟨fun u hu => ?_, fun u hu => ?_⟩) q3 q4 e0 e1 e2 e3
  rotate_left 2
  · have hu : u < 1 := hu
    have u0 : u = 0 := by omega
    subst u0
    exact ⟨⟨Int.le_refl _, (show (-1 : Int) < 0 by decide)⟩, Int.le_refl _, (show (-1 : Int) < 0 by decide)⟩
  · have hu : u < 1 := hu
    have u0 : u = 0 := by omega
    subst u0
    have e := k9.2 (by decide) (by decide)
    rw [fo_N rfl] at e
    rw [e]
    show _ = bt ((0 : Nat) : Int) ||| fo_of (G8 41) (-1) ||| fo_of (G8 41) (-1)
    rw [fo_N rfl]
  rotate_left
  · have g17 : F8 17 = 0 := by rw [f8, m_uN _ _ _ _ (by decide), f17]
    have g18 : F8 18 = 0 := by rw [f8, m_uN _ _ _ _ (by decide), f6, m_uN _ _ _ _ (by decide), f4, m_uE]
    have g35 : F8 35 = 1 := by rw [f8, m_uE]; rfl
    refine ⟨⟨⟨by rw [m_uN _ _ _ _ (by decide)]; exact g17, m_uE _ _ _, ⟨Int.le_refl _, Int.le_refl _⟩, fun v hv => absurd hv (Nat.not_lt_zero v)⟩, ⟨by rw [m_uN _ _ _ _ (by decide)]; exact g18, Int.le_refl _⟩, by rw [m_uN _ _ _ _ (by decide)]; exact g35, fun j hj => ?_, fun v hv => ?_, fun k hk => ?_⟩, Int.le_refl _, Or.inl ⟨by decide, rfl, rfl⟩⟩
    · have hj : j < 6 * 1 := hj
      have := k3 j (by omega)
      rw [show 6 * 0 + j = j by omega] at this
      rw [this]
      exact k1 j (by omega)
    · have hv : v < 1 := hv
      rw [show v = 0 by omega, k5, k6, m_uE, m_uE]
      exact ⟨rfl, rfl⟩
    · have hk : k + 1 < 1 := hk
      omega
  have g17 : F8 17 = 0 := by rw [f8, m_uN _ _ _ _ (by decide), f17]
  have g35 : F8 35 = 1 := by rw [f8, m_uE]; rfl
  refine ⟨⟨fun v hv => by omega, fun r h6 => Or.inl (by rw [k7 24 (by decide) (by decide) (by decide)]; exact k1 r h6), fun w r hw h6 => Or.inl ?_⟩, by omega, by omega, by rw [k5, m_uE], by rw [k6, m_uE]⟩
  have w0 : w = 0 := by omega
  subst w0
  exact (k3 r h6).trans (k1 r h6)
theorem c_lay {r : Int} {xr : Int32} (M : MX 49 W ρ m A h0 h F V G) (b0_ : m_lk lv 0 = some (.ref m)) (b1_ : m_lk lv 1 = some (.int xr)) (hw : d_sub g_la W = true) (qr : xr.toInt = r) (rw_ : p_rw (V 6)) (g : ∀ (x : Int32) (h' : MH) (F' : Nat → Int) (V' : Nat → Nat → Int) (G' : Nat → Nat → Int64), MX 49 W ρ m A h0 h' F' V' G' → ((x.toInt = 0 ∧ ¬ (0 ≤ r ∧ r < V 5 0)) ∨ (x.toInt = 1 ∧ g_ly F' V' 40 ∧ 0 ≤ r ∧ r < V 5 0 ∧ ly_E (fun j => V 6 (161 * r.toNat + 1 + j)) (V 6 (161 * r).toNat).toNat F' V')) → Q (some (.int x)) h') : HJ 201 0 lv [] h Q :=
  c_layG M b0_ b1_ hw qr rw_ (fun x h' F' V' G' M' hx => g x h' F' V' G' M' (hx.imp id (fun ⟨a1, a2, a3, a4, a5, _⟩ => ⟨a1, a2, a3, a4, a5⟩)))
end
