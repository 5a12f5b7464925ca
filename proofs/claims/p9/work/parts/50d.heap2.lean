-- WHAT LESSENS, PUTS AND CUTS A HEAP
theorem p_wsL {f : Nat → Int} : ∀ r : Nat, p_ws f r + 1 ≤ 2 ^ r
  | 0 => Nat.le_refl _
  | r + 1 => by
    have := p_wsL (f := f) r
    have e : y_tg (f r) ≤ 1 := by
      unfold y_tg
      split <;> omega
    have e2 := Nat.mul_le_mul_right (2 ^ r) e
    rw [p_ws, Nat.pow_succ]
    omega
theorem p_ws1 {f : Nat → Int} : ∀ {r : Nat}, (∀ k, k < r → f k ≠ -1) → p_ws f r + 1 = 2 ^ r
  | 0, _ => rfl
  | r + 1, h => by
    rw [p_ws, y_tg1 (h r (by omega)), Nat.pow_succ]
    have := p_ws1 (r := r) (fun k hk => h k (by omega))
    omega
theorem p_ws0 {f : Nat → Int} {q : Nat} : ∀ {r : Nat}, q ≤ r → (∀ k, q ≤ k → k < r → f k = -1) → p_ws f r = p_ws f q
  | 0, hq, _ => by rw [show q = 0 by omega]
  | r + 1, hq, h => by
    by_cases e : q = r + 1
    · rw [e]
    · rw [p_ws, y_tg0 (h r (by omega) (by omega)), p_ws0 (r := r) (by omega) (fun k k1 k2 => h k k1 (by omega))]
      omega
-- one root goes
theorem p_wsG {f : Nat → Int} {q : Nat} (hq : f q ≠ -1) : ∀ {r : Nat}, q < r → p_ws (m_u f q (-1)) r + 2 ^ q = p_ws f r
  | 0, h => by omega
  | r + 1, h => by
    rw [p_ws, p_ws]
    by_cases e : q = r
    · subst e
      rw [m_uE, y_tg0 rfl, y_tg1 hq, p_wsC (f := f) (fun j hj => m_uN _ _ _ _ (by omega))]
      omega
    · rw [m_uN _ _ _ _ (by omega)]
      have := p_wsG (r := r) hq (by omega)
      omega
theorem i_2p : ∀ k : Fin 7, (2 : Int) ^ k.val = ((2 ^ k.val : Nat) : Int) := by decide
theorem i_2q {k : Nat} (h : k < 7) : (2 : Int) ^ k = ((2 ^ k : Nat) : Int) := i_2p ⟨k, h⟩
theorem n_2p : ∀ k : Fin 7, 2 ^ k.val ≤ 64 := by decide
theorem n_2q {k : Nat} (h : k < 7) : 2 ^ k ≤ 64 := n_2p ⟨k, h⟩
section
variable {lv : List (Nat × Value)} {Q : Option Value → MH → Prop} {W : List (Nat × Nat)} {ρ : Nat → Nat} {m : Nat} {A : Nat → Nat} {h0 h : MH} {F : Nat → Int} {V : Nat → Nat → Int} {G : Nat → Nat → Int64}
theorem s_clear0 (M : MX 49 W ρ m A h0 h F V G) (e0 : m_lk lv 0 = some (.ref m)) 
    (g0 : ∀ x1 : Int32, x1.toInt = 0 → ∀ lv2 : List (Nat × Value), m_lk lv2 0 = some (.ref m) → m_lk lv2 1 = some (.int x1) → HJ 215 2 lv2 [] h Q)
    : HJ 215 0 lv [] h Q := by
  refine hM_ic (n := 0) rfl (by decide) rfl (fun x1 q1 => ?_) -- 0
  refine hM_si (k := 1) rfl (by decide +kernel) rfl (fun lv2 e2_1 u2 => ?_) -- 1
  have e2_0 := u2 0 _ (by decide) (Or.inl rfl) e0
  exact g0 x1 q1 lv2 e2_0 e2_1
theorem s_clear {r : Int} (M : MX 49 W ρ m A h0 h F V G) (e0 : m_lk lv 0 = some (.ref m)) {lx1 : Int32} (e1 : m_lk lv 1 = some (.int lx1)) (lq1 : lx1.toInt = r) (r0 : 0 ≤ r)(hw : d_sub [(62, 1001)] W = true)
    (g0 : r ≥ 6 → Q none h)
    (g1 : ∀ h3 : MH, ∀ V3 : Nat → Nat → Int, V3 = m_u V 25 (m_u (V 25) (r).toNat ((-1))) → ∀ x4 : Int32, x4.toInt = r + 1 → ∀ lv4 : List (Nat × Value), MX 49 W ρ m A h0 h3 F V3 G → m_lk lv4 0 = some (.ref m) → m_lk lv4 1 = some (.int x4) → r < 6 → HJ 215 2 lv4 [] h3 Q)
    : HJ 215 2 lv [] h Q := by
  refine hI_il (k := 1) rfl e1 rfl ?_ -- 2
  refine hM_bp (n := 6) rfl (by decide) rfl (fun x1 q1 => ?_) -- 3
  refine hM_cge (off := 16) (t := 21) rfl lq1 q1 (by decide) rfl (fun c5 => ?_) (fun c5 => ?_) -- 5
  · refine hI_rv rfl rfl ?_
    exact g0 c5
  · refine hI_al (k := 0) rfl e0 rfl ?_ -- 8
    refine hM_ga M (by decide) rfl rfl (k := 25) (c := 9) rfl rfl rfl (by decide +kernel) rfl ?_ -- 9
    refine hI_il (k := 1) rfl e1 rfl ?_ -- 12
    refine hM_ic (n := (-1)) rfl (by decide) rfl (fun x2 q2 => ?_) -- 13
    refine hM_is M (by decide) ok_49 (K := 25) (R2 := 62) (L := 6) (H := 6) (lo := (-1)) (hi := 15999) rfl (by decide) rfl rfl rfl (fun _ => rfl) (d_subm hw (by decide +kernel)) rfl lq1 q2 (by omega) (by omega) (by omega) (by omega) rfl (fun h3 V3 f3 M3 => ?_) -- 14
    refine hM_inc (k := 1) (z := 1) rfl e1 lq1 (by decide) (by omega) (by omega) (by decide +kernel) rfl (fun lv4 x4 q4 e4_1 u4 => ?_) -- 15
    have e4_0 := u4 0 _ (by decide) (Or.inl rfl) e0
    refine hI_go (pc' := 2) (off := (-16)) rfl (by decide) ?_ -- 18
    exact g1 h3 V3 f3 x4 q4 lv4 M3 e4_0 e4_1 c5
theorem l_clear {V0 : Nat → Nat → Int} (hw : d_sub [(62, 1001)] W = true) (g : ∀ (h' : MH) (V' : Nat → Nat → Int), MX 49 W ρ m A h0 h' F V' G → (∀ r, r < 6 → V' 25 r = -1) → (∀ K, K ≠ 25 → V' K = V0 K) → Q none h') : ∀ (d r : Nat) (lv : List (Nat × Value)) (h : MH) (V : Nat → Nat → Int) (xr : Int32), r + d = 6 → MX 49 W ρ m A h0 h F V G → xr.toInt = (r : Int) → (∀ k, k < r → V 25 k = -1) → (∀ K, K ≠ 25 → V K = V0 K) → m_lk lv 0 = some (.ref m) → m_lk lv 1 = some (.int xr) → HJ 215 2 lv [] h Q := by
  intro d
  induction d with
  | zero =>
    intro r lv h V xr hd M hr k1 k2 e0 e1
    have r6 : r = 6 := by omega
    subst r6
    exact s_clear M e0 e1 hr (by omega) hw (fun _ => g h V M k1 k2) (fun h3 V3 f3 x4 q4 lv4 M3 e4_0 e4_1 c5 => by omega)
  | succ d ih =>
    intro r lv h V xr hd M hr k1 k2 e0 e1
    refine s_clear M e0 e1 hr (by omega) hw (fun _ => by omega) (fun h3 V3 f3 x4 q4 lv4 M3 e4_0 e4_1 c5 => ?_)
    simp only [Int.toNat_natCast] at f3
    refine ih (r + 1) lv4 h3 V3 x4 (by omega) M3 (by omega) (fun k hk => ?_) (fun K hK => by rw [f3, m_uN _ _ _ _ hK, k2 K hK]) e4_0 e4_1
    rw [f3, m_uE]
    by_cases e : k = r
    · rw [e, m_uE]
    · rw [m_uN _ _ _ _ e]
      exact k1 k (by omega)
theorem c_clear (M : MX 49 W ρ m A h0 h F V G) (hw : d_sub [(62, 1001)] W = true) (g : ∀ (h' : MH) (V' : Nat → Nat → Int), MX 49 W ρ m A h0 h' F V' G → (∀ r, r < 6 → V' 25 r = -1) → (∀ K, K ≠ 25 → V' K = V K) → Q none h') : HJ 215 0 (lv_args 0 [.ref m]) [] h Q := by
  refine s_clear0 M rfl (fun x1 q1 lv2 e2_0 e2_1 => ?_)
  exact l_clear hw g 6 0 lv2 h V x1 rfl M q1 (fun k hk => by omega) (fun _ _ => rfl) e2_0 e2_1
theorem s_hand0 {v : Int} (M : MX 49 W ρ m A h0 h F V G) (e0 : m_lk lv 0 = some (.ref m)) {lx1 : Int32} (e1 : m_lk lv 1 = some (.int lx1)) (lq1 : lx1.toInt = v) 
    (g0 : ∀ x1 : Int32, x1.toInt = 0 → ∀ lv2 : List (Nat × Value), m_lk lv2 0 = some (.ref m) → m_lk lv2 1 = some (.int lx1) → m_lk lv2 2 = some (.int x1) → HJ 208 2 lv2 [] h Q)
    : HJ 208 0 lv [] h Q := by
  refine hM_ic (n := 0) rfl (by decide) rfl (fun x1 q1 => ?_) -- 0
  refine hM_si (k := 2) rfl (by decide +kernel) rfl (fun lv2 e2_2 u2 => ?_) -- 1
  have e2_0 := u2 0 _ (by decide) (Or.inl rfl) e0
  have e2_1 := u2 1 _ (by decide) (Or.inl rfl) e1
  exact g0 x1 q1 lv2 e2_0 e2_1 e2_2
theorem s_hand {v r : Int} (M : MX 49 W ρ m A h0 h F V G) (e0 : m_lk lv 0 = some (.ref m)) {lx1 : Int32} (e1 : m_lk lv 1 = some (.int lx1)) (lq1 : lx1.toInt = v) {lx2 : Int32} (e2 : m_lk lv 2 = some (.int lx2)) (lq2 : lx2.toInt = r) (v0 : 0 ≤ v) (v1 : v ≤ 40) (r0 : 0 ≤ r)(hw : d_sub [(61, 1001)] W = true)
    (g0 : r ≥ 6 → Q none h)
    (g1 : ∀ h6 : MH, ∀ V6 : Nat → Nat → Int, V6 = m_u V 24 (m_u (V 24) (r).toNat (V 36 ((6 * v) + r).toNat)) → ∀ x7 : Int32, x7.toInt = r + 1 → ∀ lv7 : List (Nat × Value), MX 49 W ρ m A h0 h6 F V6 G → m_lk lv7 0 = some (.ref m) → m_lk lv7 1 = some (.int lx1) → m_lk lv7 2 = some (.int x7) → r < 6 → (-1) ≤ V 36 ((6 * v) + r).toNat → V 36 ((6 * v) + r).toNat ≤ 15999 → HJ 208 2 lv7 [] h6 Q)
    : HJ 208 2 lv [] h Q := by
  refine hI_il (k := 2) rfl e2 rfl ?_ -- 2
  refine hM_bp (n := 6) rfl (by decide) rfl (fun x1 q1 => ?_) -- 3
  refine hM_cge (off := 26) (t := 31) rfl lq2 q1 (by decide) rfl (fun c5 => ?_) (fun c5 => ?_) -- 5
  · refine hI_rv rfl rfl ?_
    exact g0 c5
  · refine hI_al (k := 0) rfl e0 rfl ?_ -- 8
    refine hM_ga M (by decide) rfl rfl (k := 24) (c := 9) rfl rfl rfl (by decide +kernel) rfl ?_ -- 9
    refine hI_il (k := 2) rfl e2 rfl ?_ -- 12
    refine hI_al (k := 0) rfl e0 rfl ?_ -- 13
    refine hM_ga M (by decide) rfl rfl (k := 36) (c := 9) rfl rfl rfl (by decide +kernel) rfl ?_ -- 14
    refine hM_bp (n := 6) rfl (by decide) rfl (fun x2 q2 => ?_) -- 17
    refine hI_il (k := 1) rfl e1 rfl ?_ -- 19
    refine hM_mul rfl q2 lq1 (by omega) (by omega) rfl (fun x3 q3 => ?_) -- 20
    refine hI_il (k := 2) rfl e2 rfl ?_ -- 21
    refine hM_add rfl q3 lq2 (by omega) (by omega) rfl (fun x4 q4 => ?_) -- 22
    refine hM_ia M (by decide) (K := 36) (R2 := 71) (L := 246) (H := 246) (lo := (-1)) (hi := 15999) rfl (by decide) rfl rfl (fun _ => rfl) rfl q4 (by omega) (by omega) rfl (fun x5 q5 a5 b5 => ?_) -- 23
    refine hM_is M (by decide) ok_49 (K := 24) (R2 := 61) (L := 6) (H := 6) (lo := (-1)) (hi := 15999) rfl (by decide) rfl rfl rfl (fun _ => rfl) (d_subm hw (by decide +kernel)) rfl lq2 q5 (by omega) (by omega) (by omega) (by omega) rfl (fun h6 V6 f6 M6 => ?_) -- 24
    refine hM_inc (k := 2) (z := 1) rfl e2 lq2 (by decide) (by omega) (by omega) (by decide +kernel) rfl (fun lv7 x7 q7 e7_2 u7 => ?_) -- 25
    have e7_0 := u7 0 _ (by decide) (Or.inl rfl) e0
    have e7_1 := u7 1 _ (by decide) (Or.inl rfl) e1
    refine hI_go (pc' := 2) (off := (-26)) rfl (by decide) ?_ -- 28
    exact g1 h6 V6 f6 x7 q7 lv7 M6 e7_0 e7_1 e7_2 c5 a5 b5
theorem l_hand {v : Nat} {V0 : Nat → Nat → Int} (hv : v ≤ 40) (hw : d_sub [(61, 1001)] W = true) (g : ∀ (h' : MH) (V' : Nat → Nat → Int), MX 49 W ρ m A h0 h' F V' G → (∀ r, r < 6 → V' 24 r = V0 36 (6 * v + r)) → (∀ K, K ≠ 24 → V' K = V0 K) → Q none h') : ∀ (d r : Nat) (lv : List (Nat × Value)) (h : MH) (V : Nat → Nat → Int) (xv xr : Int32), r + d = 6 → MX 49 W ρ m A h0 h F V G → xv.toInt = (v : Int) → xr.toInt = (r : Int) → (∀ k, k < r → V 24 k = V0 36 (6 * v + k)) → (∀ K, K ≠ 24 → V K = V0 K) → m_lk lv 0 = some (.ref m) → m_lk lv 1 = some (.int xv) → m_lk lv 2 = some (.int xr) → HJ 208 2 lv [] h Q := by
  intro d
  induction d with
  | zero =>
    intro r lv h V xv xr hd M hx hr k1 k2 e0 e1 e2
    have r6 : r = 6 := by omega
    subst r6
    exact s_hand M e0 e1 hx e2 hr (by omega) (by omega) (by omega) hw (fun _ => g h V M k1 k2) (fun h6 V6 f6 x7 q7 lv7 M6 e7_0 e7_1 e7_2 c5 a5 b5 => by omega)
  | succ d ih =>
    intro r lv h V xv xr hd M hx hr k1 k2 e0 e1 e2
    refine s_hand M e0 e1 hx e2 hr (by omega) (by omega) (by omega) hw (fun _ => by omega) (fun h6 V6 f6 x7 q7 lv7 M6 e7_0 e7_1 e7_2 c5 a5 b5 => ?_)
    rw [show (6 * (v : Int) + (r : Int)).toNat = 6 * v + r by omega, Int.toNat_natCast] at f6
    refine ih (r + 1) lv7 h6 V6 xv x7 (by omega) M6 hx (by omega) (fun k hk => ?_) (fun K hK => by rw [f6, m_uN _ _ _ _ hK, k2 K hK]) e7_0 e7_1 e7_2
    rw [f6, m_uE]
    by_cases e : k = r
    · rw [e, m_uE, k2 36 (by decide)]
    · rw [m_uN _ _ _ _ e]
      exact k1 k (by omega)
theorem c_hand {v : Nat} {xv : Int32} (M : MX 49 W ρ m A h0 h F V G) (hx : xv.toInt = (v : Int)) (hv : v ≤ 40) (hw : d_sub [(61, 1001)] W = true) (g : ∀ (h' : MH) (V' : Nat → Nat → Int), MX 49 W ρ m A h0 h' F V' G → (∀ r, r < 6 → V' 24 r = V 36 (6 * v + r)) → (∀ K, K ≠ 24 → V' K = V K) → Q none h') : HJ 208 0 (lv_args 0 [.ref m, .int xv]) [] h Q := by
  refine s_hand0 M rfl rfl hx (fun x1 q1 lv2 e2_0 e2_1 e2_2 => ?_)
  exact l_hand hv hw g 6 0 lv2 h V xv x1 rfl M hx q1 (fun k hk => by omega) (fun _ _ => rfl) e2_0 e2_1 e2_2
theorem s_size0 (M : MX 49 W ρ m A h0 h F V G) (e0 : m_lk lv 0 = some (.ref m)) 
    (g0 : ∀ x1 : Int32, x1.toInt = 0 → ∀ x3 : Int32, x3.toInt = 0 → ∀ lv4 : List (Nat × Value), m_lk lv4 0 = some (.ref m) → m_lk lv4 1 = some (.int x1) → m_lk lv4 2 = some (.int x3) → HJ 214 4 lv4 [] h Q)
    : HJ 214 0 lv [] h Q := by
  refine hM_ic (n := 0) rfl (by decide) rfl (fun x1 q1 => ?_) -- 0
  refine hM_si (k := 1) rfl (by decide +kernel) rfl (fun lv2 e2_1 u2 => ?_) -- 1
  have e2_0 := u2 0 _ (by decide) (Or.inl rfl) e0
  refine hM_ic (n := 0) rfl (by decide) rfl (fun x3 q3 => ?_) -- 2
  refine hM_si (k := 2) rfl (by decide +kernel) rfl (fun lv4 e4_2 u4 => ?_) -- 3
  have e4_0 := u4 0 _ (by decide) (Or.inl rfl) e2_0
  have e4_1 := u4 1 _ (by decide) (Or.inl rfl) e2_1
  exact g0 x1 q1 x3 q3 lv4 e4_0 e4_1 e4_2
theorem s_size {n r : Int} (M : MX 49 W ρ m A h0 h F V G) (e0 : m_lk lv 0 = some (.ref m)) {lx1 : Int32} (e1 : m_lk lv 1 = some (.int lx1)) (lq1 : lx1.toInt = n) {lx2 : Int32} (e2 : m_lk lv 2 = some (.int lx2)) (lq2 : lx2.toInt = r) (r0 : 0 ≤ r) (n0 : 0 ≤ n) (n1 : n ≤ 1000) (t0 : 0 ≤ (2 : Int) ^ r.toNat) (t1 : (2 : Int) ^ r.toNat ≤ 64)
    (g0 : r ≥ 6 → Q (some (.int lx1)) h)
    (g1 : ∀ x6 : Int32, x6.toInt = n + ((2 : Int) ^ (r).toNat) → ∀ x8 : Int32, x8.toInt = r + 1 → ∀ lv8 : List (Nat × Value), m_lk lv8 0 = some (.ref m) → m_lk lv8 1 = some (.int x6) → m_lk lv8 2 = some (.int x8) → r < 6 → (-1) ≤ V 24 (r).toNat → V 24 (r).toNat ≤ 15999 → V 24 (r).toNat ≠ (-1) → HJ 214 4 lv8 [] h Q)
    (g2 : ∀ x10 : Int32, x10.toInt = n + 0 → ∀ x12 : Int32, x12.toInt = r + 1 → ∀ lv12 : List (Nat × Value), m_lk lv12 0 = some (.ref m) → m_lk lv12 1 = some (.int x10) → m_lk lv12 2 = some (.int x12) → r < 6 → (-1) ≤ V 24 (r).toNat → V 24 (r).toNat ≤ 15999 → V 24 (r).toNat = (-1) → HJ 214 4 lv12 [] h Q)
    : HJ 214 4 lv [] h Q := by
  refine hI_il (k := 2) rfl e2 rfl ?_ -- 4
  refine hM_bp (n := 6) rfl (by decide) rfl (fun x1 q1 => ?_) -- 5
  refine hM_cge (off := 29) (t := 36) rfl lq2 q1 (by decide) rfl (fun c7 => ?_) (fun c7 => ?_) -- 7
  · refine hI_il (k := 1) rfl e1 rfl ?_ -- 36
    refine hI_ri rfl rfl ?_ -- 37
    exact g0 c7
  · refine hI_il (k := 1) rfl e1 rfl ?_ -- 10
    refine hI_al (k := 0) rfl e0 rfl ?_ -- 11
    refine hM_ga M (by decide) rfl rfl (k := 24) (c := 9) rfl rfl rfl (by decide +kernel) rfl ?_ -- 12
    refine hI_il (k := 2) rfl e2 rfl ?_ -- 15
    refine hM_ia M (by decide) (K := 24) (R2 := 61) (L := 6) (H := 6) (lo := (-1)) (hi := 15999) rfl (by decide) rfl rfl (fun _ => rfl) rfl lq2 (by omega) (by omega) rfl (fun x2 q2 a2 b2 => ?_) -- 16
    refine hM_ic (n := (-1)) rfl (by decide) rfl (fun x3 q3 => ?_) -- 17
    refine hM_cne (off := 7) (t := 25) rfl q2 q3 (by decide) rfl (fun c18 => ?_) (fun c18 => ?_) -- 18
    · refine hM_ic (n := 1) rfl (by decide) rfl (fun x4 q4 => ?_) -- 25
      refine hI_il (k := 2) rfl e2 rfl ?_ -- 26
      refine hM_shl rfl q4 lq2 (by omega) (by omega) rfl (fun x5 q5 => ?_) -- 27
      refine hM_add rfl lq1 q5 (by omega) (by omega) rfl (fun x6 q6 => ?_) -- 28
      refine hM_si (k := 1) rfl (by decide +kernel) rfl (fun lv7 e7_1 u7 => ?_) -- 29
      have e7_0 := u7 0 _ (by decide) (Or.inl rfl) e0
      have e7_2 := u7 2 _ (by decide) (Or.inl rfl) e2
      refine hM_inc (k := 2) (z := 1) rfl e7_2 lq2 (by decide) (by omega) (by omega) (by decide +kernel) rfl (fun lv8 x8 q8 e8_2 u8 => ?_) -- 30
      have e8_0 := u8 0 _ (by decide) (Or.inl rfl) e7_0
      have e8_1 := u8 1 _ (by decide) (Or.inl rfl) e7_1
      refine hI_go (pc' := 4) (off := (-29)) rfl (by decide) ?_ -- 33
      exact g1 x6 q6 x8 q8 lv8 e8_0 e8_1 e8_2 c7 a2 b2 c18
    · refine hM_ic (n := 0) rfl (by decide) rfl (fun x9 q9 => ?_) -- 21
      refine hI_go (pc' := 28) (off := 6) rfl (by decide) ?_ -- 22
      refine hM_add rfl lq1 q9 (by omega) (by omega) rfl (fun x10 q10 => ?_) -- 28
      refine hM_si (k := 1) rfl (by decide +kernel) rfl (fun lv11 e11_1 u11 => ?_) -- 29
      have e11_0 := u11 0 _ (by decide) (Or.inl rfl) e0
      have e11_2 := u11 2 _ (by decide) (Or.inl rfl) e2
      refine hM_inc (k := 2) (z := 1) rfl e11_2 lq2 (by decide) (by omega) (by omega) (by decide +kernel) rfl (fun lv12 x12 q12 e12_2 u12 => ?_) -- 30
      have e12_0 := u12 0 _ (by decide) (Or.inl rfl) e11_0
      have e12_1 := u12 1 _ (by decide) (Or.inl rfl) e11_1
      refine hI_go (pc' := 4) (off := (-29)) rfl (by decide) ?_ -- 33
      exact g2 x10 q10 x12 q12 lv12 e12_0 e12_1 e12_2 c7 a2 b2 c18
theorem l_size (M : MX 49 W ρ m A h0 h F V G) (g : ∀ x : Int32, x.toInt = (p_ws (V 24) 6 : Int) → Q (some (.int x)) h) : ∀ (d r : Nat) (lv : List (Nat × Value)) (xn xr : Int32), r + d = 6 → xn.toInt = (p_ws (V 24) r : Int) → xr.toInt = (r : Int) → m_lk lv 0 = some (.ref m) → m_lk lv 1 = some (.int xn) → m_lk lv 2 = some (.int xr) → HJ 214 4 lv [] h Q := by
  intro d
  induction d with
  | zero =>
    intro r lv xn xr hd hn hr e0 e1 e2
    have r6 : r = 6 := by omega
    subst r6
    have b := p_wsL (f := V 24) 6
    exact s_size M e0 e1 hn e2 hr (by omega) (by omega) (by omega) (by decide) (by decide) (fun _ => g xn hn) (fun x6 q6 x8 q8 lv8 e8_0 e8_1 e8_2 c7 a2 b2 c18 => by omega) (fun x6 q6 x8 q8 lv8 e8_0 e8_1 e8_2 c7 a2 b2 c18 => by omega)
  | succ d ih =>
    intro r lv xn xr hd hn hr e0 e1 e2
    have b := p_wsL (f := V 24) r
    have b2 := n_2q (k := r) (by omega)
    have b3 := i_2q (k := r) (by omega)
    refine s_size M e0 e1 hn e2 hr (by omega) (by omega) (by omega) (by rw [Int.toNat_natCast]; omega) (by rw [Int.toNat_natCast]; omega) (fun _ => by omega) (fun x6 q6 x8 q8 lv8 e8_0 e8_1 e8_2 c7 a2 b2 c18 => ?_) (fun x6 q6 x8 q8 lv8 e8_0 e8_1 e8_2 c7 a2 b2 c18 => ?_)
    · rw [Int.toNat_natCast] at q6 c18
      refine ih (r + 1) lv8 x6 x8 (by omega) ?_ (by omega) e8_0 e8_1 e8_2
      rw [p_ws, y_tg1 c18]
      omega
    · rw [Int.toNat_natCast] at c18
      refine ih (r + 1) lv8 x6 x8 (by omega) ?_ (by omega) e8_0 e8_1 e8_2
      rw [p_ws, y_tg0 c18]
      omega
theorem c_size (M : MX 49 W ρ m A h0 h F V G) (g : ∀ x : Int32, x.toInt = (p_ws (V 24) 6 : Int) → Q (some (.int x)) h) : HJ 214 0 (lv_args 0 [.ref m]) [] h Q := by
  refine s_size0 M rfl (fun x1 q1 x3 q3 lv4 e4_0 e4_1 e4_2 => ?_)
  exact l_size M g 6 0 lv4 x1 x3 rfl q1 q3 e4_0 e4_1 e4_2
theorem s_least0 (M : MX 49 W ρ m A h0 h F V G) (e0 : m_lk lv 0 = some (.ref m)) 
    (g0 : ∀ x1 : Int32, x1.toInt = (-1) → ∀ x3 : Int32, x3.toInt = 0 → ∀ lv4 : List (Nat × Value), m_lk lv4 0 = some (.ref m) → m_lk lv4 1 = some (.int x1) → m_lk lv4 2 = some (.int x3) → HJ 217 4 lv4 [] h Q)
    : HJ 217 0 lv [] h Q := by
  refine hM_ic (n := (-1)) rfl (by decide) rfl (fun x1 q1 => ?_) -- 0
  refine hM_si (k := 1) rfl (by decide +kernel) rfl (fun lv2 e2_1 u2 => ?_) -- 1
  have e2_0 := u2 0 _ (by decide) (Or.inl rfl) e0
  refine hM_ic (n := 0) rfl (by decide) rfl (fun x3 q3 => ?_) -- 2
  refine hM_si (k := 2) rfl (by decide +kernel) rfl (fun lv4 e4_2 u4 => ?_) -- 3
  have e4_0 := u4 0 _ (by decide) (Or.inl rfl) e2_0
  have e4_1 := u4 1 _ (by decide) (Or.inl rfl) e2_1
  exact g0 x1 q1 x3 q3 lv4 e4_0 e4_1 e4_2
theorem s_least {b r : Int} (M : MX 49 W ρ m A h0 h F V G) (e0 : m_lk lv 0 = some (.ref m)) {lx1 : Int32} (e1 : m_lk lv 1 = some (.int lx1)) (lq1 : lx1.toInt = b) {lx2 : Int32} (e2 : m_lk lv 2 = some (.int lx2)) (lq2 : lx2.toInt = r) (r0 : 0 ≤ r) (b0 : -1 ≤ b) (b1 : b ≤ 5)
    (g0 : r ≥ 6 → Q (some (.int lx1)) h)
    (g1 : ∀ x5 : Int32, x5.toInt = r + 1 → ∀ lv5 : List (Nat × Value), m_lk lv5 0 = some (.ref m) → m_lk lv5 1 = some (.int lx1) → m_lk lv5 2 = some (.int x5) → r < 6 → (-1) ≤ V 24 (r).toNat → V 24 (r).toNat ≤ 15999 → V 24 (r).toNat = (-1) → HJ 217 4 lv5 [] h Q)
    (g2 : ∀ x8 : Int32, x8.toInt = r + 1 → ∀ lv8 : List (Nat × Value), m_lk lv8 0 = some (.ref m) → m_lk lv8 1 = some (.int lx2) → m_lk lv8 2 = some (.int x8) → r < 6 → (-1) ≤ V 24 (r).toNat → V 24 (r).toNat ≤ 15999 → V 24 (r).toNat ≠ (-1) → b = (-1) → HJ 217 4 lv8 [] h Q)
    (g3 : ∀ x9 : Int32, x9.toInt = V 24 (r).toNat → ∀ x10 : Int32, x10.toInt = V 24 (b).toNat → r < 6 → (-1) ≤ V 24 (r).toNat → V 24 (r).toNat ≤ 15999 → V 24 (r).toNat ≠ (-1) → b ≠ (-1) → (-1) ≤ V 24 (b).toNat → V 24 (b).toNat ≤ 15999 → HJ 211 0 (lv_args 0 [.ref m, .int x9, .int x10]) [] h (fun v h' => HJ 217 41 lv (v.toList ++ []) h' Q))
    : HJ 217 4 lv [] h Q := by
  refine hI_il (k := 2) rfl e2 rfl ?_ -- 4
  refine hM_bp (n := 6) rfl (by decide) rfl (fun x1 q1 => ?_) -- 5
  refine hM_cge (off := 49) (t := 56) rfl lq2 q1 (by decide) rfl (fun c7 => ?_) (fun c7 => ?_) -- 7
  · refine hI_il (k := 1) rfl e1 rfl ?_ -- 56
    refine hI_ri rfl rfl ?_ -- 57
    exact g0 c7
  · refine hI_al (k := 0) rfl e0 rfl ?_ -- 10
    refine hM_ga M (by decide) rfl rfl (k := 24) (c := 9) rfl rfl rfl (by decide +kernel) rfl ?_ -- 11
    refine hI_il (k := 2) rfl e2 rfl ?_ -- 14
    refine hM_ia M (by decide) (K := 24) (R2 := 61) (L := 6) (H := 6) (lo := (-1)) (hi := 15999) rfl (by decide) rfl rfl (fun _ => rfl) rfl lq2 (by omega) (by omega) rfl (fun x2 q2 a2 b2 => ?_) -- 15
    refine hM_ic (n := (-1)) rfl (by decide) rfl (fun x3 q3 => ?_) -- 16
    refine hM_ceq (off := 31) (t := 48) rfl q2 q3 (by decide) rfl (fun c17 => ?_) (fun c17 => ?_) -- 17
    · refine hI_il (k := 1) rfl e1 rfl ?_ -- 48
      refine hM_si (k := 1) rfl (by decide +kernel) rfl (fun lv4 e4_1 u4 => ?_) -- 49
      have e4_0 := u4 0 _ (by decide) (Or.inl rfl) e0
      have e4_2 := u4 2 _ (by decide) (Or.inl rfl) e2
      refine hM_inc (k := 2) (z := 1) rfl e4_2 lq2 (by decide) (by omega) (by omega) (by decide +kernel) rfl (fun lv5 x5 q5 e5_2 u5 => ?_) -- 50
      have e5_0 := u5 0 _ (by decide) (Or.inl rfl) e4_0
      have e5_1 := u5 1 _ (by decide) (Or.inl rfl) e4_1
      refine hI_go (pc' := 4) (off := (-49)) rfl (by decide) ?_ -- 53
      exact g1 x5 q5 lv5 e5_0 e5_1 e5_2 c7 a2 b2 c17
    · refine hI_il (k := 1) rfl e1 rfl ?_ -- 20
      refine hM_ic (n := (-1)) rfl (by decide) rfl (fun x6 q6 => ?_) -- 21
      refine hM_ceq (off := 22) (t := 44) rfl lq1 q6 (by decide) rfl (fun c22 => ?_) (fun c22 => ?_) -- 22
      · refine hI_il (k := 2) rfl e2 rfl ?_ -- 44
        refine hI_go (pc' := 49) (off := 4) rfl (by decide) ?_ -- 45
        refine hM_si (k := 1) rfl (by decide +kernel) rfl (fun lv7 e7_1 u7 => ?_) -- 49
        have e7_0 := u7 0 _ (by decide) (Or.inl rfl) e0
        have e7_2 := u7 2 _ (by decide) (Or.inl rfl) e2
        refine hM_inc (k := 2) (z := 1) rfl e7_2 lq2 (by decide) (by omega) (by omega) (by decide +kernel) rfl (fun lv8 x8 q8 e8_2 u8 => ?_) -- 50
        have e8_0 := u8 0 _ (by decide) (Or.inl rfl) e7_0
        have e8_1 := u8 1 _ (by decide) (Or.inl rfl) e7_1
        refine hI_go (pc' := 4) (off := (-49)) rfl (by decide) ?_ -- 53
        exact g2 x8 q8 lv8 e8_0 e8_1 e8_2 c7 a2 b2 c17 c22
      · refine hI_al (k := 0) rfl e0 rfl ?_ -- 25
        refine hI_al (k := 0) rfl e0 rfl ?_ -- 26
        refine hM_ga M (by decide) rfl rfl (k := 24) (c := 9) rfl rfl rfl (by decide +kernel) rfl ?_ -- 27
        refine hI_il (k := 2) rfl e2 rfl ?_ -- 30
        refine hM_ia M (by decide) (K := 24) (R2 := 61) (L := 6) (H := 6) (lo := (-1)) (hi := 15999) rfl (by decide) rfl rfl (fun _ => rfl) rfl lq2 (by omega) (by omega) rfl (fun x9 q9 a9 b9 => ?_) -- 31
        refine hI_al (k := 0) rfl e0 rfl ?_ -- 32
        refine hM_ga M (by decide) rfl rfl (k := 24) (c := 9) rfl rfl rfl (by decide +kernel) rfl ?_ -- 33
        refine hI_il (k := 1) rfl e1 rfl ?_ -- 36
        refine hM_ia M (by decide) (K := 24) (R2 := 61) (L := 6) (H := 6) (lo := (-1)) (hi := 15999) rfl (by decide) rfl rfl (fun _ => rfl) rfl lq1 (by omega) (by omega) rfl (fun x10 q10 a10 b10 => ?_) -- 37
        refine hM_iv M (by decide) rfl rfl (by decide) (as := [.int x9, .int x10]) (r := []) rfl rfl (by decide +kernel) rfl (by decide +kernel) rfl rfl rfl rfl rfl ?_ -- 38
        exact g3 x9 q9 x10 q10 c7 a2 b2 c17 c22 a10 b10
theorem s_least41 {b r z : Int} (M : MX 49 W ρ m A h0 h F V G) (e0 : m_lk lv 0 = some (.ref m)) {lx1 : Int32} (e1 : m_lk lv 1 = some (.int lx1)) (lq1 : lx1.toInt = b) {lx2 : Int32} (e2 : m_lk lv 2 = some (.int lx2)) (lq2 : lx2.toInt = r) {sx0 : Int32} (sq0 : sx0.toInt = z) (r0 : 0 ≤ r) (r1 : r ≤ 5)
    (g0 : ∀ x2 : Int32, x2.toInt = r + 1 → ∀ lv2 : List (Nat × Value), m_lk lv2 0 = some (.ref m) → m_lk lv2 1 = some (.int lx1) → m_lk lv2 2 = some (.int x2) → z = 0 → HJ 217 4 lv2 [] h Q)
    (g1 : ∀ x4 : Int32, x4.toInt = r + 1 → ∀ lv4 : List (Nat × Value), m_lk lv4 0 = some (.ref m) → m_lk lv4 1 = some (.int lx2) → m_lk lv4 2 = some (.int x4) → z ≠ 0 → HJ 217 4 lv4 [] h Q)
    : HJ 217 41 lv [.int sx0] h Q := by
  refine hM_zeq (off := 7) (t := 48) rfl sq0 (by decide) rfl (fun c41 => ?_) (fun c41 => ?_) -- 41
  · refine hI_il (k := 1) rfl e1 rfl ?_ -- 48
    refine hM_si (k := 1) rfl (by decide +kernel) rfl (fun lv1 e1_1 u1 => ?_) -- 49
    have e1_0 := u1 0 _ (by decide) (Or.inl rfl) e0
    have e1_2 := u1 2 _ (by decide) (Or.inl rfl) e2
    refine hM_inc (k := 2) (z := 1) rfl e1_2 lq2 (by decide) (by omega) (by omega) (by decide +kernel) rfl (fun lv2 x2 q2 e2_2 u2 => ?_) -- 50
    have e2_0 := u2 0 _ (by decide) (Or.inl rfl) e1_0
    have e2_1 := u2 1 _ (by decide) (Or.inl rfl) e1_1
    refine hI_go (pc' := 4) (off := (-49)) rfl (by decide) ?_ -- 53
    exact g0 x2 q2 lv2 e2_0 e2_1 e2_2 c41
  · refine hI_il (k := 2) rfl e2 rfl ?_ -- 44
    refine hI_go (pc' := 49) (off := 4) rfl (by decide) ?_ -- 45
    refine hM_si (k := 1) rfl (by decide +kernel) rfl (fun lv3 e3_1 u3 => ?_) -- 49
    have e3_0 := u3 0 _ (by decide) (Or.inl rfl) e0
    have e3_2 := u3 2 _ (by decide) (Or.inl rfl) e2
    refine hM_inc (k := 2) (z := 1) rfl e3_2 lq2 (by decide) (by omega) (by omega) (by decide +kernel) rfl (fun lv4 x4 q4 e4_2 u4 => ?_) -- 50
    have e4_0 := u4 0 _ (by decide) (Or.inl rfl) e3_0
    have e4_1 := u4 1 _ (by decide) (Or.inl rfl) e3_1
    refine hI_go (pc' := 4) (off := (-49)) rfl (by decide) ?_ -- 53
    exact g1 x4 q4 lv4 e4_0 e4_1 e4_2 c41
def g_lst (f : Nat → Int) (r : Nat) (b : Int) : Prop := (b = -1 ∧ ∀ k, k < r → f k = -1) ∨ (0 ≤ b ∧ b < r ∧ f b.toNat ≠ -1)
def g_lf (F : Nat → Int) (V : Nat → Nat → Int) (r : Nat) (b : Int) : Prop := ∀ S h, rs_of F V S → p_hp (F 17) (V 22) (V 24) → hp6 (V 24) h → b = pm_le S h r
theorem pm_leK {S : PSt} {h : Nat → Int} {r : Nat} (e : h r = -1 ∨ (pm_le S h r ≠ -1 ∧ ¬ ps_ls S (h r) (h (pm_le S h r).toNat))) : pm_le S h (r + 1) = pm_le S h r := by
  rw [pm_le, if_neg]
  intro z
  rcases e with e | ⟨e1, e2⟩
  · exact z.1 e
  · exact z.2.elim e1 e2
theorem pm_leT {S : PSt} {h : Nat → Int} {r : Nat} (e : h r ≠ -1) (f : pm_le S h r = -1 ∨ ps_ls S (h r) (h (pm_le S h r).toNat)) : pm_le S h (r + 1) = (r : Int) := by
  rw [pm_le, if_pos ⟨e, f⟩]
theorem l_least (M : MX 49 W ρ m A h0 h F V G) (g : ∀ x : Int32, g_lst (V 24) 6 x.toInt → g_lf F V 6 x.toInt → Q (some (.int x)) h) : ∀ (d r : Nat) (lv : List (Nat × Value)) (xb xr : Int32), r + d = 6 → g_lst (V 24) r xb.toInt → g_lf F V r xb.toInt → xr.toInt = (r : Int) → m_lk lv 0 = some (.ref m) → m_lk lv 1 = some (.int xb) → m_lk lv 2 = some (.int xr) → HJ 217 4 lv [] h Q := by
  intro d
  induction d with
  | zero =>
    intro r lv xb xr hd I J hr e0 e1 e2
    have r6 : r = 6 := by omega
    subst r6
    have bb : -1 ≤ xb.toInt ∧ xb.toInt ≤ 5 := by rcases I with z | z <;> omega
    exact s_least M e0 e1 rfl e2 hr (by omega) bb.1 bb.2 (fun _ => g xb I J) (fun x5 q5 lv5 e5_0 e5_1 e5_2 c7 a2 b2 c17 => by omega) (fun x8 q8 lv8 e8_0 e8_1 e8_2 c7 a2 b2 c17 c22 => by omega) (fun x9 q9 x10 q10 c7 a2 b2 c17 c22 a10 b10 => by omega)
  | succ d ih =>
    intro r lv xb xr hd I J hr e0 e1 e2
    have bb : -1 ≤ xb.toInt ∧ xb.toInt ≤ 5 := by rcases I with z | z <;> omega
    have keep : ∀ f : V 24 r = -1 ∨ xb.toInt ≠ -1, g_lst (V 24) (r + 1) xb.toInt := fun f => by
      rcases I with ⟨z1, z2⟩ | ⟨z1, z2, z3⟩
      · refine Or.inl ⟨z1, fun k hk => ?_⟩
        rcases f with f | f
        · by_cases e : k = r
          · rw [e, f]
          · exact z2 k (by omega)
        · exact absurd z1 f
      · exact Or.inr ⟨z1, by omega, z3⟩
    have take : V 24 r ≠ -1 → g_lst (V 24) (r + 1) (r : Int) := fun f => Or.inr ⟨by omega, by omega, by rw [Int.toNat_natCast]; exact f⟩
    have keepJ : (∀ S h, rs_of F V S → p_hp (F 17) (V 22) (V 24) → hp6 (V 24) h → h r = -1 ∨ (pm_le S h r ≠ -1 ∧ ¬ ps_ls S (h r) (h (pm_le S h r).toNat))) → g_lf F V (r + 1) xb.toInt := fun f S h a b c => by
      rw [pm_leK (f S h a b c)]
      exact J S h a b c
    have takeJ : (∀ S h, rs_of F V S → p_hp (F 17) (V 22) (V 24) → hp6 (V 24) h → h r ≠ -1 ∧ (pm_le S h r = -1 ∨ ps_ls S (h r) (h (pm_le S h r).toNat))) → g_lf F V (r + 1) (r : Int) := fun f S h a b c => by
      rw [pm_leT (f S h a b c).1 (f S h a b c).2]
    refine s_least M e0 e1 rfl e2 hr (by omega) bb.1 bb.2 (fun _ => by omega) (fun x5 q5 lv5 e5_0 e5_1 e5_2 c7 a2 b2 c17 => ?_) (fun x8 q8 lv8 e8_0 e8_1 e8_2 c7 a2 b2 c17 c22 => ?_) (fun x9 q9 x10 q10 c7 a2 b2 c17 c22 a10 b10 => ?_)
    · rw [Int.toNat_natCast] at c17
      exact ih (r + 1) lv5 xb x5 (by omega) (keep (Or.inl c17)) (keepJ (fun S h a b c => Or.inl (by rw [← c r (by omega)]; exact c17))) (by omega) e5_0 e5_1 e5_2
    · rw [Int.toNat_natCast] at c17
      exact ih (r + 1) lv8 xr x8 (by omega) (by rw [hr]; exact take c17) (by rw [hr]; exact takeJ (fun S h a b c => ⟨by rw [← c r (by omega)]; exact c17, Or.inl ((J S h a b c).symm.trans c22)⟩)) (by omega) e8_0 e8_1 e8_2
    · rw [Int.toNat_natCast] at c17 a2 b2
      rw [Int.toNat_natCast] at q9
      have nb : V 24 xb.toInt.toNat ≠ -1 := by
        rcases I with ⟨z1, z2⟩ | ⟨z1, z2, z3⟩
        · exact absurd z1 c22
        · exact z3
      refine c_less M q9 q10 (by omega) (by omega) (by omega) (by omega) (fun z z0 z1 zz => ?_)
      have ls : ∀ S h, rs_of F V S → p_hp (F 17) (V 22) (V 24) → hp6 (V 24) h → (y_ls V (V 24 r) (V 24 xb.toInt.toNat) ↔ ps_ls S (h r) (h (pm_le S h r).toNat)) ∧ pm_le S h r ≠ -1 ∧ h r ≠ -1 := fun S h a b c => by
        have j := J S h a b c
        have k1 := (b r (by omega)).resolve_left c17
        have k2 := (b xb.toInt.toNat (by omega)).resolve_left nb
        rw [← j, ← c r (by omega), ← c xb.toInt.toNat (by omega)]
        exact ⟨rs_ls a k1.1 k1.2.1 k2.1 k2.2.1, c22, c17⟩
      exact s_least41 (z := z.toInt) M e0 e1 rfl e2 hr rfl (by omega) (by omega)
        (fun x2 q2 lv2 e2_0 e2_1 e2_2 c41 => ih (r + 1) lv2 xb x2 (by omega) (keep (Or.inr c22)) (keepJ (fun S h a b c => Or.inr ⟨(ls S h a b c).2.1, fun y => by
          rcases zz with ⟨q, -⟩ | ⟨-, q⟩
          · omega
          · exact q ((ls S h a b c).1.mpr y)⟩)) (by omega) e2_0 e2_1 e2_2)
        (fun x2 q2 lv2 e2_0 e2_1 e2_2 c41 => ih (r + 1) lv2 xr x2 (by omega) (by rw [hr]; exact take c17) (by
          rw [hr]
          refine takeJ (fun S h a b c => ⟨(ls S h a b c).2.2, Or.inr ?_⟩)
          rcases zz with ⟨-, q⟩ | ⟨q, -⟩
          · exact (ls S h a b c).1.mp q
          · exact absurd q c41) (by omega) e2_0 e2_1 e2_2)
theorem c_least (M : MX 49 W ρ m A h0 h F V G) (g : ∀ x : Int32, g_lst (V 24) 6 x.toInt → g_lf F V 6 x.toInt → Q (some (.int x)) h) : HJ 217 0 (lv_args 0 [.ref m]) [] h Q := by
  refine s_least0 M rfl (fun x1 q1 x3 q3 lv4 e4_0 e4_1 e4_2 => ?_)
  exact l_least M g 6 0 lv4 x1 x3 rfl (Or.inl ⟨q1, fun k hk => by omega⟩) (fun _ _ _ _ _ => q1) q3 e4_0 e4_1 e4_2
-- meld, whole
theorem c_meld (M : MX 49 W ρ m A h0 h F V G) (hw : d_sub g_md W = true) (sh : p_sh (F 17) (V 22) (V 23)) (h1 : p_hp (F 17) (V 22) (V 24)) (h2 : p_hp (F 17) (V 22) (V 25)) (n0 : 0 ≤ F 17) (n1 : F 17 + 6 ≤ 16000) (g : ∀ (h' : MH) (F' : Nat → Int) (V' : Nat → Nat → Int) (c : Int), MX 49 W ρ m A h0 h' F' V' G → g_mi F V F' V' 6 c → (∀ S h s, rs_of F V S → hp6 (V 24) h → hp6 (V 25) s → rs_of F' V' (pm_md S h s).1 ∧ hp6 (V' 24) (pm_md S h s).2) → Q none h') : HJ 209 0 (lv_args 0 [.ref m]) [] h Q := by
  refine s_meld0 M rfl (fun x1 q1 x3 q3 lv4 e4_0 e4_1 e4_2 => ?_)
  exact l_meld hw n0 n1 h2 (fun h' F' V' c M' I J => g h' F' V' c M' I (fun S h s a1 a2 a3 => ⟨(J S h s a1 a2 a3).1, (J S h s a1 a2 a3).2.1⟩)) 6 0 (-1) lv4 h F V x1 x3 rfl M ⟨⟨sh, h1, Or.inl rfl⟩, ⟨Int.le_refl _, by omega⟩, fun _ _ _ => rfl, fun _ _ => rfl, fun _ _ _ _ _ _ => rfl, fun _ _ => rfl, rfl, fun _ _ => rfl⟩ (fun S h s a1 a2 _ => ⟨a1, a2, rfl⟩) q1 q3 e4_0 e4_1 e4_2
-- what an act leaves
def g_ex (F0 : Nat → Int) (V0 : Nat → Nat → Int) (F : Nat → Int) (V : Nat → Nat → Int) (k : Int) : Prop := (p_sh (F 17) (V 22) (V 23) ∧ p_hp (F 17) (V 22) (V 24)) ∧ (F0 17 ≤ F 17 ∧ F 17 ≤ F0 17 + k) ∧ (∀ K, K ≠ 17 → K ≠ 18 → K ≠ 19 → K ≠ 26 → F K = F0 K) ∧ (∀ v : Nat, (v : Int) < F0 17 → V 22 v = V0 22 v) ∧ (∀ K, K < 20 ∨ 34 < K → V K = V0 K)
theorem g_exR {F : Nat → Int} {V : Nat → Nat → Int} {k : Int} (k0 : 0 ≤ k) (sh : p_sh (F 17) (V 22) (V 23)) (hp : p_hp (F 17) (V 22) (V 24)) : g_ex F V F V k := ⟨⟨sh, hp⟩, ⟨Int.le_refl _, by omega⟩, fun _ _ _ _ _ => rfl, fun _ _ => rfl, fun _ _ => rfl⟩
theorem g_exT {F0 F1 F : Nat → Int} {V0 V1 V : Nat → Nat → Int} {k k2 : Int} (a : g_ex F0 V0 F1 V1 k) (b : g_ex F1 V1 F V k2) : g_ex F0 V0 F V (k + k2) := by
  obtain ⟨a1, ⟨a2, a3⟩, a4, a5, a6⟩ := a
  obtain ⟨b1, ⟨b2, b3⟩, b4, b5, b6⟩ := b
  exact ⟨b1, ⟨by omega, by omega⟩, fun K k1 k2 k3 k4 => (b4 K k1 k2 k3 k4).trans (a4 K k1 k2 k3 k4), fun v hv => (b5 v (by omega)).trans (a5 v hv), fun K hK => (b6 K hK).trans (a6 K hK)⟩
theorem s_puts0 {k : Int} (M : MX 49 W ρ m A h0 h F V G) (e0 : m_lk lv 0 = some (.ref m)) {lx1 : Int32} (e1 : m_lk lv 1 = some (.int lx1)) (lq1 : lx1.toInt = k) 
    (g0 : HJ 214 0 (lv_args 0 [.ref m]) [] h (fun v h' => HJ 213 4 lv (v.toList ++ []) h' Q))
    : HJ 213 0 lv [] h Q := by
  refine hI_al (k := 0) rfl e0 rfl ?_ -- 0
  refine hM_iv M (by decide) rfl rfl (by decide) (as := []) (r := []) rfl rfl (by decide +kernel) rfl (by decide +kernel) rfl rfl rfl rfl rfl ?_ -- 1
  exact g0 
theorem s_puts4 {k n : Int} (M : MX 49 W ρ m A h0 h F V G) (e0 : m_lk lv 0 = some (.ref m)) {lx1 : Int32} (e1 : m_lk lv 1 = some (.int lx1)) (lq1 : lx1.toInt = k) {sx0 : Int32} (sq0 : sx0.toInt = n) 
    (g0 : n ≠ 63 → HJ 215 0 (lv_args 0 [.ref m]) [] h (fun v h' => HJ 213 15 lv (v.toList ++ []) h' Q))
    (g1 : ∀ x2 : Int32, x2.toInt = 0 → n = 63 → Q (some (.int x2)) h)
    : HJ 213 4 lv [.int sx0] h Q := by
  refine hM_bp (n := 63) rfl (by decide) rfl (fun x1 q1 => ?_) -- 4
  refine hM_cne (off := 5) (t := 11) rfl sq0 q1 (by decide) rfl (fun c6 => ?_) (fun c6 => ?_) -- 6
  · refine hI_al (k := 0) rfl e0 rfl ?_ -- 11
    refine hM_iv M (by decide) rfl rfl (by decide) (as := []) (r := []) rfl rfl (by decide +kernel) rfl (by decide +kernel) rfl rfl rfl rfl rfl ?_ -- 12
    exact g0 c6
  · refine hM_ic (n := 0) rfl (by decide) rfl (fun x2 q2 => ?_) -- 9
    refine hM_rb rfl rfl q2 (by omega) (by omega) ?_ -- 10
    exact g1 x2 q2 c6
theorem s_puts15 {k : Int} (M : MX 49 W ρ m A h0 h F V G) (e0 : m_lk lv 0 = some (.ref m)) {lx1 : Int32} (e1 : m_lk lv 1 = some (.int lx1)) (lq1 : lx1.toInt = k) 
    (g0 : ∀ x1 : Int32, x1.toInt = 0 → ∀ x2 : Int32, x2.toInt = F 18 → ∀ x3 : Int32, x3.toInt = 0 → (-2147483648) ≤ F 18 → F 18 ≤ 2147483647 → HJ 212 0 (lv_args 0 [.ref m, .int x2, .int lx1, .int x3]) [] h (fun v h' => HJ 213 30 lv (v.toList ++ [.int x1, .ref (A 25)]) h' Q))
    : HJ 213 15 lv [] h Q := by
  refine hI_al (k := 0) rfl e0 rfl ?_ -- 15
  refine hM_ga M (by decide) rfl rfl (k := 25) (c := 9) rfl rfl rfl (by decide +kernel) rfl ?_ -- 16
  refine hM_ic (n := 0) rfl (by decide) rfl (fun x1 q1 => ?_) -- 19
  refine hI_al (k := 0) rfl e0 rfl ?_ -- 20
  refine hI_al (k := 0) rfl e0 rfl ?_ -- 21
  refine hM_gi M (by decide) rfl rfl rfl (k := 18) (c := 9) (lo := (-2147483648)) (hi := 2147483647) rfl rfl rfl rfl rfl (fun x2 q2 a2 b2 => ?_) -- 22
  refine hI_il (k := 1) rfl e1 rfl ?_ -- 25
  refine hM_ic (n := 0) rfl (by decide) rfl (fun x3 q3 => ?_) -- 26
  refine hM_iv M (by decide) rfl rfl (by decide) (as := [.int x2, .int lx1, .int x3]) (r := [.int x1, .ref (A 25)]) rfl rfl (by decide +kernel) rfl (by decide +kernel) rfl rfl rfl rfl rfl ?_ -- 27
  exact g0 x1 q1 x2 q2 x3 q3 a2 b2
theorem s_puts30 {z n : Int} (M : MX 49 W ρ m A h0 h F V G) (e0 : m_lk lv 0 = some (.ref m)) {sx1 : Int32} (sq1 : sx1.toInt = z) {sx2 : Int32} (sq2 : sx2.toInt = n) (z0 : z = 0) (n0 : 0 ≤ n) (n1 : n ≤ 15999)(hw : d_sub [(62, 1001), (49, 18)] W = true)
    (g0 : ∀ h1 : MH, ∀ V1 : Nat → Nat → Int, V1 = m_u V 25 (m_u (V 25) (z).toNat (n)) → ∀ z4 : Int, -2147483648 ≤ z4 → z4 ≤ 2147483647 → (-2147483648 ≤ F 18 + 1 → F 18 + 1 ≤ 2147483647 → z4 = F 18 + 1) → ∀ h5 : MH, ∀ F5 : Nat → Int, F5 = m_u F 18 (z4) → MX 49 W ρ m A h0 h5 F5 V1 G → (-2147483648) ≤ F 18 → F 18 ≤ 2147483647 → HJ 209 0 (lv_args 0 [.ref m]) [] h5 (fun v h' => HJ 213 45 lv (v.toList ++ []) h' Q))
    : HJ 213 30 lv [.int sx2, .int sx1, .ref (A 25)] h Q := by
  refine hM_is M (by decide) ok_49 (K := 25) (R2 := 62) (L := 6) (H := 6) (lo := (-1)) (hi := 15999) rfl (by decide) rfl rfl rfl (fun _ => rfl) (d_subm hw (by decide +kernel)) rfl sq1 sq2 (by omega) (by omega) (by omega) (by omega) rfl (fun h1 V1 f1 M1 => ?_) -- 30
  refine hI_al (k := 0) rfl e0 rfl ?_ -- 31
  refine hI_dup rfl rfl rfl ?_ -- 32
  refine hM_gi M1 (by decide) rfl rfl rfl (k := 18) (c := 9) (lo := (-2147483648)) (hi := 2147483647) rfl rfl rfl rfl rfl (fun x2 q2 a2 b2 => ?_) -- 33
  refine hM_ic (n := 1) rfl (by decide) rfl (fun x3 q3 => ?_) -- 36
  refine hM_addx rfl q2 q3 rfl (fun x4 z4 q4 a4 b4 c4 => ?_) -- 37
  refine hM_pi M1 (by decide) ok_49 rfl rfl (k := 18) (c := 9) (lo := (-2147483648)) (hi := 2147483647) rfl rfl ⟨by decide, by decide +kernel, rfl⟩ rfl (d_subm hw (by decide +kernel)) q4 (by omega) (by omega) rfl (fun h5 F5 f5 M5 => ?_) -- 38
  refine hI_al (k := 0) rfl e0 rfl ?_ -- 41
  refine hM_iv M5 (by decide) rfl rfl (by decide) (as := []) (r := []) rfl rfl (by decide +kernel) rfl (by decide +kernel) rfl rfl rfl rfl rfl ?_ -- 42
  exact g0 h1 V1 f1 z4 a4 b4 c4 h5 F5 f5 M5 a2 b2
theorem s_puts45 (M : MX 49 W ρ m A h0 h F V G)  
    (g0 : ∀ x1 : Int32, x1.toInt = 1 → Q (some (.int x1)) h)
    : HJ 213 45 lv [] h Q := by
  refine hM_ic (n := 1) rfl (by decide) rfl (fun x1 q1 => ?_) -- 45
  refine hM_rb rfl rfl q1 (by omega) (by omega) ?_ -- 46
  exact g0 x1 q1
theorem rs_mk {F F2 : Nat → Int} {V V2 : Nat → Nat → Int} {S : PSt} {t y : Int} {f : Nat → Int} (I : rs_of F V S) (sh : p_sh (F 17) (V 22) (V 23)) (t0 : 0 ≤ t) (t1 : t ≤ 127) (y0 : 0 ≤ y) (y1 : y ≤ 99) (f17 : F2 17 = F 17 + 1) (f19 : F2 19 = F 19) (v20 : V2 20 = m_u (V 20) (F 17).toNat t) (v21 : V2 21 = m_u (V 21) (F 17).toNat y) (v22 : V2 22 = m_u (V 22) (F 17).toNat 0) (v23 : V2 23 = V 23) : rs_of F2 V2 (ps_mk S t y 0 f) := by
  obtain ⟨i1, i2, i3, i4⟩ := I
  have en : (F 17).toNat = ps_n S := by omega
  rw [en] at v20 v21 v22
  obtain ⟨n1, n2, n3, n4, n5⟩ := ps_mkN (S := S) (t := t) (y := y) (k := 0) (f := f)
  unfold rs_of
  rw [n1, n2, n3, n4, n5]
  refine ⟨by omega, by omega, ⟨by omega, by omega⟩, fun v hv => ?_⟩
  by_cases e : v = ps_n S
  · rw [e, v20, v21, v22, m_uE, m_uE, m_uE, m_uE, m_uE, m_uE]
    exact ⟨rfl, ⟨t0, t1⟩, rfl, ⟨y0, y1⟩, rfl, fun q hq => by omega⟩
  · obtain ⟨a1, a2, a3, a4, a5, a6⟩ := i4 v (by omega)
    rw [v20, v21, v22, v23, m_uN _ _ _ _ e, m_uN _ _ _ _ e, m_uN _ _ _ _ e, m_uN _ _ _ _ e, m_uN _ _ _ _ e, m_uN _ _ _ _ e]
    refine ⟨a1, a2, a3, a4, a5, fun q hq => ?_⟩
    have := (sh v (by omega)).1
    rw [ps_mkB (by omega)]
    exact a6 q hq
def g_pt : List (Nat × Nat) := g_md ++ [(62, 1001), (49, 18)]
theorem c_puts {k : Int} {xk : Int32} (M : MX 49 W ρ m A h0 h F V G) (b0_ : m_lk lv 0 = some (.ref m)) (b1_ : m_lk lv 1 = some (.int xk)) (hw : d_sub g_pt W = true) (hk : xk.toInt = k) (sh : p_sh (F 17) (V 22) (V 23)) (h1 : p_hp (F 17) (V 22) (V 24)) (n0 : 0 ≤ F 17) (n1 : F 17 + 7 ≤ 16000) (g : ∀ (x : Int32) (h' : MH) (F' : Nat → Int) (V' : Nat → Nat → Int), 0 ≤ x.toInt → x.toInt ≤ 1 → MX 49 W ρ m A h0 h' F' V' G → g_ex F V F' V' 7 → (∀ S h, rs_of F V S → hp6 (V 24) h → 0 ≤ F 18 → F 18 ≤ 127 → 0 ≤ k → k ≤ 99 → (x.toInt = 1 ∧ p_ws h 6 ≠ 63 ∧ F' 18 = F 18 + 1 ∧ rs_of F' V' (pm_pu S h (F 18) k).1 ∧ hp6 (V' 24) (pm_pu S h (F 18) k).2) ∨ (x.toInt = 0 ∧ p_ws h 6 = 63 ∧ F' = F ∧ V' = V)) → Q (some (.int x)) h') : HJ 213 0 lv [] h Q := by
  have w1 : d_sub [(62, 1001)] W = true := d_subm hw (by decide +kernel)
  have w2 : d_sub g_mk W = true := d_subm hw (by decide +kernel)
  have w3 : d_sub g_md W = true := d_subm hw (by decide +kernel)
  have w4 : d_sub [(62, 1001), (49, 18)] W = true := d_subm hw (by decide +kernel)
  refine s_puts0 M b0_ b1_ hk (c_size M (fun n hn => ?_))
  refine s_puts4 M b0_ b1_ hk hn (fun c9 => ?_) (fun x2 q2 c9 => g x2 h F V (by omega) (by omega) M (g_exR (by omega) sh h1) (fun S h' _ e _ _ _ _ => Or.inr ⟨q2, by rw [← p_wsC (f := h') (r := 6) (fun j hj => e j hj)]; omega, rfl, rfl⟩))
  refine c_clear M w1 (fun h2 V2 M2 k1 k2 => ?_)
  refine s_puts15 M2 b0_ b1_ hk (fun x1 q1 x2 q2 x3 q3 a2 b2 => ?_)
  refine c_make M2 w2 q2 hk q3 n0 (by omega) (by omega) (by omega) (fun x h3 F3 V3 hx M3 f3 v3 o3 v20 v21 => ?_)
  refine s_puts30 M3 b0_ q1 hx rfl n0 (by omega) w4 (fun h4 V4 f4 z4 a4 b4 c4 h5 F5 f5 M5 a2 b2 => ?_)
  have f17 : F5 17 = F 17 + 1 := by
    rw [f5, m_uN _ _ _ _ (by decide), f3, m_uE]
  have v22 : V4 22 = m_u (V 22) (F 17).toNat 0 := by rw [f4, m_uN _ _ _ _ (by decide), v3, k2 22 (by decide)]
  have v23 : V4 23 = V 23 := by rw [f4, m_uN _ _ _ _ (by decide), o3 23 (by decide) (by decide) (by decide), k2 23 (by decide)]
  have v24 : V4 24 = V 24 := by rw [f4, m_uN _ _ _ _ (by decide), o3 24 (by decide) (by decide) (by decide), k2 24 (by decide)]
  have v25 : V4 25 = m_u (V2 25) 0 (F 17) := by rw [f4, m_uE, o3 25 (by decide) (by decide) (by decide)]; rfl
  have up : ∀ v : Nat, (v : Int) < F 17 → V4 22 v = V 22 v := fun v hv => by rw [v22, m_uN _ _ _ _ (by omega)]
  have sh4 : p_sh (F5 17) (V4 22) (V4 23) := by
    intro v hv
    rw [f17] at hv
    by_cases e : (v : Int) < F 17
    · obtain ⟨s1, s2⟩ := sh v e
      rw [up v e, v23]
      refine ⟨s1, fun r hr => ?_⟩
      obtain ⟨t1, t2, t3⟩ := s2 r hr
      exact ⟨t1, by omega, by rw [up _ (by omega)]; exact t3⟩
    · have ev : V4 22 v = 0 := by rw [v22, show v = (F 17).toNat by omega, m_uE]
      rw [ev]
      exact ⟨by omega, fun r hr => by omega⟩
  refine c_meld M5 w3 sh4 (by rw [v24]; exact p_hpU (by omega) up h1) (fun r h6 => ?_) (by omega) (by omega) (fun h6 F6 V6 c M6 I R => ?_)
  · rw [v25]
    by_cases e : r = 0
    · rw [e, m_uE]
      exact Or.inr ⟨n0, by omega, by rw [v22, m_uE]; rfl⟩
    · rw [m_uN _ _ _ _ e, k1 r h6]
      exact Or.inl rfl
  · obtain ⟨⟨i1, i2, i3⟩, ⟨i4, i5⟩, i6, i7, i8, i9, i10, i11⟩ := I
    refine s_puts45 M6 (fun x q => g x h6 F6 V6 (by omega) (by omega) M6 ⟨⟨i1, i2⟩, ⟨by omega, by omega⟩, fun K k1 k2 k3 k4 => ?_, fun v hv => (i7 v (by omega)).trans (up v hv), fun K hK => ?_⟩ (fun S hh a e t0 t1 y0 y1 => Or.inl ⟨q, fun z => c9 ?_, ?_, R _ hh _ ?_ ?_ ?_⟩))
    · rw [i6 K k1 k3, f5, m_uN _ _ _ _ k2, f3, m_uN _ _ _ _ k1]
    · rw [i8 K (by omega) (by omega) (by omega) (by omega) (by omega), f4, m_uN _ _ _ _ (by omega), o3 K (by omega) (by omega) (by omega), k2 K (by omega)]
    · rw [p_wsC (f := hh) (r := 6) (fun j hj => e j hj), z]
      rfl
    · have l18 : F3 18 = F 18 := by rw [f3, m_uN _ _ _ _ (by decide)]
      rw [i6 18 (by decide) (by decide), f5, m_uE, c4 (by omega) (by omega), l18]
    · refine rs_mk a sh t0 t1 y0 y1 f17 ?_ ?_ ?_ v22 v23
      · rw [f5, m_uN _ _ _ _ (by decide), f3, m_uN _ _ _ _ (by decide)]
      · rw [f4, m_uN _ _ _ _ (by decide), v20 (by omega) (by omega), k2 20 (by decide)]
      · rw [f4, m_uN _ _ _ _ (by decide), v21 (by omega) (by omega), k2 21 (by decide)]
    · rw [v24]
      exact e
    · rw [v25]
      intro r h6
      show m_u (V2 25) 0 (F 17) r = if r = 0 then (ps_n S : Int) else -1
      by_cases er : r = 0
      · rw [er, m_uE, if_pos rfl]
        exact a.1
      · rw [m_uN _ _ _ _ er, if_neg er]
        exact k1 r h6
theorem s_less0 (M : MX 49 W ρ m A h0 h F V G) (e0 : m_lk lv 0 = some (.ref m)) 
    (g0 : HJ 217 0 (lv_args 0 [.ref m]) [] h (fun v h' => HJ 216 4 lv (v.toList ++ []) h' Q))
    : HJ 216 0 lv [] h Q := by
  refine hI_al (k := 0) rfl e0 rfl ?_ -- 0
  refine hM_iv M (by decide) rfl rfl (by decide) (as := []) (r := []) rfl rfl (by decide +kernel) rfl (by decide +kernel) rfl rfl rfl rfl rfl ?_ -- 1
  exact g0 
theorem s_less4 {r : Int} (M : MX 49 W ρ m A h0 h F V G) (e0 : m_lk lv 0 = some (.ref m)) {sx0 : Int32} (sq0 : sx0.toInt = r) (r0 : -1 ≤ r) (r1 : r ≤ 5)(hw : d_sub [(61, 1001)] W = true)
    (g0 : ∀ x3 : Int32, x3.toInt = V 24 (r).toNat → ∀ h6 : MH, ∀ V6 : Nat → Nat → Int, V6 = m_u V 24 (m_u (V 24) (r).toNat ((-1))) → ∀ lv4 : List (Nat × Value), MX 49 W ρ m A h0 h6 F V6 G → m_lk lv4 0 = some (.ref m) → m_lk lv4 1 = some (.int sx0) → m_lk lv4 2 = some (.int x3) → r ≠ (-1) → (-1) ≤ V 24 (r).toNat → V 24 (r).toNat ≤ 15999 → HJ 215 0 (lv_args 0 [.ref m]) [] h6 (fun v h' => HJ 216 30 lv4 (v.toList ++ []) h' Q))
    (g1 : ∀ x7 : Int32, x7.toInt = 0 → ∀ lv1 : List (Nat × Value), r = (-1) → Q (some (.int x7)) h)
    : HJ 216 4 lv [.int sx0] h Q := by
  refine hM_si (k := 1) rfl (by decide +kernel) rfl (fun lv1 e1_1 u1 => ?_) -- 4
  have e1_0 := u1 0 _ (by decide) (Or.inl rfl) e0
  refine hI_il (k := 1) rfl e1_1 rfl ?_ -- 5
  refine hM_ic (n := (-1)) rfl (by decide) rfl (fun x2 q2 => ?_) -- 6
  refine hM_cne (off := 5) (t := 12) rfl sq0 q2 (by decide) rfl (fun c7 => ?_) (fun c7 => ?_) -- 7
  · refine hI_al (k := 0) rfl e1_0 rfl ?_ -- 12
    refine hM_ga M (by decide) rfl rfl (k := 24) (c := 9) rfl rfl rfl (by decide +kernel) rfl ?_ -- 13
    refine hI_il (k := 1) rfl e1_1 rfl ?_ -- 16
    refine hM_ia M (by decide) (K := 24) (R2 := 61) (L := 6) (H := 6) (lo := (-1)) (hi := 15999) rfl (by decide) rfl rfl (fun _ => rfl) rfl sq0 (by omega) (by omega) rfl (fun x3 q3 a3 b3 => ?_) -- 17
    refine hM_si (k := 2) rfl (by decide +kernel) rfl (fun lv4 e4_2 u4 => ?_) -- 18
    have e4_0 := u4 0 _ (by decide) (Or.inl rfl) e1_0
    have e4_1 := u4 1 _ (by decide) (Or.inl rfl) e1_1
    refine hI_al (k := 0) rfl e4_0 rfl ?_ -- 19
    refine hM_ga M (by decide) rfl rfl (k := 24) (c := 9) rfl rfl rfl (by decide +kernel) rfl ?_ -- 20
    refine hI_il (k := 1) rfl e4_1 rfl ?_ -- 23
    refine hM_ic (n := (-1)) rfl (by decide) rfl (fun x5 q5 => ?_) -- 24
    refine hM_is M (by decide) ok_49 (K := 24) (R2 := 61) (L := 6) (H := 6) (lo := (-1)) (hi := 15999) rfl (by decide) rfl rfl rfl (fun _ => rfl) (d_subm hw (by decide +kernel)) rfl sq0 q5 (by omega) (by omega) (by omega) (by omega) rfl (fun h6 V6 f6 M6 => ?_) -- 25
    refine hI_al (k := 0) rfl e4_0 rfl ?_ -- 26
    refine hM_iv M6 (by decide) rfl rfl (by decide) (as := []) (r := []) rfl rfl (by decide +kernel) rfl (by decide +kernel) rfl rfl rfl rfl rfl ?_ -- 27
    exact g0 x3 q3 h6 V6 f6 lv4 M6 e4_0 e4_1 e4_2 c7 a3 b3
  · refine hM_ic (n := 0) rfl (by decide) rfl (fun x7 q7 => ?_) -- 10
    refine hM_rb rfl rfl q7 (by omega) (by omega) ?_ -- 11
    exact g1 x7 q7 lv1 c7
theorem s_less30 {r t : Int} (M : MX 49 W ρ m A h0 h F V G) (e0 : m_lk lv 0 = some (.ref m)) {lx1 : Int32} (e1 : m_lk lv 1 = some (.int lx1)) (lq1 : lx1.toInt = r) {lx2 : Int32} (e2 : m_lk lv 2 = some (.int lx2)) (lq2 : lx2.toInt = t) 
    (g0 : ∀ x1 : Int32, x1.toInt = 0 → ∀ lv2 : List (Nat × Value), m_lk lv2 0 = some (.ref m) → m_lk lv2 1 = some (.int lx1) → m_lk lv2 2 = some (.int lx2) → m_lk lv2 3 = some (.int x1) → HJ 216 32 lv2 [] h Q)
    : HJ 216 30 lv [] h Q := by
  refine hM_ic (n := 0) rfl (by decide) rfl (fun x1 q1 => ?_) -- 30
  refine hM_si (k := 3) rfl (by decide +kernel) rfl (fun lv2 e2_3 u2 => ?_) -- 31
  have e2_0 := u2 0 _ (by decide) (Or.inl rfl) e0
  have e2_1 := u2 1 _ (by decide) (Or.inl rfl) e1
  have e2_2 := u2 2 _ (by decide) (Or.inl rfl) e2
  exact g0 x1 q1 lv2 e2_0 e2_1 e2_2 e2_3
theorem s_less32 {r t i : Int} (M : MX 49 W ρ m A h0 h F V G) (e0 : m_lk lv 0 = some (.ref m)) {lx1 : Int32} (e1 : m_lk lv 1 = some (.int lx1)) (lq1 : lx1.toInt = r) {lx2 : Int32} (e2 : m_lk lv 2 = some (.int lx2)) (lq2 : lx2.toInt = t) {lx3 : Int32} (e3 : m_lk lv 3 = some (.int lx3)) (lq3 : lx3.toInt = i) (i0 : 0 ≤ i) (r1 : r ≤ 5) (t0 : 0 ≤ t) (t1 : t < 16000) (b0 : i < r → 0 ≤ V 23 (6 * t + i).toNat ∧ V 23 (6 * t + i).toNat ≤ 15999)(hw : d_sub [(62, 1001)] W = true)
    (g0 : i ≥ r → HJ 209 0 (lv_args 0 [.ref m]) [] h (fun v h' => HJ 216 64 lv (v.toList ++ []) h' Q))
    (g1 : ∀ h5 : MH, ∀ V5 : Nat → Nat → Int, V5 = m_u V 25 (m_u (V 25) (i).toNat (V 23 ((6 * t) + i).toNat)) → ∀ x6 : Int32, x6.toInt = i + 1 → ∀ lv6 : List (Nat × Value), MX 49 W ρ m A h0 h5 F V5 G → m_lk lv6 0 = some (.ref m) → m_lk lv6 1 = some (.int lx1) → m_lk lv6 2 = some (.int lx2) → m_lk lv6 3 = some (.int x6) → i < r → HJ 216 32 lv6 [] h5 Q)
    : HJ 216 32 lv [] h Q := by
  refine hI_il (k := 3) rfl e3 rfl ?_ -- 32
  refine hI_il (k := 1) rfl e1 rfl ?_ -- 33
  refine hM_cge (off := 26) (t := 60) rfl lq3 lq1 (by decide) rfl (fun c34 => ?_) (fun c34 => ?_) -- 34
  · refine hI_al (k := 0) rfl e0 rfl ?_ -- 60
    refine hM_iv M (by decide) rfl rfl (by decide) (as := []) (r := []) rfl rfl (by decide +kernel) rfl (by decide +kernel) rfl rfl rfl rfl rfl ?_ -- 61
    exact g0 c34
  · refine hI_al (k := 0) rfl e0 rfl ?_ -- 37
    refine hM_ga M (by decide) rfl rfl (k := 25) (c := 9) rfl rfl rfl (by decide +kernel) rfl ?_ -- 38
    refine hI_il (k := 3) rfl e3 rfl ?_ -- 41
    refine hI_al (k := 0) rfl e0 rfl ?_ -- 42
    refine hM_ga M (by decide) rfl rfl (k := 23) (c := 9) rfl rfl rfl (by decide +kernel) rfl ?_ -- 43
    refine hM_bp (n := 6) rfl (by decide) rfl (fun x1 q1 => ?_) -- 46
    refine hI_il (k := 2) rfl e2 rfl ?_ -- 48
    refine hM_mul rfl q1 lq2 (by omega) (by omega) rfl (fun x2 q2 => ?_) -- 49
    refine hI_il (k := 3) rfl e3 rfl ?_ -- 50
    refine hM_add rfl q2 lq3 (by omega) (by omega) rfl (fun x3 q3 => ?_) -- 51
    refine hM_ia M (by decide) (K := 23) (R2 := 60) (L := 96000) (H := 96000) (lo := (-2147483648)) (hi := 2147483647) rfl (by decide) rfl rfl (fun _ => rfl) rfl q3 (by omega) (by omega) rfl (fun x4 q4 a4 b4 => ?_) -- 52
    refine hM_is M (by decide) ok_49 (K := 25) (R2 := 62) (L := 6) (H := 6) (lo := (-1)) (hi := 15999) rfl (by decide) rfl rfl rfl (fun _ => rfl) (d_subm hw (by decide +kernel)) rfl lq3 q4 (by omega) (by omega) (by omega) (by omega) rfl (fun h5 V5 f5 M5 => ?_) -- 53
    refine hM_inc (k := 3) (z := 1) rfl e3 lq3 (by decide) (by omega) (by omega) (by decide +kernel) rfl (fun lv6 x6 q6 e6_3 u6 => ?_) -- 54
    have e6_0 := u6 0 _ (by decide) (Or.inl rfl) e0
    have e6_1 := u6 1 _ (by decide) (Or.inl rfl) e1
    have e6_2 := u6 2 _ (by decide) (Or.inl rfl) e2
    refine hI_go (pc' := 32) (off := (-25)) rfl (by decide) ?_ -- 57
    exact g1 h5 V5 f5 x6 q6 lv6 M5 e6_0 e6_1 e6_2 e6_3 c34
theorem s_less64 (M : MX 49 W ρ m A h0 h F V G)  
    (g0 : ∀ x1 : Int32, x1.toInt = 1 → Q (some (.int x1)) h)
    : HJ 216 64 lv [] h Q := by
  refine hM_ic (n := 1) rfl (by decide) rfl (fun x1 q1 => ?_) -- 64
  refine hM_rb rfl rfl q1 (by omega) (by omega) ?_ -- 65
  exact g0 x1 q1
def g_ls : List (Nat × Nat) := g_md ++ [(62, 1001)]
theorem l_lessens {r t : Nat} {V0 : Nat → Nat → Int} (hr : r ≤ 5) (ht : t < 16000) (hw : d_sub [(62, 1001)] W = true) (hb : ∀ i : Nat, i < r → 0 ≤ V0 23 (6 * t + i) ∧ V0 23 (6 * t + i) ≤ 15999) (g : ∀ (h' : MH) (V' : Nat → Nat → Int) (lv : List (Nat × Value)), MX 49 W ρ m A h0 h' F V' G → (∀ i, i < r → V' 25 i = V0 23 (6 * t + i)) → (∀ i, r ≤ i → i < 6 → V' 25 i = -1) → (∀ K, K ≠ 25 → V' K = V0 K) → HJ 209 0 (lv_args 0 [.ref m]) [] h' (fun v h' => HJ 216 64 lv (v.toList ++ []) h' Q)) : ∀ (d i : Nat) (lv : List (Nat × Value)) (h : MH) (V : Nat → Nat → Int) (xr xt xi : Int32), i + d = r → MX 49 W ρ m A h0 h F V G → xr.toInt = (r : Int) → xt.toInt = (t : Int) → xi.toInt = (i : Int) → (∀ k, k < i → V 25 k = V0 23 (6 * t + k)) → (∀ k, i ≤ k → k < 6 → V 25 k = -1) → (∀ K, K ≠ 25 → V K = V0 K) → m_lk lv 0 = some (.ref m) → m_lk lv 1 = some (.int xr) → m_lk lv 2 = some (.int xt) → m_lk lv 3 = some (.int xi) → HJ 216 32 lv [] h Q := by
  intro d
  induction d with
  | zero =>
    intro i lv h V xr xt xi hd M qr qt qi k1 k2 k3 e0 e1 e2 e3
    have ir : i = r := by omega
    subst ir
    exact s_less32 M e0 e1 qr e2 qt e3 qi (by omega) (by omega) (by omega) (by omega) (fun z => by omega) hw (fun _ => g h V lv M k1 k2 k3) (fun h5 V5 f5 x6 q6 lv6 M5 e6_0 e6_1 e6_2 e6_3 c34 => by omega)
  | succ d ih =>
    intro i lv h V xr xt xi hd M qr qt qi k1 k2 k3 e0 e1 e2 e3
    have eN : (6 * (t : Int) + (i : Int)).toNat = 6 * t + i := by omega
    refine s_less32 M e0 e1 qr e2 qt e3 qi (by omega) (by omega) (by omega) (by omega) (fun z => ?_) hw (fun _ => by omega) (fun h5 V5 f5 x6 q6 lv6 M5 e6_0 e6_1 e6_2 e6_3 c34 => ?_)
    · rw [eN, k3 23 (by decide)]
      exact hb i (by omega)
    · rw [eN, Int.toNat_natCast, k3 23 (by decide)] at f5
      refine ih (i + 1) lv6 h5 V5 xr xt x6 (by omega) M5 qr qt (by omega) (fun k hk => ?_) (fun k k4 k5 => ?_) (fun K hK => by rw [f5, m_uN _ _ _ _ hK, k3 K hK]) e6_0 e6_1 e6_2 e6_3
      · rw [f5, m_uE]
        by_cases e : k = i
        · rw [e, m_uE]
        · rw [m_uN _ _ _ _ e]
          exact k1 k (by omega)
      · rw [f5, m_uE, m_uN _ _ _ _ (by omega)]
        exact k2 k (by omega) k5
-- the least one goes: one fewer
theorem c_lessens (M : MX 49 W ρ m A h0 h F V G) (b0_ : m_lk lv 0 = some (.ref m)) (hw : d_sub g_ls W = true) (sh : p_sh (F 17) (V 22) (V 23)) (h1 : p_hp (F 17) (V 22) (V 24)) (n0 : 0 ≤ F 17) (n1 : F 17 + 6 ≤ 16000) (g : ∀ (x : Int32) (h' : MH) (F' : Nat → Int) (V' : Nat → Nat → Int), 0 ≤ x.toInt → x.toInt ≤ 1 → MX 49 W ρ m A h0 h' F' V' G → g_ex F V F' V' 6 → ((∀ k, k < 6 → V 24 k = -1) ∨ p_ws (V' 24) 6 + 1 = p_ws (V 24) 6) → (∀ j, j < 6 * (F 17).toNat → V' 23 j = V 23 j) → (∀ S h, rs_of F V S → hp6 (V 24) h → (x.toInt = 1 ∧ pm_le S h 6 ≠ -1 ∧ rs_of F' V' (pm_tk (S, h)).1 ∧ hp6 (V' 24) (pm_tk (S, h)).2) ∨ (x.toInt = 0 ∧ pm_le S h 6 = -1 ∧ F' = F ∧ V' = V)) → F' 18 = F 18 → Q (some (.int x)) h') : HJ 216 0 lv [] h Q := by
  have w1 : d_sub [(62, 1001)] W = true := d_subm hw (by decide +kernel)
  have w2 : d_sub [(61, 1001)] W = true := d_subm hw (by decide +kernel)
  have w3 : d_sub g_md W = true := d_subm hw (by decide +kernel)
  refine s_less0 M b0_ (c_least M (fun xr I L9 => ?_))
  have bb : -1 ≤ xr.toInt ∧ xr.toInt ≤ 5 := by rcases I with z | z <;> omega
  refine s_less4 M b0_ rfl bb.1 bb.2 w2 (fun x3 q3 h2 V2 f2 lv2 M2 e0 e1 e2 c7 a3 b3 => ?_) (fun x7 q7 lv1 c7 => ?_)
  · obtain ⟨r0, r1, r2⟩ := I.resolve_left (fun z => c7 z.1)
    have r6 : xr.toInt.toNat < 6 := by omega
    obtain ⟨t0, t1, t2⟩ := (h1 xr.toInt.toNat r6).resolve_left r2
    have v24 : V2 24 = m_u (V 24) xr.toInt.toNat (-1) := by rw [f2, m_uE]
    have vo : ∀ K, K ≠ 24 → V2 K = V K := fun K hK => by rw [f2, m_uN _ _ _ _ hK]
    obtain ⟨s1, s2⟩ := sh (V 24 xr.toInt.toNat).toNat (by omega)
    rw [t2] at s2
    refine c_clear M2 w1 (fun h3 V3 M3 k1 k2 => ?_)
    refine s_less30 M3 e0 e1 rfl e2 q3 (fun x1 q1 lv3 d0 d1 d2 d3 => ?_)
    have v3 : ∀ K, K ≠ 24 → K ≠ 25 → V3 K = V K := fun K z1 z2 => (k2 K z2).trans (vo K z1)
    refine l_lessens (r := xr.toInt.toNat) (t := (V 24 xr.toInt.toNat).toNat) (V0 := V3) (by omega) (by omega) w1 (fun i hi => ?_) (fun h4 V4 lv4 M4 j1 j2 j3 => ?_) xr.toInt.toNat 0 lv3 h3 V3 xr x3 x1 (by omega) M3 (by omega) (by omega) q1 (fun k hk => by omega) (fun k _ hk => k1 k hk) (fun _ _ => rfl) d0 d1 d2 d3
    · obtain ⟨u1, u2, u3⟩ := s2 i (by omega)
      rw [v3 23 (by decide) (by decide)]
      omega
    · have v4 : ∀ K, K ≠ 24 → K ≠ 25 → V4 K = V K := fun K z1 z2 => (j3 K z2).trans (v3 K z1 z2)
      have w24 : V4 24 = m_u (V 24) xr.toInt.toNat (-1) := by rw [j3 24 (by decide), k2 24 (by decide), v24]
      refine c_meld M4 w3 (by rw [v4 22 (by decide) (by decide), v4 23 (by decide) (by decide)]; exact sh) ?_ ?_ n0 n1 (fun h5 F5 V5 c M5 J R => ?_)
      · rw [w24, v4 22 (by decide) (by decide)]
        intro r h6
        by_cases e : r = xr.toInt.toNat
        · rw [e, m_uE]
          exact Or.inl rfl
        · rw [m_uN _ _ _ _ e]
          exact h1 r h6
      · rw [v4 22 (by decide) (by decide)]
        intro r h6
        by_cases e : r < xr.toInt.toNat
        · obtain ⟨u1, u2, u3⟩ := s2 r (by omega)
          rw [j1 r e, v3 23 (by decide) (by decide)]
          exact Or.inr ⟨u1, by omega, u3⟩
        · rw [j2 r (by omega) h6]
          exact Or.inl rfl
      · obtain ⟨⟨i1, i2, i3⟩, ⟨i4, i5⟩, i6, i7, i8, i9, i10, i11⟩ := J
        refine s_less64 M5 (fun x q => g x h5 F5 V5 (by omega) (by omega) M5 ⟨⟨i1, i2⟩, ⟨i4, by omega⟩, fun K k1 k2 k3 k4 => i6 K k1 k3, fun v hv => by rw [i7 v hv, v4 22 (by decide) (by decide)], fun K hK => by rw [i8 K (by omega) (by omega) (by omega) (by omega) (by omega)]; exact v4 K (by omega) (by omega)⟩ (Or.inr ?_) (fun j hj => by rw [i11 j hj, v4 23 (by decide) (by decide)]) (fun S hh a e => Or.inl ?_) (i6 18 (by decide) (by decide)))
        have a1 := p_wsG r2 (r := 6) r6
        have a2 := p_ws1 (f := V4 25) (r := xr.toInt.toNat) (fun k hk => by
          obtain ⟨u1, u2, u3⟩ := s2 k (by omega)
          rw [j1 k hk, v3 23 (by decide) (by decide)]
          omega)
        have a3 := p_ws0 (f := V4 25) (q := xr.toInt.toNat) (r := 6) (by omega) (fun k z1 z2 => j2 k z1 z2)
        have a4 := p_wsL (f := V 24) 6
        rw [w24] at i10
        have a5 : y_tg c * 2 ^ 6 = 0 ∨ y_tg c * 2 ^ 6 = 64 := by
          unfold y_tg
          split
          · exact Or.inl rfl
          · exact Or.inr rfl
        have a6 : (2 : Nat) ^ 6 = 64 := rfl
        omega
        have l9 := L9 S hh a h1 e
        have eh : hh (pm_le S hh 6).toNat = V 24 xr.toInt.toNat := by
          rw [← l9]
          exact (e _ (by omega)).symm
        have nz : pm_le S hh 6 ≠ -1 := by
          rw [← l9]
          exact c7
        refine ⟨q, nz, ?_⟩
        unfold pm_tk
        rw [if_neg nz]
        refine R S _ _ (rs_ofV a rfl rfl (v4 20 (by decide) (by decide)) (v4 21 (by decide) (by decide)) (v4 22 (by decide) (by decide)) (v4 23 (by decide) (by decide))) ?_ (fun i hi => ?_)
        · rw [w24, ← l9]
          exact hp6_u e
        · show V4 25 i = if (i : Int) < pm_le S hh 6 then ps_b S (6 * (hh (pm_le S hh 6).toNat).toNat + i) else -1
          rw [eh, ← l9]
          by_cases ei : (i : Int) < xr.toInt
          · obtain ⟨a0, -, -, a4⟩ := a
            obtain ⟨-, -, -, -, -, a6⟩ := a4 (V 24 xr.toInt.toNat).toNat (by omega)
            rw [if_pos ei, j1 i (by omega), v3 23 (by decide) (by decide), a6 i (by rw [t2]; omega)]
          · rw [if_neg ei, j2 i (by omega) hi]
  · obtain ⟨-, n1⟩ := I.resolve_right (fun z => by omega)
    exact g x7 h F V (by omega) (by omega) M (g_exR (by omega) sh h1) (Or.inl n1) (fun _ _ => rfl) (fun S hh a e => Or.inr ⟨q7, (L9 S hh a h1 e).symm.trans c7, rfl, rfl⟩) rfl
theorem s_cuts0 {k : Int} (M : MX 49 W ρ m A h0 h F V G) (e0 : m_lk lv 0 = some (.ref m)) {lx1 : Int32} (e1 : m_lk lv 1 = some (.int lx1)) (lq1 : lx1.toInt = k) 
    (g0 : HJ 217 0 (lv_args 0 [.ref m]) [] h (fun v h' => HJ 222 4 lv (v.toList ++ []) h' Q))
    : HJ 222 0 lv [] h Q := by
  refine hI_al (k := 0) rfl e0 rfl ?_ -- 0
  refine hM_iv M (by decide) rfl rfl (by decide) (as := []) (r := []) rfl rfl (by decide +kernel) rfl (by decide +kernel) rfl rfl rfl rfl rfl ?_ -- 1
  exact g0 
theorem s_cuts4 {k r : Int} (M : MX 49 W ρ m A h0 h F V G) (e0 : m_lk lv 0 = some (.ref m)) {lx1 : Int32} (e1 : m_lk lv 1 = some (.int lx1)) (lq1 : lx1.toInt = k) {sx0 : Int32} (sq0 : sx0.toInt = r) 
    (g0 : ∀ lv1 : List (Nat × Value), m_lk lv1 0 = some (.ref m) → m_lk lv1 1 = some (.int lx1) → m_lk lv1 2 = some (.int sx0) → HJ 222 5 lv1 [] h Q)
    : HJ 222 4 lv [.int sx0] h Q := by
  refine hM_si (k := 2) rfl (by decide +kernel) rfl (fun lv1 e1_2 u1 => ?_) -- 4
  have e1_0 := u1 0 _ (by decide) (Or.inl rfl) e0
  have e1_1 := u1 1 _ (by decide) (Or.inl rfl) e1
  exact g0 lv1 e1_0 e1_1 e1_2
theorem s_cuts34 {k r : Int} (M : MX 49 W ρ m A h0 h F V G) (e0 : m_lk lv 0 = some (.ref m)) {lx1 : Int32} (e1 : m_lk lv 1 = some (.int lx1)) (lq1 : lx1.toInt = k) {sx0 : Int32} (sq0 : sx0.toInt = r) 
    (g0 : ∀ lv1 : List (Nat × Value), m_lk lv1 0 = some (.ref m) → m_lk lv1 1 = some (.int lx1) → m_lk lv1 2 = some (.int sx0) → HJ 222 5 lv1 [] h Q)
    : HJ 222 34 lv [.int sx0] h Q := by
  refine hM_si (k := 2) rfl (by decide +kernel) rfl (fun lv1 e1_2 u1 => ?_) -- 34
  have e1_0 := u1 0 _ (by decide) (Or.inl rfl) e0
  have e1_1 := u1 1 _ (by decide) (Or.inl rfl) e1
  refine hI_go (pc' := 5) (off := (-30)) rfl (by decide) ?_ -- 35
  exact g0 lv1 e1_0 e1_1 e1_2
theorem s_cuts5 {k r : Int} (M : MX 49 W ρ m A h0 h F V G) (e0 : m_lk lv 0 = some (.ref m)) {lx1 : Int32} (e1 : m_lk lv 1 = some (.int lx1)) (lq1 : lx1.toInt = k) {lx2 : Int32} (e2 : m_lk lv 2 = some (.int lx2)) (lq2 : lx2.toInt = r) (r0 : -1 ≤ r) (r1 : r ≤ 5) (h0 : r ≠ -1 → 0 ≤ V 24 r.toNat)
    (g0 : ∀ x2 : Int32, x2.toInt = 1 → r = (-1) → Q (some (.int x2)) h)
    (g1 : ∀ x5 : Int32, x5.toInt = 1 → r ≠ (-1) → (-1) ≤ V 24 (r).toNat → V 24 (r).toNat ≤ 15999 → V 21 (V 24 (r).toNat).toNat ≥ k → Q (some (.int x5)) h)
    (g2 : r ≠ (-1) → (-1) ≤ V 24 (r).toNat → V 24 (r).toNat ≤ 15999 → V 21 (V 24 (r).toNat).toNat < k → HJ 216 0 (lv_args 0 [.ref m]) [] h (fun v h' => HJ 222 29 lv (v.toList ++ []) h' Q))
    : HJ 222 5 lv [] h Q := by
  refine hI_il (k := 2) rfl e2 rfl ?_ -- 5
  refine hM_ic (n := (-1)) rfl (by decide) rfl (fun x1 q1 => ?_) -- 6
  refine hM_ceq (off := 31) (t := 38) rfl lq2 q1 (by decide) rfl (fun c7 => ?_) (fun c7 => ?_) -- 7
  · refine hM_ic (n := 1) rfl (by decide) rfl (fun x2 q2 => ?_) -- 38
    refine hM_rb rfl rfl q2 (by omega) (by omega) ?_ -- 39
    exact g0 x2 q2 c7
  · refine hI_al (k := 0) rfl e0 rfl ?_ -- 10
    refine hM_ga M (by decide) rfl rfl (k := 21) (c := 9) rfl rfl rfl (by decide +kernel) rfl ?_ -- 11
    refine hI_al (k := 0) rfl e0 rfl ?_ -- 14
    refine hM_ga M (by decide) rfl rfl (k := 24) (c := 9) rfl rfl rfl (by decide +kernel) rfl ?_ -- 15
    refine hI_il (k := 2) rfl e2 rfl ?_ -- 18
    refine hM_ia M (by decide) (K := 24) (R2 := 61) (L := 6) (H := 6) (lo := (-1)) (hi := 15999) rfl (by decide) rfl rfl (fun _ => rfl) rfl lq2 (by omega) (by omega) rfl (fun x3 q3 a3 b3 => ?_) -- 19
    refine hM_ba M (by decide) (K := 21) (R2 := 58) (L := 16000) (H := 16000) (lo := (-2147483648)) (hi := 2147483647) rfl (by decide) rfl rfl (Or.inl rfl) (fun _ => rfl) rfl q3 (by omega) (by omega) rfl (fun x4 q4 a4 b4 => ?_) -- 20
    refine hI_il (k := 1) rfl e1 rfl ?_ -- 21
    refine hM_cge (off := 16) (t := 38) rfl q4 lq1 (by decide) rfl (fun c22 => ?_) (fun c22 => ?_) -- 22
    · refine hM_ic (n := 1) rfl (by decide) rfl (fun x5 q5 => ?_) -- 38
      refine hM_rb rfl rfl q5 (by omega) (by omega) ?_ -- 39
      exact g1 x5 q5 c7 a3 b3 c22
    · refine hI_al (k := 0) rfl e0 rfl ?_ -- 25
      refine hM_iv M (by decide) rfl rfl (by decide) (as := []) (r := []) rfl rfl (by decide +kernel) rfl (by decide +kernel) rfl rfl rfl rfl rfl ?_ -- 26
      exact g2 c7 a3 b3 c22
theorem s_cuts29 {k r z : Int} (M : MX 49 W ρ m A h0 h F V G) (e0 : m_lk lv 0 = some (.ref m)) {lx1 : Int32} (e1 : m_lk lv 1 = some (.int lx1)) (lq1 : lx1.toInt = k) {lx2 : Int32} (e2 : m_lk lv 2 = some (.int lx2)) (lq2 : lx2.toInt = r) {sx0 : Int32} (sq0 : sx0.toInt = z) 
    (g0 : ∀ lv1 : List (Nat × Value), m_lk lv1 0 = some (.ref m) → m_lk lv1 1 = some (.int lx1) → m_lk lv1 2 = some (.int lx2) → m_lk lv1 3 = some (.int sx0) → HJ 217 0 (lv_args 0 [.ref m]) [] h (fun v h' => HJ 222 34 lv1 (v.toList ++ []) h' Q))
    : HJ 222 29 lv [.int sx0] h Q := by
  refine hM_si (k := 3) rfl (by decide +kernel) rfl (fun lv1 e1_3 u1 => ?_) -- 29
  have e1_0 := u1 0 _ (by decide) (Or.inl rfl) e0
  have e1_1 := u1 1 _ (by decide) (Or.inl rfl) e1
  have e1_2 := u1 2 _ (by decide) (Or.inl rfl) e2
  refine hI_al (k := 0) rfl e1_0 rfl ?_ -- 30
  refine hM_iv M (by decide) rfl rfl (by decide) (as := []) (r := []) rfl rfl (by decide +kernel) rfl (by decide +kernel) rfl rfl rfl rfl rfl ?_ -- 31
  exact g0 lv1 e1_0 e1_1 e1_2 e1_3
theorem pm_ct1 {k : Int} {f : Nat} {X : PSt × (Nat → Int)} (h : pm_le X.1 X.2 6 = -1 ∨ k ≤ ps_y X.1 (X.2 (pm_le X.1 X.2 6).toNat).toNat) : pm_ct k (f + 1) X = X := by
  rw [pm_ct, if_pos h]
theorem pm_ct2 {k : Int} {f : Nat} {X : PSt × (Nat → Int)} (h : ¬ (pm_le X.1 X.2 6 = -1 ∨ k ≤ ps_y X.1 (X.2 (pm_le X.1 X.2 6).toNat).toNat)) : pm_ct k (f + 1) X = pm_ct k f (pm_tk X) := by
  rw [pm_ct, if_neg h]
def g_cf (F0 : Nat → Int) (V0 : Nat → Nat → Int) (F : Nat → Int) (V : Nat → Nat → Int) (k : Int) (s : Nat) : Prop := ∀ S h, rs_of F0 V0 S → hp6 (V0 24) h → ∃ X, rs_of F V X.1 ∧ hp6 (V 24) X.2 ∧ pm_ct k 63 (S, h) = pm_ct k s X
theorem l_cuts {k : Int} {xk : Int32} {F0 : Nat → Int} {V0 : Nat → Nat → Int} (hw : d_sub g_ls W = true) (hk : xk.toInt = k) (n0 : 0 ≤ F0 17) (n1 : F0 17 + 378 ≤ 16000) (g : ∀ (x : Int32) (h' : MH) (F' : Nat → Int) (V' : Nat → Nat → Int), x.toInt = 1 → MX 49 W ρ m A h0 h' F' V' G → g_ex F0 V0 F' V' 378 → (∀ S h, rs_of F0 V0 S → hp6 (V0 24) h → rs_of F' V' (pm_ct k 63 (S, h)).1 ∧ hp6 (V' 24) (pm_ct k 63 (S, h)).2) → F' 18 = F0 18 → Q (some (.int x)) h') : ∀ (s : Nat) (lv : List (Nat × Value)) (h : MH) (F : Nat → Int) (V : Nat → Nat → Int) (xr : Int32), p_ws (V 24) 6 ≤ s → s ≤ 63 → MX 49 W ρ m A h0 h F V G → g_ex F0 V0 F V (378 - 6 * s) → g_lst (V 24) 6 xr.toInt → g_lf F V 6 xr.toInt → g_cf F0 V0 F V k s → F 18 = F0 18 → m_lk lv 0 = some (.ref m) → m_lk lv 1 = some (.int xk) → m_lk lv 2 = some (.int xr) → HJ 222 5 lv [] h Q := by
  have fin : ∀ {s : Nat} {F : Nat → Int} {V : Nat → Nat → Int}, s ≤ 63 → g_ex F0 V0 F V (378 - 6 * s) → g_ex F0 V0 F V 378 := fun hs I => ⟨I.1, ⟨I.2.1.1, by have := I.2.1.2; omega⟩, I.2.2⟩
  intro s
  induction s with
  | zero =>
    intro lv h F V xr hs h63 M I L LF C C18 e0 e1 e2
    have all : xr.toInt = -1 := by
      rcases L with z | ⟨z1, z2, z3⟩
      · exact z.1
      · have a1 := p_wsG z3 (r := 6) (by omega)
        have : 0 < 2 ^ xr.toInt.toNat := Nat.pow_pos (by decide)
        omega
    exact s_cuts5 M e0 e1 hk e2 rfl (by omega) (by omega) (fun z => absurd all z) (fun x3 q3 c7 => g x3 h F V q3 M (fin h63 I) (fun S hh a e => by
      obtain ⟨X, x1, x2, x3⟩ := C S hh a e
      rw [x3]
      exact ⟨x1, x2⟩) C18) (fun x6 q6 c7 a4 b4 c22 => absurd all c7) (fun c7 a4 b4 c22 => absurd all c7)
  | succ s ih =>
    intro lv h F V xr hs h63 M I L LF C C18 e0 e1 e2
    have bb : -1 ≤ xr.toInt ∧ xr.toInt ≤ 5 := by rcases L with z | z <;> omega
    have I' := I
    obtain ⟨⟨i1, i2⟩, ⟨i3, i4⟩, i5⟩ := I'
    have stop : ∀ S hh, rs_of F0 V0 S → hp6 (V0 24) hh → (∀ X : PSt × (Nat → Int), rs_of F V X.1 → hp6 (V 24) X.2 → pm_le X.1 X.2 6 = -1 ∨ k ≤ ps_y X.1 (X.2 (pm_le X.1 X.2 6).toNat).toNat) → rs_of F V (pm_ct k 63 (S, hh)).1 ∧ hp6 (V 24) (pm_ct k 63 (S, hh)).2 := fun S hh a e f => by
      obtain ⟨X, x1, x2, x3⟩ := C S hh a e
      rw [x3, pm_ct1 (f X x1 x2)]
      exact ⟨x1, x2⟩
    have yk : xr.toInt ≠ -1 → ∀ X : PSt × (Nat → Int), rs_of F V X.1 → hp6 (V 24) X.2 → pm_le X.1 X.2 6 = xr.toInt ∧ ps_y X.1 (X.2 (pm_le X.1 X.2 6).toNat).toNat = V 21 (V 24 xr.toInt.toNat).toNat := fun c7 X x1 x2 => by
      have l := LF X.1 X.2 x1 i2 x2
      obtain ⟨r0, r1, r2⟩ := L.resolve_left (fun y => c7 y.1)
      obtain ⟨t0, t1, -⟩ := (i2 xr.toInt.toNat (by omega)).resolve_left r2
      refine ⟨l.symm, ?_⟩
      rw [← l, ← x2 _ (by omega)]
      exact (x1.2.2.2 _ (by have := x1.1; omega)).2.2.1
    refine s_cuts5 M e0 e1 hk e2 rfl bb.1 bb.2 (fun z => ?_) (fun x3 q3 c7 => g x3 h F V q3 M (fin h63 I) (fun S hh a e => stop S hh a e (fun X x1 x2 => Or.inl ((LF X.1 X.2 x1 i2 x2).symm.trans c7))) C18) (fun x6 q6 c7 a4 b4 c22 => g x6 h F V q6 M (fin h63 I) (fun S hh a e => stop S hh a e (fun X x1 x2 => Or.inr (by rw [(yk c7 X x1 x2).2]; exact c22))) C18) (fun c7 a4 b4 c22 => ?_)
    · obtain ⟨r0, r1, r2⟩ := L.resolve_left (fun y => z y.1)
      exact ((i2 xr.toInt.toNat (by omega)).resolve_left r2).1
    · obtain ⟨r0, r1, r2⟩ := L.resolve_left (fun y => c7 y.1)
      refine c_lessens M rfl hw i1 i2 (by omega) (by omega) (fun z h2 F2 V2 z0 z1 M2 I2 wt _ R R18 => ?_)
      have w2 : p_ws (V2 24) 6 + 1 = p_ws (V 24) 6 := wt.resolve_left (fun y => r2 (y _ (by omega)))
      refine s_cuts29 (z := z.toInt) M2 e0 e1 hk e2 rfl rfl (fun lv1 d0 d1 d2 d3 => ?_)
      refine c_least M2 (fun x2 L2 LF2 => ?_)
      refine s_cuts34 M2 d0 d1 hk rfl (fun lv2 b0 b1 b2 => ?_)
      refine ih lv2 h2 F2 V2 x2 (by omega) (by omega) M2 ?_ L2 LF2 (fun S hh a e => ?_) (R18.trans C18) b0 b1 b2
      have := g_exT I I2
      rw [show (378 - 6 * ((s + 1 : Nat) : Int) + 6) = 378 - 6 * (s : Int) by omega] at this
      exact this
      obtain ⟨X, x1, x2, x3⟩ := C S hh a e
      obtain ⟨l1, l2⟩ := yk c7 X x1 x2
      rcases R X.1 X.2 x1 x2 with ⟨-, -, y1, y2⟩ | ⟨-, y1, -⟩
      · exact ⟨pm_tk X, y1, y2, x3.trans (pm_ct2 (fun z9 => by rcases z9 with z9 | z9 <;> omega))⟩
      · exact absurd (l1.symm.trans y1) c7
theorem c_cuts {k : Int} {xk : Int32} (M : MX 49 W ρ m A h0 h F V G) (b0_ : m_lk lv 0 = some (.ref m)) (b1_ : m_lk lv 1 = some (.int xk)) (hw : d_sub g_ls W = true) (hk : xk.toInt = k) (sh : p_sh (F 17) (V 22) (V 23)) (h1 : p_hp (F 17) (V 22) (V 24)) (n0 : 0 ≤ F 17) (n1 : F 17 + 378 ≤ 16000) (g : ∀ (x : Int32) (h' : MH) (F' : Nat → Int) (V' : Nat → Nat → Int), x.toInt = 1 → MX 49 W ρ m A h0 h' F' V' G → g_ex F V F' V' 378 → (∀ S h, rs_of F V S → hp6 (V 24) h → rs_of F' V' (pm_ct k 63 (S, h)).1 ∧ hp6 (V' 24) (pm_ct k 63 (S, h)).2) → F' 18 = F 18 → Q (some (.int x)) h') : HJ 222 0 lv [] h Q := by
  refine s_cuts0 M b0_ b1_ hk (c_least M (fun xr L LF => ?_))
  refine s_cuts4 M b0_ b1_ hk rfl (fun lv2 b0 b1 b2 => ?_)
  have a4 := p_wsL (f := V 24) 6
  exact l_cuts hw hk n0 n1 g 63 lv2 h F V xr (by omega) (by omega) M (g_exR (by omega) sh h1) L LF (fun S h a e => ⟨(S, h), a, e, rfl⟩) rfl b0 b1 b2
end
