-- THE REFERENCE'S COPIES
def cp_r (n f t : Nat) (a b : Nat → Int) : Prop := (∀ j, j < n → b (n * t + j) = a (n * f + j)) ∧ ∀ j, j < n * t ∨ n * t + n ≤ j → b j = a j
-- a copy on its way: k of n
def cp_w (n f t k : Nat) (a b : Nat → Int) : Prop := (∀ j, j < k → b (n * t + j) = a (n * f + j)) ∧ ∀ j, j < n * t ∨ n * t + k ≤ j → b j = a j
theorem cp_0 {n f t : Nat} {a : Nat → Int} : cp_w n f t 0 a a := ⟨fun j h => by omega, fun _ _ => rfl⟩
theorem cp_n {n f t k : Nat} {a b : Nat → Int} (e : n ≤ k) (e2 : k ≤ n) (c : cp_w n f t k a b) : cp_r n f t a b := by
  have : k = n := by omega
  subst this
  exact c
theorem cp_s {n f t k q p : Nat} {a b : Nat → Int} (c : cp_w n f t k a b) (hk : k < n) (hne : f ≠ t) (hq : q = n * t + k) (hp : p = n * f + k) : cp_w n f t (k + 1) a (m_u b q (b p)) := by
  have hb : b p = a p := c.2 p (by
    subst hp
    rcases Nat.lt_or_gt_of_ne hne with e | e
    · have : n * (f + 1) ≤ n * t := Nat.mul_le_mul_left n e
      rw [Nat.mul_add] at this
      omega
    · have : n * (t + 1) ≤ n * f := Nat.mul_le_mul_left n e
      rw [Nat.mul_add] at this
      omega)
  subst hq hp
  refine ⟨fun j hj => ?_, fun j hj => ?_⟩
  · by_cases e : j = k
    · subst e
      rw [m_uE, hb]
    · rw [m_uN _ _ _ _ (by omega)]
      exact c.1 j (by omega)
  · rw [m_uN _ _ _ _ (by omega)]
    exact c.2 j (by omega)
section
variable {lv : List (Nat × Value)} {Q : Option Value → MH → Prop} {W : List (Nat × Nat)} {ρ : Nat → Nat} {m : Nat} {A : Nat → Nat} {h0 h : MH} {F : Nat → Int} {V : Nat → Nat → Int} {G : Nat → Nat → Int64}
theorem s_cr2_0 {f t : Int} (M : MX 49 W ρ m A h0 h F V G) (e0 : m_lk lv 0 = some (.ref (A 2))) {lx1 : Int32} (e1 : m_lk lv 1 = some (.int lx1)) (lq1 : lx1.toInt = 1) {lx2 : Int32} (e2 : m_lk lv 2 = some (.int lx2)) (lq2 : lx2.toInt = f) {lx3 : Int32} (e3 : m_lk lv 3 = some (.int lx3)) (lq3 : lx3.toInt = t) 
    (g0 : ∀ x1 : Int32, x1.toInt = 0 → ∀ lv2 : List (Nat × Value), m_lk lv2 0 = some (.ref (A 2)) → m_lk lv2 1 = some (.int lx1) → m_lk lv2 2 = some (.int lx2) → m_lk lv2 3 = some (.int lx3) → m_lk lv2 4 = some (.int x1) → HJ 290 3 lv2 [] h Q)
    : HJ 290 0 lv [] h Q := by
  refine hM_ic (n := 0) rfl (by decide) rfl (fun x1 q1 => ?_) -- 0
  refine hM_si2 (k := 4) rfl (by decide +kernel) rfl (fun lv2 e2_4 u2 => ?_) -- 1
  have e2_0 := u2 0 _ (by decide) (Or.inl rfl) e0
  have e2_1 := u2 1 _ (by decide) (Or.inl rfl) e1
  have e2_2 := u2 2 _ (by decide) (Or.inl rfl) e2
  have e2_3 := u2 3 _ (by decide) (Or.inl rfl) e3
  exact g0 x1 q1 lv2 e2_0 e2_1 e2_2 e2_3 e2_4
theorem s_cr2 {f t k : Int} (M : MX 49 W ρ m A h0 h F V G) (e0 : m_lk lv 0 = some (.ref (A 2))) {lx1 : Int32} (e1 : m_lk lv 1 = some (.int lx1)) (lq1 : lx1.toInt = 1) {lx2 : Int32} (e2 : m_lk lv 2 = some (.int lx2)) (lq2 : lx2.toInt = f) {lx3 : Int32} (e3 : m_lk lv 3 = some (.int lx3)) (lq3 : lx3.toInt = t) {lx4 : Int32} (e4 : m_lk lv 4 = some (.int lx4)) (lq4 : lx4.toInt = k) (f0 : 0 ≤ f) (f1 : f ≤ 3) (t0 : 0 ≤ t) (t1 : t ≤ 3) (k0 : 0 ≤ k)(hw : d_sub [(51, 1001)] W = true)
    (g0 : k ≥ 1 → Q none h)
    (g1 : ∀ h6 : MH, ∀ V6 : Nat → Nat → Int, V6 = m_u V 2 (m_u (V 2) ((1 * t) + k).toNat (V 2 ((1 * f) + k).toNat)) → ∀ x7 : Int32, x7.toInt = k + 1 → ∀ lv7 : List (Nat × Value), MX 49 W ρ m A h0 h6 F V6 G → m_lk lv7 0 = some (.ref (A 2)) → m_lk lv7 1 = some (.int lx1) → m_lk lv7 2 = some (.int lx2) → m_lk lv7 3 = some (.int lx3) → m_lk lv7 4 = some (.int x7) → k < 1 → 0 ≤ V 2 ((1 * f) + k).toNat → V 2 ((1 * f) + k).toNat ≤ 600 → HJ 290 3 lv7 [] h6 Q)
    : HJ 290 3 lv [] h Q := by
  refine hI_il2 (k := 4) rfl e4 rfl ?_ -- 3
  refine hI_il (k := 1) rfl e1 rfl ?_ -- 5
  refine hM_cge (off := 25) (t := 31) rfl lq4 lq1 (by decide) rfl (fun c6 => ?_) (fun c6 => ?_) -- 6
  · refine hI_rv rfl rfl ?_
    exact g0 c6
  · refine hI_al (k := 0) rfl e0 rfl ?_ -- 9
    refine hI_il (k := 1) rfl e1 rfl ?_ -- 10
    refine hI_il (k := 3) rfl e3 rfl ?_ -- 11
    refine hM_mul rfl lq1 lq3 (by omega) (by omega) rfl (fun x1 q1 => ?_) -- 12
    refine hI_il2 (k := 4) rfl e4 rfl ?_ -- 13
    refine hM_add rfl q1 lq4 (by omega) (by omega) rfl (fun x2 q2 => ?_) -- 15
    refine hI_al (k := 0) rfl e0 rfl ?_ -- 16
    refine hI_il (k := 1) rfl e1 rfl ?_ -- 17
    refine hI_il (k := 2) rfl e2 rfl ?_ -- 18
    refine hM_mul rfl lq1 lq2 (by omega) (by omega) rfl (fun x3 q3 => ?_) -- 19
    refine hI_il2 (k := 4) rfl e4 rfl ?_ -- 20
    refine hM_add rfl q3 lq4 (by omega) (by omega) rfl (fun x4 q4 => ?_) -- 22
    refine hM_ia M (by decide) (K := 2) (R2 := 51) (L := 4) (H := 4) (lo := 0) (hi := 600) rfl (by decide) rfl rfl (fun _ => rfl) rfl q4 (by omega) (by omega) rfl (fun x5 q5 a5 b5 => ?_) -- 23
    refine hM_is M (by decide) ok_49 (K := 2) (R2 := 51) (L := 4) (H := 4) (lo := 0) (hi := 600) rfl (by decide) rfl rfl rfl (fun _ => rfl) (d_subm hw (by decide +kernel)) rfl q2 q5 (by omega) (by omega) (by omega) (by omega) rfl (fun h6 V6 f6 M6 => ?_) -- 24
    refine hM_inc (k := 4) (z := 1) rfl e4 lq4 (by decide) (by omega) (by omega) (by decide +kernel) rfl (fun lv7 x7 q7 e7_4 u7 => ?_) -- 25
    have e7_0 := u7 0 _ (by decide) (Or.inl rfl) e0
    have e7_1 := u7 1 _ (by decide) (Or.inl rfl) e1
    have e7_2 := u7 2 _ (by decide) (Or.inl rfl) e2
    have e7_3 := u7 3 _ (by decide) (Or.inl rfl) e3
    refine hI_go (pc' := 3) (off := (-25)) rfl (by decide) ?_ -- 28
    exact g1 h6 V6 f6 x7 q7 lv7 M6 e7_0 e7_1 e7_2 e7_3 e7_4 c6 a5 b5
theorem l_cr2 {f t : Nat} {xn xf xt : Int32} {Vs : Nat → Nat → Int} (hw : d_sub [(51, 1001)] W = true) (qn : xn.toInt = 1) (qf : xf.toInt = (f : Int)) (qt : xt.toInt = (t : Int)) (f3 : f ≤ 3) (t3 : t ≤ 3) (ne : f ≠ t) (g : ∀ (h' : MH) (V' : Nat → Nat → Int), MX 49 W ρ m A h0 h' F V' G → cp_r 1 f t (Vs 2) (V' 2) → (∀ K, K ≠ 2 → V' K = Vs K) → Q none h') : ∀ (d k : Nat) (lv : List (Nat × Value)) (h : MH) (V : Nat → Nat → Int) (xk : Int32), k + d = 1 → MX 49 W ρ m A h0 h F V G → cp_w 1 f t k (Vs 2) (V 2) → (∀ K, K ≠ 2 → V K = Vs K) → xk.toInt = (k : Int) → m_lk lv 0 = some (.ref (A 2)) → m_lk lv 1 = some (.int xn) → m_lk lv 2 = some (.int xf) → m_lk lv 3 = some (.int xt) → m_lk lv 4 = some (.int xk) → HJ 290 3 lv [] h Q := by
  intro d
  induction d with
  | zero =>
    intro k lv h V xk hd M c o qk e0 e1 e2 e3 e4
    exact s_cr2 M e0 e1 qn e2 qf e3 qt e4 qk (by omega) (by omega) (by omega) (by omega) (by omega) hw (fun _ => g h V M (cp_n (by omega) (by omega) c) o) (fun h6 V6 f6 x7 q7 lv7 M6 d0 d1 d2 d3 d4 c3 a0 a1 => by omega)
  | succ d ih =>
    intro k lv h V xk hd M c o qk e0 e1 e2 e3 e4
    exact s_cr2 M e0 e1 qn e2 qf e3 qt e4 qk (by omega) (by omega) (by omega) (by omega) (by omega) hw (fun c3 => by omega) (fun h6 V6 f6 x7 q7 lv7 M6 d0 d1 d2 d3 d4 c3 a0 a1 => ih (k + 1) lv7 h6 V6 x7 (by omega) M6 (by rw [f6, m_uE]; exact cp_s c (by omega) ne (by omega) (by omega)) (fun K hK => by rw [f6, m_uN _ _ _ _ hK]; exact o K hK) (by omega) d0 d1 d2 d3 d4)
theorem c_cr2 {f t : Nat} {xn xf xt : Int32} (M : MX 49 W ρ m A h0 h F V G) (hw : d_sub [(51, 1001)] W = true) (qn : xn.toInt = 1) (qf : xf.toInt = (f : Int)) (qt : xt.toInt = (t : Int)) (f3 : f ≤ 3) (t3 : t ≤ 3) (ne : f ≠ t) (g : ∀ (h' : MH) (V' : Nat → Nat → Int), MX 49 W ρ m A h0 h' F V' G → cp_r 1 f t (V 2) (V' 2) → (∀ K, K ≠ 2 → V' K = V K) → Q none h') : HJ 290 0 (lv_args 0 [.ref (A 2), .int xn, .int xf, .int xt]) [] h Q :=
  s_cr2_0 M rfl rfl qn rfl qf rfl qt (fun x1 q1 lv2 e0 e1 e2 e3 e4 => l_cr2 hw qn qf qt f3 t3 ne g 1 0 lv2 h V x1 (by omega) M cp_0 (fun _ _ => rfl) q1 e0 e1 e2 e3 e4)
theorem s_cr3_0 {f t : Int} (M : MX 49 W ρ m A h0 h F V G) (e0 : m_lk lv 0 = some (.ref (A 3))) {lx1 : Int32} (e1 : m_lk lv 1 = some (.int lx1)) (lq1 : lx1.toInt = 1) {lx2 : Int32} (e2 : m_lk lv 2 = some (.int lx2)) (lq2 : lx2.toInt = f) {lx3 : Int32} (e3 : m_lk lv 3 = some (.int lx3)) (lq3 : lx3.toInt = t) 
    (g0 : ∀ x1 : Int32, x1.toInt = 0 → ∀ lv2 : List (Nat × Value), m_lk lv2 0 = some (.ref (A 3)) → m_lk lv2 1 = some (.int lx1) → m_lk lv2 2 = some (.int lx2) → m_lk lv2 3 = some (.int lx3) → m_lk lv2 4 = some (.int x1) → HJ 290 3 lv2 [] h Q)
    : HJ 290 0 lv [] h Q := by
  refine hM_ic (n := 0) rfl (by decide) rfl (fun x1 q1 => ?_) -- 0
  refine hM_si2 (k := 4) rfl (by decide +kernel) rfl (fun lv2 e2_4 u2 => ?_) -- 1
  have e2_0 := u2 0 _ (by decide) (Or.inl rfl) e0
  have e2_1 := u2 1 _ (by decide) (Or.inl rfl) e1
  have e2_2 := u2 2 _ (by decide) (Or.inl rfl) e2
  have e2_3 := u2 3 _ (by decide) (Or.inl rfl) e3
  exact g0 x1 q1 lv2 e2_0 e2_1 e2_2 e2_3 e2_4
theorem s_cr3 {f t k : Int} (M : MX 49 W ρ m A h0 h F V G) (e0 : m_lk lv 0 = some (.ref (A 3))) {lx1 : Int32} (e1 : m_lk lv 1 = some (.int lx1)) (lq1 : lx1.toInt = 1) {lx2 : Int32} (e2 : m_lk lv 2 = some (.int lx2)) (lq2 : lx2.toInt = f) {lx3 : Int32} (e3 : m_lk lv 3 = some (.int lx3)) (lq3 : lx3.toInt = t) {lx4 : Int32} (e4 : m_lk lv 4 = some (.int lx4)) (lq4 : lx4.toInt = k) (f0 : 0 ≤ f) (f1 : f ≤ 3) (t0 : 0 ≤ t) (t1 : t ≤ 3) (k0 : 0 ≤ k)(hw : d_sub [(52, 1001)] W = true)
    (g0 : k ≥ 1 → Q none h)
    (g1 : ∀ h6 : MH, ∀ V6 : Nat → Nat → Int, V6 = m_u V 3 (m_u (V 3) ((1 * t) + k).toNat (V 3 ((1 * f) + k).toNat)) → ∀ x7 : Int32, x7.toInt = k + 1 → ∀ lv7 : List (Nat × Value), MX 49 W ρ m A h0 h6 F V6 G → m_lk lv7 0 = some (.ref (A 3)) → m_lk lv7 1 = some (.int lx1) → m_lk lv7 2 = some (.int lx2) → m_lk lv7 3 = some (.int lx3) → m_lk lv7 4 = some (.int x7) → k < 1 → HJ 290 3 lv7 [] h6 Q)
    : HJ 290 3 lv [] h Q := by
  refine hI_il2 (k := 4) rfl e4 rfl ?_ -- 3
  refine hI_il (k := 1) rfl e1 rfl ?_ -- 5
  refine hM_cge (off := 25) (t := 31) rfl lq4 lq1 (by decide) rfl (fun c6 => ?_) (fun c6 => ?_) -- 6
  · refine hI_rv rfl rfl ?_
    exact g0 c6
  · refine hI_al (k := 0) rfl e0 rfl ?_ -- 9
    refine hI_il (k := 1) rfl e1 rfl ?_ -- 10
    refine hI_il (k := 3) rfl e3 rfl ?_ -- 11
    refine hM_mul rfl lq1 lq3 (by omega) (by omega) rfl (fun x1 q1 => ?_) -- 12
    refine hI_il2 (k := 4) rfl e4 rfl ?_ -- 13
    refine hM_add rfl q1 lq4 (by omega) (by omega) rfl (fun x2 q2 => ?_) -- 15
    refine hI_al (k := 0) rfl e0 rfl ?_ -- 16
    refine hI_il (k := 1) rfl e1 rfl ?_ -- 17
    refine hI_il (k := 2) rfl e2 rfl ?_ -- 18
    refine hM_mul rfl lq1 lq2 (by omega) (by omega) rfl (fun x3 q3 => ?_) -- 19
    refine hI_il2 (k := 4) rfl e4 rfl ?_ -- 20
    refine hM_add rfl q3 lq4 (by omega) (by omega) rfl (fun x4 q4 => ?_) -- 22
    refine hM_ia M (by decide) (K := 3) (R2 := 52) (L := 4) (H := 4) (lo := (-2147483648)) (hi := 2147483647) rfl (by decide) rfl rfl (fun _ => rfl) rfl q4 (by omega) (by omega) rfl (fun x5 q5 a5 b5 => ?_) -- 23
    refine hM_is M (by decide) ok_49 (K := 3) (R2 := 52) (L := 4) (H := 4) (lo := (-2147483648)) (hi := 2147483647) rfl (by decide) rfl rfl rfl (fun _ => rfl) (d_subm hw (by decide +kernel)) rfl q2 q5 (by omega) (by omega) (by omega) (by omega) rfl (fun h6 V6 f6 M6 => ?_) -- 24
    refine hM_inc (k := 4) (z := 1) rfl e4 lq4 (by decide) (by omega) (by omega) (by decide +kernel) rfl (fun lv7 x7 q7 e7_4 u7 => ?_) -- 25
    have e7_0 := u7 0 _ (by decide) (Or.inl rfl) e0
    have e7_1 := u7 1 _ (by decide) (Or.inl rfl) e1
    have e7_2 := u7 2 _ (by decide) (Or.inl rfl) e2
    have e7_3 := u7 3 _ (by decide) (Or.inl rfl) e3
    refine hI_go (pc' := 3) (off := (-25)) rfl (by decide) ?_ -- 28
    exact g1 h6 V6 f6 x7 q7 lv7 M6 e7_0 e7_1 e7_2 e7_3 e7_4 c6
theorem l_cr3 {f t : Nat} {xn xf xt : Int32} {Vs : Nat → Nat → Int} (hw : d_sub [(52, 1001)] W = true) (qn : xn.toInt = 1) (qf : xf.toInt = (f : Int)) (qt : xt.toInt = (t : Int)) (f3 : f ≤ 3) (t3 : t ≤ 3) (ne : f ≠ t) (g : ∀ (h' : MH) (V' : Nat → Nat → Int), MX 49 W ρ m A h0 h' F V' G → cp_r 1 f t (Vs 3) (V' 3) → (∀ K, K ≠ 3 → V' K = Vs K) → Q none h') : ∀ (d k : Nat) (lv : List (Nat × Value)) (h : MH) (V : Nat → Nat → Int) (xk : Int32), k + d = 1 → MX 49 W ρ m A h0 h F V G → cp_w 1 f t k (Vs 3) (V 3) → (∀ K, K ≠ 3 → V K = Vs K) → xk.toInt = (k : Int) → m_lk lv 0 = some (.ref (A 3)) → m_lk lv 1 = some (.int xn) → m_lk lv 2 = some (.int xf) → m_lk lv 3 = some (.int xt) → m_lk lv 4 = some (.int xk) → HJ 290 3 lv [] h Q := by
  intro d
  induction d with
  | zero =>
    intro k lv h V xk hd M c o qk e0 e1 e2 e3 e4
    exact s_cr3 M e0 e1 qn e2 qf e3 qt e4 qk (by omega) (by omega) (by omega) (by omega) (by omega) hw (fun _ => g h V M (cp_n (by omega) (by omega) c) o) (fun h6 V6 f6 x7 q7 lv7 M6 d0 d1 d2 d3 d4 c3 => by omega)
  | succ d ih =>
    intro k lv h V xk hd M c o qk e0 e1 e2 e3 e4
    exact s_cr3 M e0 e1 qn e2 qf e3 qt e4 qk (by omega) (by omega) (by omega) (by omega) (by omega) hw (fun c3 => by omega) (fun h6 V6 f6 x7 q7 lv7 M6 d0 d1 d2 d3 d4 c3 => ih (k + 1) lv7 h6 V6 x7 (by omega) M6 (by rw [f6, m_uE]; exact cp_s c (by omega) ne (by omega) (by omega)) (fun K hK => by rw [f6, m_uN _ _ _ _ hK]; exact o K hK) (by omega) d0 d1 d2 d3 d4)
theorem c_cr3 {f t : Nat} {xn xf xt : Int32} (M : MX 49 W ρ m A h0 h F V G) (hw : d_sub [(52, 1001)] W = true) (qn : xn.toInt = 1) (qf : xf.toInt = (f : Int)) (qt : xt.toInt = (t : Int)) (f3 : f ≤ 3) (t3 : t ≤ 3) (ne : f ≠ t) (g : ∀ (h' : MH) (V' : Nat → Nat → Int), MX 49 W ρ m A h0 h' F V' G → cp_r 1 f t (V 3) (V' 3) → (∀ K, K ≠ 3 → V' K = V K) → Q none h') : HJ 290 0 (lv_args 0 [.ref (A 3), .int xn, .int xf, .int xt]) [] h Q :=
  s_cr3_0 M rfl rfl qn rfl qf rfl qt (fun x1 q1 lv2 e0 e1 e2 e3 e4 => l_cr3 hw qn qf qt f3 t3 ne g 1 0 lv2 h V x1 (by omega) M cp_0 (fun _ _ => rfl) q1 e0 e1 e2 e3 e4)
theorem s_cr4_0 {f t : Int} (M : MX 49 W ρ m A h0 h F V G) (e0 : m_lk lv 0 = some (.ref (A 4))) {lx1 : Int32} (e1 : m_lk lv 1 = some (.int lx1)) (lq1 : lx1.toInt = 1) {lx2 : Int32} (e2 : m_lk lv 2 = some (.int lx2)) (lq2 : lx2.toInt = f) {lx3 : Int32} (e3 : m_lk lv 3 = some (.int lx3)) (lq3 : lx3.toInt = t) 
    (g0 : ∀ x1 : Int32, x1.toInt = 0 → ∀ lv2 : List (Nat × Value), m_lk lv2 0 = some (.ref (A 4)) → m_lk lv2 1 = some (.int lx1) → m_lk lv2 2 = some (.int lx2) → m_lk lv2 3 = some (.int lx3) → m_lk lv2 4 = some (.int x1) → HJ 290 3 lv2 [] h Q)
    : HJ 290 0 lv [] h Q := by
  refine hM_ic (n := 0) rfl (by decide) rfl (fun x1 q1 => ?_) -- 0
  refine hM_si2 (k := 4) rfl (by decide +kernel) rfl (fun lv2 e2_4 u2 => ?_) -- 1
  have e2_0 := u2 0 _ (by decide) (Or.inl rfl) e0
  have e2_1 := u2 1 _ (by decide) (Or.inl rfl) e1
  have e2_2 := u2 2 _ (by decide) (Or.inl rfl) e2
  have e2_3 := u2 3 _ (by decide) (Or.inl rfl) e3
  exact g0 x1 q1 lv2 e2_0 e2_1 e2_2 e2_3 e2_4
theorem s_cr4 {f t k : Int} (M : MX 49 W ρ m A h0 h F V G) (e0 : m_lk lv 0 = some (.ref (A 4))) {lx1 : Int32} (e1 : m_lk lv 1 = some (.int lx1)) (lq1 : lx1.toInt = 1) {lx2 : Int32} (e2 : m_lk lv 2 = some (.int lx2)) (lq2 : lx2.toInt = f) {lx3 : Int32} (e3 : m_lk lv 3 = some (.int lx3)) (lq3 : lx3.toInt = t) {lx4 : Int32} (e4 : m_lk lv 4 = some (.int lx4)) (lq4 : lx4.toInt = k) (f0 : 0 ≤ f) (f1 : f ≤ 3) (t0 : 0 ≤ t) (t1 : t ≤ 3) (k0 : 0 ≤ k)(hw : d_sub [(53, 1001)] W = true)
    (g0 : k ≥ 1 → Q none h)
    (g1 : ∀ h6 : MH, ∀ V6 : Nat → Nat → Int, V6 = m_u V 4 (m_u (V 4) ((1 * t) + k).toNat (V 4 ((1 * f) + k).toNat)) → ∀ x7 : Int32, x7.toInt = k + 1 → ∀ lv7 : List (Nat × Value), MX 49 W ρ m A h0 h6 F V6 G → m_lk lv7 0 = some (.ref (A 4)) → m_lk lv7 1 = some (.int lx1) → m_lk lv7 2 = some (.int lx2) → m_lk lv7 3 = some (.int lx3) → m_lk lv7 4 = some (.int x7) → k < 1 → HJ 290 3 lv7 [] h6 Q)
    : HJ 290 3 lv [] h Q := by
  refine hI_il2 (k := 4) rfl e4 rfl ?_ -- 3
  refine hI_il (k := 1) rfl e1 rfl ?_ -- 5
  refine hM_cge (off := 25) (t := 31) rfl lq4 lq1 (by decide) rfl (fun c6 => ?_) (fun c6 => ?_) -- 6
  · refine hI_rv rfl rfl ?_
    exact g0 c6
  · refine hI_al (k := 0) rfl e0 rfl ?_ -- 9
    refine hI_il (k := 1) rfl e1 rfl ?_ -- 10
    refine hI_il (k := 3) rfl e3 rfl ?_ -- 11
    refine hM_mul rfl lq1 lq3 (by omega) (by omega) rfl (fun x1 q1 => ?_) -- 12
    refine hI_il2 (k := 4) rfl e4 rfl ?_ -- 13
    refine hM_add rfl q1 lq4 (by omega) (by omega) rfl (fun x2 q2 => ?_) -- 15
    refine hI_al (k := 0) rfl e0 rfl ?_ -- 16
    refine hI_il (k := 1) rfl e1 rfl ?_ -- 17
    refine hI_il (k := 2) rfl e2 rfl ?_ -- 18
    refine hM_mul rfl lq1 lq2 (by omega) (by omega) rfl (fun x3 q3 => ?_) -- 19
    refine hI_il2 (k := 4) rfl e4 rfl ?_ -- 20
    refine hM_add rfl q3 lq4 (by omega) (by omega) rfl (fun x4 q4 => ?_) -- 22
    refine hM_ia M (by decide) (K := 4) (R2 := 53) (L := 4) (H := 4) (lo := (-2147483648)) (hi := 2147483647) rfl (by decide) rfl rfl (fun _ => rfl) rfl q4 (by omega) (by omega) rfl (fun x5 q5 a5 b5 => ?_) -- 23
    refine hM_is M (by decide) ok_49 (K := 4) (R2 := 53) (L := 4) (H := 4) (lo := (-2147483648)) (hi := 2147483647) rfl (by decide) rfl rfl rfl (fun _ => rfl) (d_subm hw (by decide +kernel)) rfl q2 q5 (by omega) (by omega) (by omega) (by omega) rfl (fun h6 V6 f6 M6 => ?_) -- 24
    refine hM_inc (k := 4) (z := 1) rfl e4 lq4 (by decide) (by omega) (by omega) (by decide +kernel) rfl (fun lv7 x7 q7 e7_4 u7 => ?_) -- 25
    have e7_0 := u7 0 _ (by decide) (Or.inl rfl) e0
    have e7_1 := u7 1 _ (by decide) (Or.inl rfl) e1
    have e7_2 := u7 2 _ (by decide) (Or.inl rfl) e2
    have e7_3 := u7 3 _ (by decide) (Or.inl rfl) e3
    refine hI_go (pc' := 3) (off := (-25)) rfl (by decide) ?_ -- 28
    exact g1 h6 V6 f6 x7 q7 lv7 M6 e7_0 e7_1 e7_2 e7_3 e7_4 c6
theorem l_cr4 {f t : Nat} {xn xf xt : Int32} {Vs : Nat → Nat → Int} (hw : d_sub [(53, 1001)] W = true) (qn : xn.toInt = 1) (qf : xf.toInt = (f : Int)) (qt : xt.toInt = (t : Int)) (f3 : f ≤ 3) (t3 : t ≤ 3) (ne : f ≠ t) (g : ∀ (h' : MH) (V' : Nat → Nat → Int), MX 49 W ρ m A h0 h' F V' G → cp_r 1 f t (Vs 4) (V' 4) → (∀ K, K ≠ 4 → V' K = Vs K) → Q none h') : ∀ (d k : Nat) (lv : List (Nat × Value)) (h : MH) (V : Nat → Nat → Int) (xk : Int32), k + d = 1 → MX 49 W ρ m A h0 h F V G → cp_w 1 f t k (Vs 4) (V 4) → (∀ K, K ≠ 4 → V K = Vs K) → xk.toInt = (k : Int) → m_lk lv 0 = some (.ref (A 4)) → m_lk lv 1 = some (.int xn) → m_lk lv 2 = some (.int xf) → m_lk lv 3 = some (.int xt) → m_lk lv 4 = some (.int xk) → HJ 290 3 lv [] h Q := by
  intro d
  induction d with
  | zero =>
    intro k lv h V xk hd M c o qk e0 e1 e2 e3 e4
    exact s_cr4 M e0 e1 qn e2 qf e3 qt e4 qk (by omega) (by omega) (by omega) (by omega) (by omega) hw (fun _ => g h V M (cp_n (by omega) (by omega) c) o) (fun h6 V6 f6 x7 q7 lv7 M6 d0 d1 d2 d3 d4 c3 => by omega)
  | succ d ih =>
    intro k lv h V xk hd M c o qk e0 e1 e2 e3 e4
    exact s_cr4 M e0 e1 qn e2 qf e3 qt e4 qk (by omega) (by omega) (by omega) (by omega) (by omega) hw (fun c3 => by omega) (fun h6 V6 f6 x7 q7 lv7 M6 d0 d1 d2 d3 d4 c3 => ih (k + 1) lv7 h6 V6 x7 (by omega) M6 (by rw [f6, m_uE]; exact cp_s c (by omega) ne (by omega) (by omega)) (fun K hK => by rw [f6, m_uN _ _ _ _ hK]; exact o K hK) (by omega) d0 d1 d2 d3 d4)
theorem c_cr4 {f t : Nat} {xn xf xt : Int32} (M : MX 49 W ρ m A h0 h F V G) (hw : d_sub [(53, 1001)] W = true) (qn : xn.toInt = 1) (qf : xf.toInt = (f : Int)) (qt : xt.toInt = (t : Int)) (f3 : f ≤ 3) (t3 : t ≤ 3) (ne : f ≠ t) (g : ∀ (h' : MH) (V' : Nat → Nat → Int), MX 49 W ρ m A h0 h' F V' G → cp_r 1 f t (V 4) (V' 4) → (∀ K, K ≠ 4 → V' K = V K) → Q none h') : HJ 290 0 (lv_args 0 [.ref (A 4), .int xn, .int xf, .int xt]) [] h Q :=
  s_cr4_0 M rfl rfl qn rfl qf rfl qt (fun x1 q1 lv2 e0 e1 e2 e3 e4 => l_cr4 hw qn qf qt f3 t3 ne g 1 0 lv2 h V x1 (by omega) M cp_0 (fun _ _ => rfl) q1 e0 e1 e2 e3 e4)
theorem s_cr5_0 {f t : Int} (M : MX 49 W ρ m A h0 h F V G) (e0 : m_lk lv 0 = some (.ref (A 5))) {lx1 : Int32} (e1 : m_lk lv 1 = some (.int lx1)) (lq1 : lx1.toInt = 1) {lx2 : Int32} (e2 : m_lk lv 2 = some (.int lx2)) (lq2 : lx2.toInt = f) {lx3 : Int32} (e3 : m_lk lv 3 = some (.int lx3)) (lq3 : lx3.toInt = t) 
    (g0 : ∀ x1 : Int32, x1.toInt = 0 → ∀ lv2 : List (Nat × Value), m_lk lv2 0 = some (.ref (A 5)) → m_lk lv2 1 = some (.int lx1) → m_lk lv2 2 = some (.int lx2) → m_lk lv2 3 = some (.int lx3) → m_lk lv2 4 = some (.int x1) → HJ 290 3 lv2 [] h Q)
    : HJ 290 0 lv [] h Q := by
  refine hM_ic (n := 0) rfl (by decide) rfl (fun x1 q1 => ?_) -- 0
  refine hM_si2 (k := 4) rfl (by decide +kernel) rfl (fun lv2 e2_4 u2 => ?_) -- 1
  have e2_0 := u2 0 _ (by decide) (Or.inl rfl) e0
  have e2_1 := u2 1 _ (by decide) (Or.inl rfl) e1
  have e2_2 := u2 2 _ (by decide) (Or.inl rfl) e2
  have e2_3 := u2 3 _ (by decide) (Or.inl rfl) e3
  exact g0 x1 q1 lv2 e2_0 e2_1 e2_2 e2_3 e2_4
theorem s_cr5 {f t k : Int} (M : MX 49 W ρ m A h0 h F V G) (e0 : m_lk lv 0 = some (.ref (A 5))) {lx1 : Int32} (e1 : m_lk lv 1 = some (.int lx1)) (lq1 : lx1.toInt = 1) {lx2 : Int32} (e2 : m_lk lv 2 = some (.int lx2)) (lq2 : lx2.toInt = f) {lx3 : Int32} (e3 : m_lk lv 3 = some (.int lx3)) (lq3 : lx3.toInt = t) {lx4 : Int32} (e4 : m_lk lv 4 = some (.int lx4)) (lq4 : lx4.toInt = k) (f0 : 0 ≤ f) (f1 : f ≤ 3) (t0 : 0 ≤ t) (t1 : t ≤ 3) (k0 : 0 ≤ k)(hw : d_sub [(54, 1001)] W = true)
    (g0 : k ≥ 1 → Q none h)
    (g1 : ∀ h6 : MH, ∀ V6 : Nat → Nat → Int, V6 = m_u V 5 (m_u (V 5) ((1 * t) + k).toNat (V 5 ((1 * f) + k).toNat)) → ∀ x7 : Int32, x7.toInt = k + 1 → ∀ lv7 : List (Nat × Value), MX 49 W ρ m A h0 h6 F V6 G → m_lk lv7 0 = some (.ref (A 5)) → m_lk lv7 1 = some (.int lx1) → m_lk lv7 2 = some (.int lx2) → m_lk lv7 3 = some (.int lx3) → m_lk lv7 4 = some (.int x7) → k < 1 → 0 ≤ V 5 ((1 * f) + k).toNat → V 5 ((1 * f) + k).toNat ≤ 4 → HJ 290 3 lv7 [] h6 Q)
    : HJ 290 3 lv [] h Q := by
  refine hI_il2 (k := 4) rfl e4 rfl ?_ -- 3
  refine hI_il (k := 1) rfl e1 rfl ?_ -- 5
  refine hM_cge (off := 25) (t := 31) rfl lq4 lq1 (by decide) rfl (fun c6 => ?_) (fun c6 => ?_) -- 6
  · refine hI_rv rfl rfl ?_
    exact g0 c6
  · refine hI_al (k := 0) rfl e0 rfl ?_ -- 9
    refine hI_il (k := 1) rfl e1 rfl ?_ -- 10
    refine hI_il (k := 3) rfl e3 rfl ?_ -- 11
    refine hM_mul rfl lq1 lq3 (by omega) (by omega) rfl (fun x1 q1 => ?_) -- 12
    refine hI_il2 (k := 4) rfl e4 rfl ?_ -- 13
    refine hM_add rfl q1 lq4 (by omega) (by omega) rfl (fun x2 q2 => ?_) -- 15
    refine hI_al (k := 0) rfl e0 rfl ?_ -- 16
    refine hI_il (k := 1) rfl e1 rfl ?_ -- 17
    refine hI_il (k := 2) rfl e2 rfl ?_ -- 18
    refine hM_mul rfl lq1 lq2 (by omega) (by omega) rfl (fun x3 q3 => ?_) -- 19
    refine hI_il2 (k := 4) rfl e4 rfl ?_ -- 20
    refine hM_add rfl q3 lq4 (by omega) (by omega) rfl (fun x4 q4 => ?_) -- 22
    refine hM_ia M (by decide) (K := 5) (R2 := 54) (L := 4) (H := 4) (lo := 0) (hi := 4) rfl (by decide) rfl rfl (fun _ => rfl) rfl q4 (by omega) (by omega) rfl (fun x5 q5 a5 b5 => ?_) -- 23
    refine hM_is M (by decide) ok_49 (K := 5) (R2 := 54) (L := 4) (H := 4) (lo := 0) (hi := 4) rfl (by decide) rfl rfl rfl (fun _ => rfl) (d_subm hw (by decide +kernel)) rfl q2 q5 (by omega) (by omega) (by omega) (by omega) rfl (fun h6 V6 f6 M6 => ?_) -- 24
    refine hM_inc (k := 4) (z := 1) rfl e4 lq4 (by decide) (by omega) (by omega) (by decide +kernel) rfl (fun lv7 x7 q7 e7_4 u7 => ?_) -- 25
    have e7_0 := u7 0 _ (by decide) (Or.inl rfl) e0
    have e7_1 := u7 1 _ (by decide) (Or.inl rfl) e1
    have e7_2 := u7 2 _ (by decide) (Or.inl rfl) e2
    have e7_3 := u7 3 _ (by decide) (Or.inl rfl) e3
    refine hI_go (pc' := 3) (off := (-25)) rfl (by decide) ?_ -- 28
    exact g1 h6 V6 f6 x7 q7 lv7 M6 e7_0 e7_1 e7_2 e7_3 e7_4 c6 a5 b5
theorem l_cr5 {f t : Nat} {xn xf xt : Int32} {Vs : Nat → Nat → Int} (hw : d_sub [(54, 1001)] W = true) (qn : xn.toInt = 1) (qf : xf.toInt = (f : Int)) (qt : xt.toInt = (t : Int)) (f3 : f ≤ 3) (t3 : t ≤ 3) (ne : f ≠ t) (g : ∀ (h' : MH) (V' : Nat → Nat → Int), MX 49 W ρ m A h0 h' F V' G → cp_r 1 f t (Vs 5) (V' 5) → (∀ K, K ≠ 5 → V' K = Vs K) → Q none h') : ∀ (d k : Nat) (lv : List (Nat × Value)) (h : MH) (V : Nat → Nat → Int) (xk : Int32), k + d = 1 → MX 49 W ρ m A h0 h F V G → cp_w 1 f t k (Vs 5) (V 5) → (∀ K, K ≠ 5 → V K = Vs K) → xk.toInt = (k : Int) → m_lk lv 0 = some (.ref (A 5)) → m_lk lv 1 = some (.int xn) → m_lk lv 2 = some (.int xf) → m_lk lv 3 = some (.int xt) → m_lk lv 4 = some (.int xk) → HJ 290 3 lv [] h Q := by
  intro d
  induction d with
  | zero =>
    intro k lv h V xk hd M c o qk e0 e1 e2 e3 e4
    exact s_cr5 M e0 e1 qn e2 qf e3 qt e4 qk (by omega) (by omega) (by omega) (by omega) (by omega) hw (fun _ => g h V M (cp_n (by omega) (by omega) c) o) (fun h6 V6 f6 x7 q7 lv7 M6 d0 d1 d2 d3 d4 c3 a0 a1 => by omega)
  | succ d ih =>
    intro k lv h V xk hd M c o qk e0 e1 e2 e3 e4
    exact s_cr5 M e0 e1 qn e2 qf e3 qt e4 qk (by omega) (by omega) (by omega) (by omega) (by omega) hw (fun c3 => by omega) (fun h6 V6 f6 x7 q7 lv7 M6 d0 d1 d2 d3 d4 c3 a0 a1 => ih (k + 1) lv7 h6 V6 x7 (by omega) M6 (by rw [f6, m_uE]; exact cp_s c (by omega) ne (by omega) (by omega)) (fun K hK => by rw [f6, m_uN _ _ _ _ hK]; exact o K hK) (by omega) d0 d1 d2 d3 d4)
theorem c_cr5 {f t : Nat} {xn xf xt : Int32} (M : MX 49 W ρ m A h0 h F V G) (hw : d_sub [(54, 1001)] W = true) (qn : xn.toInt = 1) (qf : xf.toInt = (f : Int)) (qt : xt.toInt = (t : Int)) (f3 : f ≤ 3) (t3 : t ≤ 3) (ne : f ≠ t) (g : ∀ (h' : MH) (V' : Nat → Nat → Int), MX 49 W ρ m A h0 h' F V' G → cp_r 1 f t (V 5) (V' 5) → (∀ K, K ≠ 5 → V' K = V K) → Q none h') : HJ 290 0 (lv_args 0 [.ref (A 5), .int xn, .int xf, .int xt]) [] h Q :=
  s_cr5_0 M rfl rfl qn rfl qf rfl qt (fun x1 q1 lv2 e0 e1 e2 e3 e4 => l_cr5 hw qn qf qt f3 t3 ne g 1 0 lv2 h V x1 (by omega) M cp_0 (fun _ _ => rfl) q1 e0 e1 e2 e3 e4)
theorem s_cr6_0 {f t : Int} (M : MX 49 W ρ m A h0 h F V G) (e0 : m_lk lv 0 = some (.ref (A 6))) {lx1 : Int32} (e1 : m_lk lv 1 = some (.int lx1)) (lq1 : lx1.toInt = 644) {lx2 : Int32} (e2 : m_lk lv 2 = some (.int lx2)) (lq2 : lx2.toInt = f) {lx3 : Int32} (e3 : m_lk lv 3 = some (.int lx3)) (lq3 : lx3.toInt = t) 
    (g0 : ∀ x1 : Int32, x1.toInt = 0 → ∀ lv2 : List (Nat × Value), m_lk lv2 0 = some (.ref (A 6)) → m_lk lv2 1 = some (.int lx1) → m_lk lv2 2 = some (.int lx2) → m_lk lv2 3 = some (.int lx3) → m_lk lv2 4 = some (.int x1) → HJ 290 3 lv2 [] h Q)
    : HJ 290 0 lv [] h Q := by
  refine hM_ic (n := 0) rfl (by decide) rfl (fun x1 q1 => ?_) -- 0
  refine hM_si2 (k := 4) rfl (by decide +kernel) rfl (fun lv2 e2_4 u2 => ?_) -- 1
  have e2_0 := u2 0 _ (by decide) (Or.inl rfl) e0
  have e2_1 := u2 1 _ (by decide) (Or.inl rfl) e1
  have e2_2 := u2 2 _ (by decide) (Or.inl rfl) e2
  have e2_3 := u2 3 _ (by decide) (Or.inl rfl) e3
  exact g0 x1 q1 lv2 e2_0 e2_1 e2_2 e2_3 e2_4
theorem s_cr6 {f t k : Int} (M : MX 49 W ρ m A h0 h F V G) (e0 : m_lk lv 0 = some (.ref (A 6))) {lx1 : Int32} (e1 : m_lk lv 1 = some (.int lx1)) (lq1 : lx1.toInt = 644) {lx2 : Int32} (e2 : m_lk lv 2 = some (.int lx2)) (lq2 : lx2.toInt = f) {lx3 : Int32} (e3 : m_lk lv 3 = some (.int lx3)) (lq3 : lx3.toInt = t) {lx4 : Int32} (e4 : m_lk lv 4 = some (.int lx4)) (lq4 : lx4.toInt = k) (f0 : 0 ≤ f) (f1 : f ≤ 3) (t0 : 0 ≤ t) (t1 : t ≤ 3) (k0 : 0 ≤ k)(hw : d_sub [(55, 1001)] W = true)
    (g0 : k ≥ 644 → Q none h)
    (g1 : ∀ h6 : MH, ∀ V6 : Nat → Nat → Int, V6 = m_u V 6 (m_u (V 6) ((644 * t) + k).toNat (V 6 ((644 * f) + k).toNat)) → ∀ x7 : Int32, x7.toInt = k + 1 → ∀ lv7 : List (Nat × Value), MX 49 W ρ m A h0 h6 F V6 G → m_lk lv7 0 = some (.ref (A 6)) → m_lk lv7 1 = some (.int lx1) → m_lk lv7 2 = some (.int lx2) → m_lk lv7 3 = some (.int lx3) → m_lk lv7 4 = some (.int x7) → k < 644 → HJ 290 3 lv7 [] h6 Q)
    : HJ 290 3 lv [] h Q := by
  refine hI_il2 (k := 4) rfl e4 rfl ?_ -- 3
  refine hI_il (k := 1) rfl e1 rfl ?_ -- 5
  refine hM_cge (off := 25) (t := 31) rfl lq4 lq1 (by decide) rfl (fun c6 => ?_) (fun c6 => ?_) -- 6
  · refine hI_rv rfl rfl ?_
    exact g0 c6
  · refine hI_al (k := 0) rfl e0 rfl ?_ -- 9
    refine hI_il (k := 1) rfl e1 rfl ?_ -- 10
    refine hI_il (k := 3) rfl e3 rfl ?_ -- 11
    refine hM_mul rfl lq1 lq3 (by omega) (by omega) rfl (fun x1 q1 => ?_) -- 12
    refine hI_il2 (k := 4) rfl e4 rfl ?_ -- 13
    refine hM_add rfl q1 lq4 (by omega) (by omega) rfl (fun x2 q2 => ?_) -- 15
    refine hI_al (k := 0) rfl e0 rfl ?_ -- 16
    refine hI_il (k := 1) rfl e1 rfl ?_ -- 17
    refine hI_il (k := 2) rfl e2 rfl ?_ -- 18
    refine hM_mul rfl lq1 lq2 (by omega) (by omega) rfl (fun x3 q3 => ?_) -- 19
    refine hI_il2 (k := 4) rfl e4 rfl ?_ -- 20
    refine hM_add rfl q3 lq4 (by omega) (by omega) rfl (fun x4 q4 => ?_) -- 22
    refine hM_ia M (by decide) (K := 6) (R2 := 55) (L := 2576) (H := 2576) (lo := (-2147483648)) (hi := 2147483647) rfl (by decide) rfl rfl (fun _ => rfl) rfl q4 (by omega) (by omega) rfl (fun x5 q5 a5 b5 => ?_) -- 23
    refine hM_is M (by decide) ok_49 (K := 6) (R2 := 55) (L := 2576) (H := 2576) (lo := (-2147483648)) (hi := 2147483647) rfl (by decide) rfl rfl rfl (fun _ => rfl) (d_subm hw (by decide +kernel)) rfl q2 q5 (by omega) (by omega) (by omega) (by omega) rfl (fun h6 V6 f6 M6 => ?_) -- 24
    refine hM_inc (k := 4) (z := 1) rfl e4 lq4 (by decide) (by omega) (by omega) (by decide +kernel) rfl (fun lv7 x7 q7 e7_4 u7 => ?_) -- 25
    have e7_0 := u7 0 _ (by decide) (Or.inl rfl) e0
    have e7_1 := u7 1 _ (by decide) (Or.inl rfl) e1
    have e7_2 := u7 2 _ (by decide) (Or.inl rfl) e2
    have e7_3 := u7 3 _ (by decide) (Or.inl rfl) e3
    refine hI_go (pc' := 3) (off := (-25)) rfl (by decide) ?_ -- 28
    exact g1 h6 V6 f6 x7 q7 lv7 M6 e7_0 e7_1 e7_2 e7_3 e7_4 c6
theorem l_cr6 {f t : Nat} {xn xf xt : Int32} {Vs : Nat → Nat → Int} (hw : d_sub [(55, 1001)] W = true) (qn : xn.toInt = 644) (qf : xf.toInt = (f : Int)) (qt : xt.toInt = (t : Int)) (f3 : f ≤ 3) (t3 : t ≤ 3) (ne : f ≠ t) (g : ∀ (h' : MH) (V' : Nat → Nat → Int), MX 49 W ρ m A h0 h' F V' G → cp_r 644 f t (Vs 6) (V' 6) → (∀ K, K ≠ 6 → V' K = Vs K) → Q none h') : ∀ (d k : Nat) (lv : List (Nat × Value)) (h : MH) (V : Nat → Nat → Int) (xk : Int32), k + d = 644 → MX 49 W ρ m A h0 h F V G → cp_w 644 f t k (Vs 6) (V 6) → (∀ K, K ≠ 6 → V K = Vs K) → xk.toInt = (k : Int) → m_lk lv 0 = some (.ref (A 6)) → m_lk lv 1 = some (.int xn) → m_lk lv 2 = some (.int xf) → m_lk lv 3 = some (.int xt) → m_lk lv 4 = some (.int xk) → HJ 290 3 lv [] h Q := by
  intro d
  induction d with
  | zero =>
    intro k lv h V xk hd M c o qk e0 e1 e2 e3 e4
    exact s_cr6 M e0 e1 qn e2 qf e3 qt e4 qk (by omega) (by omega) (by omega) (by omega) (by omega) hw (fun _ => g h V M (cp_n (by omega) (by omega) c) o) (fun h6 V6 f6 x7 q7 lv7 M6 d0 d1 d2 d3 d4 c3 => by omega)
  | succ d ih =>
    intro k lv h V xk hd M c o qk e0 e1 e2 e3 e4
    exact s_cr6 M e0 e1 qn e2 qf e3 qt e4 qk (by omega) (by omega) (by omega) (by omega) (by omega) hw (fun c3 => by omega) (fun h6 V6 f6 x7 q7 lv7 M6 d0 d1 d2 d3 d4 c3 => ih (k + 1) lv7 h6 V6 x7 (by omega) M6 (by rw [f6, m_uE]; exact cp_s c (by omega) ne (by omega) (by omega)) (fun K hK => by rw [f6, m_uN _ _ _ _ hK]; exact o K hK) (by omega) d0 d1 d2 d3 d4)
theorem c_cr6 {f t : Nat} {xn xf xt : Int32} (M : MX 49 W ρ m A h0 h F V G) (hw : d_sub [(55, 1001)] W = true) (qn : xn.toInt = 644) (qf : xf.toInt = (f : Int)) (qt : xt.toInt = (t : Int)) (f3 : f ≤ 3) (t3 : t ≤ 3) (ne : f ≠ t) (g : ∀ (h' : MH) (V' : Nat → Nat → Int), MX 49 W ρ m A h0 h' F V' G → cp_r 644 f t (V 6) (V' 6) → (∀ K, K ≠ 6 → V' K = V K) → Q none h') : HJ 290 0 (lv_args 0 [.ref (A 6), .int xn, .int xf, .int xt]) [] h Q :=
  s_cr6_0 M rfl rfl qn rfl qf rfl qt (fun x1 q1 lv2 e0 e1 e2 e3 e4 => l_cr6 hw qn qf qt f3 t3 ne g 644 0 lv2 h V x1 (by omega) M cp_0 (fun _ _ => rfl) q1 e0 e1 e2 e3 e4)
theorem s_ca0 {f t : Int} (M : MX 49 W ρ m A h0 h F V G) (e0 : m_lk lv 0 = some (.ref m)) {lx1 : Int32} (e1 : m_lk lv 1 = some (.int lx1)) (lq1 : lx1.toInt = f) {lx2 : Int32} (e2 : m_lk lv 2 = some (.int lx2)) (lq2 : lx2.toInt = t) 
    (g0 : ∀ x1 : Int32, x1.toInt = 0 → ∀ lv2 : List (Nat × Value), m_lk lv2 0 = some (.ref m) → m_lk lv2 1 = some (.int lx1) → m_lk lv2 2 = some (.int lx2) → m_lk lv2 3 = some (.int x1) → HJ 289 2 lv2 [] h Q)
    : HJ 289 0 lv [] h Q := by
  refine hM_ic (n := 0) rfl (by decide) rfl (fun x1 q1 => ?_) -- 0
  refine hM_si (k := 3) rfl (by decide +kernel) rfl (fun lv2 e2_3 u2 => ?_) -- 1
  have e2_0 := u2 0 _ (by decide) (Or.inl rfl) e0
  have e2_1 := u2 1 _ (by decide) (Or.inl rfl) e1
  have e2_2 := u2 2 _ (by decide) (Or.inl rfl) e2
  exact g0 x1 q1 lv2 e2_0 e2_1 e2_2 e2_3
theorem s_ca2 {f t k : Int} (M : MX 49 W ρ m A h0 h F V G) (e0 : m_lk lv 0 = some (.ref m)) {lx1 : Int32} (e1 : m_lk lv 1 = some (.int lx1)) (lq1 : lx1.toInt = f) {lx2 : Int32} (e2 : m_lk lv 2 = some (.int lx2)) (lq2 : lx2.toInt = t) {lx3 : Int32} (e3 : m_lk lv 3 = some (.int lx3)) (lq3 : lx3.toInt = k) (f0 : 0 ≤ f) (f1 : f ≤ 3) (t0 : 0 ≤ t) (t1 : t ≤ 3) (k0 : 0 ≤ k)(hw : d_sub [(50, 1001)] W = true)
    (g0 : k ≥ 600 → HJ 289 39 lv [] h Q)
    (g1 : ∀ h9 : MH, ∀ V9 : Nat → Nat → Int, V9 = m_u V 1 (m_u (V 1) ((600 * t) + k).toNat (V 1 ((600 * f) + k).toNat)) → ∀ x10 : Int32, x10.toInt = k + 1 → ∀ lv10 : List (Nat × Value), MX 49 W ρ m A h0 h9 F V9 G → m_lk lv10 0 = some (.ref m) → m_lk lv10 1 = some (.int lx1) → m_lk lv10 2 = some (.int lx2) → m_lk lv10 3 = some (.int x10) → k < 600 → (-128) ≤ V 1 ((600 * f) + k).toNat → V 1 ((600 * f) + k).toNat ≤ 127 → HJ 289 2 lv10 [] h9 Q)
    : HJ 289 2 lv [] h Q := by
  refine hI_il (k := 3) rfl e3 rfl ?_ -- 2
  refine hM_sp (n := 600) rfl (by decide) rfl (fun x1 q1 => ?_) -- 3
  refine hM_cge (off := 33) (t := 39) rfl lq3 q1 (by decide) rfl (fun c6 => ?_) (fun c6 => ?_) -- 6
  · exact g0 c6
  · refine hI_al (k := 0) rfl e0 rfl ?_ -- 9
    refine hM_ga M (by decide) rfl rfl (k := 1) (c := 9) rfl rfl rfl (by decide +kernel) rfl ?_ -- 10
    refine hM_sp (n := 600) rfl (by decide) rfl (fun x2 q2 => ?_) -- 13
    refine hI_il (k := 2) rfl e2 rfl ?_ -- 16
    refine hM_mul rfl q2 lq2 (by omega) (by omega) rfl (fun x3 q3 => ?_) -- 17
    refine hI_il (k := 3) rfl e3 rfl ?_ -- 18
    refine hM_add rfl q3 lq3 (by omega) (by omega) rfl (fun x4 q4 => ?_) -- 19
    refine hI_al (k := 0) rfl e0 rfl ?_ -- 20
    refine hM_ga M (by decide) rfl rfl (k := 1) (c := 9) rfl rfl rfl (by decide +kernel) rfl ?_ -- 21
    refine hM_sp (n := 600) rfl (by decide) rfl (fun x5 q5 => ?_) -- 24
    refine hI_il (k := 1) rfl e1 rfl ?_ -- 27
    refine hM_mul rfl q5 lq1 (by omega) (by omega) rfl (fun x6 q6 => ?_) -- 28
    refine hI_il (k := 3) rfl e3 rfl ?_ -- 29
    refine hM_add rfl q6 lq3 (by omega) (by omega) rfl (fun x7 q7 => ?_) -- 30
    refine hM_ba M (by decide) (K := 1) (R2 := 50) (L := 2400) (H := 2400) (lo := (-128)) (hi := 127) rfl (by decide) rfl rfl (Or.inl rfl) (fun _ => rfl) rfl q7 (by omega) (by omega) rfl (fun x8 q8 a8 b8 => ?_) -- 31
    refine hM_bs M (by decide) ok_49 (K := 1) (R2 := 50) (L := 2400) (H := 2400) (lo := (-128)) (hi := 127) rfl (by decide) rfl rfl rfl (fun _ => rfl) (by decide) (by decide) (d_subm hw (by decide +kernel)) rfl q4 q8 (by omega) (by omega) (by omega) (by omega) rfl (fun h9 V9 f9 M9 => ?_) -- 32
    refine hM_inc (k := 3) (z := 1) rfl e3 lq3 (by decide) (by omega) (by omega) (by decide +kernel) rfl (fun lv10 x10 q10 e10_3 u10 => ?_) -- 33
    have e10_0 := u10 0 _ (by decide) (Or.inl rfl) e0
    have e10_1 := u10 1 _ (by decide) (Or.inl rfl) e1
    have e10_2 := u10 2 _ (by decide) (Or.inl rfl) e2
    refine hI_go (pc' := 2) (off := (-34)) rfl (by decide) ?_ -- 36
    exact g1 h9 V9 f9 x10 q10 lv10 M9 e10_0 e10_1 e10_2 e10_3 c6 a8 b8
theorem s_ca39 {f t : Int} (M : MX 49 W ρ m A h0 h F V G) (e0 : m_lk lv 0 = some (.ref m)) {lx1 : Int32} (e1 : m_lk lv 1 = some (.int lx1)) (lq1 : lx1.toInt = f) {lx2 : Int32} (e2 : m_lk lv 2 = some (.int lx2)) (lq2 : lx2.toInt = t) 
    (g0 : ∀ x1 : Int32, x1.toInt = 1 → HJ 290 0 (lv_args 0 [.ref (A 2), .int x1, .int lx1, .int lx2]) [] h (fun v h' => HJ 289 49 lv (v.toList ++ []) h' Q))
    : HJ 289 39 lv [] h Q := by
  refine hI_al (k := 0) rfl e0 rfl ?_ -- 39
  refine hM_ga M (by decide) rfl rfl (k := 2) (c := 9) rfl rfl rfl (by decide +kernel) rfl ?_ -- 40
  refine hM_ic (n := 1) rfl (by decide) rfl (fun x1 q1 => ?_) -- 43
  refine hI_il (k := 1) rfl e1 rfl ?_ -- 44
  refine hI_il (k := 2) rfl e2 rfl ?_ -- 45
  refine hM_is0 (as := [.ref (A 2), .int x1, .int lx1, .int lx2]) (r := []) rfl rfl (by decide +kernel) rfl rfl rfl rfl rfl ?_ -- 46
  exact g0 x1 q1
theorem s_ca49 {f t : Int} (M : MX 49 W ρ m A h0 h F V G) (e0 : m_lk lv 0 = some (.ref m)) {lx1 : Int32} (e1 : m_lk lv 1 = some (.int lx1)) (lq1 : lx1.toInt = f) {lx2 : Int32} (e2 : m_lk lv 2 = some (.int lx2)) (lq2 : lx2.toInt = t) 
    (g0 : ∀ x1 : Int32, x1.toInt = 1 → HJ 290 0 (lv_args 0 [.ref (A 3), .int x1, .int lx1, .int lx2]) [] h (fun v h' => HJ 289 59 lv (v.toList ++ []) h' Q))
    : HJ 289 49 lv [] h Q := by
  refine hI_al (k := 0) rfl e0 rfl ?_ -- 49
  refine hM_ga M (by decide) rfl rfl (k := 3) (c := 9) rfl rfl rfl (by decide +kernel) rfl ?_ -- 50
  refine hM_ic (n := 1) rfl (by decide) rfl (fun x1 q1 => ?_) -- 53
  refine hI_il (k := 1) rfl e1 rfl ?_ -- 54
  refine hI_il (k := 2) rfl e2 rfl ?_ -- 55
  refine hM_is0 (as := [.ref (A 3), .int x1, .int lx1, .int lx2]) (r := []) rfl rfl (by decide +kernel) rfl rfl rfl rfl rfl ?_ -- 56
  exact g0 x1 q1
theorem s_ca59 {f t : Int} (M : MX 49 W ρ m A h0 h F V G) (e0 : m_lk lv 0 = some (.ref m)) {lx1 : Int32} (e1 : m_lk lv 1 = some (.int lx1)) (lq1 : lx1.toInt = f) {lx2 : Int32} (e2 : m_lk lv 2 = some (.int lx2)) (lq2 : lx2.toInt = t) 
    (g0 : ∀ x1 : Int32, x1.toInt = 1 → HJ 290 0 (lv_args 0 [.ref (A 4), .int x1, .int lx1, .int lx2]) [] h (fun v h' => HJ 289 69 lv (v.toList ++ []) h' Q))
    : HJ 289 59 lv [] h Q := by
  refine hI_al (k := 0) rfl e0 rfl ?_ -- 59
  refine hM_ga M (by decide) rfl rfl (k := 4) (c := 9) rfl rfl rfl (by decide +kernel) rfl ?_ -- 60
  refine hM_ic (n := 1) rfl (by decide) rfl (fun x1 q1 => ?_) -- 63
  refine hI_il (k := 1) rfl e1 rfl ?_ -- 64
  refine hI_il (k := 2) rfl e2 rfl ?_ -- 65
  refine hM_is0 (as := [.ref (A 4), .int x1, .int lx1, .int lx2]) (r := []) rfl rfl (by decide +kernel) rfl rfl rfl rfl rfl ?_ -- 66
  exact g0 x1 q1
theorem s_ca69 {f t : Int} (M : MX 49 W ρ m A h0 h F V G) (e0 : m_lk lv 0 = some (.ref m)) {lx1 : Int32} (e1 : m_lk lv 1 = some (.int lx1)) (lq1 : lx1.toInt = f) {lx2 : Int32} (e2 : m_lk lv 2 = some (.int lx2)) (lq2 : lx2.toInt = t) 
    (g0 : ∀ x1 : Int32, x1.toInt = 1 → HJ 290 0 (lv_args 0 [.ref (A 5), .int x1, .int lx1, .int lx2]) [] h (fun v h' => HJ 289 79 lv (v.toList ++ []) h' Q))
    : HJ 289 69 lv [] h Q := by
  refine hI_al (k := 0) rfl e0 rfl ?_ -- 69
  refine hM_ga M (by decide) rfl rfl (k := 5) (c := 9) rfl rfl rfl (by decide +kernel) rfl ?_ -- 70
  refine hM_ic (n := 1) rfl (by decide) rfl (fun x1 q1 => ?_) -- 73
  refine hI_il (k := 1) rfl e1 rfl ?_ -- 74
  refine hI_il (k := 2) rfl e2 rfl ?_ -- 75
  refine hM_is0 (as := [.ref (A 5), .int x1, .int lx1, .int lx2]) (r := []) rfl rfl (by decide +kernel) rfl rfl rfl rfl rfl ?_ -- 76
  exact g0 x1 q1
theorem s_ca79 {f t : Int} (M : MX 49 W ρ m A h0 h F V G) (e0 : m_lk lv 0 = some (.ref m)) {lx1 : Int32} (e1 : m_lk lv 1 = some (.int lx1)) (lq1 : lx1.toInt = f) {lx2 : Int32} (e2 : m_lk lv 2 = some (.int lx2)) (lq2 : lx2.toInt = t) 
    (g0 : ∀ x1 : Int32, x1.toInt = 644 → HJ 290 0 (lv_args 0 [.ref (A 6), .int x1, .int lx1, .int lx2]) [] h (fun v h' => HJ 289 91 lv (v.toList ++ []) h' Q))
    : HJ 289 79 lv [] h Q := by
  refine hI_al (k := 0) rfl e0 rfl ?_ -- 79
  refine hM_ga M (by decide) rfl rfl (k := 6) (c := 9) rfl rfl rfl (by decide +kernel) rfl ?_ -- 80
  refine hM_sp (n := 644) rfl (by decide) rfl (fun x1 q1 => ?_) -- 83
  refine hI_il (k := 1) rfl e1 rfl ?_ -- 86
  refine hI_il (k := 2) rfl e2 rfl ?_ -- 87
  refine hM_is0 (as := [.ref (A 6), .int x1, .int lx1, .int lx2]) (r := []) rfl rfl (by decide +kernel) rfl rfl rfl rfl rfl ?_ -- 88
  exact g0 x1 q1
theorem s_ca91   
    (g0 : Q none h)
    : HJ 289 91 lv [] h Q := by
  refine hI_rv rfl rfl ?_
  exact g0 
def w_cA : List (Nat × Nat) := [(50, 1001), (51, 1001), (52, 1001), (53, 1001), (54, 1001), (55, 1001)]
-- all that is told, from one place to another
def cp_all (f t : Nat) (V V' : Nat → Nat → Int) : Prop := cp_r 600 f t (V 1) (V' 1) ∧ cp_r 1 f t (V 2) (V' 2) ∧ cp_r 1 f t (V 3) (V' 3) ∧ cp_r 1 f t (V 4) (V' 4) ∧ cp_r 1 f t (V 5) (V' 5) ∧ cp_r 644 f t (V 6) (V' 6) ∧ ∀ K, K = 0 ∨ 7 ≤ K → V' K = V K
theorem l_ca {f t : Nat} {xf xt : Int32} {Vs : Nat → Nat → Int} (hw : d_sub [(50, 1001)] W = true) (qf : xf.toInt = (f : Int)) (qt : xt.toInt = (t : Int)) (f3 : f ≤ 3) (t3 : t ≤ 3) (ne : f ≠ t) (g : ∀ (lv : List (Nat × Value)) (h' : MH) (V' : Nat → Nat → Int), MX 49 W ρ m A h0 h' F V' G → m_lk lv 0 = some (.ref m) → m_lk lv 1 = some (.int xf) → m_lk lv 2 = some (.int xt) → cp_r 600 f t (Vs 1) (V' 1) → (∀ K, K ≠ 1 → V' K = Vs K) → HJ 289 39 lv [] h' Q) : ∀ (d k : Nat) (lv : List (Nat × Value)) (h : MH) (V : Nat → Nat → Int) (xk : Int32), k + d = 600 → MX 49 W ρ m A h0 h F V G → cp_w 600 f t k (Vs 1) (V 1) → (∀ K, K ≠ 1 → V K = Vs K) → xk.toInt = (k : Int) → m_lk lv 0 = some (.ref m) → m_lk lv 1 = some (.int xf) → m_lk lv 2 = some (.int xt) → m_lk lv 3 = some (.int xk) → HJ 289 2 lv [] h Q := by
  intro d
  induction d with
  | zero =>
    intro k lv h V xk hd M c o qk e0 e1 e2 e3
    exact s_ca2 M e0 e1 qf e2 qt e3 qk (by omega) (by omega) (by omega) (by omega) (by omega) hw (fun _ => g lv h V M e0 e1 e2 (cp_n (by omega) (by omega) c) o) (fun h6 V6 f6 x7 q7 lv7 M6 d0 d1 d2 d3 c3 _ _ => by omega)
  | succ d ih =>
    intro k lv h V xk hd M c o qk e0 e1 e2 e3
    exact s_ca2 M e0 e1 qf e2 qt e3 qk (by omega) (by omega) (by omega) (by omega) (by omega) hw (fun c3 => by omega) (fun h6 V6 f6 x7 q7 lv7 M6 d0 d1 d2 d3 c3 _ _ => ih (k + 1) lv7 h6 V6 x7 (by omega) M6 (by rw [f6, m_uE]; exact cp_s c (by omega) ne (by omega) (by omega)) (fun K hK => by rw [f6, m_uN _ _ _ _ hK]; exact o K hK) (by omega) d0 d1 d2 d3)
theorem c_copyAll {f t : Nat} {xf xt : Int32} (M : MX 49 W ρ m A h0 h F V G) (hw : d_sub w_cA W = true) (qf : xf.toInt = (f : Int)) (qt : xt.toInt = (t : Int)) (f3 : f ≤ 3) (t3 : t ≤ 3) (ne : f ≠ t) (g : ∀ (h' : MH) (V' : Nat → Nat → Int), MX 49 W ρ m A h0 h' F V' G → cp_all f t V V' → Q none h') : HJ 289 0 (lv_args 0 [.ref m, .int xf, .int xt]) [] h Q :=
  s_ca0 M rfl rfl qf rfl qt (fun x1 q1 lv2 e0 e1 e2 e3 => l_ca (d_subm hw (by decide +kernel)) qf qt f3 t3 ne (fun lv h1 V1 M1 d0 d1 d2 c1 o1 =>
    s_ca39 M1 d0 d1 qf d2 qt (fun y q => c_cr2 M1 (d_subm hw (by decide +kernel)) q qf qt f3 t3 ne (fun h2 V2 M2 c2 o2 =>
    s_ca49 M2 d0 d1 qf d2 qt (fun y q => c_cr3 M2 (d_subm hw (by decide +kernel)) q qf qt f3 t3 ne (fun h3 V3 M3 c3 o3 =>
    s_ca59 M3 d0 d1 qf d2 qt (fun y q => c_cr4 M3 (d_subm hw (by decide +kernel)) q qf qt f3 t3 ne (fun h4 V4 M4 c4 o4 =>
    s_ca69 M4 d0 d1 qf d2 qt (fun y q => c_cr5 M4 (d_subm hw (by decide +kernel)) q qf qt f3 t3 ne (fun h5 V5 M5 c5 o5 =>
    s_ca79 M5 d0 d1 qf d2 qt (fun y q => c_cr6 M5 (d_subm hw (by decide +kernel)) q qf qt f3 t3 ne (fun h6 V6 M6 c6 o6 =>
    s_ca91 (g h6 V6 M6 (by
      refine ⟨?_, ?_, ?_, ?_, ?_, ?_, fun K hK => ?_⟩
      · rw [o6 1 (by decide), o5 1 (by decide), o4 1 (by decide), o3 1 (by decide), o2 1 (by decide)]
        exact c1
      · rw [o6 2 (by decide), o5 2 (by decide), o4 2 (by decide), o3 2 (by decide), ← o1 2 (by decide)]
        exact c2
      · rw [o6 3 (by decide), o5 3 (by decide), o4 3 (by decide), ← o1 3 (by decide), ← o2 3 (by decide)]
        exact c3
      · rw [o6 4 (by decide), o5 4 (by decide), ← o1 4 (by decide), ← o2 4 (by decide), ← o3 4 (by decide)]
        exact c4
      · rw [o6 5 (by decide), ← o1 5 (by decide), ← o2 5 (by decide), ← o3 5 (by decide), ← o4 5 (by decide)]
        exact c5
      · rw [← o1 6 (by decide), ← o2 6 (by decide), ← o3 6 (by decide), ← o4 6 (by decide), ← o5 6 (by decide)]
        exact c6
      · rw [o6 K (by omega), o5 K (by omega), o4 K (by omega), o3 K (by omega), o2 K (by omega), o1 K (by omega)]))))))))))))) 600 0 lv2 h V x1 (by omega) M cp_0 (fun _ _ => rfl) q1 e0 e1 e2 e3)
end
