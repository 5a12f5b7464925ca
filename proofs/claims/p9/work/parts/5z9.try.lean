-- what an act was paid, by the reference
section
variable {i pc pc' : Nat} {lv : List (Nat × Value)} {st : List Value} {h : MH} {Q : Option Value → MH → Prop}
end
-- how many roots
section
variable {lv : List (Nat × Value)} {Q : Option Value → MH → Prop} {W : List (Nat × Nat)} {ρ : Nat → Nat} {m : Nat} {A : Nat → Nat} {h0 h : MH} {F : Nat → Int} {V : Nat → Nat → Int} {G : Nat → Nat → Int64}
end
-- the reference's books of a laid row
-- bits of a long
-- from which versions: one row alone
-- a row laid, and what is told of it
section
variable {lv : List (Nat × Value)} {Q : Option Value → MH → Prop} {W : List (Nat × Nat)} {ρ : Nat → Nat} {m : Nat} {A : Nat → Nat} {h0 h : MH} {F : Nat → Int} {V : Nat → Nat → Int} {G : Nat → Nat → Int64}
end
section
variable {Q : Option Value → MH → Prop} {ρ : Nat → Nat} {h : MH}
-- whether a version comes from another, by the class
end
-- WHO HOLDS WHAT, both sides: counts of nodes by their holders
def ch_n (p : Int64 → Bool) (L : Nat → Int64) : Nat → Nat
  | 0 => 0
  | n + 1 => ch_n p L n + (if p (L n) = true then 1 else 0)
theorem ch_L {p : Int64 → Bool} {L : Nat → Int64} : ∀ n, ch_n p L n ≤ n
  | 0 => Nat.le_refl _
  | n + 1 => by
    have := ch_L (p := p) (L := L) n
    rw [ch_n]
    split <;> omega
theorem ch_C {p q : Int64 → Bool} {L L' : Nat → Int64} : ∀ {n : Nat}, (∀ i, i < n → p (L i) = q (L' i)) → ch_n p L n = ch_n q L' n
  | 0, _ => rfl
  | n + 1, h => by rw [ch_n, ch_n, ch_C (n := n) (fun i hi => h i (by omega)), h n (by omega)]
def ch_all (x y : Int64) : Bool := decide (y &&& x = x)
theorem ch_allT {x y : Int64} : ch_all x y = true ↔ y &&& x = x := by
  unfold ch_all
  exact decide_eq_true_iff
def ch_any (x y : Int64) : Bool := decide (¬ y &&& x = Int64.ofNat (0 : Fin 2).val)
theorem ch_anyT {x y : Int64} : ch_any x y = true ↔ ¬ y &&& x = Int64.ofNat (0 : Fin 2).val := by
  unfold ch_any
  exact decide_eq_true_iff
def ch_no (x w y : Int64) : Bool := decide (¬ y &&& x = Int64.ofNat (0 : Fin 2).val ∧ y &&& w = Int64.ofNat (0 : Fin 2).val)
theorem ch_noT {x w y : Int64} : ch_no x w y = true ↔ (¬ y &&& x = Int64.ofNat (0 : Fin 2).val ∧ y &&& w = Int64.ofNat (0 : Fin 2).val) := by
  unfold ch_no
  exact decide_eq_true_iff
def ch_2 (a b : Nat) (y : Int64) : Bool := bs y a && bs y b
theorem ch_2T {a b : Nat} {y : Int64} : ch_2 a b y = true ↔ (bs y a = true ∧ bs y b = true) := by
  unfold ch_2
  rw [Bool.and_eq_true]
theorem bs_ext {x y : Int64} (h : ∀ w, w < 64 → bs x w = bs y w) : x = y := Int64.toBitVec_inj.1 (BitVec.eq_of_getLsbD_eq (fun i hi => h i hi))
theorem ch_allB {a b : Nat} (ha : a ≤ 40) (hb : b ≤ 40) (y : Int64) : ch_all (bt (a : Int) ||| bt (b : Int)) y = ch_2 a b y := by
  apply Bool.eq_iff_iff.mpr
  rw [ch_allT, ch_2T]
  constructor
  · intro e
    have q : ∀ w, bs (y &&& (bt (a : Int) ||| bt (b : Int))) w = bs (bt (a : Int) ||| bt (b : Int)) w := fun w => by rw [e]
    have q1 := q a
    have q2 := q b
    rw [bs_and, bs_or, bs_bt ha (by omega), bs_bt hb (by omega)] at q1 q2
    constructor
    · simpa using q1
    · simpa using q2
  · rintro ⟨e1, e2⟩
    apply bs_ext
    intro w hw
    rw [bs_and, bs_or, bs_bt ha hw, bs_bt hb hw]
    by_cases c1 : w = a
    · subst c1
      simp [e1]
    · by_cases c2 : w = b
      · subst c2
        simp [e2]
      · simp [c1, c2]
def ho_L (h : MH) (nd : Nat) (j : Nat) : Int64 := h_l h (h_r h nd 1) j
section
variable {Q : Option Value → MH → Prop} {ρ : Nat → Nat} {h : MH}
theorem k_ho {nd i : Nat} {xi : Int32} (ht : TH c_sp ρ h) (hnd : ρ nd = 39) (t1 : t_nd ρ h) (q : xi.toInt = (i : Int)) (hi : (i : Int) < z_i h nd 5) (g : Q (some (.long (ho_L h nd i))) h) : HJ 99 0 (lv_args 0 [.ref nd, .int xi]) [] h Q := by
  have hi' : (i : Int) < (h_i h nd 5).toInt := hi
  refine s_ho_0 (x := (i : Int)) (T := ((h_k h (h_r h nd 1)).2 : Int)) (MX.start (W := []) ht hnd) rfl rfl q (t1 nd (Or.inl hnd)).2 rfl (fun c => absurd c (by omega)) (fun _ _ _ c => ?_) (fun _ _ _ _ => g)
  have c' : (i : Int) ≥ (h_i h nd 5).toInt := c
  exact absurd c' (by omega)
end
section
variable {lv : List (Nat × Value)} {Q : Option Value → MH → Prop} {W : List (Nat × Nat)} {ρ : Nat → Nat} {m : Nat} {A : Nat → Nat} {h0 h : MH} {F : Nat → Int} {V : Nat → Nat → Int} {G : Nat → Nat → Int64}
theorem n_al0 (M : MX 39 W ρ m A h0 h F V G) (e1 : m_lk lv 1 = some (.ref m)) {lx2 : Int64} (e2 : m_lk lv 2 = some (.long lx2)) 
    (g0 : ∀ x1 : Int32, x1.toInt = 0 → ∀ x3 : Int32, x3.toInt = 0 → ∀ lv4 : List (Nat × Value), m_lk lv4 1 = some (.ref m) → m_lk lv4 2 = some (.long lx2) → m_lk lv4 4 = some (.int x1) → m_lk lv4 5 = some (.int x3) → HJ 98 6 lv4 [] h Q)
    : HJ 98 0 lv [] h Q := by
  refine hM_ic (n := 0) rfl (by decide) rfl (fun x1 q1 => ?_) -- 0
  refine hM_si2 (k := 4) rfl (by decide +kernel) rfl (fun lv2 e2_4 u2 => ?_) -- 1
  have e2_1 := u2 1 _ (by decide) (Or.inl rfl) e1
  have e2_2 := u2 2 _ (by decide) (Or.inr (by decide)) e2
  refine hM_ic (n := 0) rfl (by decide) rfl (fun x3 q3 => ?_) -- 3
  refine hM_si2 (k := 5) rfl (by decide +kernel) rfl (fun lv4 e4_5 u4 => ?_) -- 4
  have e4_1 := u4 1 _ (by decide) (Or.inl rfl) e2_1
  have e4_2 := u4 2 _ (by decide) (Or.inr (by decide)) e2_2
  have e4_4 := u4 4 _ (by decide) (Or.inl rfl) e2_4
  exact g0 x1 q1 x3 q3 lv4 e4_1 e4_2 e4_4 e4_5
theorem n_al6 {c i : Int} (M : MX 39 W ρ m A h0 h F V G) (e1 : m_lk lv 1 = some (.ref m)) {lx2 : Int64} (e2 : m_lk lv 2 = some (.long lx2)) {lx4 : Int32} (e4 : m_lk lv 4 = some (.int lx4)) (lq4 : lx4.toInt = c) {lx5 : Int32} (e5 : m_lk lv 5 = some (.int lx5)) (lq5 : lx5.toInt = i) 
    (g0 : 0 ≤ F 5 → F 5 ≤ 15120 → i ≥ F 5 → Q (some (.int lx4)) h)
    (g1 : 0 ≤ F 5 → F 5 ≤ 15120 → i < F 5 → HJ 99 0 (lv_args 0 [.ref m, .int lx5]) [] h (fun v h' => HJ 98 21 lv (v.toList ++ []) h' Q))
    : HJ 98 6 lv [] h Q := by
  refine hI_il2 (k := 5) rfl e5 rfl ?_ -- 6
  refine hI_al (k := 1) rfl e1 rfl ?_ -- 8
  refine hM_gi M (by decide) rfl rfl rfl (k := 5) (c := 2) (lo := 0) (hi := 15120) rfl rfl rfl rfl rfl (fun x1 q1 a1 b1 => ?_) -- 9
  refine hM_cge (off := 25) (t := 37) rfl lq5 q1 (by decide) rfl (fun c12 => ?_) (fun c12 => ?_) -- 12
  · refine hI_il2 (k := 4) rfl e4 rfl ?_ -- 37
    refine hI_ri rfl rfl ?_ -- 39
    exact g0 a1 b1 c12
  · refine hI_al (k := 1) rfl e1 rfl ?_ -- 15
    refine hI_il2 (k := 5) rfl e5 rfl ?_ -- 16
    refine hM_iv M (by decide) rfl rfl (by decide) (as := [.int lx5]) (r := []) rfl rfl (by decide +kernel) rfl (by decide +kernel) rfl rfl rfl rfl rfl ?_ -- 18
    exact g1 a1 b1 c12
theorem n_al21 {c i : Int} (M : MX 39 W ρ m A h0 h F V G) (e1 : m_lk lv 1 = some (.ref m)) {lx2 : Int64} (e2 : m_lk lv 2 = some (.long lx2)) {lx4 : Int32} (e4 : m_lk lv 4 = some (.int lx4)) (lq4 : lx4.toInt = c) {lx5 : Int32} (e5 : m_lk lv 5 = some (.int lx5)) (lq5 : lx5.toInt = i) {sx0 : Int64} (i0 : 0 ≤ i) (i1 : i ≤ 15119) (c0 : 0 ≤ c) (c1 : c ≤ i)
    (g0 : ∀ x2 : Int32, x2.toInt = i + 1 → ∀ lv2 : List (Nat × Value), m_lk lv2 1 = some (.ref m) → m_lk lv2 2 = some (.long lx2) → m_lk lv2 4 = some (.int lx4) → m_lk lv2 5 = some (.int x2) → (lg_cmp (sx0 &&& lx2) lx2).toInt ≠ 0 → HJ 98 6 lv2 [] h Q)
    (g1 : ∀ x3 : Int32, x3.toInt = c + 1 → ∀ x4 : Int32, x4.toInt = i + 1 → ∀ lv4 : List (Nat × Value), m_lk lv4 1 = some (.ref m) → m_lk lv4 2 = some (.long lx2) → m_lk lv4 4 = some (.int x3) → m_lk lv4 5 = some (.int x4) → (lg_cmp (sx0 &&& lx2) lx2).toInt = 0 → HJ 98 6 lv4 [] h Q)
    : HJ 98 21 lv [.long sx0] h Q := by
  refine hI_ll (k := 2) rfl e2 rfl ?_ -- 21
  refine hI_land rfl rfl ?_ -- 22
  refine hI_ll (k := 2) rfl e2 rfl ?_ -- 23
  refine hM_lcmp rfl rfl (fun x1 q1 => ?_) -- 24
  refine hM_zne (off := 6) (t := 31) rfl q1 (by decide) rfl (fun c25 => ?_) (fun c25 => ?_) -- 25
  · refine hM_inc (k := 5) (z := 1) rfl e5 lq5 (by decide) (by omega) (by omega) (by decide +kernel) rfl (fun lv2 x2 q2 e2_5 u2 => ?_) -- 31
    have e2_1 := u2 1 _ (by decide) (Or.inl rfl) e1
    have e2_2 := u2 2 _ (by decide) (Or.inr (by decide)) e2
    have e2_4 := u2 4 _ (by decide) (Or.inl rfl) e4
    refine hI_go (pc' := 6) (off := (-28)) rfl (by decide) ?_ -- 34
    exact g0 x2 q2 lv2 e2_1 e2_2 e2_4 e2_5 c25
  · refine hM_inc (k := 4) (z := 1) rfl e4 lq4 (by decide) (by omega) (by omega) (by decide +kernel) rfl (fun lv3 x3 q3 e3_4 u3 => ?_) -- 28
    have e3_1 := u3 1 _ (by decide) (Or.inl rfl) e1
    have e3_2 := u3 2 _ (by decide) (Or.inr (by decide)) e2
    have e3_5 := u3 5 _ (by decide) (Or.inl rfl) e5
    refine hM_inc (k := 5) (z := 1) rfl e3_5 lq5 (by decide) (by omega) (by omega) (by decide +kernel) rfl (fun lv4 x4 q4 e4_5 u4 => ?_) -- 31
    have e4_1 := u4 1 _ (by decide) (Or.inl rfl) e3_1
    have e4_2 := u4 2 _ (by decide) (Or.inr (by decide)) e3_2
    have e4_4 := u4 4 _ (by decide) (Or.inl rfl) e3_4
    refine hI_go (pc' := 6) (off := (-28)) rfl (by decide) ?_ -- 34
    exact g1 x3 q3 x4 q4 lv4 e4_1 e4_2 e4_4 e4_5 c25
theorem n_an0 (M : MX 39 W ρ m A h0 h F V G) (e1 : m_lk lv 1 = some (.ref m)) {lx2 : Int64} (e2 : m_lk lv 2 = some (.long lx2)) 
    (g0 : ∀ x1 : Int32, x1.toInt = 0 → ∀ x3 : Int32, x3.toInt = 0 → ∀ lv4 : List (Nat × Value), m_lk lv4 1 = some (.ref m) → m_lk lv4 2 = some (.long lx2) → m_lk lv4 4 = some (.int x1) → m_lk lv4 5 = some (.int x3) → HJ 151 6 lv4 [] h Q)
    : HJ 151 0 lv [] h Q := by
  refine hM_ic (n := 0) rfl (by decide) rfl (fun x1 q1 => ?_) -- 0
  refine hM_si2 (k := 4) rfl (by decide +kernel) rfl (fun lv2 e2_4 u2 => ?_) -- 1
  have e2_1 := u2 1 _ (by decide) (Or.inl rfl) e1
  have e2_2 := u2 2 _ (by decide) (Or.inr (by decide)) e2
  refine hM_ic (n := 0) rfl (by decide) rfl (fun x3 q3 => ?_) -- 3
  refine hM_si2 (k := 5) rfl (by decide +kernel) rfl (fun lv4 e4_5 u4 => ?_) -- 4
  have e4_1 := u4 1 _ (by decide) (Or.inl rfl) e2_1
  have e4_2 := u4 2 _ (by decide) (Or.inr (by decide)) e2_2
  have e4_4 := u4 4 _ (by decide) (Or.inl rfl) e2_4
  exact g0 x1 q1 x3 q3 lv4 e4_1 e4_2 e4_4 e4_5
theorem n_an6 {c i : Int} (M : MX 39 W ρ m A h0 h F V G) (e1 : m_lk lv 1 = some (.ref m)) {lx2 : Int64} (e2 : m_lk lv 2 = some (.long lx2)) {lx4 : Int32} (e4 : m_lk lv 4 = some (.int lx4)) (lq4 : lx4.toInt = c) {lx5 : Int32} (e5 : m_lk lv 5 = some (.int lx5)) (lq5 : lx5.toInt = i) 
    (g0 : 0 ≤ F 5 → F 5 ≤ 15120 → i ≥ F 5 → Q (some (.int lx4)) h)
    (g1 : 0 ≤ F 5 → F 5 ≤ 15120 → i < F 5 → HJ 99 0 (lv_args 0 [.ref m, .int lx5]) [] h (fun v h' => HJ 151 21 lv (v.toList ++ []) h' Q))
    : HJ 151 6 lv [] h Q := by
  refine hI_il2 (k := 5) rfl e5 rfl ?_ -- 6
  refine hI_al (k := 1) rfl e1 rfl ?_ -- 8
  refine hM_gi M (by decide) rfl rfl rfl (k := 5) (c := 2) (lo := 0) (hi := 15120) rfl rfl rfl rfl rfl (fun x1 q1 a1 b1 => ?_) -- 9
  refine hM_cge (off := 25) (t := 37) rfl lq5 q1 (by decide) rfl (fun c12 => ?_) (fun c12 => ?_) -- 12
  · refine hI_il2 (k := 4) rfl e4 rfl ?_ -- 37
    refine hI_ri rfl rfl ?_ -- 39
    exact g0 a1 b1 c12
  · refine hI_al (k := 1) rfl e1 rfl ?_ -- 15
    refine hI_il2 (k := 5) rfl e5 rfl ?_ -- 16
    refine hM_iv M (by decide) rfl rfl (by decide) (as := [.int lx5]) (r := []) rfl rfl (by decide +kernel) rfl (by decide +kernel) rfl rfl rfl rfl rfl ?_ -- 18
    exact g1 a1 b1 c12
theorem n_an21 {c i : Int} (M : MX 39 W ρ m A h0 h F V G) (e1 : m_lk lv 1 = some (.ref m)) {lx2 : Int64} (e2 : m_lk lv 2 = some (.long lx2)) {lx4 : Int32} (e4 : m_lk lv 4 = some (.int lx4)) (lq4 : lx4.toInt = c) {lx5 : Int32} (e5 : m_lk lv 5 = some (.int lx5)) (lq5 : lx5.toInt = i) {sx0 : Int64} (i0 : 0 ≤ i) (i1 : i ≤ 15119) (c0 : 0 ≤ c) (c1 : c ≤ i)
    (g0 : ∀ x2 : Int32, x2.toInt = i + 1 → ∀ lv2 : List (Nat × Value), m_lk lv2 1 = some (.ref m) → m_lk lv2 2 = some (.long lx2) → m_lk lv2 4 = some (.int lx4) → m_lk lv2 5 = some (.int x2) → (lg_cmp (sx0 &&& lx2) (Int64.ofNat (0 : Fin 2).val)).toInt = 0 → HJ 151 6 lv2 [] h Q)
    (g1 : ∀ x3 : Int32, x3.toInt = c + 1 → ∀ x4 : Int32, x4.toInt = i + 1 → ∀ lv4 : List (Nat × Value), m_lk lv4 1 = some (.ref m) → m_lk lv4 2 = some (.long lx2) → m_lk lv4 4 = some (.int x3) → m_lk lv4 5 = some (.int x4) → (lg_cmp (sx0 &&& lx2) (Int64.ofNat (0 : Fin 2).val)).toInt ≠ 0 → HJ 151 6 lv4 [] h Q)
    : HJ 151 21 lv [.long sx0] h Q := by
  refine hI_ll (k := 2) rfl e2 rfl ?_ -- 21
  refine hI_land rfl rfl ?_ -- 22
  refine hI_lc (n := 0) rfl rfl ?_ -- 23
  refine hM_lcmp rfl rfl (fun x1 q1 => ?_) -- 24
  refine hM_zeq (off := 6) (t := 31) rfl q1 (by decide) rfl (fun c25 => ?_) (fun c25 => ?_) -- 25
  · refine hM_inc (k := 5) (z := 1) rfl e5 lq5 (by decide) (by omega) (by omega) (by decide +kernel) rfl (fun lv2 x2 q2 e2_5 u2 => ?_) -- 31
    have e2_1 := u2 1 _ (by decide) (Or.inl rfl) e1
    have e2_2 := u2 2 _ (by decide) (Or.inr (by decide)) e2
    have e2_4 := u2 4 _ (by decide) (Or.inl rfl) e4
    refine hI_go (pc' := 6) (off := (-28)) rfl (by decide) ?_ -- 34
    exact g0 x2 q2 lv2 e2_1 e2_2 e2_4 e2_5 c25
  · refine hM_inc (k := 4) (z := 1) rfl e4 lq4 (by decide) (by omega) (by omega) (by decide +kernel) rfl (fun lv3 x3 q3 e3_4 u3 => ?_) -- 28
    have e3_1 := u3 1 _ (by decide) (Or.inl rfl) e1
    have e3_2 := u3 2 _ (by decide) (Or.inr (by decide)) e2
    have e3_5 := u3 5 _ (by decide) (Or.inl rfl) e5
    refine hM_inc (k := 5) (z := 1) rfl e3_5 lq5 (by decide) (by omega) (by omega) (by decide +kernel) rfl (fun lv4 x4 q4 e4_5 u4 => ?_) -- 31
    have e4_1 := u4 1 _ (by decide) (Or.inl rfl) e3_1
    have e4_2 := u4 2 _ (by decide) (Or.inr (by decide)) e3_2
    have e4_4 := u4 4 _ (by decide) (Or.inl rfl) e3_4
    refine hI_go (pc' := 6) (off := (-28)) rfl (by decide) ?_ -- 34
    exact g1 x3 q3 x4 q4 lv4 e4_1 e4_2 e4_4 e4_5 c25
theorem n_wo0 (M : MX 39 W ρ m A h0 h F V G) (e1 : m_lk lv 1 = some (.ref m)) {lx2 : Int64} (e2 : m_lk lv 2 = some (.long lx2)) {lx4 : Int64} (e4 : m_lk lv 4 = some (.long lx4)) 
    (g0 : ∀ x1 : Int32, x1.toInt = 0 → ∀ x3 : Int32, x3.toInt = 0 → ∀ lv4 : List (Nat × Value), m_lk lv4 1 = some (.ref m) → m_lk lv4 2 = some (.long lx2) → m_lk lv4 4 = some (.long lx4) → m_lk lv4 6 = some (.int x1) → m_lk lv4 7 = some (.int x3) → HJ 101 6 lv4 [] h Q)
    : HJ 101 0 lv [] h Q := by
  refine hM_ic (n := 0) rfl (by decide) rfl (fun x1 q1 => ?_) -- 0
  refine hM_si2 (k := 6) rfl (by decide +kernel) rfl (fun lv2 e2_6 u2 => ?_) -- 1
  have e2_1 := u2 1 _ (by decide) (Or.inl rfl) e1
  have e2_2 := u2 2 _ (by decide) (Or.inr (by decide)) e2
  have e2_4 := u2 4 _ (by decide) (Or.inr (by decide)) e4
  refine hM_ic (n := 0) rfl (by decide) rfl (fun x3 q3 => ?_) -- 3
  refine hM_si2 (k := 7) rfl (by decide +kernel) rfl (fun lv4 e4_7 u4 => ?_) -- 4
  have e4_1 := u4 1 _ (by decide) (Or.inl rfl) e2_1
  have e4_2 := u4 2 _ (by decide) (Or.inr (by decide)) e2_2
  have e4_4 := u4 4 _ (by decide) (Or.inr (by decide)) e2_4
  have e4_6 := u4 6 _ (by decide) (Or.inl rfl) e2_6
  exact g0 x1 q1 x3 q3 lv4 e4_1 e4_2 e4_4 e4_6 e4_7
theorem n_wo6 {c i : Int} (M : MX 39 W ρ m A h0 h F V G) (e1 : m_lk lv 1 = some (.ref m)) {lx2 : Int64} (e2 : m_lk lv 2 = some (.long lx2)) {lx4 : Int64} (e4 : m_lk lv 4 = some (.long lx4)) {lx6 : Int32} (e6 : m_lk lv 6 = some (.int lx6)) (lq6 : lx6.toInt = c) {lx7 : Int32} (e7 : m_lk lv 7 = some (.int lx7)) (lq7 : lx7.toInt = i) 
    (g0 : 0 ≤ F 5 → F 5 ≤ 15120 → i ≥ F 5 → Q (some (.int lx6)) h)
    (g1 : 0 ≤ F 5 → F 5 ≤ 15120 → i < F 5 → HJ 99 0 (lv_args 0 [.ref m, .int lx7]) [] h (fun v h' => HJ 101 21 lv (v.toList ++ []) h' Q))
    : HJ 101 6 lv [] h Q := by
  refine hI_il2 (k := 7) rfl e7 rfl ?_ -- 6
  refine hI_al (k := 1) rfl e1 rfl ?_ -- 8
  refine hM_gi M (by decide) rfl rfl rfl (k := 5) (c := 2) (lo := 0) (hi := 15120) rfl rfl rfl rfl rfl (fun x1 q1 a1 b1 => ?_) -- 9
  refine hM_cge (off := 39) (t := 51) rfl lq7 q1 (by decide) rfl (fun c12 => ?_) (fun c12 => ?_) -- 12
  · refine hI_il2 (k := 6) rfl e6 rfl ?_ -- 51
    refine hI_ri rfl rfl ?_ -- 53
    exact g0 a1 b1 c12
  · refine hI_al (k := 1) rfl e1 rfl ?_ -- 15
    refine hI_il2 (k := 7) rfl e7 rfl ?_ -- 16
    refine hM_iv M (by decide) rfl rfl (by decide) (as := [.int lx7]) (r := []) rfl rfl (by decide +kernel) rfl (by decide +kernel) rfl rfl rfl rfl rfl ?_ -- 18
    exact g1 a1 b1 c12
theorem n_wo21 {c i : Int} (M : MX 39 W ρ m A h0 h F V G) (e1 : m_lk lv 1 = some (.ref m)) {lx2 : Int64} (e2 : m_lk lv 2 = some (.long lx2)) {lx4 : Int64} (e4 : m_lk lv 4 = some (.long lx4)) {lx6 : Int32} (e6 : m_lk lv 6 = some (.int lx6)) (lq6 : lx6.toInt = c) {lx7 : Int32} (e7 : m_lk lv 7 = some (.int lx7)) (lq7 : lx7.toInt = i) {sx0 : Int64} (i0 : 0 ≤ i) (i1 : i ≤ 15119) (c0 : 0 ≤ c) (c1 : c ≤ i)
    (g0 : ∀ x3 : Int32, x3.toInt = i + 1 → ∀ lv3 : List (Nat × Value), m_lk lv3 1 = some (.ref m) → m_lk lv3 2 = some (.long lx2) → m_lk lv3 4 = some (.long lx4) → m_lk lv3 6 = some (.int lx6) → m_lk lv3 7 = some (.int x3) → (lg_cmp (sx0 &&& lx2) (Int64.ofNat (0 : Fin 2).val)).toInt = 0 → HJ 101 6 lv3 [] h Q)
    (g1 : ∀ x5 : Int32, x5.toInt = i + 1 → ∀ lv5 : List (Nat × Value), m_lk lv5 1 = some (.ref m) → m_lk lv5 2 = some (.long lx2) → m_lk lv5 4 = some (.long lx4) → m_lk lv5 6 = some (.int lx6) → m_lk lv5 7 = some (.int x5) → (lg_cmp (sx0 &&& lx2) (Int64.ofNat (0 : Fin 2).val)).toInt ≠ 0 → (lg_cmp (sx0 &&& lx4) (Int64.ofNat (0 : Fin 2).val)).toInt ≠ 0 → HJ 101 6 lv5 [] h Q)
    (g2 : ∀ x6 : Int32, x6.toInt = c + 1 → ∀ x7 : Int32, x7.toInt = i + 1 → ∀ lv7 : List (Nat × Value), m_lk lv7 1 = some (.ref m) → m_lk lv7 2 = some (.long lx2) → m_lk lv7 4 = some (.long lx4) → m_lk lv7 6 = some (.int x6) → m_lk lv7 7 = some (.int x7) → (lg_cmp (sx0 &&& lx2) (Int64.ofNat (0 : Fin 2).val)).toInt ≠ 0 → (lg_cmp (sx0 &&& lx4) (Int64.ofNat (0 : Fin 2).val)).toInt = 0 → HJ 101 6 lv7 [] h Q)
    : HJ 101 21 lv [.long sx0] h Q := by
  refine hM_sl2 (k := 8) rfl (by decide +kernel) rfl (fun lv1 e1_8 u1 => ?_) -- 21
  have e1_1 := u1 1 _ (by decide) (by decide) (Or.inl rfl) e1
  have e1_2 := u1 2 _ (by decide) (by decide) (Or.inr (by decide)) e2
  have e1_4 := u1 4 _ (by decide) (by decide) (Or.inr (by decide)) e4
  have e1_6 := u1 6 _ (by decide) (by decide) (Or.inl rfl) e6
  have e1_7 := u1 7 _ (by decide) (by decide) (Or.inl rfl) e7
  refine hI_ll2 (k := 8) rfl e1_8 rfl ?_ -- 23
  refine hI_ll (k := 2) rfl e1_2 rfl ?_ -- 25
  refine hI_land rfl rfl ?_ -- 26
  refine hI_lc (n := 0) rfl rfl ?_ -- 27
  refine hM_lcmp rfl rfl (fun x2 q2 => ?_) -- 28
  refine hM_zeq (off := 16) (t := 45) rfl q2 (by decide) rfl (fun c29 => ?_) (fun c29 => ?_) -- 29
  · refine hM_inc (k := 7) (z := 1) rfl e1_7 lq7 (by decide) (by omega) (by omega) (by decide +kernel) rfl (fun lv3 x3 q3 e3_7 u3 => ?_) -- 45
    have e3_1 := u3 1 _ (by decide) (Or.inl rfl) e1_1
    have e3_2 := u3 2 _ (by decide) (Or.inr (by decide)) e1_2
    have e3_4 := u3 4 _ (by decide) (Or.inr (by decide)) e1_4
    have e3_6 := u3 6 _ (by decide) (Or.inl rfl) e1_6
    have e3_8 := u3 8 _ (by decide) (Or.inr (by decide)) e1_8
    refine hI_go (pc' := 6) (off := (-42)) rfl (by decide) ?_ -- 48
    exact g0 x3 q3 lv3 e3_1 e3_2 e3_4 e3_6 e3_7 c29
  · refine hI_ll2 (k := 8) rfl e1_8 rfl ?_ -- 32
    refine hI_ll2 (k := 4) rfl e1_4 rfl ?_ -- 34
    refine hI_land rfl rfl ?_ -- 36
    refine hI_lc (n := 0) rfl rfl ?_ -- 37
    refine hM_lcmp rfl rfl (fun x4 q4 => ?_) -- 38
    refine hM_zne (off := 6) (t := 45) rfl q4 (by decide) rfl (fun c39 => ?_) (fun c39 => ?_) -- 39
    · refine hM_inc (k := 7) (z := 1) rfl e1_7 lq7 (by decide) (by omega) (by omega) (by decide +kernel) rfl (fun lv5 x5 q5 e5_7 u5 => ?_) -- 45
      have e5_1 := u5 1 _ (by decide) (Or.inl rfl) e1_1
      have e5_2 := u5 2 _ (by decide) (Or.inr (by decide)) e1_2
      have e5_4 := u5 4 _ (by decide) (Or.inr (by decide)) e1_4
      have e5_6 := u5 6 _ (by decide) (Or.inl rfl) e1_6
      have e5_8 := u5 8 _ (by decide) (Or.inr (by decide)) e1_8
      refine hI_go (pc' := 6) (off := (-42)) rfl (by decide) ?_ -- 48
      exact g1 x5 q5 lv5 e5_1 e5_2 e5_4 e5_6 e5_7 c29 c39
    · refine hM_inc (k := 6) (z := 1) rfl e1_6 lq6 (by decide) (by omega) (by omega) (by decide +kernel) rfl (fun lv6 x6 q6 e6_6 u6 => ?_) -- 42
      have e6_1 := u6 1 _ (by decide) (Or.inl rfl) e1_1
      have e6_2 := u6 2 _ (by decide) (Or.inr (by decide)) e1_2
      have e6_4 := u6 4 _ (by decide) (Or.inr (by decide)) e1_4
      have e6_7 := u6 7 _ (by decide) (Or.inl rfl) e1_7
      have e6_8 := u6 8 _ (by decide) (Or.inr (by decide)) e1_8
      refine hM_inc (k := 7) (z := 1) rfl e6_7 lq7 (by decide) (by omega) (by omega) (by decide +kernel) rfl (fun lv7 x7 q7 e7_7 u7 => ?_) -- 45
      have e7_1 := u7 1 _ (by decide) (Or.inl rfl) e6_1
      have e7_2 := u7 2 _ (by decide) (Or.inr (by decide)) e6_2
      have e7_4 := u7 4 _ (by decide) (Or.inr (by decide)) e6_4
      have e7_8 := u7 8 _ (by decide) (Or.inr (by decide)) e6_8
      have e7_6 := u7 6 _ (by decide) (Or.inl rfl) e6_6
      refine hI_go (pc' := 6) (off := (-42)) rfl (by decide) ?_ -- 48
      exact g2 x6 q6 x7 q7 lv7 e7_1 e7_2 e7_4 e7_6 e7_7 c29 c39
end
section
variable {Q : Option Value → MH → Prop} {ρ : Nat → Nat} {h : MH}
theorem l_al {nd n : Nat} {x : Int64} (ht : TH c_sp ρ h) (hnd : ρ nd = 39) (t1 : t_nd ρ h) (en : z_i h nd 5 = (n : Int)) (g : ∀ y : Int32, y.toInt = (ch_n (ch_all x) (ho_L h nd) n : Int) → Q (some (.int y)) h) : ∀ (d i : Nat) (lv : List (Nat × Value)) (xc xi : Int32), i + d = n → xc.toInt = (ch_n (ch_all x) (ho_L h nd) i : Int) → xi.toInt = (i : Int) → m_lk lv 1 = some (.ref nd) → m_lk lv 2 = some (.long x) → m_lk lv 4 = some (.int xc) → m_lk lv 5 = some (.int xi) → HJ 98 6 lv [] h Q := by
  have M := MX.start (W := []) ht hnd
  have en' : (h_i h nd 5).toInt = (n : Int) := en
  intro d
  induction d with
  | zero =>
    intro i lv xc xi hd qc qi e1 e2 e4 e5
    have ei : i = n := by omega
    subst ei
    refine n_al6 M e1 e2 e4 qc e5 qi (fun _ _ _ => g xc qc) (fun _ _ c => ?_)
    have c' : (i : Int) < (h_i h nd 5).toInt := c
    exact absurd c' (by omega)
  | succ d ih =>
    intro i lv xc xi hd qc qi e1 e2 e4 e5
    refine n_al6 M e1 e2 e4 qc e5 qi (fun _ _ c => ?_) (fun _ b _ => ?_)
    · have c' : (i : Int) ≥ (h_i h nd 5).toInt := c
      exact absurd c' (by omega)
    have b' : (h_i h nd 5).toInt ≤ 15120 := b
    refine k_ho ht hnd t1 qi (by show (i : Int) < (h_i h nd 5).toInt; omega) ?_
    show HJ 98 21 lv [.long (ho_L h nd i)] h Q
    have cl := ch_L (p := ch_all x) (L := ho_L h nd) i
    refine n_al21 M e1 e2 e4 qc e5 qi (by omega) (by omega) (by omega) (by omega) (fun x2 q2 lv2 a1 a2 a4 a5 c => ?_) (fun x3 q3 x4 q4 lv4 a1 a2 a4 a5 c => ?_)
    · refine ih (i + 1) lv2 xc x2 (by omega) ?_ (by omega) a1 a2 a4 a5
      rw [ch_n, if_neg (fun y => c (lg_0.mpr (ch_allT.mp y)))]
      exact qc
    · refine ih (i + 1) lv4 x3 x4 (by omega) ?_ (by omega) a1 a2 a4 a5
      rw [ch_n, if_pos (ch_allT.mpr (lg_0.mp c))]
      omega
theorem k_al {sh nd n : Nat} {x : Int64} (ht : TH c_sp ρ h) (hnd : ρ nd = 39) (t1 : t_nd ρ h) (en : z_i h nd 5 = (n : Int)) (g : ∀ y : Int32, y.toInt = (ch_n (ch_all x) (ho_L h nd) n : Int) → Q (some (.int y)) h) : HJ 98 0 (lv_args 0 [.ref sh, .ref nd, .long x]) [] h Q :=
  n_al0 (MX.start (W := []) ht hnd) rfl rfl (fun x1 q1 x3 q3 lv4 a1 a2 a4 a5 => l_al ht hnd t1 en g n 0 lv4 x1 x3 (by omega) q1 q3 a1 a2 a4 a5)
theorem l_an {nd n : Nat} {x : Int64} (ht : TH c_sp ρ h) (hnd : ρ nd = 39) (t1 : t_nd ρ h) (en : z_i h nd 5 = (n : Int)) (g : ∀ y : Int32, y.toInt = (ch_n (ch_any x) (ho_L h nd) n : Int) → Q (some (.int y)) h) : ∀ (d i : Nat) (lv : List (Nat × Value)) (xc xi : Int32), i + d = n → xc.toInt = (ch_n (ch_any x) (ho_L h nd) i : Int) → xi.toInt = (i : Int) → m_lk lv 1 = some (.ref nd) → m_lk lv 2 = some (.long x) → m_lk lv 4 = some (.int xc) → m_lk lv 5 = some (.int xi) → HJ 151 6 lv [] h Q := by
  have M := MX.start (W := []) ht hnd
  have en' : (h_i h nd 5).toInt = (n : Int) := en
  intro d
  induction d with
  | zero =>
    intro i lv xc xi hd qc qi e1 e2 e4 e5
    have ei : i = n := by omega
    subst ei
    refine n_an6 M e1 e2 e4 qc e5 qi (fun _ _ _ => g xc qc) (fun _ _ c => ?_)
    have c' : (i : Int) < (h_i h nd 5).toInt := c
    exact absurd c' (by omega)
  | succ d ih =>
    intro i lv xc xi hd qc qi e1 e2 e4 e5
    refine n_an6 M e1 e2 e4 qc e5 qi (fun _ _ c => ?_) (fun _ b _ => ?_)
    · have c' : (i : Int) ≥ (h_i h nd 5).toInt := c
      exact absurd c' (by omega)
    have b' : (h_i h nd 5).toInt ≤ 15120 := b
    refine k_ho ht hnd t1 qi (by show (i : Int) < (h_i h nd 5).toInt; omega) ?_
    show HJ 151 21 lv [.long (ho_L h nd i)] h Q
    have cl := ch_L (p := ch_any x) (L := ho_L h nd) i
    refine n_an21 M e1 e2 e4 qc e5 qi (by omega) (by omega) (by omega) (by omega) (fun x2 q2 lv2 a1 a2 a4 a5 c => ?_) (fun x3 q3 x4 q4 lv4 a1 a2 a4 a5 c => ?_)
    · refine ih (i + 1) lv2 xc x2 (by omega) ?_ (by omega) a1 a2 a4 a5
      rw [ch_n, if_neg (fun y => ch_anyT.mp y (lg_0.mp c))]
      exact qc
    · refine ih (i + 1) lv4 x3 x4 (by omega) ?_ (by omega) a1 a2 a4 a5
      rw [ch_n, if_pos (ch_anyT.mpr (fun y => c (lg_0.mpr y)))]
      omega
theorem k_an {sh nd n : Nat} {x : Int64} (ht : TH c_sp ρ h) (hnd : ρ nd = 39) (t1 : t_nd ρ h) (en : z_i h nd 5 = (n : Int)) (g : ∀ y : Int32, y.toInt = (ch_n (ch_any x) (ho_L h nd) n : Int) → Q (some (.int y)) h) : HJ 151 0 (lv_args 0 [.ref sh, .ref nd, .long x]) [] h Q :=
  n_an0 (MX.start (W := []) ht hnd) rfl rfl (fun x1 q1 x3 q3 lv4 a1 a2 a4 a5 => l_an ht hnd t1 en g n 0 lv4 x1 x3 (by omega) q1 q3 a1 a2 a4 a5)
theorem l_wo {nd n : Nat} {x w : Int64} (ht : TH c_sp ρ h) (hnd : ρ nd = 39) (t1 : t_nd ρ h) (en : z_i h nd 5 = (n : Int)) (g : ∀ y : Int32, y.toInt = (ch_n (ch_no x w) (ho_L h nd) n : Int) → Q (some (.int y)) h) : ∀ (d i : Nat) (lv : List (Nat × Value)) (xc xi : Int32), i + d = n → xc.toInt = (ch_n (ch_no x w) (ho_L h nd) i : Int) → xi.toInt = (i : Int) → m_lk lv 1 = some (.ref nd) → m_lk lv 2 = some (.long x) → m_lk lv 4 = some (.long w) → m_lk lv 6 = some (.int xc) → m_lk lv 7 = some (.int xi) → HJ 101 6 lv [] h Q := by
  have M := MX.start (W := []) ht hnd
  have en' : (h_i h nd 5).toInt = (n : Int) := en
  intro d
  induction d with
  | zero =>
    intro i lv xc xi hd qc qi e1 e2 e4 e6 e7
    have ei : i = n := by omega
    subst ei
    refine n_wo6 M e1 e2 e4 e6 qc e7 qi (fun _ _ _ => g xc qc) (fun _ _ c => ?_)
    have c' : (i : Int) < (h_i h nd 5).toInt := c
    exact absurd c' (by omega)
  | succ d ih =>
    intro i lv xc xi hd qc qi e1 e2 e4 e6 e7
    refine n_wo6 M e1 e2 e4 e6 qc e7 qi (fun _ _ c => ?_) (fun _ b _ => ?_)
    · have c' : (i : Int) ≥ (h_i h nd 5).toInt := c
      exact absurd c' (by omega)
    have b' : (h_i h nd 5).toInt ≤ 15120 := b
    refine k_ho ht hnd t1 qi (by show (i : Int) < (h_i h nd 5).toInt; omega) ?_
    show HJ 101 21 lv [.long (ho_L h nd i)] h Q
    have cl := ch_L (p := ch_no x w) (L := ho_L h nd) i
    refine n_wo21 M e1 e2 e4 e6 qc e7 qi (by omega) (by omega) (by omega) (by omega) (fun x3 q3 lv3 a1 a2 a4 a6 a7 c => ?_) (fun x5 q5 lv5 a1 a2 a4 a6 a7 c c2 => ?_) (fun x6 q6 x7 q7 lv7 a1 a2 a4 a6 a7 c c2 => ?_)
    · refine ih (i + 1) lv3 xc x3 (by omega) ?_ (by omega) a1 a2 a4 a6 a7
      rw [ch_n, if_neg (fun y => (ch_noT.mp y).1 (lg_0.mp c))]
      exact qc
    · refine ih (i + 1) lv5 xc x5 (by omega) ?_ (by omega) a1 a2 a4 a6 a7
      rw [ch_n, if_neg (fun y => c2 (lg_0.mpr (ch_noT.mp y).2))]
      exact qc
    · refine ih (i + 1) lv7 x6 x7 (by omega) ?_ (by omega) a1 a2 a4 a6 a7
      rw [ch_n, if_pos (ch_noT.mpr ⟨fun y => c (lg_0.mpr y), lg_0.mp c2⟩)]
      omega
theorem k_wo {sh nd n : Nat} {x w : Int64} (ht : TH c_sp ρ h) (hnd : ρ nd = 39) (t1 : t_nd ρ h) (en : z_i h nd 5 = (n : Int)) (g : ∀ y : Int32, y.toInt = (ch_n (ch_no x w) (ho_L h nd) n : Int) → Q (some (.int y)) h) : HJ 101 0 (lv_args 0 [.ref sh, .ref nd, .long x, .long w]) [] h Q :=
  n_wo0 (MX.start (W := []) ht hnd) rfl rfl rfl (fun x1 q1 x3 q3 lv4 a1 a2 a4 a6 a7 => l_wo ht hnd t1 en g n 0 lv4 x1 x3 (by omega) q1 q3 a1 a2 a4 a6 a7)
end
-- the reference's holders, told
theorem sw_H {Y : RYt} {F F0 : Nat → Int} {V0 V1 : Nat → Nat → Int} {G : Nat → Nat → Int64} {v : Int} (l : laid Y F0 V0 G) (v0 : 0 ≤ v) (v1 : v < (ry_v Y : Int)) (f17 : F 17 = F0 17) (e24 : ∀ r, r < 6 → V1 24 r = V0 36 (6 * v.toNat + r)) (oth : ∀ K, K < 24 → V1 K = V0 K) : (p_sh (F 17) (V1 22) (V1 23) ∧ p_hp (F 17) (V1 22) (V1 24) ∧ F 17 ≤ 16000) ∧ rn_of F V1 (ry_s Y) ∧ hp6 (V1 24) (ry_h Y v) := by
  obtain ⟨⟨n, n40, o⟩, y, -, ⟨i1, i2, i3⟩, ⟨i4, i5⟩, ⟨i6, i7⟩, -⟩ := l
  have a : m_u F0 19 0 17 = (ps_n (ry_s Y) : Int) := y.1.1
  have a35 : m_u F0 19 0 35 = (ry_v Y : Int) := y.2.2.1
  rw [m_uN _ _ _ _ (by decide)] at a a35
  refine ⟨⟨by rw [f17, oth 22 (by decide), oth 23 (by decide)]; exact i1, fun r hr => ?_, by omega⟩, ⟨f17.trans a, fun u hu => ?_⟩, fun r hr => ?_⟩
  · rw [f17, oth 22 (by decide), e24 r hr]
    exact i3 v.toNat r (by omega) hr
  · rw [oth 20 (by decide), oth 21 (by decide), oth 22 (by decide), oth 23 (by decide)]
    exact y.1.2.2.2 u hu
  · rw [e24 r hr]
    exact y.2.2.2.1 (6 * v.toNat + r) (by show 6 * v.toNat + r < 6 * ry_v Y; omega)
section
variable {lv : List (Nat × Value)} {Q : Option Value → MH → Prop} {W : List (Nat × Nat)} {ρ : Nat → Nat} {m : Nat} {A : Nat → Nat} {h0 h : MH} {F : Nat → Int} {V : Nat → Nat → Int} {G : Nat → Nat → Int64}
theorem l_ht44 {v n w : Nat} {xv : Int32} {O : WKt} {L : Nat → Int64} (hw : d_sub [(77, 1001)] W = true) (v40 : v ≤ 40) (fw : F 26 = (w : Int)) (w63 : w ≤ 63) (hv : xv.toInt = (v : Int)) (wo : ∀ i, i < w → O.2.1 i = V 27 i) (g : ∀ (lv : List (Nat × Value)) (h : MH) (G : Nat → Nat → Int64) (xv' : Int32), MX 49 W ρ m A h0 h F V G → (∀ j, j < n → G 42 j = hd_w O (bt (v : Int)) w L j) → xv'.toInt = (v : Int) + 1 → m_lk lv 0 = some (.ref m) → m_lk lv 1 = some (.int xv') → HJ 229 25 lv [] h Q) : ∀ (d i : Nat) (lv : List (Nat × Value)) (h : MH) (G : Nat → Nat → Int64) (xi : Int32), i + d = w → MX 49 W ρ m A h0 h F V G → (∀ j, j < n → G 42 j = hd_w O (bt (v : Int)) i L j) → xi.toInt = (i : Int) → m_lk lv 0 = some (.ref m) → m_lk lv 1 = some (.int xv) → m_lk lv 2 = some (.int xi) → HJ 229 44 lv [] h Q := by
  intro d
  induction d with
  | zero =>
    intro i lv h G xi hd M I hi e0 e1 e2
    have ei : i = w := by omega
    subst ei
    exact s_ho44 M e0 e1 hv e2 hi (by omega) (by omega) (by omega) (by omega) hw (fun x2 q2 lv2 d0 d1 d2 _ _ _ => g lv2 h G x2 M I q2 d0 d1) (fun h5 G5 f5 x6 q6 lv6 M5 e6_0 e6_1 e6_2 a1 b1 c49 a3 b3 => by omega)
  | succ d ih =>
    intro i lv h G xi hd M I hi e0 e1 e2
    refine s_ho44 M e0 e1 hv e2 hi (by omega) (by omega) (by omega) (by omega) hw (fun x2 q2 lv2 d0 d1 d2 _ _ _ => by omega) (fun h5 G5 f5 x6 q6 lv6 M5 d0 d1 d2 _ _ _ _ _ => ?_)
    refine ih (i + 1) lv6 h5 G5 x6 (by omega) M5 (fun j hj => ?_) (by omega) d0 d1 d2
    have e : G5 42 = m_u (G 42) (V 27 i).toNat (G 42 (V 27 i).toNat ||| bt (v : Int)) := by
      rw [f5, m_uE]
      rfl
    rw [e]
    show m_u (G 42) (V 27 i).toNat (G 42 (V 27 i).toNat ||| bt (v : Int)) j = if j = (O.2.1 i).toNat then hd_w O (bt (v : Int)) i L j ||| bt (v : Int) else hd_w O (bt (v : Int)) i L j
    rw [wo i (by omega)]
    by_cases c : j = (V 27 i).toNat
    · rw [← c, m_uE, if_pos rfl, I j hj]
    · rw [m_uN _ _ _ _ c, if_neg c, I j hj]
theorem l_ht25 {Y : RYt} {F0 : Nat → Int} {V0 : Nat → Nat → Int} {G0 : Nat → Nat → Int64} (hw : d_sub g_hd W = true) (l : laid Y F0 V0 G0) (g : ∀ (h' : MH) (F' : Nat → Int) (V' : Nat → Nat → Int) (G' : Nat → Nat → Int64), MX 49 W ρ m A h0 h' F' V' G' → z_hI F0 V0 F' V' → (∀ j, j < ps_n (ry_s Y) → G' 42 j = hd_Y Y j) → Q none h') : ∀ (d v : Nat) (lv : List (Nat × Value)) (h : MH) (F : Nat → Int) (V : Nat → Nat → Int) (G : Nat → Nat → Int64) (xv : Int32), v + d = ry_v Y → MX 49 W ρ m A h0 h F V G → z_hI F0 V0 F V → (∀ j, j < ps_n (ry_s Y) → G 42 j = hd_n (ry_s Y) (ry_h Y) (fun _ => Int64.ofNat (0 : Fin 2).val) v j) → xv.toInt = (v : Int) → m_lk lv 0 = some (.ref m) → m_lk lv 1 = some (.int xv) → HJ 229 25 lv [] h Q := by
  have w1 : d_sub [(61, 1001)] W = true := d_subm hw (by decide +kernel)
  have w2 : d_sub g_wk W = true := d_subm hw (by decide +kernel)
  have w3 : d_sub [(77, 1001)] W = true := d_subm hw (by decide +kernel)
  obtain ⟨q35, q1, q41⟩ := laid_v l
  intro d
  induction d with
  | zero =>
    intro v lv h F V G xv hd M I c hv e0 e1
    have f35 := I.1 35 (by decide)
    have ve : v = ry_v Y := by omega
    subst ve
    exact s_ho25 M e0 e1 hv (fun _ _ _ => g h F V G M I c) (fun _ _ c => by omega)
  | succ d ih =>
    intro v lv h F V G xv hd M I c hv e0 e1
    have f35 := I.1 35 (by decide)
    refine s_ho25 M e0 e1 hv (fun _ _ _ => by omega) (fun _ _ _ => ?_)
    refine c_hand (v := v) M hv (by omega) w1 (fun h2 V2 M2 k1 k2 => ?_)
    obtain ⟨⟨s1, s2, s3⟩, rn, h6⟩ := sw_H (F := F) (V1 := V2) (v := (v : Int)) l (by omega) (by omega) (I.1 17 (by decide)) (fun r hr => by rw [k1 r hr, I.2 36 (by decide)]; rfl) (fun K hK => by rw [k2 K (by omega), I.2 K (Or.inl hK)])
    refine s_ho38 M2 e0 e1 hv ?_
    refine c_walkAll M2 rfl w2 s1 s2 s3 (fun h3 F3 V3 M3 J fw X WO => ?_)
    have wo := WO _ _ rn h6
    have wl := p_wsL (f := V2 24) 6
    have p64 : (2 : Nat) ^ 6 = 64 := rfl
    have I3 : z_hI F0 V0 F3 V3 := ⟨fun K hK => (J.1 K hK).trans (I.1 K hK), fun K hK => by rw [J.2 K (by omega), k2 K (by omega), I.2 K hK]⟩
    refine s_ho42 M3 e0 e1 hv (fun x1 q1 lv2 d0 d1 d2 => ?_)
    exact l_ht44 (v := v) (n := ps_n (ry_s Y)) (w := p_ws (V2 24) 6) (O := wk_all (ry_s Y) (ry_h Y (v : Int))) (L := hd_n (ry_s Y) (ry_h Y) (fun _ => Int64.ofNat (0 : Fin 2).val) v) w3 (by omega) fw (by omega) hv (fun i hi => (wo.2 i hi).1) (fun lv4 h4 G4 xv' M4 c4 q4 b0 b1 => ih (v + 1) lv4 h4 F3 V3 G4 xv' (by omega) M4 I3 (fun j hj => by rw [c4 j hj, ← wo.1]; rfl) (by omega) b0 b1) (p_ws (V2 24) 6) 0 lv2 h3 G x1 (by omega) M3 c q1 d0 d1 d2
theorem laid_n {Y : RYt} {F : Nat → Int} {V : Nat → Nat → Int} {G : Nat → Nat → Int64} (l : laid Y F V G) : F 17 = (ps_n (ry_s Y) : Int) ∧ ps_n (ry_s Y) ≤ 15120 := by
  obtain ⟨-, y, -, -, ⟨i4, i5⟩, -⟩ := l
  have a : m_u F 19 0 17 = (ps_n (ry_s Y) : Int) := y.1.1
  rw [m_uN _ _ _ _ (by decide)] at a
  exact ⟨a, by omega⟩
theorem c_holdT {Y : RYt} (M : MX 49 W ρ m A h0 h F V G) (hw : d_sub g_hd W = true) (l : laid Y F V G) (g : ∀ (h' : MH) (F' : Nat → Int) (V' : Nat → Nat → Int) (G' : Nat → Nat → Int64), MX 49 W ρ m A h0 h' F' V' G' → z_hI F V F' V' → (∀ j, j < ps_n (ry_s Y) → G' 42 j = hd_Y Y j) → Q none h') : HJ 229 0 (lv_args 0 [.ref m]) [] h Q := by
  have w3 : d_sub [(77, 1001)] W = true := d_subm hw (by decide +kernel)
  obtain ⟨fn, n1⟩ := laid_n l
  refine s_ho0 M rfl (fun x1 q1 lv2 e0 e1 => ?_)
  refine l_ho2 (n := ps_n (ry_s Y)) w3 fn (by omega) (fun lv3 h3 G3 x M3 k1 q3 d0 d1 => ?_) (ps_n (ry_s Y)) 0 lv2 h G x1 (by omega) M (fun j hj => absurd hj (Nat.not_lt_zero j)) q1 e0 e1
  exact l_ht25 (F0 := F) (V0 := V) hw l g (ry_v Y) 0 lv3 h3 F V G3 x (by omega) M3 ⟨fun _ _ => rfl, fun _ _ => rfl⟩ (fun j hj => (k1 j hj).trans rfl) q3 d0 d1
theorem c_hasB {x : Int64} {v : Nat} {xk : Int32} (M : MX 49 W ρ m A h0 h F V G) (hk : xk.toInt = (v : Int)) (hv : v ≤ 40) (g : ∀ z : Int32, z.toInt = (if bs x v = true then 1 else 0) → Q (some (.int z)) h) : HJ 232 0 (lv_args 0 [.long x, .int xk]) [] h Q := by
  have ex : xk = Int32.ofInt (v : Int) := by rw [← hk, Int32.ofInt_toInt]
  have key := bs_has (x := x) hv
  refine s_has M rfl rfl hk (fun z q c => g z ?_) (fun z q c => g z ?_)
  · rw [ex] at c
    rw [q, if_neg (fun y => c (lg_0.mpr (key.mpr y)))]
  · rw [ex] at c
    rw [q, if_pos (key.mp (lg_0.mp c))]
end
-- a node's holders, bit by bit
theorem hd_wB {O : WKt} {x : Int64} {w j : Nat} {L : Nat → Int64} : ∀ i : Nat, bs (hd_w O x i L j) w = true ↔ (bs (L j) w = true ∨ (bs x w = true ∧ ∃ k, k < i ∧ j = (O.2.1 k).toNat))
  | 0 => by
    show bs (L j) w = true ↔ _
    constructor
    · exact Or.inl
    · rintro (h | ⟨-, k, hk, -⟩)
      · exact h
      · omega
  | i + 1 => by
    have ih := hd_wB (O := O) (x := x) (w := w) (j := j) (L := L) i
    show bs (if j = (O.2.1 i).toNat then hd_w O x i L j ||| x else hd_w O x i L j) w = true ↔ _
    by_cases c : j = (O.2.1 i).toNat
    · rw [if_pos c, bs_or, Bool.or_eq_true, ih]
      constructor
      · rintro ((h | ⟨h, k, hk, e⟩) | h)
        · exact Or.inl h
        · exact Or.inr ⟨h, k, by omega, e⟩
        · exact Or.inr ⟨h, i, by omega, c⟩
      · rintro (h | ⟨h, -⟩)
        · exact Or.inl (Or.inl h)
        · exact Or.inr h
    · rw [if_neg c, ih]
      constructor
      · rintro (h | ⟨h, k, hk, e⟩)
        · exact Or.inl h
        · exact Or.inr ⟨h, k, by omega, e⟩
      · rintro (h | ⟨h, k, hk, e⟩)
        · exact Or.inl h
        · by_cases e2 : k = i
          · subst e2
            exact absurd e c
          · exact Or.inr ⟨h, k, by omega, e⟩
theorem hd_nB {S : PSt} {f : Int → Nat → Int} {L : Nat → Int64} {w j : Nat} (hw : w < 64) : ∀ u : Nat, u ≤ 41 → (bs (hd_n S f L u j) w = true ↔ (bs (L j) w = true ∨ (w < u ∧ ∃ k, k < (wk_all S (f (w : Int))).1 ∧ j = ((wk_all S (f (w : Int))).2.1 k).toNat)))
  | 0, _ => by
    show bs (L j) w = true ↔ _
    constructor
    · exact Or.inl
    · rintro (h | ⟨h, -⟩)
      · exact h
      · omega
  | u + 1, hu => by
    have ih := hd_nB (S := S) (f := f) (L := L) (w := w) (j := j) hw u (by omega)
    show bs (hd_w (wk_all S (f (u : Int))) (bt (u : Int)) (wk_all S (f (u : Int))).1 (hd_n S f L u) j) w = true ↔ _
    rw [hd_wB, ih, bs_bt (by omega) hw, decide_eq_true_iff]
    constructor
    · rintro ((h | ⟨h1, h2⟩) | ⟨e, h2⟩)
      · exact Or.inl h
      · exact Or.inr ⟨by omega, h2⟩
      · subst e
        exact Or.inr ⟨by omega, h2⟩
    · rintro (h | ⟨h1, h2⟩)
      · exact Or.inl (Or.inl h)
      · by_cases e : w = u
        · subst e
          exact Or.inr ⟨rfl, h2⟩
        · exact Or.inl (Or.inr ⟨by omega, h2⟩)
theorem hd_B {Y : RYt} {w j : Nat} (hv : ry_v Y ≤ 41) (hw : w < 64) : bs (hd_Y Y j) w = true ↔ (w < ry_v Y ∧ ∃ k, k < (wk_all (ry_s Y) (ry_h Y (w : Int))).1 ∧ j = ((wk_all (ry_s Y) (ry_h Y (w : Int))).2.1 k).toNat) := by
  unfold hd_Y
  rw [hd_nB hw _ hv, bs_0]
  constructor
  · rintro (h | h)
    · exact absurd h (by decide)
    · exact h
  · exact Or.inr
-- the reference's, walked and sorted where the row was laid earlier
section
variable {lv : List (Nat × Value)} {Q : Option Value → MH → Prop} {W : List (Nat × Nat)} {ρ : Nat → Nat} {m : Nat} {A : Nat → Nat} {h0 h : MH} {F : Nat → Int} {V : Nat → Nat → Int} {G : Nat → Nat → Int64}
theorem c_swZ {Y : RYt} {G1 : Nat → Nat → Int64} {F0 : Nat → Int} {V0 : Nat → Nat → Int} {v : Int} (M : MX 49 W ρ m A h0 h F V G) (b0_ : m_lk lv 0 = some (.ref m)) (hw : d_sub g_wk W = true) (l : laid Y F0 V0 G1) (f17 : F 17 = F0 17) (v0 : 0 ≤ v) (v1 : v < (ry_v Y : Int)) (e24 : ∀ r, r < 6 → V 24 r = V0 36 (6 * v.toNat + r)) (oth : ∀ K, K < 24 → V K = V0 K) (g : ∀ (h' : MH) (F' : Nat → Int) (V' : Nat → Nat → Int), MX 49 W ρ m A h0 h' F' V' G → w_I F V F' V' → F' 26 = ((wk_all (ry_s Y) (ry_h Y v)).1 : Int) → w_X (F 17) (V 22) (V' 27) (V' 29) (V' 28) (wk_all (ry_s Y) (ry_h Y v)).1 → wk_of V' (wk_all (ry_s Y) (ry_h Y v)).1 (wk_all (ry_s Y) (ry_h Y v)) → rn_of F' V' (ry_s Y) → Q none h') : HJ 219 0 lv [] h Q := by
  obtain ⟨⟨s1, s2, s3⟩, rn, h6⟩ := sw_H (F := F) (V1 := V) l v0 v1 f17 e24 oth
  refine c_walkAll M b0_ hw s1 s2 s3 (fun h' F' V' M' I fw X WO => ?_)
  have wo := WO _ _ rn h6
  have e := wo.1
  rw [← e] at fw X wo
  exact g h' F' V' M' I fw X wo (rn_ofV rn (I.1 17 (by decide)) (I.2 20 (by decide)) (I.2 21 (by decide)) (I.2 22 (by decide)) (I.2 23 (by decide)))
theorem c_sortZ {Y : RYt} {G1 : Nat → Nat → Int64} {F0 : Nat → Int} {V0 : Nat → Nat → Int} {v : Int} {xv : Int32} (M : MX 49 W ρ m A h0 h F V G) (hw : d_sub g_so W = true) (l : laid Y F0 V0 G1) (f17 : F 17 = F0 17) (oth : ∀ K, K < 24 ∨ K = 36 → V K = V0 K) (v0 : 0 ≤ v) (v1 : v < (ry_v Y : Int)) (qv : xv.toInt = v) (g : ∀ (h' : MH) (F' : Nat → Int) (V' : Nat → Nat → Int), MX 49 W ρ m A h0 h' F' V' G → F' 43 = ((wk_all (ry_s Y) (ry_h Y v)).1 : Int) → (∀ K, K ≠ 26 → K ≠ 43 → F' K = F K) → (∀ K, K < 24 ∨ (31 < K ∧ K ≠ 44 ∧ K ≠ 45) → V' K = V K) → wk_of V' (wk_all (ry_s Y) (ry_h Y v)).1 (wk_all (ry_s Y) (ry_h Y v)) → F' 26 = ((wk_all (ry_s Y) (ry_h Y v)).1 : Int) → rn_of F' V' (ry_s Y) → st_T (V' 44) (V' 45) (wt_ (ry_s Y) (wk_all (ry_s Y) (ry_h Y v))) (wk_all (ry_s Y) (ry_h Y v)).1 → Q none h') : HJ 230 0 (lv_args 0 [.ref m, .int xv]) [] h Q := by
  have w1 : d_sub [(61, 1001)] W = true := d_subm hw (by decide +kernel)
  have w2 : d_sub g_wk W = true := d_subm hw (by decide +kernel)
  have w3 : d_sub [(78, 1001), (79, 1001), (49, 43)] W = true := d_subm hw (by decide +kernel)
  have w4 : d_sub [(49, 43)] W = true := d_subm hw (by decide +kernel)
  have lv := laid_v l
  obtain ⟨⟨n, n40, o⟩, -⟩ := id l
  have wi := wk_allI (S := ry_s Y) (f := ry_h Y v) o.1.1 (by rw [ry_hv v0]; exact o.1.2 v.toNat (by omega))
  have w63 := p_wsL (f := ry_h Y v) 6
  have e64 : (2 : Nat) ^ 6 = 64 := by decide
  rw [e64] at w63
  refine s_sa0 M rfl rfl qv (c_hand (v := v.toNat) M (by omega) (by omega) w1 (fun h2 V2 M2 k1 k2 => ?_))
  refine s_sa5 M2 rfl ?_
  refine c_swZ (lv := lv_args 0 [.ref m]) M2 rfl w2 l f17 v0 v1 (fun r hr => (k1 r hr).trans (by rw [oth 36 (Or.inr rfl)])) (fun K hK => (k2 K (by omega)).trans (oth K (Or.inl hK))) (fun h3 F3 V3 M3 J fw X wo rn => ?_)
  refine s_sa9 M3 rfl w4 (fun h4 F4 f4 x3 q3 lv4 M4 e0 e2 => ?_)
  have f26 : F4 26 = ((wk_all (ry_s Y) (ry_h Y v)).1 : Int) := by rw [f4, m_uN _ _ _ _ (by decide)]; exact fw
  refine l_sb16 (F0 := F4) (V0 := V3) (S := ry_s Y) (O := wk_all (ry_s Y) (ry_h Y v)) w3 (by omega) rfl f26 wo (rn_ofV rn (by rw [f4, m_uN _ _ _ _ (by decide)]) rfl rfl rfl rfl) (fun i hi => (wi.1 i hi).1) (fun h5 F5 V5 M5 f43 fo vo T => g h5 F5 V5 M5 f43 (fun K k3 k4 => (fo K k4).trans (by rw [f4, m_uN _ _ _ _ k4, J.1 K k3])) (fun K hK => by rw [vo K (by omega) (by omega), J.2 K (by omega), k2 K (by omega)]) (wk_ofC wo (vo 27 (by decide) (by decide)) (vo 29 (by decide) (by decide)) (vo 28 (by decide) (by decide))) ((fo 26 (by decide)).trans f26) (rn_ofV rn ((fo 17 (by decide)).trans (by rw [f4, m_uN _ _ _ _ (by decide)])) (vo 20 (by decide) (by decide)) (vo 21 (by decide) (by decide)) (vo 22 (by decide) (by decide)) (vo 23 (by decide) (by decide))) T) (wk_all (ry_s Y) (ry_h Y v)).1 0 lv4 h4 F4 V3 x3 (by omega) M4 (by rw [f4, m_uE]; rfl) (fun _ _ => rfl) (fun _ _ _ => rfl) (fun j hj => absurd hj (Nat.not_lt_zero j)) q3 e0 e2
end
-- DIFFER, pure: what is still to be done from a state (digit 0 gone, 1 as it was, 2 as it shall be, 3 below all)
def df_a (g : Int) : Nat := if g = -1 then 0 else 1
def df_c (K G : Nat → Int) (d i : Nat) : Int := if d = 1 then K i else if d = 2 then G i else -1
abbrev df_lt (c t : Int) (θ : Int × Int) : Prop := c < θ.1 ∨ (c = θ.1 ∧ t < θ.2)
def df_g (c t g : Int) (θ : Int × Int) : Nat := if df_lt c t θ then 1 + df_a g else if g = -1 ∨ c < g then 2 + df_a g else if g < c then 1 else 0
def df_f (T K G : Nat → Int) (D : Nat → Nat) (θ : Int × Int) (i : Nat) : Nat := if D i = 0 then df_a (G i) else df_g (df_c K G (D i) i) (T i) (G i) θ
def df_s (f : Nat → Nat) : Nat → Nat
  | 0 => 0
  | n + 1 => df_s f n + f n
def df_S (n : Nat) (T K G : Nat → Int) (D : Nat → Nat) (θ : Int × Int) : Nat := df_s (df_f T K G D θ) n
theorem df_le {f f' : Nat → Nat} : ∀ n, (∀ i, i < n → f i ≤ f' i) → df_s f n ≤ df_s f' n
  | 0, _ => Nat.le_refl _
  | n + 1, h => by
    have a := df_le n (fun i hi => h i (by omega))
    have b := h n (by omega)
    rw [df_s, df_s]
    omega
theorem df_l1 {f f' : Nat → Nat} {e : Nat} : ∀ n, (∀ i, i < n → i ≠ e → f i ≤ f' i) → f e ≤ f' e + 1 → df_s f n ≤ df_s f' n + 1
  | 0, _, _ => Nat.zero_le _
  | n + 1, h, he => by
    rw [df_s, df_s]
    by_cases c : n = e
    · subst c
      have a := df_le n (fun i hi => h i (by omega) (by omega))
      omega
    · have a := df_l1 n (fun i hi => h i (by omega)) he
      have b := h n (by omega) c
      omega
-- one less at e, no more elsewhere
theorem df_d1 {f f' : Nat → Nat} {e : Nat} : ∀ n, (∀ i, i < n → i ≠ e → f' i ≤ f i) → e < n → f' e + 1 ≤ f e → df_s f' n + 1 ≤ df_s f n
  | 0, _, h, _ => absurd h (Nat.not_lt_zero e)
  | n + 1, h, he, l => by
    rw [df_s, df_s]
    by_cases c : n = e
    · subst c
      have a := df_le n (fun i hi => h i (by omega) (by omega))
      omega
    · have a := df_d1 n (fun i hi => h i (by omega)) (by omega) l
      have b := h n (by omega) c
      omega
theorem df_z {f : Nat → Nat} : ∀ n, df_s f n = 0 ↔ ∀ i, i < n → f i = 0
  | 0 => ⟨fun _ i hi => absurd hi (Nat.not_lt_zero i), fun _ => rfl⟩
  | n + 1 => by
    have ih := df_z (f := f) n
    rw [df_s]
    constructor
    · intro h i hi
      by_cases c : i = n
      · subst c
        omega
      · exact ih.mp (by omega) i (by omega)
    · intro h
      rw [ih.mpr (fun i hi => h i (by omega)), h n (by omega)]
-- states that may be, moves
def df_ok (n : Nat) (G : Nat → Int) (D : Nat → Nat) : Prop := ∀ i, i < n → D i ≤ 3 ∧ (D i = 2 → G i ≠ -1)
def df_in (n : Nat) (T K G : Nat → Int) : Prop := (∀ i, i < n → 0 ≤ K i ∧ -1 ≤ G i) ∧ ∀ i j, i < n → j < n → i ≠ j → T i ≠ T j
def df_mv (n : Nat) (T K G : Nat → Int) (D D' : Nat → Nat) : Prop :=
  (∃ e, e < n ∧ D e ≠ 0 ∧ (∀ i, i < n → i ≠ e → D i ≠ 0 → df_lt (df_c K G (D e) e) (T e) (df_c K G (D i) i, T i)) ∧ D' = m_u D e 0) ∨
  ((∀ i, i < n → D i = 0) ∧ D' = D) ∨
  (∃ e, e < n ∧ D e ≠ 0 ∧ D' = m_u D e 3) ∨
  (∃ e, e < n ∧ G e ≠ -1 ∧ (D e = 0 ∨ G e ≤ df_c K G (D e) e) ∧ D' = m_u D e 2)
theorem df_fN {T K G : Nat → Int} {D : Nat → Nat} {θ : Int × Int} {e i v : Nat} (h : i ≠ e) : df_f T K G (m_u D e v) θ i = df_f T K G D θ i := by
  unfold df_f
  rw [m_uN _ _ _ _ h]
theorem df_fE {T K G : Nat → Int} {D : Nat → Nat} {θ : Int × Int} {e v : Nat} : df_f T K G (m_u D e v) θ e = if v = 0 then df_a (G e) else df_g (df_c K G v e) (T e) (G e) θ := by
  unfold df_f
  rw [m_uE]
theorem df_g2 {c t g : Int} {θ : Int × Int} : df_g c t g θ ≤ 2 + df_a g := by
  unfold df_g
  split
  · omega
  · split
    · omega
    · split <;> omega
-- a move takes at most one away
theorem df_low {n : Nat} {T K G : Nat → Int} {D D' : Nat → Nat} (I : df_in n T K G) (m : df_mv n T K G D D') (θ' : Int × Int) : ∃ θ, df_S n T K G D θ ≤ df_S n T K G D' θ' + 1 := by
  rcases m with ⟨e, he, de, le, rfl⟩ | ⟨-, rfl⟩ | ⟨e, he, de, rfl⟩ | ⟨e, he, ge, ce, rfl⟩
  · by_cases c : df_lt (df_c K G (D e) e) (T e) θ'
    · refine ⟨θ', df_l1 (e := e) n (fun i hi ne => Nat.le_of_eq (df_fN ne).symm) ?_⟩
      rw [df_fE, if_pos rfl]
      unfold df_f
      rw [if_neg de]
      unfold df_g
      rw [if_pos c]
      omega
    · refine ⟨(df_c K G (D e) e, T e + 1), df_l1 (e := e) n (fun i hi ne => ?_) ?_⟩
      · rw [df_fN ne]
        unfold df_f
        by_cases d : D i = 0
        · rw [if_pos d, if_pos d]
          exact Nat.le_refl _
        · rw [if_neg d, if_neg d]
          have l := le i hi ne d
          have tn := I.2 e i he hi (Ne.symm ne)
          have n1 : ¬ df_lt (df_c K G (D i) i) (T i) (df_c K G (D e) e, T e + 1) := by
            unfold df_lt at l ⊢
            dsimp only at l ⊢
            omega
          have n2 : ¬ df_lt (df_c K G (D i) i) (T i) θ' := by
            unfold df_lt at l c ⊢
            dsimp only at l
            omega
          unfold df_g
          rw [if_neg n1, if_neg n2]
          exact Nat.le_refl _
      · rw [df_fE, if_pos rfl]
        unfold df_f
        rw [if_neg de]
        unfold df_g
        rw [if_pos (by unfold df_lt; dsimp only; omega)]
        omega
  · exact ⟨θ', Nat.le_succ _⟩
  · refine ⟨θ', df_l1 (e := e) n (fun i hi ne => Nat.le_of_eq (df_fN ne).symm) ?_⟩
    have u : df_f T K G D θ' e ≤ 2 + df_a (G e) := by
      unfold df_f
      rw [if_neg de]
      exact df_g2
    have b := (I.1 e he).2
    have v : 1 + df_a (G e) ≤ df_f T K G (m_u D e 3) θ' e := by
      rw [df_fE, if_neg (by decide)]
      have c3 : df_c K G 3 e = -1 := rfl
      rw [c3]
      unfold df_g
      split
      · exact Nat.le_refl _
      · rw [if_pos (by omega)]
        omega
    omega
  · refine ⟨θ', df_l1 (e := e) n (fun i hi ne => Nat.le_of_eq (df_fN ne).symm) ?_⟩
    have a1 : df_a (G e) = 1 := by
      unfold df_a
      rw [if_neg ge]
    rw [df_fE, if_neg (by decide)]
    have c2 : df_c K G 2 e = G e := rfl
    rw [c2]
    by_cases d : D e = 0
    · unfold df_f
      rw [if_pos d, a1]
      omega
    · have ce := ce.resolve_left d
      unfold df_f
      rw [if_neg d]
      generalize df_c K G (D e) e = c at *
      unfold df_g
      by_cases l : df_lt c (T e) θ'
      · have l2 : df_lt (G e) (T e) θ' := by
          unfold df_lt at l ⊢
          omega
        rw [if_pos l, if_pos l2]
        omega
      · rw [if_neg l, if_neg (show ¬ (G e = -1 ∨ c < G e) by omega)]
        split <;> omega
-- there is one that takes one away
def df_b : Int × Int := (-2, 0)
theorem df_bN {c t : Int} (h : -1 ≤ c) : ¬ df_lt c t df_b := by
  unfold df_lt df_b
  dsimp only
  omega
theorem df_cB {n : Nat} {T K G : Nat → Int} {D : Nat → Nat} (I : df_in n T K G) {i : Nat} (hi : i < n) : -1 ≤ df_c K G (D i) i := by
  have a := I.1 i hi
  unfold df_c
  split
  · omega
  · split <;> omega
theorem df_least {n : Nat} {T K G : Nat → Int} {D : Nat → Nat} (I : df_in n T K G) : ∀ k, k ≤ n → (∃ i, i < k ∧ D i ≠ 0) → ∃ e, e < k ∧ D e ≠ 0 ∧ ∀ i, i < k → i ≠ e → D i ≠ 0 → df_lt (df_c K G (D e) e) (T e) (df_c K G (D i) i, T i)
  | 0, _, ⟨i, h, _⟩ => absurd h (Nat.not_lt_zero i)
  | k + 1, hk, ⟨i, hi, di⟩ => by
    by_cases p : ∃ i, i < k ∧ D i ≠ 0
    · obtain ⟨e, e1, e2, e3⟩ := df_least I k (by omega) p
      by_cases d : D k = 0
      · refine ⟨e, by omega, e2, fun j hj ne dj => e3 j ?_ ne dj⟩
        by_cases q : j = k
        · subst q
          exact absurd d dj
        · omega
      · by_cases c : df_lt (df_c K G (D e) e) (T e) (df_c K G (D k) k, T k)
        · refine ⟨e, by omega, e2, fun j hj ne dj => ?_⟩
          by_cases q : j = k
          · subst q
            exact c
          · exact e3 j (by omega) ne dj
        · have tn := I.2 e k (by omega) (by omega) (by omega)
          have c2 : df_lt (df_c K G (D k) k) (T k) (df_c K G (D e) e, T e) := by
            unfold df_lt at c ⊢
            dsimp only at c ⊢
            omega
          refine ⟨k, by omega, d, fun j hj ne dj => ?_⟩
          by_cases q : j = e
          · subst q
            exact c2
          · have l := e3 j (by omega) q dj
            unfold df_lt at c2 l ⊢
            dsimp only at c2 l ⊢
            omega
    · have e : i = k := by
        by_cases q : i = k
        · exact q
        · exact absurd ⟨i, by omega, di⟩ p
      subst e
      exact ⟨i, by omega, di, fun j hj ne dj => absurd ⟨j, by omega, dj⟩ p⟩
theorem df_up {n m : Nat} {T K G : Nat → Int} {D : Nat → Nat} {θ : Int × Int} (I : df_in n T K G) (ok : df_ok n G D) (e : df_S n T K G D θ = m + 1) (lo : ∀ θ', m + 1 ≤ df_S n T K G D θ') : ∃ D', df_mv n T K G D D' ∧ df_ok n G D' ∧ ∃ θ', df_S n T K G D' θ' ≤ m := by
  by_cases p : ∃ i, i < n ∧ D i ≠ 0 ∧ df_lt (df_c K G (D i) i) (T i) θ
  · -- the least one goes
    obtain ⟨i, hi, di, gi⟩ := p
    obtain ⟨x, x1, x2, x3⟩ := df_least I n (Nat.le_refl n) ⟨i, hi, di⟩
    have gx : df_lt (df_c K G (D x) x) (T x) θ := by
      by_cases q : i = x
      · subst q
        exact gi
      · have l := x3 i hi q di
        unfold df_lt at l gi ⊢
        dsimp only at l
        omega
    refine ⟨m_u D x 0, Or.inl ⟨x, x1, x2, x3, rfl⟩, fun j hj => ?_, θ, ?_⟩
    · by_cases q : j = x
      · rw [q, m_uE]
        exact ⟨by omega, fun z => by omega⟩
      · rw [m_uN _ _ _ _ q]
        exact ok j hj
    · have k := df_d1 (f := df_f T K G D θ) (f' := df_f T K G (m_u D x 0) θ) (e := x) n (fun j hj ne => Nat.le_of_eq (df_fN ne)) x1 (by
        rw [df_fE, if_pos rfl]
        unfold df_f
        rw [if_neg x2]
        unfold df_g
        rw [if_pos gx]
        omega)
      have k : df_S n T K G (m_u D x 0) θ + 1 ≤ df_S n T K G D θ := k
      omega
  · -- none goes so: all as with the lowest mark
    have ng : ∀ i, i < n → D i ≠ 0 → ¬ df_lt (df_c K G (D i) i) (T i) θ := fun i hi di g => p ⟨i, hi, di, g⟩
    have fb : ∀ i, i < n → df_f T K G D df_b i = df_f T K G D θ i := fun i hi => by
      unfold df_f
      by_cases d : D i = 0
      · rw [if_pos d, if_pos d]
      · rw [if_neg d, if_neg d]
        unfold df_g
        rw [if_neg (df_bN (df_cB I hi)), if_neg (ng i hi d)]
    have nz : ∃ i, i < n ∧ df_f T K G D θ i ≠ 0 := by
      apply Classical.byContradiction
      intro c
      have z := (df_z (f := df_f T K G D θ) n).mpr (fun i hi => Classical.byContradiction (fun q => c ⟨i, hi, q⟩))
      have z : df_S n T K G D θ = 0 := z
      omega
    obtain ⟨x, x1, x2⟩ := nz
    have okv : ∀ v, v ≤ 3 → (v = 2 → G x ≠ -1) → df_ok n G (m_u D x v) := fun v v3 vg j hj => by
      by_cases q : j = x
      · rw [q, m_uE]
        exact ⟨v3, vg⟩
      · rw [m_uN _ _ _ _ q]
        exact ok j hj
    have fx := fb x x1
    have Sb : df_S n T K G D df_b ≤ m + 1 := by
      rw [← e]
      exact df_le n (fun i hi => Nat.le_of_eq (fb i hi))
    -- to the goal
    have goal : G x ≠ -1 → (D x = 0 ∨ G x ≤ df_c K G (D x) x) → ∃ D', df_mv n T K G D D' ∧ df_ok n G D' ∧ ∃ θ', df_S n T K G D' θ' ≤ m := fun g c => by
      refine ⟨m_u D x 2, Or.inr (Or.inr (Or.inr ⟨x, x1, g, c, rfl⟩)), okv 2 (by decide) (fun _ => g), df_b, ?_⟩
      have b := I.1 x x1
      have k := df_d1 (f := df_f T K G D df_b) (f' := df_f T K G (m_u D x 2) df_b) (e := x) n (fun j hj ne => Nat.le_of_eq (df_fN ne)) x1 (by
        rw [df_fE, if_neg (by decide)]
        have c2 : df_c K G 2 x = G x := rfl
        rw [c2]
        unfold df_g
        rw [if_neg (df_bN (by omega)), if_neg (by omega), if_neg (by omega)]
        omega)
      have k : df_S n T K G (m_u D x 2) df_b + 1 ≤ df_S n T K G D df_b := k
      omega
    by_cases d : D x = 0
    · have g : G x ≠ -1 := fun z => by
        unfold df_f df_a at x2
        rw [if_pos d, if_pos z] at x2
        exact x2 rfl
      exact goal g (Or.inl d)
    · by_cases c : G x = -1 ∨ df_c K G (D x) x < G x
      · -- below all
        have bx := df_cB (D := D) I x1
        have d3 : df_c K G (D x) x ≠ -1 := fun z => by
          -- it is there already: then less would do with one fewer
          have k := df_d1 (f := df_f T K G D df_b) (f' := df_f T K G D (-1, T x + 1)) (e := x) n (fun j hj ne => by
            unfold df_f
            by_cases dj : D j = 0
            · rw [if_pos dj, if_pos dj]
              exact Nat.le_refl _
            · rw [if_neg dj, if_neg dj]
              have bj := df_cB (D := D) I hj
              unfold df_g
              rw [if_neg (df_bN bj)]
              by_cases l : df_lt (df_c K G (D j) j) (T j) (-1, T x + 1)
              · have cj : df_c K G (D j) j = -1 := by
                  unfold df_lt at l
                  dsimp only at l
                  omega
                have gj := (I.1 j hj).2
                rw [if_pos l, if_pos (by omega)]
                omega
              · rw [if_neg l]
                exact Nat.le_refl _) x1 (by
            unfold df_f
            rw [if_neg d, if_neg d]
            unfold df_g
            rw [if_neg (df_bN bx), if_pos c, if_pos (by unfold df_lt; dsimp only; omega)]
            omega)
          have k : df_S n T K G D (-1, T x + 1) + 1 ≤ df_S n T K G D df_b := k
          have := lo (-1, T x + 1)
          omega
        refine ⟨m_u D x 3, Or.inr (Or.inr (Or.inl ⟨x, x1, d, rfl⟩)), okv 3 (by decide) (fun z => by omega), (-1, T x + 1), ?_⟩
        have k := df_d1 (f := df_f T K G D df_b) (f' := df_f T K G (m_u D x 3) (-1, T x + 1)) (e := x) n (fun j hj ne => by
          rw [df_fN ne]
          unfold df_f
          by_cases dj : D j = 0
          · rw [if_pos dj, if_pos dj]
            exact Nat.le_refl _
          · rw [if_neg dj, if_neg dj]
            have bj := df_cB (D := D) I hj
            unfold df_g
            rw [if_neg (df_bN bj)]
            by_cases l : df_lt (df_c K G (D j) j) (T j) (-1, T x + 1)
            · have cj : df_c K G (D j) j = -1 := by
                unfold df_lt at l
                dsimp only at l
                omega
              have gj := (I.1 j hj).2
              rw [if_pos l, if_pos (by omega)]
              omega
            · rw [if_neg l]
              exact Nat.le_refl _) x1 (by
          rw [df_fE, if_neg (by decide)]
          have c3 : df_c K G 3 x = -1 := rfl
          rw [c3]
          unfold df_f
          rw [if_neg d]
          unfold df_g
          rw [if_neg (df_bN bx), if_pos c, if_pos (by unfold df_lt; dsimp only; omega)]
          omega)
        have k : df_S n T K G (m_u D x 3) (-1, T x + 1) + 1 ≤ df_S n T K G D df_b := k
        omega
      · exact goal (fun z => c (Or.inl z)) (Or.inr (by omega))
-- none left to do: there
def df_th (n : Nat) (K G : Nat → Int) (D : Nat → Nat) : Prop := ∀ i, i < n → if G i = -1 then D i = 0 else (D i ≠ 0 ∧ df_c K G (D i) i = G i)
theorem df_0 {n : Nat} {T K G : Nat → Int} {D : Nat → Nat} (I : df_in n T K G) : (∃ θ, df_S n T K G D θ = 0) ↔ df_th n K G D := by
  constructor
  · rintro ⟨θ, z⟩ i hi
    have f := (df_z (f := df_f T K G D θ) n).mp z i hi
    unfold df_f at f
    by_cases d : D i = 0
    · rw [if_pos d] at f
      unfold df_a at f
      split
      · exact d
      · next g =>
        rw [if_neg g] at f
        cases f
    · rw [if_neg d] at f
      unfold df_g at f
      split at f
      · omega
      · split at f
        · omega
        · next c =>
          split at f
          · omega
          · next c2 =>
            rw [if_neg (fun g => c (Or.inl g))]
            exact ⟨d, by omega⟩
  · intro h
    refine ⟨df_b, (df_z n).mpr (fun i hi => ?_)⟩
    have k := h i hi
    unfold df_f
    by_cases g : G i = -1
    · rw [if_pos g] at k
      rw [if_pos k]
      unfold df_a
      rw [if_pos g]
    · rw [if_neg g] at k
      rw [if_neg k.1]
      unfold df_g
      rw [if_neg (df_bN (df_cB I hi)), if_neg (by omega), if_neg (by omega)]
-- the least over all marks
def df_H (n : Nat) (T K G : Nat → Int) (D : Nat → Nat) (m : Nat) : Prop := (∃ θ, df_S n T K G D θ = m) ∧ ∀ θ, m ≤ df_S n T K G D θ
theorem df_ex {n : Nat} {T K G : Nat → Int} {D : Nat → Nat} : ∃ m, df_H n T K G D m := by
  have key : ∀ k, (∃ θ, df_S n T K G D θ ≤ k) → ∃ m, df_H n T K G D m := by
    intro k
    induction k with
    | zero =>
      rintro ⟨θ, h⟩
      exact ⟨0, ⟨θ, by omega⟩, fun _ => Nat.zero_le _⟩
    | succ k ih =>
      rintro ⟨θ, h⟩
      by_cases c : ∃ θ', df_S n T K G D θ' ≤ k
      · exact ih c
      · refine ⟨df_S n T K G D θ, ⟨θ, rfl⟩, fun θ' => ?_⟩
        apply Classical.byContradiction
        intro q
        exact c ⟨θ', by omega⟩
  exact key _ ⟨df_b, Nat.le_refl _⟩
-- states alike below n
theorem df_SC {n : Nat} {T K G : Nat → Int} {D D' : Nat → Nat} {θ : Int × Int} (h : ∀ i, i < n → D' i = D i) : df_S n T K G D' θ = df_S n T K G D θ := by
  apply Nat.le_antisymm
  · exact df_le n (fun i hi => by
      unfold df_f
      rw [h i hi]
      exact Nat.le_refl _)
  · exact df_le n (fun i hi => by
      unfold df_f
      rw [h i hi]
      exact Nat.le_refl _)
-- at the beginning: marks and how many first ones go
def dc_f (K G : Nat → Int) (g i : Nat) : Nat := if i < g then 1 + df_a (G i) else if G i = -1 ∨ K i < G i then 2 + df_a (G i) else if G i < K i then 1 else 0
theorem df_go {n : Nat} {T K G : Nat → Int} {D : Nat → Nat} {θ : Int × Int} {g : Nat} (d : ∀ i, i < n → D i = 1) (h : ∀ i, i < n → (df_lt (K i) (T i) θ ↔ i < g)) : df_S n T K G D θ = df_s (dc_f K G g) n := by
  have e : ∀ i, i < n → df_f T K G D θ i = dc_f K G g i := fun i hi => by
    have c : df_c K G 1 i = K i := rfl
    unfold df_f dc_f
    rw [d i hi, if_neg (by decide), c]
    unfold df_g
    by_cases l : i < g
    · rw [if_pos l, if_pos ((h i hi).mpr l)]
    · rw [if_neg l, if_neg (fun z => l ((h i hi).mp z))]
  apply Nat.le_antisymm
  · exact df_le n (fun i hi => Nat.le_of_eq (e i hi))
  · exact df_le n (fun i hi => Nat.le_of_eq (e i hi).symm)
theorem df_mk {n : Nat} {T K : Nat → Int} (s : ∀ i j, i < j → j < n → df_lt (K i) (T i) (K j, T j)) (θ : Int × Int) : ∀ k, k ≤ n → ∃ g, g ≤ k ∧ ∀ i, i < k → (df_lt (K i) (T i) θ ↔ i < g)
  | 0, _ => ⟨0, Nat.le_refl _, fun i hi => absurd hi (Nat.not_lt_zero i)⟩
  | k + 1, hk => by
    obtain ⟨g, g1, g2⟩ := df_mk s θ k (by omega)
    by_cases c : df_lt (K k) (T k) θ
    · refine ⟨k + 1, Nat.le_refl _, fun i hi => ⟨fun _ => hi, fun _ => ?_⟩⟩
      by_cases e : i = k
      · subst e
        exact c
      · have l := s i k (by omega) (by omega)
        unfold df_lt at l c ⊢
        dsimp only at l
        omega
    · refine ⟨g, by omega, fun i hi => ?_⟩
      by_cases e : i = k
      · subst e
        exact ⟨fun z => absurd z c, fun z => absurd z (by omega)⟩
      · exact g2 i (by omega)
theorem df_km {n : Nat} {T K : Nat → Int} (s : ∀ i j, i < j → j < n → df_lt (K i) (T i) (K j, T j)) {g : Nat} (hg : g ≤ n) : ∃ θ, ∀ i, i < n → (df_lt (K i) (T i) θ ↔ i < g) := by
  by_cases e : g < n
  · refine ⟨(K g, T g), fun i hi => ⟨fun z => ?_, fun z => s i g z e⟩⟩
    by_cases l : i < g
    · exact l
    · by_cases q : i = g
      · subst q
        unfold df_lt at z
        dsimp only at z
        omega
      · have m := s g i (by omega) hi
        unfold df_lt at z m
        dsimp only at z m
        omega
  · by_cases z : n = 0
    · exact ⟨(0, 0), fun i hi => absurd hi (by omega)⟩
    · refine ⟨(K (n - 1) + 1, 0), fun i hi => ⟨fun _ => by omega, fun _ => ?_⟩⟩
      by_cases q : i = n - 1
      · subst q
        unfold df_lt
        dsimp only
        omega
      · have m := s i (n - 1) (by omega) (by omega)
        unfold df_lt at m ⊢
        dsimp only at m ⊢
        omega
theorem df_beg {n m : Nat} {T K G : Nat → Int} {D : Nat → Nat} (d : ∀ i, i < n → D i = 1) (s : ∀ i j, i < j → j < n → df_lt (K i) (T i) (K j, T j)) (h : (∃ g, g ≤ n ∧ df_s (dc_f K G g) n = m) ∧ ∀ g, g ≤ n → m ≤ df_s (dc_f K G g) n) : df_H n T K G D m := by
  obtain ⟨⟨g, g1, g2⟩, lo⟩ := h
  constructor
  · obtain ⟨θ, hθ⟩ := df_km s g1
    exact ⟨θ, by rw [df_go d hθ]; exact g2⟩
  · intro θ
    obtain ⟨g', k1, k2⟩ := df_mk s θ n (Nat.le_refl _)
    rw [df_go d k2]
    exact lo g' k1
-- the search: states found, in the order in which they were found
def dg_ (s i : Nat) : Nat := s / 4 ^ i % 4
def dq_E (n : Nat) (D : Nat → Nat) (x : Nat) : Prop := x < 4096 ∧ ∀ t, t < n → dg_ x t = D t
def dq_I (n : Nat) (T K G : Nat → Int) (H : Nat) (st : Nat → Int) (qu : Nat → Nat) (q k : Nat) : Prop :=
  (∀ i, i < q → (qu i < 4096 ∧ df_ok n G (dg_ (qu i))) ∧ 0 ≤ st (qu i)) ∧
  (∀ x, x < 4096 → st x ≠ -1 → ∃ i, i < q ∧ qu i = x) ∧
  (∀ i j, i ≤ j → j < q → st (qu i) ≤ st (qu j)) ∧
  (∀ i, i < q → ∀ θ, (H : Int) ≤ (df_S n T K G (dg_ (qu i)) θ : Int) + st (qu i)) ∧
  (∀ i, i < k → ¬ df_th n K G (dg_ (qu i)) ∧ ∀ D', df_mv n T K G (dg_ (qu i)) D' → ∃ x, dq_E n D' x ∧ 0 ≤ st x ∧ st x ≤ st (qu i) + 1) ∧
  (0 < q ∧ (∀ t, t < n → dg_ (qu 0) t = 1) ∧ st (qu 0) = 0)
theorem dq_up {n H q k : Nat} {T K G : Nat → Int} {st : Nat → Int} {qu : Nat → Nat} (N : df_in n T K G) (B : df_H n T K G (fun _ => 1) H) (I : dq_I n T K G H st qu q k) (r : Int) (hr : ∀ i, k ≤ i → i < q → r ≤ st (qu i)) : r ≤ (H : Int) := by
  obtain ⟨I1, I2, -, -, I5, q0, b1, b2⟩ := I
  obtain ⟨⟨θ0, B0⟩, -⟩ := B
  have key : ∀ j, j ≤ H → r ≤ (H : Int) ∨ ∃ i, i < q ∧ st (qu i) ≤ (j : Int) ∧ ∃ θ, df_S n T K G (dg_ (qu i)) θ + j ≤ H := by
    intro j
    induction j with
    | zero =>
      intro _
      refine Or.inr ⟨0, q0, by omega, θ0, ?_⟩
      rw [df_SC (D := fun _ => 1) b1]
      omega
    | succ j ih =>
      intro hj
      rcases ih (by omega) with h | ⟨i, hi, si, θ, Sθ⟩
      · exact Or.inl h
      · by_cases c : i < k
        · obtain ⟨nt, mv⟩ := I5 i c
          obtain ⟨m, m1, m2⟩ := df_ex (n := n) (T := T) (K := K) (G := G) (D := dg_ (qu i))
          have mz : m ≠ 0 := fun z => nt ((df_0 N).mp (by rw [z] at m1; exact m1))
          obtain ⟨θ1, e1⟩ := m1
          obtain ⟨p, ep⟩ : ∃ p, m = p + 1 := ⟨m - 1, by omega⟩
          subst ep
          obtain ⟨D', v1, -, θ2, v2⟩ := df_up N (I1 i hi).1.2 e1 m2
          obtain ⟨x, ⟨x1, x2⟩, x3, x4⟩ := mv D' v1
          obtain ⟨i2, y1, y2⟩ := I2 x x1 (by omega)
          have l := m2 θ
          refine Or.inr ⟨i2, y1, by rw [y2]; omega, θ2, ?_⟩
          rw [y2, df_SC x2]
          omega
        · have := hr i (by omega) hi
          exact Or.inl (by omega)
  rcases key H (Nat.le_refl _) with h | ⟨i, hi, si, θ, Sθ⟩
  · exact h
  · by_cases c : i < k
    · exact absurd ((df_0 N).mp ⟨θ, by omega⟩) (I5 i c).1
    · have := hr i (by omega) hi
      omega
theorem dq_end {n H q k : Nat} {T K G : Nat → Int} {st : Nat → Int} {qu : Nat → Nat} (N : df_in n T K G) (B : df_H n T K G (fun _ => 1) H) (I : dq_I n T K G H st qu q k) (hk : k < q) (th : df_th n K G (dg_ (qu k))) : st (qu k) = (H : Int) := by
  obtain ⟨θ, z⟩ := (df_0 N).mpr th
  have l := I.2.2.2.1 k hk θ
  have u := dq_up N B I (st (qu k)) (fun i h1 h2 => I.2.2.1 k i h1 h2)
  omega
theorem dq_more {n H q k : Nat} {T K G : Nat → Int} {st : Nat → Int} {qu : Nat → Nat} (N : df_in n T K G) (B : df_H n T K G (fun _ => 1) H) (I : dq_I n T K G H st qu q k) : k < q := by
  apply Classical.byContradiction
  intro c
  have u := dq_up N B I ((H : Int) + 1) (fun i h1 h2 => absurd h2 (by omega))
  omega
-- DIFFER, pure: digits as the reference reads and writes them
def dg_w (s i d : Nat) : Nat := s - 4 ^ i * (s / 4 ^ i % 4) + 4 ^ i * d
theorem dg_L (s i : Nat) : dg_ s i ≤ 3 := by
  have : s / 4 ^ i % 4 < 4 := Nat.mod_lt _ (by decide)
  show s / 4 ^ i % 4 ≤ 3
  omega
theorem dg_6 {P : Nat → Prop} (h0 : P 0) (h1 : P 1) (h2 : P 2) (h3 : P 3) (h4 : P 4) (h5 : P 5) {i : Nat} (h : i < 6) : P i := by
  match i, h with
  | 0, _ => exact h0
  | 1, _ => exact h1
  | 2, _ => exact h2
  | 3, _ => exact h3
  | 4, _ => exact h4
  | 5, _ => exact h5
theorem dg_wL {s i d : Nat} (hs : s < 4096) (hi : i < 6) (hd : d < 4) : dg_w s i d < 4096 := by
  refine dg_6 (P := fun i => dg_w s i d < 4096) ?_ ?_ ?_ ?_ ?_ ?_ hi <;> (unfold dg_w; omega)
theorem dg_wE {s i d : Nat} (_ : s < 4096) (hi : i < 6) (hd : d < 4) : dg_ (dg_w s i d) i = d := by
  refine dg_6 (P := fun i => dg_ (dg_w s i d) i = d) ?_ ?_ ?_ ?_ ?_ ?_ hi <;> (unfold dg_ dg_w; simp only [Nat.reducePow]; omega)
theorem dg_wN {s i d t : Nat} (hs : s < 4096) (hi : i < 6) (hd : d < 4) (ht : t < 6) (ne : t ≠ i) : dg_ (dg_w s i d) t = dg_ s t := by
  have h : ∀ t : Nat, t < 6 → t = 0 ∨ t = 1 ∨ t = 2 ∨ t = 3 ∨ t = 4 ∨ t = 5 := fun t h => by omega
  rcases h t ht with rfl | rfl | rfl | rfl | rfl | rfl <;> rcases h i hi with rfl | rfl | rfl | rfl | rfl | rfl <;> first | exact absurd rfl ne | (unfold dg_ dg_w; simp only [Nat.reducePow]; omega)
theorem dg_u {s i d : Nat} (hs : s < 4096) (hi : i < 6) (hd : d < 4) (t : Nat) (ht : t < 6) : dg_ (dg_w s i d) t = m_u (dg_ s) i d t := by
  by_cases e : t = i
  · rw [e, m_uE, dg_wE hs hi hd]
  · rw [m_uN _ _ _ _ e, dg_wN hs hi hd ht e]
def dg_n (a b : Fin 64) : Nat := 64 * a.val + b.val
theorem dg_T : ∀ (i : Fin 6) (a b : Fin 64), ((Int32.ofInt (dg_n a b : Int) >>> ((Int32.ofInt 2 * Int32.ofInt (i.val : Int)) &&& 31)) &&& Int32.ofInt 3).toInt = (dg_ (dg_n a b) i.val : Int) := sorry
theorem dg_W : ∀ (i : Fin 6) (d : Fin 4) (a b : Fin 64), ((Int32.ofInt (dg_n a b : Int) &&& ((Int32.ofInt 3 <<< ((Int32.ofInt 2 * Int32.ofInt (i.val : Int)) &&& 31)) ^^^ Int32.ofInt (-1))) ||| (Int32.ofInt (d.val : Int) <<< ((Int32.ofInt 2 * Int32.ofInt (i.val : Int)) &&& 31))).toInt = (dg_w (dg_n a b) i.val d.val : Int) := sorry
theorem dg_nE {n : Nat} (h : n < 4096) : dg_n ⟨n / 64, by omega⟩ ⟨n % 64, by omega⟩ = n := by
  unfold dg_n
  show 64 * (n / 64) + n % 64 = n
  omega
theorem i_ofN {s : Int32} {n : Nat} (h : s.toInt = (n : Int)) : s = Int32.ofInt (n : Int) := by rw [← h, Int32.ofInt_toInt]
theorem i_digV {s i : Int32} {n k : Nat} (hs : s.toInt = (n : Int)) (n1 : n < 4096) (hi : i.toInt = (k : Int)) (k1 : k < 6) : ((s >>> ((Int32.ofInt 2 * i) &&& 31)) &&& Int32.ofInt 3).toInt = (dg_ n k : Int) := by
  have t := dg_T ⟨k, k1⟩ ⟨n / 64, by omega⟩ ⟨n % 64, by omega⟩
  rw [dg_nE n1] at t
  rw [i_ofN hs, i_ofN hi]
  exact t
theorem i_withV {s i d : Int32} {n k e : Nat} (hs : s.toInt = (n : Int)) (n1 : n < 4096) (hi : i.toInt = (k : Int)) (k1 : k < 6) (hd : d.toInt = (e : Int)) (e1 : e < 4) : ((s &&& ((Int32.ofInt 3 <<< ((Int32.ofInt 2 * i) &&& 31)) ^^^ Int32.ofInt (-1))) ||| (d <<< ((Int32.ofInt 2 * i) &&& 31))).toInt = (dg_w n k e : Int) := by
  have t := dg_W ⟨k, k1⟩ ⟨e, e1⟩ ⟨n / 64, by omega⟩ ⟨n % 64, by omega⟩
  rw [dg_nE n1] at t
  rw [i_ofN hs, i_ofN hi, i_ofN hd]
  exact t
-- DIFFER, pure: one step of the search
def df_ls (n : Nat) (T K G : Nat → Int) (D D' : Nat → Nat) : Prop :=
  (∃ e, e < n ∧ D e ≠ 0 ∧ (∀ i, i < n → i ≠ e → D i ≠ 0 → df_lt (df_c K G (D e) e) (T e) (df_c K G (D i) i, T i)) ∧ D' = m_u D e 0) ∨
  ((∀ i, i < n → D i = 0) ∧ D' = D)
theorem df_lsU {n : Nat} {T K G : Nat → Int} {D D1 D2 : Nat → Nat} (a : df_ls n T K G D D1) (b : df_ls n T K G D D2) : D1 = D2 := by
  rcases a with ⟨e, e1, e2, e3, rfl⟩ | ⟨z, rfl⟩
  · rcases b with ⟨f, f1, f2, f3, rfl⟩ | ⟨z, rfl⟩
    · by_cases q : e = f
      · rw [q]
      · have u := e3 f f1 (Ne.symm q) f2
        have v := f3 e e1 q e2
        unfold df_lt at u v
        dsimp only at u v
        omega
    · exact absurd (z e e1) e2
  · rcases b with ⟨f, f1, f2, f3, rfl⟩ | ⟨z, rfl⟩
    · exact absurd (z f f1) f2
    · rfl
theorem df_lsM {n : Nat} {T K G : Nat → Int} {D D' : Nat → Nat} (a : df_ls n T K G D D') : df_mv n T K G D D' := by
  rcases a with a | a
  · exact Or.inl a
  · exact Or.inr (Or.inl a)
theorem df_lsO {n : Nat} {T K G : Nat → Int} {D D' : Nat → Nat} (a : df_ls n T K G D D') (ok : df_ok n G D) : df_ok n G D' := by
  rcases a with ⟨e, e1, e2, e3, rfl⟩ | ⟨z, rfl⟩
  · intro j hj
    by_cases q : j = e
    · rw [q, m_uE]
      exact ⟨by omega, fun z => by omega⟩
    · rw [m_uN _ _ _ _ q]
      exact ok j hj
  · exact ok
theorem df_okU {n e v : Nat} {G : Nat → Int} {D : Nat → Nat} (ok : df_ok n G D) (v3 : v ≤ 3) (vg : v = 2 → G e ≠ -1) : df_ok n G (m_u D e v) := by
  intro j hj
  by_cases q : j = e
  · rw [q, m_uE]
    exact ⟨v3, vg⟩
  · rw [m_uN _ _ _ _ q]
    exact ok j hj
theorem df_okC {n : Nat} {G : Nat → Int} {D D' : Nat → Nat} (ok : df_ok n G D) (h : ∀ t, t < n → D' t = D t) : df_ok n G D' := fun j hj => by rw [h j hj]; exact ok j hj
def dq_J (n : Nat) (T K G : Nat → Int) (H : Nat) (st : Nat → Int) (qu : Nat → Nat) (q k : Nat) : Prop := dq_I n T K G H st qu q k ∧ (k < q → ∀ i, i < q → st (qu i) ≤ st (qu k) + 1)
-- found at y or before
def dq_F (n : Nat) (st : Nat → Int) (y : Int) (D' : Nat → Nat) : Prop := ∃ x, dq_E n D' x ∧ 0 ≤ st x ∧ st x ≤ y
def dq_le (st st' : Nat → Int) : Prop := ∀ x, st x ≠ -1 → st' x = st x
theorem dq_FL {n : Nat} {st st' : Nat → Int} {y : Int} {D' : Nat → Nat} (l : dq_le st st') (h : dq_F n st y D') : dq_F n st' y D' := by
  obtain ⟨x, x1, x2, x3⟩ := h
  have e := l x (by omega)
  exact ⟨x, x1, by omega, by omega⟩
theorem dq_leU {st : Nat → Int} {x : Nat} {y : Int} (h : st x = -1) : dq_le st (m_u st x y) := fun z hz => m_uN _ _ _ _ (fun e => hz (by rw [e]; exact h))
theorem dq_add {n H q k x : Nat} {T K G : Nat → Int} {st : Nat → Int} {qu : Nat → Nat} {D' : Nat → Nat} (N : df_in n T K G) (I : dq_J n T K G H st qu q k) (hk : k < q) (hx : x < 4096) (z : st x = -1) (m : df_mv n T K G (dg_ (qu k)) D') (ok : df_ok n G D') (e : ∀ t, t < n → dg_ x t = D' t) : dq_J n T K G H (m_u st x (st (qu k) + 1)) (m_u qu q x) (q + 1) k := by
  obtain ⟨⟨I1, I2, I3, I4, I5, q0, b1, b2⟩, J⟩ := I
  have J := J hk
  have ne : ∀ i, i < q → qu i ≠ x := fun i hi c => by
    have := (I1 i hi).2
    rw [c] at this
    omega
  have qo : ∀ i, i < q → m_u qu q x i = qu i := fun i hi => m_uN _ _ _ _ (by omega)
  have so : ∀ i, i < q → m_u st x (st (qu k) + 1) (m_u qu q x i) = st (qu i) := fun i hi => by rw [qo i hi, m_uN _ _ _ _ (ne i hi)]
  have sn : m_u st x (st (qu k) + 1) (m_u qu q x q) = st (qu k) + 1 := by rw [m_uE, m_uE]
  have ko := (I1 k hk).2
  have spl : ∀ i, i < q + 1 → i < q ∨ i = q := fun i hi => by omega
  refine ⟨⟨fun i hi => ?_, fun w hw sw => ?_, fun i j hij hj => ?_, fun i hi θ => ?_, fun i hi => ?_, by omega, ?_, ?_⟩, fun _ i hi => ?_⟩
  · rcases spl i hi with c | c
    · rw [so i c, qo i c]
      exact I1 i c
    · subst c
      rw [sn, m_uE]
      exact ⟨⟨hx, df_okC ok e⟩, by omega⟩
  · by_cases c : w = x
    · exact ⟨q, by omega, by rw [m_uE, c]⟩
    · rw [m_uN _ _ _ _ c] at sw
      obtain ⟨i, i1, i2⟩ := I2 w hw sw
      exact ⟨i, by omega, by rw [qo i i1]; exact i2⟩
  · rcases spl j hj with c | c
    · rw [so j c, so i (by omega)]
      exact I3 i j hij c
    · subst c
      rw [sn]
      rcases spl i (by omega) with d | d
      · rw [so i d]
        exact J i d
      · subst d
        rw [sn]
        exact Int.le_refl _
  · rcases spl i hi with c | c
    · rw [so i c, qo i c]
      exact I4 i c θ
    · subst c
      rw [sn, m_uE, df_SC e]
      obtain ⟨θ0, l⟩ := df_low N m θ
      have := I4 k hk θ0
      omega
  · rw [qo i (by omega), m_uN _ _ _ _ (ne i (by omega))]
    obtain ⟨nt, mv⟩ := I5 i hi
    refine ⟨nt, fun D2 m2 => ?_⟩
    obtain ⟨w, w1, w2, w3⟩ := mv D2 m2
    have wx : w ≠ x := fun c => by rw [c] at w2; omega
    exact ⟨w, w1, by rw [m_uN _ _ _ _ wx]; exact w2, by rw [m_uN _ _ _ _ wx]; exact w3⟩
  · intro t ht
    rw [qo 0 q0]
    exact b1 t ht
  · rw [so 0 q0]
    exact b2
  · rw [so k hk]
    rcases spl i hi with c | c
    · rw [so i c]
      exact J i c
    · subst c
      rw [sn]
      exact Int.le_refl _
-- the step is done
theorem dq_nx {n H q k : Nat} {T K G : Nat → Int} {st : Nat → Int} {qu : Nat → Nat} (I : dq_J n T K G H st qu q k) (hk : k < q) (nt : ¬ df_th n K G (dg_ (qu k))) (mv : ∀ D', df_mv n T K G (dg_ (qu k)) D' → dq_F n st (st (qu k) + 1) D') : dq_J n T K G H st qu q (k + 1) := by
  obtain ⟨⟨I1, I2, I3, I4, I5, b⟩, J⟩ := I
  refine ⟨⟨I1, I2, I3, I4, fun i hi => ?_, b⟩, fun h i hi => ?_⟩
  · by_cases c : i < k
    · exact I5 i c
    · have e : i = k := by omega
      subst e
      exact ⟨nt, mv⟩
  · have a := J hk i hi
    have l := I3 k (k + 1) (by omega) h
    omega
-- the beginning
theorem dq_bg {n H x : Nat} {T K G : Nat → Int} {st : Nat → Int} {qu : Nat → Nat} (B : df_H n T K G (fun _ => 1) H) (hx : x < 4096) (e : ∀ t, t < n → dg_ x t = 1) (hq : qu 0 = x) (s0 : st x = 0) (so : ∀ w, w < 4096 → w ≠ x → st w = -1) : dq_J n T K G H st qu 1 0 := by
  have z : ∀ i, i < 1 → qu i = x := fun i hi => by
    have : i = 0 := by omega
    rw [this]
    exact hq
  refine ⟨⟨fun i hi => ?_, fun w hw sw => ?_, fun i j hij hj => ?_, fun i hi θ => ?_, fun i hi => absurd hi (Nat.not_lt_zero i), by omega, ?_, ?_⟩, fun _ i hi => ?_⟩
  · rw [z i hi]
    exact ⟨⟨hx, fun j hj => by rw [e j hj]; exact ⟨by omega, fun c => by omega⟩⟩, by omega⟩
  · by_cases c : w = x
    · exact ⟨0, by omega, by rw [hq, c]⟩
    · exact absurd (so w hw c) sw
  · rw [z i (by omega), z j hj]
    exact Int.le_refl _
  · rw [z i hi, s0, df_SC (D := fun _ => 1) e]
    have := B.2 θ
    omega
  · rw [hq]
    exact e
  · rw [hq]
    exact s0
  · rw [z i hi, hq]
    omega
-- which moves there are
theorem dq_all {n : Nat} {T K G : Nat → Int} {D : Nat → Nat} {st : Nat → Int} {y : Int} {D0 : Nat → Nat} (l : df_ls n T K G D D0) (f0 : dq_F n st y D0) (f3 : ∀ e, e < n → D e ≠ 0 → dq_F n st y (m_u D e 3)) (f2 : ∀ e, e < n → G e ≠ -1 → (D e = 0 ∨ G e ≤ df_c K G (D e) e) → dq_F n st y (m_u D e 2)) : ∀ D', df_mv n T K G D D' → dq_F n st y D' := by
  intro D' m
  rcases m with a | a | ⟨e, e1, e2, rfl⟩ | ⟨e, e1, e2, e3, rfl⟩
  · rw [df_lsU (Or.inl a) l]
    exact f0
  · rw [df_lsU (Or.inr a) l]
    exact f0
  · exact f3 e e1 e2
  · exact f2 e e1 e2 e3
-- DIFFER: the reference's search, as values
theorem dg_E {n s i d : Nat} (n6 : n ≤ 6) (hs : s < 4096) (hi : i < 6) (hd : d < 4) : dq_E n (m_u (dg_ s) i d) (dg_w s i d) := ⟨dg_wL hs hi hd, fun t ht => dg_u hs hi hd t (by omega)⟩
-- the least of what is there, so far
def df_bt (T K G : Nat → Int) (D : Nat → Nat) (i : Nat) (b : Int) : Prop :=
  (b = -1 ∧ ∀ t, t < i → D t = 0) ∨ ∃ e : Nat, b = (e : Int) ∧ e < i ∧ D e ≠ 0 ∧ ∀ t, t < i → t ≠ e → D t ≠ 0 → df_lt (df_c K G (D e) e) (T e) (df_c K G (D t) t, T t)
theorem df_b0 {T K G : Nat → Int} {D : Nat → Nat} {i : Nat} {b : Int} (h : df_bt T K G D i b) (d : D i = 0) : df_bt T K G D (i + 1) b := by
  rcases h with ⟨h1, h2⟩ | ⟨e, h1, h2, h3, h4⟩
  · refine Or.inl ⟨h1, fun t ht => ?_⟩
    by_cases q : t = i
    · rw [q]
      exact d
    · exact h2 t (by omega)
  · refine Or.inr ⟨e, h1, by omega, h3, fun t ht ne dt => ?_⟩
    by_cases q : t = i
    · rw [q] at dt
      exact absurd d dt
    · exact h4 t (by omega) ne dt
theorem df_b1 {T K G : Nat → Int} {D : Nat → Nat} {i : Nat} (h : df_bt T K G D i (-1)) (d : D i ≠ 0) : df_bt T K G D (i + 1) (i : Int) := by
  rcases h with ⟨-, h2⟩ | ⟨e, h1, -⟩
  · refine Or.inr ⟨i, rfl, by omega, d, fun t ht ne dt => ?_⟩
    exact absurd (h2 t (by omega)) dt
  · omega
theorem df_b2 {T K G : Nat → Int} {D : Nat → Nat} {i e : Nat} (h : df_bt T K G D i (e : Int)) (d : D i ≠ 0) (l : df_lt (df_c K G (D i) i) (T i) (df_c K G (D e) e, T e)) : df_bt T K G D (i + 1) (i : Int) := by
  rcases h with ⟨h1, -⟩ | ⟨f, h1, h2, h3, h4⟩
  · omega
  · have q : f = e := by omega
    subst q
    refine Or.inr ⟨i, rfl, by omega, d, fun t ht ne dt => ?_⟩
    by_cases q : t = f
    · rw [q]
      exact l
    · have k := h4 t (by omega) q dt
      unfold df_lt at k l ⊢
      dsimp only at k l ⊢
      omega
theorem df_b3 {T K G : Nat → Int} {D : Nat → Nat} {i e : Nat} (h : df_bt T K G D i (e : Int)) (l : df_lt (df_c K G (D e) e) (T e) (df_c K G (D i) i, T i)) : df_bt T K G D (i + 1) (e : Int) := by
  rcases h with ⟨h1, -⟩ | ⟨f, h1, h2, h3, h4⟩
  · omega
  · have q : f = e := by omega
    subst q
    refine Or.inr ⟨f, rfl, by omega, h3, fun t ht ne dt => ?_⟩
    by_cases q : t = i
    · rw [q]
      exact l
    · exact h4 t (by omega) ne dt
def df_kb (n : Nat) (K G : Nat → Int) : Prop := ∀ i, i < n → K i ≤ 2147483646 ∧ G i ≤ 2147483646
theorem df_kB {n : Nat} {K G : Nat → Int} {D : Nat → Nat} (kb : df_kb n K G) {i : Nat} (hi : i < n) : df_c K G (D i) i ≤ 2147483646 := by
  have a := kb i hi
  unfold df_c
  split
  · exact a.1
  · split
    · exact a.2
    · omega
-- there, so far
def df_tc (K G : Nat → Int) (D : Nat → Nat) (i : Nat) : Prop := if G i = -1 then D i = 0 else (D i ≠ 0 ∧ df_c K G (D i) i = G i)
theorem df_tE {n : Nat} {K G : Nat → Int} {D : Nat → Nat} : df_th n K G D ↔ ∀ i, i < n → df_tc K G D i := Iff.rfl
theorem df_tN {n i : Nat} {K G : Nat → Int} {D : Nat → Nat} (hi : i < n) (h : ¬ df_tc K G D i) : ¬ df_th n K G D := fun z => h (z i hi)
section
variable {lv : List (Nat × Value)} {Q : Option Value → MH → Prop} {W : List (Nat × Nat)} {ρ : Nat → Nat} {m : Nat} {A : Nat → Nat} {h0 h : MH} {F : Nat → Int} {V : Nat → Nat → Int} {G : Nat → Nat → Int64}
theorem v_iT (M : MX 49 W ρ m A h0 h F V G) {K : Nat} (hK : rg_a 49 K ≠ 0) (j : Nat) : -2147483648 ≤ V K j ∧ V K j ≤ 2147483647 := by
  rw [← ((M.2.2 K hK).2 j).1]
  exact g_iT _
theorem c_digV {s i : Int32} {n k : Nat} (hs : s.toInt = (n : Int)) (n1 : n < 4096) (hi : i.toInt = (k : Int)) (k1 : k < 6) (g : ∀ z : Int32, z.toInt = (dg_ n k : Int) → Q (some (.int z)) h) : HJ 259 0 (lv_args 0 [.int s, .int i]) [] h Q := by
  refine hI_il (k := 0) rfl rfl rfl ?_
  refine hI_ic (n := 2) rfl rfl ?_
  refine hI_il (k := 1) rfl rfl rfl ?_
  refine hI_mul rfl rfl ?_
  refine hI_ishr rfl rfl ?_
  refine hI_ic (n := 3) rfl rfl ?_
  refine hI_iand rfl rfl ?_
  exact hI_ri rfl rfl (g _ (i_digV hs n1 hi k1))
theorem c_withV {s i d : Int32} {n k e : Nat} (hs : s.toInt = (n : Int)) (n1 : n < 4096) (hi : i.toInt = (k : Int)) (k1 : k < 6) (hd : d.toInt = (e : Int)) (e1 : e < 4) (g : ∀ z : Int32, z.toInt = (dg_w n k e : Int) → Q (some (.int z)) h) : HJ 256 0 (lv_args 0 [.int s, .int i, .int d]) [] h Q := by
  refine hI_il (k := 0) rfl rfl rfl ?_
  refine hI_ic (n := 3) rfl rfl ?_
  refine hI_ic (n := 2) rfl rfl ?_
  refine hI_il (k := 1) rfl rfl rfl ?_
  refine hI_mul rfl rfl ?_
  refine hI_ishl rfl rfl ?_
  refine hI_ic (n := -1) rfl rfl ?_
  refine hI_ixor rfl rfl ?_
  refine hI_iand rfl rfl ?_
  refine hI_il (k := 2) rfl rfl rfl ?_
  refine hI_ic (n := 2) rfl rfl ?_
  refine hI_il (k := 1) rfl rfl rfl ?_
  refine hI_mul rfl rfl ?_
  refine hI_ishl rfl rfl ?_
  refine hI_ior rfl rfl ?_
  exact hI_ri rfl rfl (g _ (i_withV hs n1 hi k1 hd e1))
theorem c_keyV {i d : Nat} {xi xd : Int32} (M : MX 49 W ρ m A h0 h F V G) (hi : xi.toInt = (i : Int)) (hd : xd.toInt = (d : Int)) (i1 : i ≤ 5) (g : ∀ x : Int32, x.toInt = df_c (V 53) (V 54) d i → Q (some (.int x)) h) : HJ 260 0 (lv_args 0 [.ref m, .int xi, .int xd]) [] h Q :=
  s_key M rfl rfl hi rfl hd (by omega) (by omega)
    (fun x q a b => g x (by unfold df_c; rw [if_neg (by omega), if_neg (by omega)]; exact q))
    (fun x q a b => g x (by rw [Int.toNat_natCast] at q; unfold df_c; rw [if_neg (by omega), if_pos (by omega)]; exact q))
    (fun x q a => g x (by rw [Int.toNat_natCast] at q; unfold df_c; rw [if_pos (by omega)]; exact q))
theorem l_itV {s n : Nat} {xs : Int32} (M : MX 49 W ρ m A h0 h F V G) (fn : F 51 = (n : Int)) (hs : xs.toInt = (s : Int)) (s1 : s < 4096) (g : ∀ x : Int32, (x.toInt = 1 ∧ df_th n (V 53) (V 54) (dg_ s)) ∨ (x.toInt = 0 ∧ ¬ df_th n (V 53) (V 54) (dg_ s)) → Q (some (.int x)) h) : ∀ (d i : Nat) (lv : List (Nat × Value)) (xi : Int32), i + d = 6 → i ≤ n → (∀ t, t < i → df_tc (V 53) (V 54) (dg_ s) t) → xi.toInt = (i : Int) → m_lk lv 0 = some (.ref m) → m_lk lv 1 = some (.int xs) → m_lk lv 2 = some (.int xi) → HJ 258 2 lv [] h Q := by
  intro d
  induction d with
  | zero =>
    intro i lv xi hd hn P hi e0 e1 e2
    refine s_it2 M e0 e1 hs e2 hi (fun x q _ _ c => g x (Or.inl ⟨q, df_tE.mpr (fun t ht => P t (by omega))⟩)) (fun a1 b1 c7 => by omega)
  | succ d ih =>
    intro i lv xi hd hn P hi e0 e1 e2
    refine s_it2 M e0 e1 hs e2 hi (fun x q _ _ c => g x (Or.inl ⟨q, df_tE.mpr (fun t ht => P t (by omega))⟩)) (fun a1 b1 c7 => ?_)
    have nx : df_tc (V 53) (V 54) (dg_ s) i → ∀ t, t < i + 1 → df_tc (V 53) (V 54) (dg_ s) t := fun h t ht => by
      by_cases q : t = i
      · rw [q]
        exact h
      · exact P t (by omega)
    refine c_digV hs s1 hi (by omega) (fun z hz => ?_)
    refine s_it15 (d := (dg_ s i : Int)) M e0 e1 hs e2 hi hz (by omega) (by omega) (fun x q _ c1 c2 => ?_) (fun lv1 d0 d1 d2 c1 c2 => ?_) (fun x5 q5 lv5 d0 d1 d2 c1 c2 => ?_) (fun x q _ c1 c2 => ?_)
    · rw [Int.toNat_natCast] at c1
      refine g x (Or.inr ⟨q, df_tN (i := i) (by omega) (fun z => ?_)⟩)
      unfold df_tc at z
      rw [if_neg c1] at z
      exact z.1 (by omega)
    · rw [Int.toNat_natCast] at c1
      refine c_keyV M hi hz (by omega) (fun y hy => ?_)
      refine s_it43 M d0 d1 hs d2 hi hy (by omega) (by omega) (fun x2 q2 lv2 b0 b1 b2 c => ?_) (fun x q c => ?_)
      · rw [Int.toNat_natCast] at c
        refine ih (i + 1) lv2 x2 (by omega) (by omega) (nx ?_) (by omega) b0 b1 b2
        unfold df_tc
        rw [if_neg c1]
        exact ⟨by omega, c⟩
      · rw [Int.toNat_natCast] at c
        refine g x (Or.inr ⟨q, df_tN (i := i) (by omega) (fun z => ?_)⟩)
        unfold df_tc at z
        rw [if_neg c1] at z
        exact c z.2
    · rw [Int.toNat_natCast] at c1
      refine ih (i + 1) lv5 x5 (by omega) (by omega) (nx ?_) (by omega) d0 d1 d2
      unfold df_tc
      rw [if_pos c1]
      omega
    · rw [Int.toNat_natCast] at c1
      refine g x (Or.inr ⟨q, df_tN (i := i) (by omega) (fun z => ?_)⟩)
      unfold df_tc at z
      rw [if_pos c1] at z
      omega
theorem c_isThereV {s n : Nat} {xs : Int32} (M : MX 49 W ρ m A h0 h F V G) (fn : F 51 = (n : Int)) (hs : xs.toInt = (s : Int)) (s1 : s < 4096) (g : ∀ x : Int32, (x.toInt = 1 ∧ df_th n (V 53) (V 54) (dg_ s)) ∨ (x.toInt = 0 ∧ ¬ df_th n (V 53) (V 54) (dg_ s)) → Q (some (.int x)) h) : HJ 258 0 (lv_args 0 [.ref m, .int xs]) [] h Q :=
  s_it0 M rfl rfl hs (fun x1 q1 lv2 e0 e1 e2 => l_itV M fn hs s1 g 6 0 lv2 x1 rfl (Nat.zero_le _) (fun t ht => absurd ht (Nat.not_lt_zero t)) q1 e0 e1 e2)
theorem s_lex50 {s b i y z : Int} (M : MX 49 W ρ m A h0 h F V G) (e0 : m_lk lv 0 = some (.ref m)) {lx1 : Int32} (e1 : m_lk lv 1 = some (.int lx1)) (lq1 : lx1.toInt = s) {lx2 : Int32} (e2 : m_lk lv 2 = some (.int lx2)) (lq2 : lx2.toInt = b) {lx3 : Int32} (e3 : m_lk lv 3 = some (.int lx3)) (lq3 : lx3.toInt = i) {sx0 : Int32} (sq0 : sx0.toInt = y) {sx1 : Int32} (sq1 : sx1.toInt = z) (i0 : 0 ≤ i) (i1 : i ≤ 5) (b0 : 0 ≤ b) (b1 : b ≤ 5) (d0 : -2147483648 ≤ y - z) (d1 : y - z ≤ 2147483647)
    (g0 : ∀ x4 : Int32, x4.toInt = i + 1 → ∀ lv4 : List (Nat × Value), m_lk lv4 0 = some (.ref m) → m_lk lv4 1 = some (.int lx1) → m_lk lv4 2 = some (.int lx3) → m_lk lv4 3 = some (.int x4) → y - z < 0 → HJ 261 4 lv4 [] h Q)
    (g1 : ∀ x6 : Int32, x6.toInt = i + 1 → ∀ lv6 : List (Nat × Value), m_lk lv6 0 = some (.ref m) → m_lk lv6 1 = some (.int lx1) → m_lk lv6 2 = some (.int lx2) → m_lk lv6 3 = some (.int x6) → y - z ≥ 0 → y - z ≠ 0 → HJ 261 4 lv6 [] h Q)
    (g2 : ∀ x10 : Int32, x10.toInt = i + 1 → ∀ lv10 : List (Nat × Value), m_lk lv10 0 = some (.ref m) → m_lk lv10 1 = some (.int lx1) → m_lk lv10 2 = some (.int lx2) → m_lk lv10 3 = some (.int x10) → y - z ≥ 0 → y - z = 0 → V 52 (i).toNat ≥ V 52 (b).toNat → HJ 261 4 lv10 [] h Q)
    (g3 : ∀ x12 : Int32, x12.toInt = i + 1 → ∀ lv12 : List (Nat × Value), m_lk lv12 0 = some (.ref m) → m_lk lv12 1 = some (.int lx1) → m_lk lv12 2 = some (.int lx3) → m_lk lv12 3 = some (.int x12) → y - z ≥ 0 → y - z = 0 → V 52 (i).toNat < V 52 (b).toNat → HJ 261 4 lv12 [] h Q)
    : HJ 261 50 lv [.int sx1, .int sx0] h Q := by
  refine hM_sub rfl sq0 sq1 (by omega) (by omega) rfl (fun x1 q1 => ?_) -- 50
  refine hM_si2 (k := 5) rfl (by decide +kernel) rfl (fun lv2 e2_5 u2 => ?_) -- 51
  have e2_0 := u2 0 _ (by decide) (Or.inl rfl) e0
  have e2_1 := u2 1 _ (by decide) (Or.inl rfl) e1
  have e2_2 := u2 2 _ (by decide) (Or.inl rfl) e2
  have e2_3 := u2 3 _ (by decide) (Or.inl rfl) e3
  refine hI_il2 (k := 5) rfl e2_5 rfl ?_ -- 53
  refine hM_zlt (off := 23) (t := 78) rfl q1 (by decide) rfl (fun c55 => ?_) (fun c55 => ?_) -- 55
  · refine hI_il (k := 3) rfl e2_3 rfl ?_ -- 78
    refine hI_go (pc' := 83) (off := 4) rfl (by decide) ?_ -- 79
    refine hM_si (k := 2) rfl (by decide +kernel) rfl (fun lv3 e3_2 u3 => ?_) -- 83
    have e3_0 := u3 0 _ (by decide) (Or.inl rfl) e2_0
    have e3_1 := u3 1 _ (by decide) (Or.inl rfl) e2_1
    have e3_3 := u3 3 _ (by decide) (Or.inl rfl) e2_3
    have e3_5 := u3 5 _ (by decide) (Or.inl rfl) e2_5
    refine hM_inc (k := 3) (z := 1) rfl e3_3 lq3 (by decide) (by omega) (by omega) (by decide +kernel) rfl (fun lv4 x4 q4 e4_3 u4 => ?_) -- 84
    have e4_0 := u4 0 _ (by decide) (Or.inl rfl) e3_0
    have e4_1 := u4 1 _ (by decide) (Or.inl rfl) e3_1
    have e4_5 := u4 5 _ (by decide) (Or.inl rfl) e3_5
    have e4_2 := u4 2 _ (by decide) (Or.inl rfl) e3_2
    refine hI_go (pc' := 4) (off := (-83)) rfl (by decide) ?_ -- 87
    exact g0 x4 q4 lv4 e4_0 e4_1 e4_2 e4_3 c55
  · refine hI_il2 (k := 5) rfl e2_5 rfl ?_ -- 58
    refine hM_zne (off := 22) (t := 82) rfl q1 (by decide) rfl (fun c60 => ?_) (fun c60 => ?_) -- 60
    · refine hI_il (k := 2) rfl e2_2 rfl ?_ -- 82
      refine hM_si (k := 2) rfl (by decide +kernel) rfl (fun lv5 e5_2 u5 => ?_) -- 83
      have e5_0 := u5 0 _ (by decide) (Or.inl rfl) e2_0
      have e5_1 := u5 1 _ (by decide) (Or.inl rfl) e2_1
      have e5_3 := u5 3 _ (by decide) (Or.inl rfl) e2_3
      have e5_5 := u5 5 _ (by decide) (Or.inl rfl) e2_5
      refine hM_inc (k := 3) (z := 1) rfl e5_3 lq3 (by decide) (by omega) (by omega) (by decide +kernel) rfl (fun lv6 x6 q6 e6_3 u6 => ?_) -- 84
      have e6_0 := u6 0 _ (by decide) (Or.inl rfl) e5_0
      have e6_1 := u6 1 _ (by decide) (Or.inl rfl) e5_1
      have e6_5 := u6 5 _ (by decide) (Or.inl rfl) e5_5
      have e6_2 := u6 2 _ (by decide) (Or.inl rfl) e5_2
      refine hI_go (pc' := 4) (off := (-83)) rfl (by decide) ?_ -- 87
      exact g1 x6 q6 lv6 e6_0 e6_1 e6_2 e6_3 c55 c60
    · refine hI_al (k := 0) rfl e2_0 rfl ?_ -- 63
      refine hM_ga M (by decide) rfl rfl (k := 52) (c := 9) rfl rfl rfl (by decide +kernel) rfl ?_ -- 64
      refine hI_il (k := 3) rfl e2_3 rfl ?_ -- 67
      refine hM_ia M (by decide) (K := 52) (R2 := 83) (L := 6) (H := 6) (lo := (-2147483648)) (hi := 2147483647) rfl (by decide) rfl rfl (fun _ => rfl) rfl lq3 (by omega) (by omega) rfl (fun x7 q7 a7 b7 => ?_) -- 68
      refine hI_al (k := 0) rfl e2_0 rfl ?_ -- 69
      refine hM_ga M (by decide) rfl rfl (k := 52) (c := 9) rfl rfl rfl (by decide +kernel) rfl ?_ -- 70
      refine hI_il (k := 2) rfl e2_2 rfl ?_ -- 73
      refine hM_ia M (by decide) (K := 52) (R2 := 83) (L := 6) (H := 6) (lo := (-2147483648)) (hi := 2147483647) rfl (by decide) rfl rfl (fun _ => rfl) rfl lq2 (by omega) (by omega) rfl (fun x8 q8 a8 b8 => ?_) -- 74
      refine hM_cge (off := 7) (t := 82) rfl q7 q8 (by decide) rfl (fun c75 => ?_) (fun c75 => ?_) -- 75
      · refine hI_il (k := 2) rfl e2_2 rfl ?_ -- 82
        refine hM_si (k := 2) rfl (by decide +kernel) rfl (fun lv9 e9_2 u9 => ?_) -- 83
        have e9_0 := u9 0 _ (by decide) (Or.inl rfl) e2_0
        have e9_1 := u9 1 _ (by decide) (Or.inl rfl) e2_1
        have e9_3 := u9 3 _ (by decide) (Or.inl rfl) e2_3
        have e9_5 := u9 5 _ (by decide) (Or.inl rfl) e2_5
        refine hM_inc (k := 3) (z := 1) rfl e9_3 lq3 (by decide) (by omega) (by omega) (by decide +kernel) rfl (fun lv10 x10 q10 e10_3 u10 => ?_) -- 84
        have e10_0 := u10 0 _ (by decide) (Or.inl rfl) e9_0
        have e10_1 := u10 1 _ (by decide) (Or.inl rfl) e9_1
        have e10_5 := u10 5 _ (by decide) (Or.inl rfl) e9_5
        have e10_2 := u10 2 _ (by decide) (Or.inl rfl) e9_2
        refine hI_go (pc' := 4) (off := (-83)) rfl (by decide) ?_ -- 87
        exact g2 x10 q10 lv10 e10_0 e10_1 e10_2 e10_3 c55 c60 c75
      · refine hI_il (k := 3) rfl e2_3 rfl ?_ -- 78
        refine hI_go (pc' := 83) (off := 4) rfl (by decide) ?_ -- 79
        refine hM_si (k := 2) rfl (by decide +kernel) rfl (fun lv11 e11_2 u11 => ?_) -- 83
        have e11_0 := u11 0 _ (by decide) (Or.inl rfl) e2_0
        have e11_1 := u11 1 _ (by decide) (Or.inl rfl) e2_1
        have e11_3 := u11 3 _ (by decide) (Or.inl rfl) e2_3
        have e11_5 := u11 5 _ (by decide) (Or.inl rfl) e2_5
        refine hM_inc (k := 3) (z := 1) rfl e11_3 lq3 (by decide) (by omega) (by omega) (by decide +kernel) rfl (fun lv12 x12 q12 e12_3 u12 => ?_) -- 84
        have e12_0 := u12 0 _ (by decide) (Or.inl rfl) e11_0
        have e12_1 := u12 1 _ (by decide) (Or.inl rfl) e11_1
        have e12_5 := u12 5 _ (by decide) (Or.inl rfl) e11_5
        have e12_2 := u12 2 _ (by decide) (Or.inl rfl) e11_2
        refine hI_go (pc' := 4) (off := (-83)) rfl (by decide) ?_ -- 87
        exact g3 x12 q12 lv12 e12_0 e12_1 e12_2 e12_3 c55 c60 c75
theorem l_leV {s n : Nat} {xs : Int32} (M : MX 49 W ρ m A h0 h F V G) (fn : F 51 = (n : Int)) (n6 : n ≤ 6) (N : df_in n (V 52) (V 53) (V 54)) (kb : df_kb n (V 53) (V 54)) (hs : xs.toInt = (s : Int)) (s1 : s < 4096) (g : ∀ (x : Int32) (z : Nat) (D' : Nat → Nat), x.toInt = (z : Int) → df_ls n (V 52) (V 53) (V 54) (dg_ s) D' → dq_E n D' z → Q (some (.int x)) h) : ∀ (d i : Nat) (lv : List (Nat × Value)) (xb xi : Int32), i + d = 6 → i ≤ n → df_bt (V 52) (V 53) (V 54) (dg_ s) i xb.toInt → xi.toInt = (i : Int) → m_lk lv 0 = some (.ref m) → m_lk lv 1 = some (.int xs) → m_lk lv 2 = some (.int xb) → m_lk lv 3 = some (.int xi) → HJ 261 4 lv [] h Q := by
  -- the end
  have fin : ∀ (i : Nat) (xb : Int32), i = n → df_bt (V 52) (V 53) (V 54) (dg_ s) i xb.toInt → xb.toInt ≠ -1 → ∀ (lv : List (Nat × Value)) (x3 : Int32), x3.toInt = 0 → HJ 256 0 (lv_args 0 [.int xs, .int xb, .int x3]) [] h (fun v h' => HJ 261 105 lv (v.toList ++ []) h' Q) := fun i xb hin B nb lv x3 q3 => by
    subst hin
    rcases B with ⟨h1, -⟩ | ⟨e, h1, h2, h3, h4⟩
    · exact absurd h1 nb
    · refine c_withV (e := 0) hs s1 h1 (by omega) q3 (by decide) (fun z hz => s_le105 (z := z.toInt) M rfl ?_)
      exact g z _ _ hz (Or.inl ⟨e, h2, h3, h4, rfl⟩) (dg_E n6 s1 (by omega) (by decide))
  have non : ∀ (i : Nat) (b : Int), i = n → df_bt (V 52) (V 53) (V 54) (dg_ s) i b → b = -1 → Q (some (.int xs)) h := fun i b hin B hb => by
    subst hin
    rcases B with ⟨-, h2⟩ | ⟨e, h1, -⟩
    · exact g xs s _ hs (Or.inr ⟨h2, rfl⟩) ⟨s1, fun _ _ => rfl⟩
    · omega
  intro d
  induction d with
  | zero =>
    intro i lv xb xi hd hn B hi e0 e1 e2 e3
    refine s_le4 M e0 e1 hs e2 rfl e3 hi (fun x3 q3 a1 b1 c9 c92 => fin i xb (by omega) B c92 lv x3 q3) (fun _ _ c9 c => non i _ (by omega) B c) (fun a1 b1 c9 => by omega)
  | succ d ih =>
    intro i lv xb xi hd hn B hi e0 e1 e2 e3
    refine s_le4 M e0 e1 hs e2 rfl e3 hi (fun x3 q3 a1 b1 c9 c92 => fin i xb (by omega) B c92 lv x3 q3) (fun _ _ c9 c => non i _ (by omega) B c) (fun a1 b1 c9 => ?_)
    refine c_digV hs s1 hi (by omega) (fun z hz => ?_)
    refine s_le17 (d := (dg_ s i : Int)) M e0 e1 hs e2 rfl e3 hi hz (by omega) (by omega) (fun x2 q2 lv2 d0 d1 d2 d3 c => ih (i + 1) lv2 xb x2 (by omega) (by omega) (df_b0 B (by omega)) (by omega) d0 d1 d2 d3) (fun lv1 d0 d1 d2 d3 c c26 => ?_) (fun x7 q7 lv7 d0 d1 d2 d3 c c2 => ih (i + 1) lv7 xi x7 (by omega) (by omega) (by rw [hi]; rw [c2] at B; exact df_b1 B (by omega)) (by omega) d0 d1 d2 d3)
    obtain ⟨e, he, hei⟩ : ∃ e : Nat, xb.toInt = (e : Int) ∧ e < i := by
      rcases B with ⟨h1, -⟩ | ⟨e, h1, h2, -⟩
      · exact absurd h1 c26
      · exact ⟨e, h1, h2⟩
    rw [he] at B
    refine c_keyV M hi hz (by omega) (fun y hy => ?_)
    refine s_le40 M d0 d1 hs d2 he d3 hi hy (c_digV hs s1 he (by omega) (fun z2 hz2 => ?_))
    refine s_le47 M d0 d1 hs d2 he d3 hi hy he hz2 ?_
    refine c_keyV M he hz2 (by omega) (fun y2 hy2 => ?_)
    have r1 : -1 ≤ df_c (V 53) (V 54) (dg_ s i) i := df_cB N (by omega)
    have r2 : -1 ≤ df_c (V 53) (V 54) (dg_ s e) e := df_cB N (by omega)
    have t1 : df_c (V 53) (V 54) (dg_ s i) i ≤ 2147483646 := df_kB kb (by omega)
    have t2 : df_c (V 53) (V 54) (dg_ s e) e ≤ 2147483646 := df_kB kb (by omega)
    have tn := N.2 i e (by omega) (by omega) (by omega)
    have di : dg_ s i ≠ 0 := by omega
    refine s_lex50 M d0 d1 hs d2 he d3 hi hy hy2 (by omega) (by omega) (by omega) (by omega) (by omega) (by omega)
      (fun x4 q4 lv4 k0 k1 k2 k3 c1 => ih (i + 1) lv4 xi x4 (by omega) (by omega) ?_ (by omega) k0 k1 k2 k3)
      (fun x4 q4 lv4 k0 k1 k2 k3 c1 c2 => ih (i + 1) lv4 xb x4 (by omega) (by omega) ?_ (by omega) k0 k1 k2 k3)
      (fun x4 q4 lv4 k0 k1 k2 k3 c1 c2 c3 => ih (i + 1) lv4 xb x4 (by omega) (by omega) ?_ (by omega) k0 k1 k2 k3)
      (fun x4 q4 lv4 k0 k1 k2 k3 c1 c2 c3 => ih (i + 1) lv4 xi x4 (by omega) (by omega) ?_ (by omega) k0 k1 k2 k3)
    · rw [hi]
      refine df_b2 B di ?_
      unfold df_lt
      dsimp only
      omega
    · rw [he]
      refine df_b3 B ?_
      unfold df_lt
      dsimp only
      omega
    · rw [he]
      rw [Int.toNat_natCast, Int.toNat_natCast] at c3
      refine df_b3 B ?_
      unfold df_lt
      dsimp only
      omega
    · rw [hi]
      rw [Int.toNat_natCast, Int.toNat_natCast] at c3
      refine df_b2 B di ?_
      unfold df_lt
      dsimp only
      omega
theorem c_lessV {s n : Nat} {xs : Int32} (M : MX 49 W ρ m A h0 h F V G) (fn : F 51 = (n : Int)) (n6 : n ≤ 6) (N : df_in n (V 52) (V 53) (V 54)) (kb : df_kb n (V 53) (V 54)) (hs : xs.toInt = (s : Int)) (s1 : s < 4096) (g : ∀ (x : Int32) (z : Nat) (D' : Nat → Nat), x.toInt = (z : Int) → df_ls n (V 52) (V 53) (V 54) (dg_ s) D' → dq_E n D' z → Q (some (.int x)) h) : HJ 261 0 (lv_args 0 [.ref m, .int xs]) [] h Q :=
  s_le0 M rfl rfl hs (fun x1 q1 x3 q3 lv4 e0 e1 e2 e3 => l_leV M fn n6 N kb hs s1 g 6 0 lv4 x1 x3 rfl (Nat.zero_le _) (Or.inl ⟨q1, fun t ht => absurd ht (Nat.not_lt_zero t)⟩) q3 e0 e1 e2 e3)
end
-- DIFFER: the reference's search, as values: the queue
def fs_I (n H : Nat) (F0 : Nat → Int) (V0 : Nat → Nat → Int) (k : Nat) (F : Nat → Int) (V : Nat → Nat → Int) : Prop :=
  z_q F V ∧ (∀ j, j ≠ 57 → F j = F0 j) ∧ (∀ j, j ≠ 55 → j ≠ 56 → V j = V0 j) ∧ dq_J n (V0 52) (V0 53) (V0 54) H (V 55) (fun i => (V 56 i).toNat) (F 57).toNat k
theorem fs_add {n H k x : Nat} {F0 F F9 : Nat → Int} {V0 V V5 : Nat → Nat → Int} {y : Int} {D' : Nat → Nat} (N : df_in n (V0 52) (V0 53) (V0 54)) (I : fs_I n H F0 V0 k F V) (hk : (k : Int) < F 57) (z : V 55 x = -1) (e : dq_E n D' x) (mv : df_mv n (V0 52) (V0 53) (V0 54) (dg_ (V 56 k).toNat) D') (ok : df_ok n (V0 54) D') (hy : y = V 55 (V 56 k).toNat + 1) (f9 : F9 = m_u F 57 (F 57 + 1)) (v55 : V5 55 = m_u (V 55) x y) (v56 : V5 56 = m_u (V 56) (F 57).toNat (x : Int)) (vo : ∀ j, j ≠ 55 → j ≠ 56 → V5 j = V j) : fs_I n H F0 V0 k F9 V5 ∧ (k : Int) < F9 57 ∧ V5 56 k = V 56 k ∧ dq_le (V 55) (V5 55) ∧ dq_F n (V5 55) y D' := by
  obtain ⟨⟨i1, i2, i3⟩, fo, wo, J⟩ := I
  have f57 : F9 57 = F 57 + 1 := by rw [f9, m_uE]
  have kq : k < (F 57).toNat := by omega
  have ko : 0 ≤ V 55 (V 56 k).toNat := (J.1.1 k kq).2
  have ks : (V 56 k).toNat < 4096 := (J.1.1 k kq).1.1
  have kb : V 55 (V 56 k).toNat ≤ F 57 := by
    rcases i3 (V 56 k).toNat ks with c | c
    · omega
    · exact c.2
  have q1 : (F9 57).toNat = (F 57).toNat + 1 := by omega
  have q2 : (fun i => (V5 56 i).toNat) = m_u (fun i => (V 56 i).toNat) (F 57).toNat x := funext (fun i => by
    show (V5 56 i).toNat = _
    rw [v56]
    by_cases c : i = (F 57).toNat
    · rw [c, m_uE, m_uE, Int.toNat_natCast]
    · rw [m_uN _ _ _ _ c, m_uN _ _ _ _ c])
  refine ⟨⟨⟨?_, by omega, fun j hj => ?_⟩, fun j hj => by rw [f9, m_uN _ _ _ _ hj, fo j hj], fun j h1 h2 => by rw [vo j h1 h2, wo j h1 h2], ?_⟩, by omega, by rw [v56, m_uN _ _ _ _ (by omega)], by rw [v55]; exact dq_leU z, x, e, ?_, ?_⟩
  · rw [v55, z_cmU z (by omega) e.1, f57]
    omega
  · rw [v55, f57]
    by_cases c : j = x
    · rw [c, m_uE]
      exact Or.inr (by omega)
    · rw [m_uN _ _ _ _ c]
      rcases i3 j hj with c | c
      · exact Or.inl c
      · exact Or.inr (by omega)
  · rw [q1, q2, v55, hy]
    exact dq_add N J kq e.1 z mv ok e.2
  · rw [v55, m_uE]
    omega
  · rw [v55, m_uE]
    exact Int.le_refl _
theorem fs_old {n H k x : Nat} {F0 F : Nat → Int} {V0 V : Nat → Nat → Int} {y : Int} {D' : Nat → Nat} (I : fs_I n H F0 V0 k F V) (hk : (k : Int) < F 57) (z : V 55 x ≠ -1) (e : dq_E n D' x) (hy : y = V 55 (V 56 k).toNat + 1) : dq_F n (V 55) y D' := by
  obtain ⟨⟨i1, i2, i3⟩, fo, wo, J⟩ := I
  have kq : k < (F 57).toNat := by omega
  obtain ⟨i, j1, j2⟩ := J.1.2.1 x e.1 z
  have l : V 55 ((fun i => (V 56 i).toNat) i) ≤ V 55 (V 56 k).toNat + 1 := J.2 kq i j1
  have o : 0 ≤ V 55 ((fun i => (V 56 i).toNat) i) := (J.1.1 i j1).2
  rw [j2] at l o
  exact ⟨x, e, o, by omega⟩
-- what of one state has been found
def fs_A (n : Nat) (V0 : Nat → Nat → Int) (s : Nat) (y : Int) (i3 i2 : Nat) (V : Nat → Nat → Int) : Prop :=
  (∃ D0, df_ls n (V0 52) (V0 53) (V0 54) (dg_ s) D0 ∧ dq_F n (V 55) y D0) ∧ (∀ e, e < i3 → dg_ s e ≠ 0 → dq_F n (V 55) y (m_u (dg_ s) e 3)) ∧ (∀ e, e < i2 → V0 54 e ≠ -1 → (dg_ s e = 0 ∨ V0 54 e ≤ df_c (V0 53) (V0 54) (dg_ s e) e) → dq_F n (V 55) y (m_u (dg_ s) e 2))
theorem fs_AL {n s i3 i2 : Nat} {V0 V V' : Nat → Nat → Int} {y : Int} (l : dq_le (V 55) (V' 55)) (a : fs_A n V0 s y i3 i2 V) : fs_A n V0 s y i3 i2 V' := by
  obtain ⟨⟨D0, a1, a2⟩, a3, a4⟩ := a
  exact ⟨⟨D0, a1, dq_FL l a2⟩, fun e he de => dq_FL l (a3 e he de), fun e he ge ce => dq_FL l (a4 e he ge ce)⟩
theorem fs_A3 {n s i3 i2 : Nat} {V0 V : Nat → Nat → Int} {y : Int} (a : fs_A n V0 s y i3 i2 V) (h : dg_ s i3 ≠ 0 → dq_F n (V 55) y (m_u (dg_ s) i3 3)) : fs_A n V0 s y (i3 + 1) i2 V := by
  obtain ⟨a1, a3, a4⟩ := a
  refine ⟨a1, fun e he de => ?_, a4⟩
  by_cases q : e = i3
  · subst q
    exact h de
  · exact a3 e (by omega) de
theorem fs_A2 {n s i3 i2 : Nat} {V0 V : Nat → Nat → Int} {y : Int} (a : fs_A n V0 s y i3 i2 V) (h : V0 54 i2 ≠ -1 → (dg_ s i2 = 0 ∨ V0 54 i2 ≤ df_c (V0 53) (V0 54) (dg_ s i2) i2) → dq_F n (V 55) y (m_u (dg_ s) i2 2)) : fs_A n V0 s y i3 (i2 + 1) V := by
  obtain ⟨a1, a3, a4⟩ := a
  refine ⟨a1, a3, fun e he ge ce => ?_⟩
  by_cases q : e = i2
  · subst q
    exact h ge ce
  · exact a4 e (by omega) ge ce
theorem fs_nx {n H k : Nat} {F0 F : Nat → Int} {V0 V : Nat → Nat → Int} {y : Int} (I : fs_I n H F0 V0 k F V) (hk : (k : Int) < F 57) (nt : ¬ df_th n (V0 53) (V0 54) (dg_ (V 56 k).toNat)) (hy : y = V 55 (V 56 k).toNat + 1) (a : fs_A n V0 (V 56 k).toNat y n n V) : fs_I n H F0 V0 (k + 1) F V := by
  obtain ⟨z, fo, wo, J⟩ := I
  obtain ⟨⟨D0, a1, a2⟩, a3, a4⟩ := a
  refine ⟨z, fo, wo, dq_nx J (by omega) nt (fun D' m => ?_)⟩
  have k := dq_all a1 a2 a3 a4 D' m
  rw [hy] at k
  exact k
theorem fs_bg {n H x : Nat} {F0 F : Nat → Int} {V0 V : Nat → Nat → Int} (B : df_H n (V0 52) (V0 53) (V0 54) (fun _ => 1) H) (hx : x < 4096) (e : ∀ t, t < n → dg_ x t = 1) (f57 : F 57 = 1) (fo : ∀ j, j ≠ 57 → F j = F0 j) (vo : ∀ j, j ≠ 55 → j ≠ 56 → V j = V0 j) (a : Nat → Int) (ha : ∀ w, w < 4096 → a w = -1) (v55 : V 55 = m_u a x 0) (v56 : V 56 0 = (x : Int)) : fs_I n H F0 V0 0 F V := by
  refine ⟨⟨?_, by omega, fun j hj => ?_⟩, fo, vo, ?_⟩
  · rw [v55, z_cmU (ha x hx) (by decide) hx, f57]
    omega
  · rw [v55]
    by_cases c : j = x
    · rw [c, m_uE]
      exact Or.inr (by omega)
    · rw [m_uN _ _ _ _ c]
      exact Or.inl (ha j hj)
  · have q1 : (F 57).toNat = 1 := by omega
    rw [q1]
    exact dq_bg B hx e (by show (V 56 0).toNat = x; omega) (by rw [v55, m_uE]) (fun w hw ne => by rw [v55, m_uN _ _ _ _ ne]; exact ha w hw)
section
variable {lv : List (Nat × Value)} {Q : Option Value → MH → Prop} {W : List (Nat × Nat)} {ρ : Nat → Nat} {m : Nat} {A : Nat → Nat} {h0 h : MH} {F : Nat → Int} {V : Nat → Nat → Int} {G : Nat → Nat → Int64}
theorem c_comesV {x k n H : Nat} {xs xy : Int32} {F0 : Nat → Int} {V0 : Nat → Nat → Int} {D' : Nat → Nat} (M : MX 49 W ρ m A h0 h F V G) (hw : d_sub g_cts W = true) (N : df_in n (V0 52) (V0 53) (V0 54)) (I : fs_I n H F0 V0 k F V) (hk : (k : Int) < F 57) (hx : xs.toInt = (x : Int)) (e : dq_E n D' x) (mv : df_mv n (V0 52) (V0 53) (V0 54) (dg_ (V 56 k).toNat) D') (ok : df_ok n (V0 54) D') (hy : xy.toInt = V 55 (V 56 k).toNat + 1) (g : ∀ (h' : MH) (F' : Nat → Int) (V' : Nat → Nat → Int), MX 49 W ρ m A h0 h' F' V' G → fs_I n H F0 V0 k F' V' → (k : Int) < F' 57 → V' 56 k = V 56 k → dq_le (V 55) (V' 55) → dq_F n (V' 55) xy.toInt D' → Q none h') : HJ 257 0 (lv_args 0 [.ref m, .int xs, .int xy]) [] h Q := by
  have i2 := I.1.2.1
  have x1 := e.1
  refine s_ct M rfl rfl hx rfl rfl (by omega) (by omega) (fun z => ?_) i2 (g_iT xy) hw (fun c => ?_) (fun h3 V3 f3 h5 V5 f5 h9 F9 f9 M9 c7 _ _ => ?_)
  · rw [Int.toNat_natCast] at z
    have := z_cmS (n := 4096) z x1
    have := I.1.1
    omega
  · rw [Int.toNat_natCast] at c
    exact g h F V M I hk rfl (fun _ _ => rfl) (fs_old I hk c e hy)
  · rw [Int.toNat_natCast] at f3 c7
    have v55 : V5 55 = m_u (V 55) x xy.toInt := by rw [f5, m_uN _ _ _ _ (by decide), f3, m_uE]
    have v56 : V5 56 = m_u (V 56) (F 57).toNat (x : Int) := by rw [f5, m_uE, f3, m_uN _ _ _ _ (by decide)]
    obtain ⟨r1, r2, r3, r4, r5⟩ := fs_add N I hk c7 e mv ok hy f9 v55 v56 (fun j a b => by rw [f5, m_uN _ _ _ _ b, f3, m_uN _ _ _ _ a])
    exact g h9 F9 V5 M9 r1 r2 r3 r4 r5
theorem l_fsV112 {n H k s : Nat} {xk xs xy : Int32} {F0 : Nat → Int} {V0 : Nat → Nat → Int} (hw : d_sub g_cts W = true) (n6 : n ≤ 6) (f51 : F0 51 = (n : Int)) (N : df_in n (V0 52) (V0 53) (V0 54)) (hk : xk.toInt = (k : Int)) (k1 : k < 4096) (hs : xs.toInt = (s : Int)) (s1 : s < 4096) (y0 : 1 ≤ xy.toInt) (oks : df_ok n (V0 54) (dg_ s)) (nt : ¬ df_th n (V0 53) (V0 54) (dg_ s)) (g : ∀ (lv : List (Nat × Value)) (h : MH) (F : Nat → Int) (V : Nat → Nat → Int) (xk' : Int32), MX 49 W ρ m A h0 h F V G → fs_I n H F0 V0 (k + 1) F V → xk'.toInt = ((k + 1 : Nat) : Int) → m_lk lv 0 = some (.ref m) → m_lk lv 2 = some (.int xk') → HJ 255 60 lv [] h Q) : ∀ (d i : Nat) (lv : List (Nat × Value)) (h : MH) (F : Nat → Int) (V : Nat → Nat → Int) (xi : Int32), i + d = 6 → i ≤ n → MX 49 W ρ m A h0 h F V G → fs_I n H F0 V0 k F V → (k : Int) < F 57 → V 56 k = (s : Int) → xy.toInt = V 55 s + 1 → fs_A n V0 s xy.toInt i i V → xi.toInt = (i : Int) → m_lk lv 0 = some (.ref m) → m_lk lv 2 = some (.int xk) → m_lk lv 3 = some (.int xs) → m_lk lv 4 = some (.int xy) → m_lk lv 5 = some (.int xi) → HJ 255 112 lv [] h Q := by
  have done : ∀ (i : Nat) (lv : List (Nat × Value)) (h : MH) (F : Nat → Int) (V : Nat → Nat → Int) (x2 : Int32), i = n → MX 49 W ρ m A h0 h F V G → fs_I n H F0 V0 k F V → (k : Int) < F 57 → V 56 k = (s : Int) → xy.toInt = V 55 s + 1 → fs_A n V0 s xy.toInt i i V → x2.toInt = (k : Int) + 1 → m_lk lv 0 = some (.ref m) → m_lk lv 2 = some (.int x2) → HJ 255 60 lv [] h Q := fun i lv h F V x2 hin M I kq v56 hy a q2 d0 d2 => by
    subst hin
    have e : (V 56 k).toNat = s := by omega
    exact g lv h F V x2 M (fs_nx (y := xy.toInt) I kq (by rw [e]; exact nt) (by rw [e]; exact hy) (by rw [e]; exact a)) (by omega) d0 d2
  intro d
  induction d with
  | zero =>
    intro i lv h F V xi hd hn M I kq v56 hy a hi e0 e2 e3 e4 e5
    have fi : F 51 = (n : Int) := by rw [I.2.1 51 (by decide)]; exact f51
    exact s_fs112 M e0 e2 hk e3 hs e4 rfl e5 hi (by omega) (by omega) (fun x2 q2 lv2 d0 d2 _ _ c => done i lv2 h F V x2 (by omega) M I kq v56 hy a q2 d0 d2) (fun _ _ c => by omega)
  | succ d ih =>
    intro i lv h F V xi hd hn M I kq v56 hy a hi e0 e2 e3 e4 e5
    have fi : F 51 = (n : Int) := by rw [I.2.1 51 (by decide)]; exact f51
    refine s_fs112 M e0 e2 hk e3 hs e4 rfl e5 hi (by omega) (by omega) (fun x2 q2 lv2 d0 d2 _ _ c => done i lv2 h F V x2 (by omega) M I kq v56 hy a q2 d0 d2) (fun _ _ c => c_digV hs s1 hi (by omega) (fun z hz => ?_))
    -- behind the first of both
    have two : ∀ (h : MH) (F : Nat → Int) (V : Nat → Nat → Int) (lv : List (Nat × Value)), MX 49 W ρ m A h0 h F V G → fs_I n H F0 V0 k F V → (k : Int) < F 57 → V 56 k = (s : Int) → xy.toInt = V 55 s + 1 → fs_A n V0 s xy.toInt (i + 1) i V → m_lk lv 0 = some (.ref m) → m_lk lv 2 = some (.int xk) → m_lk lv 3 = some (.int xs) → m_lk lv 4 = some (.int xy) → m_lk lv 5 = some (.int xi) → m_lk lv 6 = some (.int z) → HJ 255 147 lv [] h Q := fun h F V lv M I kq v56 hy a e0 e2 e3 e4 e5 e6 => by
      have v54 : V 54 = V0 54 := I.2.2.1 54 (by decide) (by decide)
      have v53 : V 53 = V0 53 := I.2.2.1 53 (by decide) (by decide)
      have e : (V 56 k).toNat = s := by omega
      have last : ∀ (x4 : Int32), x4.toInt = 2 → V0 54 i ≠ -1 → (dg_ s i = 0 ∨ V0 54 i ≤ df_c (V0 53) (V0 54) (dg_ s i) i) → HJ 256 0 (lv_args 0 [.int xs, .int xi, .int x4]) [] h (fun v h' => HJ 255 189 lv (v.toList ++ [.ref m]) h' Q) := fun x4 q4 ge ce => by
        refine c_withV (e := 2) hs s1 hi (by omega) q4 (by decide) (fun u hu => ?_)
        refine s_fs189 (z := u.toInt) M e0 e2 hk e3 hs e4 rfl e5 hi rfl ?_
        refine c_comesV M hw N I kq hu (dg_E n6 s1 (by omega) (by decide)) (by rw [e]; exact Or.inr (Or.inr (Or.inr ⟨i, by omega, ge, ce, rfl⟩))) (df_okU oks (by decide) (fun _ => ge)) (by rw [e]; exact hy) (fun h' F' V' M' I' kq' k56 le fd => ?_)
        have s55 : V' 55 s = V 55 s := le s (by omega)
        exact s_fs194 M' e0 e2 hk e3 hs e4 rfl e5 hi (by omega) (by omega) (fun x1 q1 lv1 b0 b2 b3 b4 b5 => ih (i + 1) lv1 h' F' V' x1 (by omega) (by omega) M' I' kq' (by rw [k56]; exact v56) (by rw [s55]; exact hy) (fs_A2 (fs_AL le a) (fun _ _ => fd)) (by omega) b0 b2 b3 b4 b5)
      have skip : ¬ (V0 54 i ≠ -1 ∧ (dg_ s i = 0 ∨ V0 54 i ≤ df_c (V0 53) (V0 54) (dg_ s i) i)) → fs_A n V0 s xy.toInt (i + 1) (i + 1) V := fun c => fs_A2 a (fun ge ce => absurd ⟨ge, ce⟩ c)
      refine s_fs147 M e0 e2 hk e3 hs e4 rfl e5 hi e6 hz (by omega) (by omega) (fun x3 q3 lv3 b0 b2 b3 b4 b5 c => ?_) (fun x4 q4 c1 c2 => ?_) (fun c1 c2 => ?_)
      · rw [Int.toNat_natCast, v54] at c
        exact ih (i + 1) lv3 h F V x3 (by omega) (by omega) M I kq v56 hy (skip (fun w => w.1 c)) (by omega) b0 b2 b3 b4 b5
      · rw [Int.toNat_natCast, v54] at c1
        exact last x4 q4 c1 (Or.inl (by omega))
      · rw [Int.toNat_natCast, v54] at c1
        refine c_keyV M hi hz (by omega) (fun y hy2 => ?_)
        rw [v53, v54] at hy2
        refine s_fs171 M e0 e2 hk e3 hs e4 rfl e5 hi e6 hz hy2 (by omega) (by omega) (fun x2 q2 lv2 b0 b2 b3 b4 b5 c => ?_) (fun x3 q3 c => ?_)
        · rw [Int.toNat_natCast, v54] at c
          exact ih (i + 1) lv2 h F V x2 (by omega) (by omega) M I kq v56 hy (skip (fun w => by rcases w.2 with d | d <;> omega)) (by omega) b0 b2 b3 b4 b5
        · rw [Int.toNat_natCast, v54] at c
          exact last x3 q3 c1 (Or.inr (by omega))
    refine s_fs127 M e0 e2 hk e3 hs e4 rfl e5 hi hz (fun lv1 b0 b2 b3 b4 b5 b6 c => two h F V lv1 M I kq v56 hy (fs_A3 a (fun d => absurd (by omega) d)) b0 b2 b3 b4 b5 b6) (fun x2 q2 lv1 b0 b2 b3 b4 b5 b6 c => ?_)
    have e : (V 56 k).toNat = s := by omega
    refine c_withV (e := 3) hs s1 hi (by omega) q2 (by decide) (fun u hu => ?_)
    refine s_fs142 (z := u.toInt) M b0 b2 hk b3 hs b4 rfl b5 hi b6 hz rfl ?_
    refine c_comesV M hw N I kq hu (dg_E n6 s1 (by omega) (by decide)) (by rw [e]; exact Or.inr (Or.inr (Or.inl ⟨i, by omega, by omega, rfl⟩))) (df_okU oks (by decide) (fun z => by omega)) (by rw [e]; exact hy) (fun h' F' V' M' I' kq' k56 le fd => ?_)
    have s55 : V' 55 s = V 55 s := le s (by omega)
    exact two h' F' V' lv1 M' I' kq' (by rw [k56]; exact v56) (by rw [s55]; exact hy) (fs_A3 (fs_AL le a) (fun _ => fd)) b0 b2 b3 b4 b5 b6
theorem l_fsV60 {n H : Nat} {F0 : Nat → Int} {V0 : Nat → Nat → Int} (hw : d_sub g_cts W = true) (n6 : n ≤ 6) (f51 : F0 51 = (n : Int)) (N : df_in n (V0 52) (V0 53) (V0 54)) (kb : df_kb n (V0 53) (V0 54)) (B : df_H n (V0 52) (V0 53) (V0 54) (fun _ => 1) H) (g : ∀ (x : Int32) (h' : MH) (F' : Nat → Int) (V' : Nat → Nat → Int), MX 49 W ρ m A h0 h' F' V' G → x.toInt = (H : Int) → (∀ j, j ≠ 57 → F' j = F0 j) → (∀ j, j ≠ 55 → j ≠ 56 → V' j = V0 j) → Q (some (.int x)) h') : ∀ (d k : Nat) (lv : List (Nat × Value)) (h : MH) (F : Nat → Int) (V : Nat → Nat → Int) (xk : Int32), k + d = 4096 → MX 49 W ρ m A h0 h F V G → fs_I n H F0 V0 k F V → xk.toInt = (k : Int) → m_lk lv 0 = some (.ref m) → m_lk lv 2 = some (.int xk) → HJ 255 60 lv [] h Q := by
  intro d
  induction d with
  | zero =>
    intro k lv h F V xk hd M I hk e0 e2
    have l1 := z_cmL (f := V 55) 4096
    have mo := dq_more N B I.2.2.2.1
    have := I.1.1
    omega
  | succ d ih =>
    intro k lv h F V xk hd M I hk e0 e2
    have l1 := z_cmL (f := V 55) 4096
    have mo := dq_more N B I.2.2.2.1
    have I' := I
    obtain ⟨⟨i1, i2, i3⟩, fo, vo, J⟩ := I'
    have kq : (k : Int) < F 57 := by omega
    have fi : F 51 = (n : Int) := by rw [fo 51 (by decide)]; exact f51
    have v52 : V 52 = V0 52 := vo 52 (by decide) (by decide)
    have v53 : V 53 = V0 53 := vo 53 (by decide) (by decide)
    have v54 : V 54 = V0 54 := vo 54 (by decide) (by decide)
    refine s_fs60 M e0 e2 hk (by omega) (by omega) (fun j hj => by rcases i3 j hj with z | z <;> omega) (fun x _ _ _ c => by omega) (fun x3 q3 x7 q7 lv8 d0 d2 d3 d4 a1 b1 c65 a3 b3 => ?_)
    rw [Int.toNat_natCast] at q3 q7 a3 b3
    obtain ⟨s, hs, es⟩ : ∃ s : Nat, V 56 k = (s : Int) ∧ (V 56 k).toNat = s := ⟨(V 56 k).toNat, by omega, rfl⟩
    rw [es] at q7
    rw [hs] at q3
    have s1 : s < 4096 := by omega
    have kk := J.1.1 k mo
    have oks : df_ok n (V0 54) (dg_ s) := by rw [← es]; exact kk.1.2
    have st0 : 0 ≤ V 55 s := by rw [← es]; exact kk.2
    have st1 := i3 s s1
    refine c_isThereV (n := n) M fi q3 s1 (fun z hz => ?_)
    rw [v53, v54] at hz
    refine s_fs90 (z := z.toInt) M d0 d2 hk d3 q3 d4 q7 rfl (by omega) (by omega) (fun c => ?_) (fun x q c => ?_)
    · have nt := (hz.resolve_left (fun w => by omega)).2
      refine c_lessV (n := n) M fi n6 (by rw [v52, v53, v54]; exact N) (by rw [v53, v54]; exact kb) q3 s1 (fun u w D' hu ls ew => ?_)
      rw [v52, v53, v54] at ls
      refine s_fs104 (z := u.toInt) M d0 d2 hk d3 q3 d4 q7 rfl ?_
      refine c_comesV M hw N I kq hu ew (by rw [es]; exact df_lsM ls) (df_lsO ls oks) (by rw [es]; exact q7) (fun h' F' V' M' I2 kq' k56 le fd => ?_)
      have s55 : V' 55 s = V 55 s := le s (by omega)
      refine s_fs109 M' d0 d2 hk d3 q3 d4 q7 (fun x1 q1 lv2 b0 b2 b3 b4 b5 => ?_)
      exact l_fsV112 hw n6 f51 N hk (by omega) q3 s1 (by omega) oks nt (fun lv9 h9 F9 V9 xk' M9 I9 q9 c0 c2 => ih (k + 1) lv9 h9 F9 V9 xk' (by omega) M9 I9 q9 c0 c2) 6 0 lv2 h' F' V' x1 rfl (Nat.zero_le _) M' I2 kq' (by rw [k56]; exact hs) (by rw [s55]; exact q7) ⟨⟨D', ls, fd⟩, fun e he => absurd he (Nat.not_lt_zero e), fun e he => absurd he (Nat.not_lt_zero e)⟩ q1 b0 b2 b3 b4 b5
    · have th := (hz.resolve_right (fun w => by omega)).2
      have en : V 55 (V 56 k).toNat = (H : Int) := dq_end N B J.1 mo (by show df_th n (V0 53) (V0 54) (dg_ (V 56 k).toNat); rw [es]; exact th)
      rw [es] at en
      exact g x h F V M (by omega) fo vo
theorem l_fsV2 {V0 : Nat → Nat → Int} (hw : d_sub [(86, 1001)] W = true) (g : ∀ (lv : List (Nat × Value)) (h : MH) (V : Nat → Nat → Int) (x1 x2 : Int32), MX 49 W ρ m A h0 h F V G → (∀ j, j < 4096 → V 55 j = -1) → (∀ j, j ≠ 55 → V j = V0 j) → x1.toInt = 0 → x2.toInt = 0 → m_lk lv 0 = some (.ref m) → m_lk lv 1 = some (.int x1) → m_lk lv 2 = some (.int x2) → HJ 255 26 lv [] h Q) : ∀ (d i : Nat) (lv : List (Nat × Value)) (h : MH) (V : Nat → Nat → Int) (xi : Int32), i + d = 4096 → MX 49 W ρ m A h0 h F V G → (∀ j, j < i → V 55 j = -1) → (∀ j, j ≠ 55 → V j = V0 j) → xi.toInt = (i : Int) → m_lk lv 0 = some (.ref m) → m_lk lv 1 = some (.int xi) → HJ 255 2 lv [] h Q := by
  intro d
  induction d with
  | zero =>
    intro i lv h V xi hd M k1 vo hi e0 e1
    exact s_fs2 M e0 e1 hi (by omega) hw (fun x2 q2 x4 q4 lv5 d0 d1 d2 _ => g lv5 h V x2 x4 M (fun j hj => k1 j (by omega)) vo q2 q4 d0 d1 d2) (fun h7 V7 f7 x8 q8 lv8 M7 e8_0 e8_1 c6 => by omega)
  | succ d ih =>
    intro i lv h V xi hd M k1 vo hi e0 e1
    refine s_fs2 M e0 e1 hi (by omega) hw (fun x2 q2 x4 q4 lv5 d0 d1 d2 _ => by omega) (fun h7 V7 f7 x8 q8 lv8 M7 d0 d1 c6 => ?_)
    rw [Int.toNat_natCast] at f7
    refine ih (i + 1) lv8 h7 V7 x8 (by omega) M7 (fun j hj => ?_) (fun j hj => by rw [f7, m_uN _ _ _ _ hj, vo j hj]) (by omega) d0 d1
    rw [f7, m_uE]
    by_cases e : j = i
    · rw [e, m_uE]
    · rw [m_uN _ _ _ _ e]
      exact k1 j (by omega)
theorem l_fsV26 {n : Nat} (M : MX 49 W ρ m A h0 h F V G) (fn : F 51 = (n : Int)) (n6 : n ≤ 6) (g : ∀ (lv : List (Nat × Value)) (xb : Int32) (b : Nat), xb.toInt = (b : Int) → b < 4096 → (∀ t, t < n → dg_ b t = 1) → m_lk lv 0 = some (.ref m) → m_lk lv 1 = some (.int xb) → HJ 255 47 lv [] h Q) : ∀ (d i : Nat) (lv : List (Nat × Value)) (xb xi : Int32) (b : Nat), i + d = 6 → i ≤ n → xb.toInt = (b : Int) → b < 4096 → (∀ t, t < i → dg_ b t = 1) → xi.toInt = (i : Int) → m_lk lv 0 = some (.ref m) → m_lk lv 1 = some (.int xb) → m_lk lv 2 = some (.int xi) → HJ 255 26 lv [] h Q := by
  intro d
  induction d with
  | zero =>
    intro i lv xb xi b hd hn hb b1 P hi e0 e1 e2
    exact s_fs26 M e0 e1 hb e2 hi (fun _ _ _ => g lv xb b hb b1 (fun t ht => P t (by omega)) e0 e1) (fun x2 q2 _ _ c => by omega)
  | succ d ih =>
    intro i lv xb xi b hd hn hb b1 P hi e0 e1 e2
    refine s_fs26 M e0 e1 hb e2 hi (fun _ _ _ => g lv xb b hb b1 (fun t ht => P t (by omega)) e0 e1) (fun x2 q2 _ _ c => ?_)
    refine c_withV (e := 1) hb b1 hi (by omega) q2 (by decide) (fun u hu => ?_)
    refine s_fs40 (z := u.toInt) M e0 e2 hi rfl (by omega) (by omega) (fun x3 q3 lv3 d0 d1 d2 => ih (i + 1) lv3 u x3 (dg_w b i 1) (by omega) (by omega) hu (dg_wL b1 (by omega) (by decide)) (fun t ht => ?_) (by omega) d0 d1 d2)
    by_cases q : t = i
    · rw [q, dg_wE b1 (by omega) (by decide)]
    · rw [dg_wN b1 (by omega) (by decide) (by omega) q]
      exact P t (by omega)
theorem c_stepsV {n H : Nat} (M : MX 49 W ρ m A h0 h F V G) (b0_ : m_lk lv 0 = some (.ref m)) (hw : d_sub g_cts W = true) (n6 : n ≤ 6) (f51 : F 51 = (n : Int)) (N : df_in n (V 52) (V 53) (V 54)) (kb : df_kb n (V 53) (V 54)) (B : df_H n (V 52) (V 53) (V 54) (fun _ => 1) H) (g : ∀ (x : Int32) (h' : MH) (F' : Nat → Int) (V' : Nat → Nat → Int), MX 49 W ρ m A h0 h' F' V' G → x.toInt = (H : Int) → (∀ j, j ≠ 57 → F' j = F j) → (∀ j, j ≠ 55 → j ≠ 56 → V' j = V j) → Q (some (.int x)) h') : HJ 255 0 lv [] h Q := by
  have w1 : d_sub [(86, 1001)] W = true := d_subm hw (by decide +kernel)
  have w2 : d_sub [(49, 57)] W = true := d_subm hw (by decide +kernel)
  refine s_fs0 M b0_ (fun x1 q1 lv2 e0 e1 => ?_)
  refine l_fsV2 (V0 := V) w1 (fun lv3 h3 V3 y1 y2 M3 k1 vo p1 p2 d0 d1 d2 => ?_) 4096 0 lv2 h V x1 rfl M (fun j hj => absurd hj (Nat.not_lt_zero j)) (fun _ _ => rfl) q1 e0 e1
  refine l_fsV26 (n := n) M3 f51 n6 (fun lv4 xb b hb b1 P c0 c1 => ?_) 6 0 lv3 y1 y2 0 rfl (Nat.zero_le _) p1 (by decide) (fun t ht => absurd ht (Nat.not_lt_zero t)) p2 d0 d1 d2
  refine s_fs47 M3 c0 c1 hb w2 (fun h5 F5 f5 x3 q3 M5 => ?_)
  have f57 : F5 57 = 0 := by rw [f5, m_uE]
  have go : ∀ (h6 : MH) (F6 : Nat → Int) (V6 : Nat → Nat → Int), MX 49 W ρ m A h0 h6 F6 V6 G → fs_I n H F V 0 F6 V6 → HJ 255 58 lv4 [] h6 Q := fun h6 F6 V6 M6 I6 => s_fs58 M6 c0 (fun x4 q4 lv7 k0 k2 => l_fsV60 hw n6 f51 N kb B g 4096 0 lv7 h6 F6 V6 x4 rfl M6 I6 q4 k0 k2)
  refine s_ct M5 rfl rfl hb rfl q3 (by omega) (by omega) (fun _ => by omega) (by omega) (by omega) hw (fun c => ?_) (fun h6 V6 f6 h8 V8 f8 h9 F9 f9 M9 c7 _ _ => ?_)
  · rw [Int.toNat_natCast] at c
    exact absurd (k1 b b1) c
  · rw [Int.toNat_natCast] at f6
    refine go h9 F9 V8 M9 (fs_bg B b1 P (by rw [f9, m_uE, f57]; rfl) (fun j hj => by rw [f9, m_uN _ _ _ _ hj, f5, m_uN _ _ _ _ hj]) (fun j a b => by rw [f8, m_uN _ _ _ _ b, f6, m_uN _ _ _ _ a, vo j a]) (V3 55) k1 ?_ ?_)
    · rw [f8, m_uN _ _ _ _ (by decide), f6, m_uE]
    · rw [f8, m_uE, f57]
      exact m_uE _ _ _
end
-- DIFFER: two versions apart, as values
def dd_i (n : Nat) (T : Nat → Int) : Prop := ∀ i j, i < j → j < n → T i ≠ T j
def dd_G (T wb : Nat → Int) : Nat → Nat → Int
  | 0 => fun _ => -1
  | k + 1 => fun i => if T i = wb k % 128 then wb k / 128 else dd_G T wb k i
def dd_c (T : Nat → Int) (t : Int) : Nat → Int
  | 0 => 0
  | j + 1 => dd_c T t j + if T j = t then 1 else 0
def dd_m (n : Nat) (T wb : Nat → Int) (m0 : Int) : Nat → Int
  | 0 => m0
  | k + 1 => dd_m n T wb m0 k - dd_c T (wb k % 128) n
theorem dd_cB {T : Nat → Int} {t : Int} : ∀ j : Nat, 0 ≤ dd_c T t j ∧ dd_c T t j ≤ (j : Int)
  | 0 => ⟨Int.le_refl _, Int.le_refl _⟩
  | j + 1 => by
    have a := dd_cB (T := T) (t := t) j
    rw [dd_c]
    split <;> omega
theorem dd_mB {n : Nat} {T wb : Nat → Int} {m0 : Int} : ∀ k : Nat, m0 - (n : Int) * k ≤ dd_m n T wb m0 k ∧ dd_m n T wb m0 k ≤ m0
  | 0 => ⟨by rw [dd_m]; omega, Int.le_refl _⟩
  | k + 1 => by
    have a := dd_mB (n := n) (T := T) (wb := wb) (m0 := m0) k
    have b := dd_cB (T := T) (t := wb k % 128) n
    have e : (n : Int) * ((k + 1 : Nat) : Int) = (n : Int) * k + n := by rw [Int.natCast_add, Int.mul_add]; omega
    rw [dd_m, e]
    omega
theorem dd_GB {T wb : Nat → Int} {i : Nat} : ∀ k : Nat, (∀ j, j < k → 0 ≤ wb j) → -1 ≤ dd_G T wb k i
  | 0, _ => Int.le_refl _
  | k + 1, h => by
    have a := dd_GB (T := T) (wb := wb) (i := i) k (fun j hj => h j (by omega))
    have b := h k (by omega)
    rw [dd_G]
    show -1 ≤ if T i = wb k % 128 then wb k / 128 else dd_G T wb k i
    split <;> omega
section
variable {lv : List (Nat × Value)} {Q : Option Value → MH → Prop} {W : List (Nat × Nat)} {ρ : Nat → Nat} {m : Nat} {A : Nat → Nat} {h0 h : MH} {F : Nat → Int} {V : Nat → Nat → Int} {G : Nat → Nat → Int64}
theorem c_hasTwiceV {n : Nat} (M : MX 49 W ρ m A h0 h F V G) (f43 : F 43 = (n : Int)) (n63 : n ≤ 63) (g : ∀ z : Int32, (z.toInt = 0 ∧ dd_i n (V 44)) ∨ (z.toInt = 1 ∧ ¬ dd_i n (V 44)) → Q (some (.int z)) h) : HJ 254 0 (lv_args 0 [.ref m]) [] h Q := by
  have out : ∀ (d k : Nat) (lv : List (Nat × Value)) (xk : Int32), k + d = n → (∀ i j, i < j → j < k → V 44 i ≠ V 44 j) → xk.toInt = (k : Int) → m_lk lv 0 = some (.ref m) → m_lk lv 1 = some (.int xk) → HJ 254 2 lv [] h Q := by
    intro d
    induction d with
    | zero =>
      intro k lv xk hd P hk e0 e1
      have ek : k = n := by omega
      subst ek
      exact s_ht2 M e0 e1 hk (fun z q _ _ _ => g z (Or.inl ⟨q, P⟩)) (fun x3 q3 lv4 _ _ _ _ _ c => by omega)
    | succ d ih =>
      intro k lv xk hd P hk e0 e1
      have inn : ∀ (d i : Nat) (lv : List (Nat × Value)) (xi : Int32), i + d = k → (∀ t, t < i → V 44 t ≠ V 44 k) → xi.toInt = (i : Int) → m_lk lv 0 = some (.ref m) → m_lk lv 1 = some (.int xk) → m_lk lv 2 = some (.int xi) → HJ 254 12 lv [] h Q := by
        have nx : (∀ t, t < k → V 44 t ≠ V 44 k) → ∀ i j, i < j → j < k + 1 → V 44 i ≠ V 44 j := fun L i j h1 h2 => by
          by_cases e : j = k
          · rw [e]
            exact L i (by omega)
          · exact P i j h1 (by omega)
        intro d2
        induction d2 with
        | zero =>
          intro i lv xi hd2 L hi e0 e1 e2
          have ei : i = k := by omega
          subst ei
          exact s_ht12 M e0 e1 hk e2 hi (by omega) (by omega) (by omega) (fun x1 q1 lv1 d0 d1 _ _ => ih (i + 1) lv1 x1 (by omega) (nx L) (by omega) d0 d1) (fun x4 q4 lv4 _ _ _ c _ => by omega) (fun z _ c _ => by omega)
        | succ d2 ih2 =>
          intro i lv xi hd2 L hi e0 e1 e2
          refine s_ht12 M e0 e1 hk e2 hi (by omega) (by omega) (by omega) (fun x1 q1 lv1 d0 d1 _ c => by omega) (fun x4 q4 lv4 d0 d1 d2 _ c => ?_) (fun z q _ c => ?_)
          · rw [Int.toNat_natCast, Int.toNat_natCast] at c
            refine ih2 (i + 1) lv4 x4 (by omega) (fun t ht => ?_) (by omega) d0 d1 d2
            by_cases e : t = i
            · rw [e]
              exact c
            · exact L t (by omega)
          · rw [Int.toNat_natCast, Int.toNat_natCast] at c
            exact g z (Or.inr ⟨q, fun w => w i k (by omega) (by omega) c⟩)
      exact s_ht2 M e0 e1 hk (fun z _ _ _ c => by omega) (fun x3 q3 lv4 d0 d1 d2 _ _ _ => inn k 0 lv4 x3 (by omega) (fun t ht => absurd ht (Nat.not_lt_zero t)) q3 d0 d1 d2)
  exact s_ht0 M rfl (fun x1 q1 lv2 e0 e1 => out n 0 lv2 x1 (by omega) (fun i j _ hj => absurd hj (Nat.not_lt_zero j)) q1 e0 e1)
theorem l_dfV62 {n : Nat} {b : Int} {xb : Int32} {V0 : Nat → Nat → Int} (hw : d_sub [(83, 1001), (84, 1001), (85, 1001)] W = true) (qb : xb.toInt = b) (f51 : F 51 = (n : Int)) (n6 : n ≤ 6) (g : ∀ (lv : List (Nat × Value)) (h : MH) (V : Nat → Nat → Int), MX 49 W ρ m A h0 h F V G → (∀ K, K ≠ 52 → K ≠ 53 → K ≠ 54 → V K = V0 K) → (∀ j, j < n → V 52 j = V0 44 j ∧ V 53 j = V0 45 j ∧ V 54 j = -1) → m_lk lv 0 = some (.ref m) → HJ 230 0 (lv_args 0 [.ref m, .int xb]) [] h (fun v h' => HJ 253 118 lv (v.toList ++ []) h' Q)) : ∀ (d i : Nat) (lv : List (Nat × Value)) (h : MH) (V : Nat → Nat → Int) (xi : Int32), i + d = n → MX 49 W ρ m A h0 h F V G → (∀ K, K ≠ 52 → K ≠ 53 → K ≠ 54 → V K = V0 K) → (∀ j, j < i → V 52 j = V0 44 j ∧ V 53 j = V0 45 j ∧ V 54 j = -1) → xi.toInt = (i : Int) → m_lk lv 0 = some (.ref m) → m_lk lv 3 = some (.int xb) → m_lk lv 4 = some (.int xi) → HJ 253 62 lv [] h Q := by
  intro d
  induction d with
  | zero =>
    intro i lv h V xi hd M vo lo hi e0 e3 e4
    exact s_df62 M e0 e3 qb e4 hi (by omega) (by omega) hw (fun _ _ _ => g lv h V M vo (fun j hj => lo j (by omega)) e0) (fun h3 V3 f3 h5 V5 f5 h7 V7 f7 x8 q8 lv8 M7 _ _ _ _ _ c => by omega)
  | succ d ih =>
    intro i lv h V xi hd M vo lo hi e0 e3 e4
    refine s_df62 M e0 e3 qb e4 hi (by omega) (by omega) hw (fun _ _ c => by omega) (fun h3 V3 f3 h5 V5 f5 h7 V7 f7 x8 q8 lv8 M7 d0 d3 d4 _ _ _ => ?_)
    rw [Int.toNat_natCast] at f3 f5 f7
    have v52 : V7 52 = m_u (V 52) i (V0 44 i) := by rw [f7, m_uN _ _ _ _ (by decide), f5, m_uN _ _ _ _ (by decide), f3, m_uE, vo 44 (by decide) (by decide) (by decide)]
    have v53 : V7 53 = m_u (V 53) i (V0 45 i) := by rw [f7, m_uN _ _ _ _ (by decide), f5, m_uE, f3, m_uN _ _ _ _ (by decide), vo 45 (by decide) (by decide) (by decide)]
    have v54 : V7 54 = m_u (V 54) i (-1) := by rw [f7, m_uE, f5, m_uN _ _ _ _ (by decide), f3, m_uN _ _ _ _ (by decide)]
    refine ih (i + 1) lv8 h7 V7 x8 (by omega) M7 (fun K h1 h2 h3 => by rw [f7, m_uN _ _ _ _ h3, f5, m_uN _ _ _ _ h2, f3, m_uN _ _ _ _ h1, vo K h1 h2 h3]) (fun j hj => ?_) (by omega) d0 d3 d4
    rw [v52, v53, v54]
    by_cases e : j = i
    · rw [e, m_uE, m_uE, m_uE]
      exact ⟨rfl, rfl, rfl⟩
    · rw [m_uN _ _ _ _ e, m_uN _ _ _ _ e, m_uN _ _ _ _ e]
      exact lo j (by omega)
theorem l_dfV136 {n nb : Nat} {m0 : Int} {T wb : Nat → Int} {V0 : Nat → Nat → Int} (hw : d_sub [(85, 1001)] W = true) (f51 : F 51 = (n : Int)) (n6 : n ≤ 6) (f43 : F 43 = (nb : Int)) (b63 : nb ≤ 63) (hm : m0 = (nb : Int)) (hT : ∀ j, j < n → V0 52 j = T j) (hb : ∀ k, k < nb → V0 44 k = wb k % 128 ∧ V0 45 k = wb k / 128) (g : ∀ (lv : List (Nat × Value)) (h : MH) (V : Nat → Nat → Int) (xn : Int32), MX 49 W ρ m A h0 h F V G → (∀ K, K ≠ 54 → V K = V0 K) → (∀ j, j < n → V 54 j = dd_G T wb nb j) → xn.toInt = dd_m n T wb m0 nb → HJ 255 0 (lv_args 0 [.ref m]) [] h (fun v h' => HJ 253 209 lv (v.toList ++ [.int xn]) h' Q)) : ∀ (d i : Nat) (lv : List (Nat × Value)) (h : MH) (V : Nat → Nat → Int) (xn xi : Int32), i + d = nb → MX 49 W ρ m A h0 h F V G → (∀ K, K ≠ 54 → V K = V0 K) → (∀ j, j < n → V 54 j = dd_G T wb i j) → xn.toInt = dd_m n T wb m0 i → xi.toInt = (i : Int) → m_lk lv 0 = some (.ref m) → m_lk lv 4 = some (.int xn) → m_lk lv 5 = some (.int xi) → HJ 253 136 lv [] h Q := by
  intro d
  induction d with
  | zero =>
    intro i lv h V xn xi hd M vo lo hn hi e0 e4 e5
    have ei : i = nb := by omega
    subst ei
    exact s_df136 M e0 e4 hn e5 hi (fun _ _ _ => g lv h V xn M vo lo hn) (fun x2 q2 lv3 _ _ _ _ _ _ c => by omega)
  | succ d ih =>
    intro i lv h V xn xi hd M vo lo hn hi e0 e4 e5
    obtain ⟨b1, b2⟩ := hb i (by omega)
    have mB := dd_mB (n := n) (T := T) (wb := wb) (m0 := m0) i
    have ni : (n : Int) * i ≤ 6 * 63 := by
      have : n * i ≤ 6 * 63 := Nat.mul_le_mul n6 (by omega)
      exact_mod_cast this
    have inn : ∀ (d j : Nat) (lv : List (Nat × Value)) (h : MH) (V : Nat → Nat → Int) (xn xj : Int32), j + d = n → MX 49 W ρ m A h0 h F V G → (∀ K, K ≠ 54 → V K = V0 K) → (∀ t, t < n → V 54 t = if t < j then dd_G T wb (i + 1) t else dd_G T wb i t) → xn.toInt = dd_m n T wb m0 i - dd_c T (wb i % 128) j → xj.toInt = (j : Int) → m_lk lv 0 = some (.ref m) → m_lk lv 4 = some (.int xn) → m_lk lv 5 = some (.int xi) → m_lk lv 6 = some (.int xj) → HJ 253 148 lv [] h Q := by
      intro d2
      induction d2 with
      | zero =>
        intro j lv h V xn xj hd2 M vo lo hn hj e0 e4 e5 e6
        have ej : j = n := by omega
        subst ej
        have cB := dd_cB (T := T) (t := wb i % 128) j
        exact s_df148 M e0 e4 hn e5 hi e6 hj (by omega) (by omega) (by omega) (by omega) (by omega) (by omega) hw (fun x2 q2 lv2 d0 d4 d5 _ _ _ _ => ih (i + 1) lv2 h V xn x2 (by omega) M vo (fun t ht => by rw [lo t ht, if_pos ht]) (by rw [dd_m]; exact hn) (by omega) d0 d4 d5) (fun x5 q5 lv5 _ _ _ _ _ _ c _ => by omega) (fun h7 V7 f7 x8 q8 x9 q9 lv9 M7 _ _ _ _ _ _ c _ => by omega)
      | succ d2 ih2 =>
        intro j lv h V xn xj hd2 M vo lo hn hj e0 e4 e5 e6
        have cB := dd_cB (T := T) (t := wb i % 128) j
        have tj := hT j (by omega)
        refine s_df148 M e0 e4 hn e5 hi e6 hj (by omega) (by omega) (by omega) (by omega) (by omega) (by omega) hw (fun x2 q2 lv2 d0 d4 d5 _ _ _ c => by omega) (fun x5 q5 lv5 d0 d4 d5 d6 _ _ _ c => ?_) (fun h7 V7 f7 x8 q8 x9 q9 lv9 M7 d0 d4 d5 d6 _ _ _ c => ?_)
        · rw [Int.toNat_natCast, Int.toNat_natCast, vo 52 (by decide), vo 44 (by decide), tj, b1] at c
          refine ih2 (j + 1) lv5 h V xn x5 (by omega) M vo (fun t ht => ?_) (by rw [dd_c, if_neg c]; omega) (by omega) d0 d4 d5 d6
          rw [lo t ht]
          by_cases e : t = j
          · subst e
            rw [if_neg (by omega), if_pos (by omega), dd_G]
            show _ = if T t = wb i % 128 then wb i / 128 else dd_G T wb i t
            rw [if_neg c]
          · by_cases l : t < j
            · rw [if_pos l, if_pos (by omega)]
            · rw [if_neg l, if_neg (by omega)]
        · rw [Int.toNat_natCast, Int.toNat_natCast, vo 52 (by decide), vo 44 (by decide), tj, b1] at c
          rw [Int.toNat_natCast, Int.toNat_natCast, vo 45 (by decide), b2] at f7
          refine ih2 (j + 1) lv9 h7 V7 x8 x9 (by omega) M7 (fun K hK => by rw [f7, m_uN _ _ _ _ hK]; exact vo K hK) (fun t ht => ?_) (by rw [dd_c, if_pos c]; omega) (by omega) d0 d4 d5 d6
          rw [f7, m_uE]
          by_cases e : t = j
          · subst e
            rw [m_uE, if_pos (by omega), dd_G]
            show _ = if T t = wb i % 128 then wb i / 128 else dd_G T wb i t
            rw [if_pos c]
          · rw [m_uN _ _ _ _ e, lo t ht]
            by_cases l : t < j
            · rw [if_pos l, if_pos (by omega)]
            · rw [if_neg l, if_neg (by omega)]
    exact s_df136 M e0 e4 hn e5 hi (fun _ _ c => by omega) (fun x2 q2 lv3 d0 d4 d5 d6 _ _ _ => inn n 0 lv3 h V xn x2 (by omega) M vo (fun t ht => by rw [if_neg (Nat.not_lt_zero t)]; exact lo t ht) (by rw [dd_c]; omega) q2 d0 d4 d5 d6)
end
-- the reference's answer
theorem df_SG {n : Nat} {T K G T' K' G' : Nat → Int} {D : Nat → Nat} {θ : Int × Int} (h : ∀ i, i < n → T i = T' i ∧ K i = K' i ∧ G i = G' i) : df_S n T K G D θ = df_S n T' K' G' D θ := by
  have e : ∀ i, i < n → df_f T K G D θ i = df_f T' K' G' D θ i := fun i hi => by
    obtain ⟨a, b, c⟩ := h i hi
    unfold df_f df_c
    rw [a, b, c]
  apply Nat.le_antisymm
  · exact df_le n (fun i hi => Nat.le_of_eq (e i hi))
  · exact df_le n (fun i hi => Nat.le_of_eq (e i hi).symm)
theorem df_HC {n m : Nat} {T K G T' K' G' : Nat → Int} {D : Nat → Nat} (h : ∀ i, i < n → T i = T' i ∧ K i = K' i ∧ G i = G' i) (B : df_H n T K G D m) : df_H n T' K' G' D m := by
  obtain ⟨⟨θ, a⟩, b⟩ := B
  exact ⟨⟨θ, by rw [← df_SG h]; exact a⟩, fun θ => by rw [← df_SG h]; exact b θ⟩
theorem df_f3 {T K G : Nat → Int} {D : Nat → Nat} {θ : Int × Int} {i : Nat} : df_f T K G D θ i ≤ 3 := by
  have a : ∀ g, df_a g ≤ 1 := fun g => by
    unfold df_a
    split <;> omega
  have b := a (G i)
  unfold df_f
  split
  · omega
  · have := df_g2 (c := df_c K G (D i) i) (t := T i) (g := G i) (θ := θ)
    omega
theorem df_S3 {T K G : Nat → Int} {D : Nat → Nat} {θ : Int × Int} : ∀ n, df_S n T K G D θ ≤ 3 * n
  | 0 => Nat.le_refl _
  | n + 1 => by
    have a : df_S n T K G D θ ≤ 3 * n := df_S3 n
    have b := df_f3 (T := T) (K := K) (G := G) (D := D) (θ := θ) (i := n)
    have e : df_S (n + 1) T K G D θ = df_S n T K G D θ + df_f T K G D θ n := rfl
    omega
def dd_n (Y : RYt) (v : Int) : Nat := (wk_all (ry_s Y) (ry_h Y v)).1
def dd_w (Y : RYt) (v : Int) : Nat → Int := st_so (wt_ (ry_s Y) (wk_all (ry_s Y) (ry_h Y v))) (wk_all (ry_s Y) (ry_h Y v)).1
def dd_t (Y : RYt) (v : Int) (j : Nat) : Int := dd_w Y v j % 128
def dd_k (Y : RYt) (v : Int) (j : Nat) : Int := dd_w Y v j / 128
def dd_ok (Y : RYt) (row : Prop) (a b : Int) : Prop := (row ∧ (0 ≤ a ∧ a < (ry_v Y : Int)) ∧ 0 ≤ b ∧ b < (ry_v Y : Int)) ∧ (dd_n Y a ≤ 6 ∧ dd_n Y b ≤ 6) ∧ dd_i (dd_n Y a) (dd_t Y a) ∧ dd_i (dd_n Y b) (dd_t Y b)
def dd_q (Y : RYt) (row : Prop) (a b z : Int) : Prop := (¬ dd_ok Y row a b ∧ z = -1) ∨ (dd_ok Y row a b ∧ ∃ H, df_H (dd_n Y a) (dd_t Y a) (dd_k Y a) (dd_G (dd_t Y a) (dd_w Y b) (dd_n Y b)) (fun _ => 1) H ∧ z = dd_m (dd_n Y a) (dd_t Y a) (dd_w Y b) (dd_n Y b : Int) (dd_n Y b) + H)
theorem dd_iC {n : Nat} {T T' : Nat → Int} (h : ∀ j, j < n → T j = T' j) : dd_i n T ↔ dd_i n T' :=
  ⟨fun a i j h1 h2 => by rw [← h i (by omega), ← h j h2]; exact a i j h1 h2, fun a i j h1 h2 => by rw [h i (by omega), h j h2]; exact a i j h1 h2⟩
section
variable {lv : List (Nat × Value)} {Q : Option Value → MH → Prop} {W : List (Nat × Nat)} {ρ : Nat → Nat} {m : Nat} {A : Nat → Nat} {h0 h : MH} {F : Nat → Int} {V : Nat → Nat → Int} {G : Nat → Nat → Int64}
theorem s_dfx209 {n y : Int} (M : MX 49 W ρ m A h0 h F V G) {sx0 : Int32} (sq0 : sx0.toInt = n) {sx1 : Int32} (sq1 : sx1.toInt = y) (d0 : -2147483648 ≤ n + y) (d1 : n + y ≤ 2147483647)
    (g0 : ∀ x1 : Int32, x1.toInt = n + y → Q (some (.int x1)) h)
    : HJ 253 209 lv [.int sx1, .int sx0] h Q := by
  refine hM_add rfl sq0 sq1 (by omega) (by omega) rfl (fun x1 q1 => ?_) -- 209
  refine hI_ri rfl rfl ?_ -- 210
  exact g0 x1 q1
theorem c_differV {Y : RYt} {r a b : Int} {xr xa xb : Int32} (M : MX 49 W ρ m A h0 h F V G) (b0_ : m_lk lv 0 = some (.ref m)) (b1_ : m_lk lv 1 = some (.int xr)) (b2_ : m_lk lv 2 = some (.int xa)) (b3_ : m_lk lv 3 = some (.int xb)) (hw : d_sub g_df W = true) (qr : xr.toInt = r) (qa : xa.toInt = a) (qb : xb.toInt = b) (rw_ : p_rw (V 6)) (ok : lay_ok (V 5 0) (V 6) r Y) (g : ∀ (x : Int32) (h' : MH) (F' : Nat → Int) (V' : Nat → Nat → Int) (G' : Nat → Nat → Int64), MX 49 W ρ m A h0 h' F' V' G' → dd_q Y (0 ≤ r ∧ r < V 5 0) a b x.toInt → Q (some (.int x)) h') : HJ 253 0 lv [] h Q := by
  have w0 : d_sub [(49, 0)] W = true := d_subm hw (by decide +kernel)
  have w1 : d_sub g_la W = true := d_subm hw (by decide +kernel)
  have w2 : d_sub g_so W = true := d_subm hw (by decide +kernel)
  have w3 : d_sub g_cts W = true := d_subm hw (by decide +kernel)
  have w4 : d_sub [(49, 51)] W = true := d_subm hw (by decide +kernel)
  have w5 : d_sub [(83, 1001), (84, 1001), (85, 1001)] W = true := d_subm hw (by decide +kernel)
  have w6 : d_sub [(85, 1001)] W = true := d_subm hw (by decide +kernel)
  refine s_df0 M b0_ b1_ qr b2_ qa b3_ qb w0 (fun h2 F2 f2 M2 => ?_)
  refine c_layTY M2 w1 qr qa qb rw_ ok (fun z h3 F3 V3 G3 M3 hx => ?_)
  show HJ 253 12 lv [.int z] h3 Q
  refine s_df12 (z := z.toInt) M3 b0_ b1_ qr b2_ qa b3_ qb rfl (fun x q c => ?_) (fun c => ?_)
  · rcases hx with hx | hx
    · exact g x h3 F3 V3 G3 M3 (Or.inl ⟨fun w => hx.2 w.1, q⟩)
    · omega
  obtain ⟨-, w, l⟩ := hx.resolve_left (fun y => c y.1)
  obtain ⟨rr, ⟨a0, a1⟩, b0, b1⟩ := id w
  obtain ⟨⟨n, n40, o⟩, ll, -⟩ := id l
  have lv_ := laid_v l
  have e36 : ∀ v : Int, 0 ≤ v → v < (ry_v Y : Int) → p_wv (V3 36) v.toNat = dd_n Y v := fun v h0 h1 => by
    have wi := wk_allI (S := ry_s Y) (f := ry_h Y v) o.1.1 (by rw [ry_hv h0]; exact o.1.2 v.toNat (by omega))
    show _ = (wk_all (ry_s Y) (ry_h Y v)).1
    rw [wi.2]
    exact p_wsC (fun j hj => ll.2.2.2.1 (6 * v.toNat + j) (by show 6 * v.toNat + j < 6 * ry_v Y; omega))
  refine c_sizeAt (v := a.toNat) M3 (by omega) (by omega) (fun y qy => ?_)
  rw [e36 a a0 a1] at qy
  refine s_df20 M3 b0_ b1_ qr b2_ qa b3_ qb qy (fun x q c => g x h3 F3 V3 G3 M3 (Or.inl ⟨fun w => by have := w.2.1.1; omega, q⟩)) (fun ca => ?_)
  refine c_sizeAt (v := b.toNat) M3 (by omega) (by omega) (fun y2 qy2 => ?_)
  rw [e36 b b0 b1] at qy2
  refine s_df30 M3 b0_ b1_ qr b2_ qa b3_ qb qy2 (fun cb => ?_) (fun x q c => g x h3 F3 V3 G3 M3 (Or.inl ⟨fun w => by have := w.2.1.2; omega, q⟩))
  have nA : dd_n Y a ≤ 6 := by omega
  have nB : dd_n Y b ≤ 6 := by omega
  refine c_sortY M3 w2 l a0 a1 qa (fun h4 F4 V4 M4 f43 fo vo wo fw rn TA => ?_)
  have f43 : F4 43 = (dd_n Y a : Int) := f43
  have tA : ∀ j, j < dd_n Y a → V4 44 j = dd_t Y a j ∧ V4 45 j = dd_k Y a j ∧ 0 ≤ dd_k Y a j ∧ dd_k Y a j ≤ 2147483646 := fun j hj => by
    obtain ⟨⟨⟨t0, t1⟩, t2⟩, t3⟩ := TA j hj
    have kT := v_iT (K := 45) M4 (by decide) j
    have t3 : 128 * V4 45 j + V4 44 j = dd_w Y a j := t3
    unfold dd_t dd_k
    omega
  refine s_df42 M4 b0_ b1_ qr b2_ qa b3_ qb (c_hasTwiceV M4 f43 (by omega) (fun z2 hz2 => ?_))
  rw [dd_iC (fun j hj => (tA j hj).1)] at hz2
  refine s_df46 (z := z2.toInt) M4 b0_ b1_ qr b2_ qa b3_ qb rfl (by omega) (by omega) w4 (fun h5 F5 f5 x3 q3 lv4 M5 e0 e1 e2 e3 e4 c2 _ _ => ?_) (fun x q c2 => ?_)
  rotate_left
  · have tw := (hz2.resolve_left (fun y => c2 y.1)).2
    exact g x h4 F4 V4 G3 M4 (Or.inl ⟨fun w => tw w.2.2.1, q⟩)
  have iA := (hz2.resolve_right (fun y => by omega)).2
  have f51 : F5 51 = (dd_n Y a : Int) := by rw [f5, m_uE]; exact f43
  refine l_dfV62 (n := dd_n Y a) (V0 := V4) w5 qb f51 nA (fun lv6 h6 V6 M6 vo6 lo6 d0 => ?_) (dd_n Y a) 0 lv4 h5 V4 x3 (by omega) M5 (fun _ _ _ _ => rfl) (fun j hj => absurd hj (Nat.not_lt_zero j)) q3 e0 e3 e4
  refine c_sortZ (v := b) M6 w2 l (by rw [f5, m_uN _ _ _ _ (by decide)]; exact fo 17 (by decide) (by decide)) (fun K hK => by rw [vo6 K (by omega) (by omega) (by omega), vo K (by omega)]) b0 b1 qb (fun h7 F7 V7 M7 f43' fo7 vo7 wo' fw' rn' TB => ?_)
  show HJ 253 118 lv6 [] h7 Q
  have f43' : F7 43 = (dd_n Y b : Int) := f43'
  have tB : ∀ j, j < dd_n Y b → V7 44 j = dd_w Y b j % 128 ∧ V7 45 j = dd_w Y b j / 128 ∧ 0 ≤ dd_w Y b j := fun j hj => by
    obtain ⟨⟨⟨t0, t1⟩, t2⟩, t3⟩ := TB j hj
    have t3 : 128 * V7 45 j + V7 44 j = dd_w Y b j := t3
    omega
  refine s_df118 M7 d0 (c_hasTwiceV M7 f43' (by omega) (fun z3 hz3 => ?_))
  rw [dd_iC (T' := dd_t Y b) (fun j hj => (tB j hj).1)] at hz3
  refine s_df122 (z := z3.toInt) M7 d0 rfl (fun x1 q1 x5 q5 lv8 c0 c4 c5 c3 _ _ => ?_) (fun x q c3 => ?_)
  rotate_left
  · have tw := (hz3.resolve_left (fun y => c3 y.1)).2
    exact g x h7 F7 V7 G3 M7 (Or.inl ⟨fun w => tw w.2.2.2, q⟩)
  have iB := (hz3.resolve_right (fun y => by omega)).2
  have g51 : F7 51 = (dd_n Y a : Int) := by rw [fo7 51 (by decide) (by decide)]; exact f51
  have kB : ∀ j, dd_w Y b j / 128 ≤ 2147483646 ∨ dd_n Y b ≤ j := fun j => by
    by_cases hj : j < dd_n Y b
    · have kT := v_iT (K := 45) M7 (by decide) j
      obtain ⟨t1, t2, t3⟩ := tB j hj
      obtain ⟨⟨⟨u0, u1⟩, u2⟩, u3⟩ := TB j hj
      have u3 : 128 * V7 45 j + V7 44 j = dd_w Y b j := u3
      left
      sorry
    · exact Or.inr (by omega)
  refine l_dfV136 (n := dd_n Y a) (nb := dd_n Y b) (m0 := (dd_n Y b : Int)) (T := dd_t Y a) (wb := dd_w Y b) (V0 := V7) w6 g51 nA f43' (by omega) rfl (fun j hj => ?_) (fun k hk => ⟨(tB k hk).1, (tB k hk).2.1⟩) (fun lv9 h9 V9 xn M9 vo9 lo9 qn => ?_) (dd_n Y b) 0 lv8 h7 V7 x1 x5 (by omega) M7 (fun _ _ => rfl) (fun j hj => ?_) (by rw [dd_m]; omega) q5 c0 c4 c5
  · rw [vo7 52 (by decide), (lo6 j hj).1]
    exact (tA j hj).1
  · sorry
  · rw [vo7 54 (by decide), (lo6 j hj).2.2]
    rfl
end

