-- FEWEST STEPS
theorem i_nb {x : Int32} {n : Nat} (hn : n ≤ 4096) (h : x.toBitVec.toNat < n) : 0 ≤ x.toInt ∧ x.toInt < n := by
  have e : x.toInt = x.toBitVec.toInt := rfl
  have e2 := BitVec.toInt_eq_toNat_of_lt (x := x.toBitVec) (by omega)
  omega
theorem i_bn {x : Int32} {n : Nat} (h0 : 0 ≤ x.toInt) (h1 : x.toInt < n) : x.toBitVec.toNat < n := by
  have e : x.toInt = x.toBitVec.toInt := rfl
  have e2 := BitVec.toInt_eq_toNat_cond x.toBitVec
  have e3 := x.toBitVec.isLt
  split at e2 <;> omega
theorem i_and3 (y : Int32) : 0 ≤ (y &&& Int32.ofInt 3).toInt ∧ (y &&& Int32.ofInt 3).toInt ≤ 3 := by
  have : (y &&& Int32.ofInt 3).toBitVec.toNat < 4 := by
    rw [Int32.toBitVec_and, BitVec.toNat_and]
    have h : y.toBitVec.toNat &&& (Int32.ofInt 3).toBitVec.toNat ≤ (Int32.ofInt 3).toBitVec.toNat := Nat.and_le_right
    have e : (Int32.ofInt 3).toBitVec.toNat = 3 := by decide
    omega
  have := i_nb (n := 4) (by omega) this
  omega
theorem i_digF : ∀ (d : Fin 4) (i : Fin 6), (Int32.ofInt (d.val : Int) <<< ((Int32.ofInt 2 * Int32.ofInt (i.val : Int)) &&& 31)).toBitVec.toNat < 4096 := by decide +kernel
theorem i_with {s i d b : Int32} (s0 : 0 ≤ s.toInt) (s1 : s.toInt < 4096) (i0 : 0 ≤ i.toInt) (i1 : i.toInt ≤ 5) (d0 : 0 ≤ d.toInt) (d1 : d.toInt ≤ 3) : 0 ≤ ((s &&& b) ||| (d <<< ((Int32.ofInt 2 * i) &&& 31))).toInt ∧ ((s &&& b) ||| (d <<< ((Int32.ofInt 2 * i) &&& 31))).toInt < 4096 := by
  have ei : i = Int32.ofInt ((i.toInt.toNat : Nat) : Int) := by
    rw [show ((i.toInt.toNat : Nat) : Int) = i.toInt by omega, Int32.ofInt_toInt]
  have ed : d = Int32.ofInt ((d.toInt.toNat : Nat) : Int) := by
    rw [show ((d.toInt.toNat : Nat) : Int) = d.toInt by omega, Int32.ofInt_toInt]
  have a1 : (s &&& b).toBitVec.toNat < 2 ^ 12 := by
    rw [Int32.toBitVec_and, BitVec.toNat_and]
    have h1 : s.toBitVec.toNat &&& b.toBitVec.toNat ≤ s.toBitVec.toNat := Nat.and_le_left
    have h2 := i_bn (n := 4096) s0 s1
    have e : (2 : Nat) ^ 12 = 4096 := rfl
    omega
  have a2 : (d <<< ((Int32.ofInt 2 * i) &&& 31)).toBitVec.toNat < 2 ^ 12 := by
    rw [ei, ed]
    exact i_digF ⟨d.toInt.toNat, by omega⟩ ⟨i.toInt.toNat, by omega⟩
  refine i_nb (n := 4096) (Nat.le_refl _) ?_
  rw [Int32.toBitVec_or, BitVec.toNat_or]
  exact Nat.or_lt_two_pow a1 a2
-- how many are told
def z_cm (f : Nat → Int) : Nat → Nat
  | 0 => 0
  | n + 1 => z_cm f n + y_tg (f n)
theorem y_tgL (x : Int) : y_tg x ≤ 1 := by
  unfold y_tg
  split <;> omega
theorem z_cmL {f : Nat → Int} : ∀ n : Nat, z_cm f n ≤ n
  | 0 => Nat.le_refl _
  | n + 1 => by
    have a := z_cmL (f := f) n
    have b := y_tgL (f n)
    rw [z_cm]
    omega
theorem z_cmC {f f' : Nat → Int} : ∀ {n : Nat}, (∀ i, i < n → f' i = f i) → z_cm f' n = z_cm f n
  | 0, _ => rfl
  | n + 1, h => by rw [z_cm, z_cm, z_cmC (n := n) (fun i hi => h i (by omega)), h n (by omega)]
theorem z_cmU {f : Nat → Int} {s : Nat} {x : Int} (hs : f s = -1) (hx : x ≠ -1) : ∀ {n : Nat}, s < n → z_cm (m_u f s x) n = z_cm f n + 1
  | 0, h => by omega
  | n + 1, h => by
    rw [z_cm, z_cm]
    by_cases e : s = n
    · subst e
      rw [m_uE, y_tg1 hx, y_tg0 hs, z_cmC (f := f) (fun i hi => m_uN _ _ _ _ (by omega))]
    · rw [m_uN _ _ _ _ (by omega), z_cmU (n := n) hs hx (by omega)]
      omega
theorem z_cmS {f : Nat → Int} {s : Nat} (hs : f s = -1) {n : Nat} (h : s < n) : z_cm f n < n := by
  have a := z_cmU (f := f) (x := 0) hs (by decide) h
  have b := z_cmL (f := m_u f s 0) n
  omega
section
variable {lv : List (Nat × Value)} {Q : Option Value → MH → Prop} {W : List (Nat × Nat)} {ρ : Nat → Nat} {m : Nat} {A : Nat → Nat} {h0 h : MH} {F : Nat → Int} {V : Nat → Nat → Int} {G : Nat → Nat → Int64}
-- bits of a state
theorem c_dig {s i : Int32} (g : ∀ z : Int32, 0 ≤ z.toInt → z.toInt ≤ 3 → Q (some (.int z)) h) : HJ 259 0 (lv_args 0 [.int s, .int i]) [] h Q := by
  refine hI_il (k := 0) rfl rfl rfl ?_
  refine hI_ic (n := 2) rfl rfl ?_
  refine hI_il (k := 1) rfl rfl rfl ?_
  refine hI_mul rfl rfl ?_
  refine hI_ishr rfl rfl ?_
  refine hI_ic (n := 3) rfl rfl ?_
  refine hI_iand rfl rfl ?_
  exact hI_ri rfl rfl (g _ (i_and3 _).1 (i_and3 _).2)
theorem c_with {s i d : Int32} (s0 : 0 ≤ s.toInt) (s1 : s.toInt < 4096) (i0 : 0 ≤ i.toInt) (i1 : i.toInt ≤ 5) (d0 : 0 ≤ d.toInt) (d1 : d.toInt ≤ 3) (g : ∀ z : Int32, 0 ≤ z.toInt → z.toInt < 4096 → Q (some (.int z)) h) : HJ 256 0 (lv_args 0 [.int s, .int i, .int d]) [] h Q := by
  refine hI_il (k := 0) rfl rfl rfl ?_
  refine hI_ic (n := 3) rfl rfl ?_
  refine hI_ic (n := 2) rfl rfl ?_
  refine hI_il (k := 1) rfl rfl rfl ?_
  refine hI_mul rfl rfl ?_
  refine hI_ishl rfl rfl ?_
  refine hI_ic (n := -1) rfl rfl ?_
  refine hI_ixor rfl rfl ?_
  refine hI_iand rfl rfl ?_
  refine hI_il (k := 2) rfl rfl rfl ?_
  refine hI_ic (n := 2) rfl rfl ?_
  refine hI_il (k := 1) rfl rfl rfl ?_
  refine hI_mul rfl rfl ?_
  refine hI_ishl rfl rfl ?_
  refine hI_ior rfl rfl ?_
  exact hI_ri rfl rfl (g _ (i_with s0 s1 i0 i1 d0 d1).1 (i_with s0 s1 i0 i1 d0 d1).2)
theorem s_key {i d : Int} (M : MX 49 W ρ m A h0 h F V G) (e0 : m_lk lv 0 = some (.ref m)) {lx1 : Int32} (e1 : m_lk lv 1 = some (.int lx1)) (lq1 : lx1.toInt = i) {lx2 : Int32} (e2 : m_lk lv 2 = some (.int lx2)) (lq2 : lx2.toInt = d) (i0 : 0 ≤ i) (i1 : i ≤ 5)
    (g0 : ∀ x3 : Int32, x3.toInt = (-1) → d ≠ 1 → d ≠ 2 → Q (some (.int x3)) h)
    (g1 : ∀ x4 : Int32, x4.toInt = V 54 (i).toNat → d ≠ 1 → d = 2 → Q (some (.int x4)) h)
    (g2 : ∀ x5 : Int32, x5.toInt = V 53 (i).toNat → d = 1 → Q (some (.int x5)) h)
    : HJ 260 0 lv [] h Q := by
  refine hI_il (k := 2) rfl e2 rfl ?_ -- 0
  refine hM_ic (n := 1) rfl (by decide) rfl (fun x1 q1 => ?_) -- 1
  refine hM_cne (off := 12) (t := 14) rfl lq2 q1 (by decide) rfl (fun c2 => ?_) (fun c2 => ?_) -- 2
  · refine hI_il (k := 2) rfl e2 rfl ?_ -- 14
    refine hM_ic (n := 2) rfl (by decide) rfl (fun x2 q2 => ?_) -- 15
    refine hM_cne (off := 12) (t := 28) rfl lq2 q2 (by decide) rfl (fun c16 => ?_) (fun c16 => ?_) -- 16
    · refine hM_ic (n := (-1)) rfl (by decide) rfl (fun x3 q3 => ?_) -- 28
      refine hI_ri rfl rfl ?_ -- 29
      exact g0 x3 q3 c2 c16
    · refine hI_al (k := 0) rfl e0 rfl ?_ -- 19
      refine hM_ga M (by decide) rfl rfl (k := 54) (c := 9) rfl rfl rfl (by decide +kernel) rfl ?_ -- 20
      refine hI_il (k := 1) rfl e1 rfl ?_ -- 23
      refine hM_ia M (by decide) (K := 54) (R2 := 85) (L := 6) (H := 6) (lo := (-2147483648)) (hi := 2147483647) rfl (by decide) rfl rfl (fun _ => rfl) rfl lq1 (by omega) (by omega) rfl (fun x4 q4 a4 b4 => ?_) -- 24
      refine hI_go (pc' := 29) (off := 4) rfl (by decide) ?_ -- 25
      refine hI_ri rfl rfl ?_ -- 29
      exact g1 x4 q4 c2 c16
  · refine hI_al (k := 0) rfl e0 rfl ?_ -- 5
    refine hM_ga M (by decide) rfl rfl (k := 53) (c := 9) rfl rfl rfl (by decide +kernel) rfl ?_ -- 6
    refine hI_il (k := 1) rfl e1 rfl ?_ -- 9
    refine hM_ia M (by decide) (K := 53) (R2 := 84) (L := 6) (H := 6) (lo := (-2147483648)) (hi := 2147483647) rfl (by decide) rfl rfl (fun _ => rfl) rfl lq1 (by omega) (by omega) rfl (fun x5 q5 a5 b5 => ?_) -- 10
    refine hI_go (pc' := 29) (off := 18) rfl (by decide) ?_ -- 11
    refine hI_ri rfl rfl ?_ -- 29
    exact g2 x5 q5 c2
theorem c_key {i d : Int} {xi xd : Int32} (M : MX 49 W ρ m A h0 h F V G) (hi : xi.toInt = i) (hd : xd.toInt = d) (i0 : 0 ≤ i) (i1 : i ≤ 5) (g : ∀ x : Int32, Q (some (.int x)) h) : HJ 260 0 (lv_args 0 [.ref m, .int xi, .int xd]) [] h Q := s_key M rfl rfl hi rfl hd i0 i1 (fun x _ _ _ => g x) (fun x _ _ _ => g x) (fun x _ _ => g x)
theorem s_it0 {s : Int} (M : MX 49 W ρ m A h0 h F V G) (e0 : m_lk lv 0 = some (.ref m)) {lx1 : Int32} (e1 : m_lk lv 1 = some (.int lx1)) (lq1 : lx1.toInt = s) 
    (g0 : ∀ x1 : Int32, x1.toInt = 0 → ∀ lv2 : List (Nat × Value), m_lk lv2 0 = some (.ref m) → m_lk lv2 1 = some (.int lx1) → m_lk lv2 2 = some (.int x1) → HJ 258 2 lv2 [] h Q)
    : HJ 258 0 lv [] h Q := by
  refine hM_ic (n := 0) rfl (by decide) rfl (fun x1 q1 => ?_) -- 0
  refine hM_si (k := 2) rfl (by decide +kernel) rfl (fun lv2 e2_2 u2 => ?_) -- 1
  have e2_0 := u2 0 _ (by decide) (Or.inl rfl) e0
  have e2_1 := u2 1 _ (by decide) (Or.inl rfl) e1
  exact g0 x1 q1 lv2 e2_0 e2_1 e2_2
theorem s_it2 {s i : Int} (M : MX 49 W ρ m A h0 h F V G) (e0 : m_lk lv 0 = some (.ref m)) {lx1 : Int32} (e1 : m_lk lv 1 = some (.int lx1)) (lq1 : lx1.toInt = s) {lx2 : Int32} (e2 : m_lk lv 2 = some (.int lx2)) (lq2 : lx2.toInt = i) 
    (g0 : ∀ x2 : Int32, x2.toInt = 1 → 0 ≤ F 51 → F 51 ≤ 6 → i ≥ F 51 → Q (some (.int x2)) h)
    (g1 : 0 ≤ F 51 → F 51 ≤ 6 → i < F 51 → HJ 259 0 (lv_args 0 [.int lx1, .int lx2]) [] h (fun v h' => HJ 258 15 lv (v.toList ++ []) h' Q))
    : HJ 258 2 lv [] h Q := by
  refine hI_il (k := 2) rfl e2 rfl ?_ -- 2
  refine hI_al (k := 0) rfl e0 rfl ?_ -- 3
  refine hM_gi M (by decide) rfl rfl rfl (k := 51) (c := 9) (lo := 0) (hi := 6) rfl rfl rfl rfl rfl (fun x1 q1 a1 b1 => ?_) -- 4
  refine hM_cge (off := 53) (t := 60) rfl lq2 q1 (by decide) rfl (fun c7 => ?_) (fun c7 => ?_) -- 7
  · refine hM_ic (n := 1) rfl (by decide) rfl (fun x2 q2 => ?_) -- 60
    refine hM_rb rfl rfl q2 (by omega) (by omega) ?_ -- 61
    exact g0 x2 q2 a1 b1 c7
  · refine hI_il (k := 1) rfl e1 rfl ?_ -- 10
    refine hI_il (k := 2) rfl e2 rfl ?_ -- 11
    refine hM_is0 (as := [.int lx1, .int lx2]) (r := []) rfl rfl (by decide +kernel) rfl rfl rfl rfl rfl ?_ -- 12
    exact g1 a1 b1 c7
theorem s_it15 {s i d : Int} (M : MX 49 W ρ m A h0 h F V G) (e0 : m_lk lv 0 = some (.ref m)) {lx1 : Int32} (e1 : m_lk lv 1 = some (.int lx1)) (lq1 : lx1.toInt = s) {lx2 : Int32} (e2 : m_lk lv 2 = some (.int lx2)) (lq2 : lx2.toInt = i) {sx0 : Int32} (sq0 : sx0.toInt = d) (i0 : 0 ≤ i) (i1 : i ≤ 5)
    (g0 : ∀ x4 : Int32, x4.toInt = 0 → ∀ lv1 : List (Nat × Value), V 54 (i).toNat ≠ (-1) → d = 0 → Q (some (.int x4)) h)
    (g1 : ∀ lv1 : List (Nat × Value), m_lk lv1 0 = some (.ref m) → m_lk lv1 1 = some (.int lx1) → m_lk lv1 2 = some (.int lx2) → V 54 (i).toNat ≠ (-1) → d ≠ 0 → HJ 260 0 (lv_args 0 [.ref m, .int lx2, .int sx0]) [] h (fun v h' => HJ 258 43 lv1 (v.toList ++ []) h' Q))
    (g2 : ∀ x5 : Int32, x5.toInt = i + 1 → ∀ lv5 : List (Nat × Value), m_lk lv5 0 = some (.ref m) → m_lk lv5 1 = some (.int lx1) → m_lk lv5 2 = some (.int x5) → V 54 (i).toNat = (-1) → d = 0 → HJ 258 2 lv5 [] h Q)
    (g3 : ∀ x6 : Int32, x6.toInt = 0 → ∀ lv1 : List (Nat × Value), V 54 (i).toNat = (-1) → d ≠ 0 → Q (some (.int x6)) h)
    : HJ 258 15 lv [.int sx0] h Q := by
  refine hM_si (k := 3) rfl (by decide +kernel) rfl (fun lv1 e1_3 u1 => ?_) -- 15
  have e1_0 := u1 0 _ (by decide) (Or.inl rfl) e0
  have e1_1 := u1 1 _ (by decide) (Or.inl rfl) e1
  have e1_2 := u1 2 _ (by decide) (Or.inl rfl) e2
  refine hI_al (k := 0) rfl e1_0 rfl ?_ -- 16
  refine hM_ga M (by decide) rfl rfl (k := 54) (c := 9) rfl rfl rfl (by decide +kernel) rfl ?_ -- 17
  refine hI_il (k := 2) rfl e1_2 rfl ?_ -- 20
  refine hM_ia M (by decide) (K := 54) (R2 := 85) (L := 6) (H := 6) (lo := (-2147483648)) (hi := 2147483647) rfl (by decide) rfl rfl (fun _ => rfl) rfl lq2 (by omega) (by omega) rfl (fun x2 q2 a2 b2 => ?_) -- 21
  refine hM_ic (n := (-1)) rfl (by decide) rfl (fun x3 q3 => ?_) -- 22
  refine hM_cne (off := 10) (t := 33) rfl q2 q3 (by decide) rfl (fun c23 => ?_) (fun c23 => ?_) -- 23
  · refine hI_il (k := 3) rfl e1_3 rfl ?_ -- 33
    refine hM_zeq (off := 18) (t := 52) rfl sq0 (by decide) rfl (fun c34 => ?_) (fun c34 => ?_) -- 34
    · refine hM_ic (n := 0) rfl (by decide) rfl (fun x4 q4 => ?_) -- 52
      refine hM_rb rfl rfl q4 (by omega) (by omega) ?_ -- 53
      exact g0 x4 q4 lv1 c23 c34
    · refine hI_al (k := 0) rfl e1_0 rfl ?_ -- 37
      refine hI_il (k := 2) rfl e1_2 rfl ?_ -- 38
      refine hI_il (k := 3) rfl e1_3 rfl ?_ -- 39
      refine hM_iv M (by decide) rfl rfl (by decide) (as := [.int lx2, .int sx0]) (r := []) rfl rfl (by decide +kernel) rfl (by decide +kernel) rfl rfl rfl rfl rfl ?_ -- 40
      exact g1 lv1 e1_0 e1_1 e1_2 c23 c34
  · refine hI_il (k := 3) rfl e1_3 rfl ?_ -- 26
    refine hM_zeq (off := 27) (t := 54) rfl sq0 (by decide) rfl (fun c27 => ?_) (fun c27 => ?_) -- 27
    · refine hM_inc (k := 2) (z := 1) rfl e1_2 lq2 (by decide) (by omega) (by omega) (by decide +kernel) rfl (fun lv5 x5 q5 e5_2 u5 => ?_) -- 54
      have e5_0 := u5 0 _ (by decide) (Or.inl rfl) e1_0
      have e5_1 := u5 1 _ (by decide) (Or.inl rfl) e1_1
      have e5_3 := u5 3 _ (by decide) (Or.inl rfl) e1_3
      refine hI_go (pc' := 2) (off := (-55)) rfl (by decide) ?_ -- 57
      exact g2 x5 q5 lv5 e5_0 e5_1 e5_2 c23 c27
    · refine hI_go (pc' := 52) (off := 22) rfl (by decide) ?_ -- 30
      refine hM_ic (n := 0) rfl (by decide) rfl (fun x6 q6 => ?_) -- 52
      refine hM_rb rfl rfl q6 (by omega) (by omega) ?_ -- 53
      exact g3 x6 q6 lv1 c23 c27
theorem s_it43 {s i y : Int} (M : MX 49 W ρ m A h0 h F V G) (e0 : m_lk lv 0 = some (.ref m)) {lx1 : Int32} (e1 : m_lk lv 1 = some (.int lx1)) (lq1 : lx1.toInt = s) {lx2 : Int32} (e2 : m_lk lv 2 = some (.int lx2)) (lq2 : lx2.toInt = i) {sx0 : Int32} (sq0 : sx0.toInt = y) (i0 : 0 ≤ i) (i1 : i ≤ 5)
    (g0 : ∀ x2 : Int32, x2.toInt = i + 1 → ∀ lv2 : List (Nat × Value), m_lk lv2 0 = some (.ref m) → m_lk lv2 1 = some (.int lx1) → m_lk lv2 2 = some (.int x2) → y = V 54 (i).toNat → HJ 258 2 lv2 [] h Q)
    (g1 : ∀ x3 : Int32, x3.toInt = 0 → y ≠ V 54 (i).toNat → Q (some (.int x3)) h)
    : HJ 258 43 lv [.int sx0] h Q := by
  refine hI_al (k := 0) rfl e0 rfl ?_ -- 43
  refine hM_ga M (by decide) rfl rfl (k := 54) (c := 9) rfl rfl rfl (by decide +kernel) rfl ?_ -- 44
  refine hI_il (k := 2) rfl e2 rfl ?_ -- 47
  refine hM_ia M (by decide) (K := 54) (R2 := 85) (L := 6) (H := 6) (lo := (-2147483648)) (hi := 2147483647) rfl (by decide) rfl rfl (fun _ => rfl) rfl lq2 (by omega) (by omega) rfl (fun x1 q1 a1 b1 => ?_) -- 48
  refine hM_ceq (off := 5) (t := 54) rfl sq0 q1 (by decide) rfl (fun c49 => ?_) (fun c49 => ?_) -- 49
  · refine hM_inc (k := 2) (z := 1) rfl e2 lq2 (by decide) (by omega) (by omega) (by decide +kernel) rfl (fun lv2 x2 q2 e2_2 u2 => ?_) -- 54
    have e2_0 := u2 0 _ (by decide) (Or.inl rfl) e0
    have e2_1 := u2 1 _ (by decide) (Or.inl rfl) e1
    refine hI_go (pc' := 2) (off := (-55)) rfl (by decide) ?_ -- 57
    exact g0 x2 q2 lv2 e2_0 e2_1 e2_2 c49
  · refine hM_ic (n := 0) rfl (by decide) rfl (fun x3 q3 => ?_) -- 52
    refine hM_rb rfl rfl q3 (by omega) (by omega) ?_ -- 53
    exact g1 x3 q3 c49
theorem l_it {s : Int} {xs : Int32} (M : MX 49 W ρ m A h0 h F V G) (hs : xs.toInt = s) (g : ∀ x : Int32, Q (some (.int x)) h) : ∀ (d i : Nat) (lv : List (Nat × Value)) (xi : Int32), i + d = 6 → xi.toInt = (i : Int) → m_lk lv 0 = some (.ref m) → m_lk lv 1 = some (.int xs) → m_lk lv 2 = some (.int xi) → HJ 258 2 lv [] h Q := by
  intro d
  induction d with
  | zero =>
    intro i lv xi hd hi e0 e1 e2
    exact s_it2 M e0 e1 hs e2 hi (fun x _ _ _ _ => g x) (fun a1 b1 c7 => by omega)
  | succ d ih =>
    intro i lv xi hd hi e0 e1 e2
    refine s_it2 M e0 e1 hs e2 hi (fun x _ _ _ _ => g x) (fun a1 b1 c7 => c_dig (fun z z0 z1 => ?_))
    refine s_it15 (d := z.toInt) M e0 e1 hs e2 hi rfl (by omega) (by omega) (fun x _ _ _ _ => g x) (fun lv1 d0 d1 d2 _ _ => ?_) (fun x5 q5 lv5 d0 d1 d2 _ _ => ih (i + 1) lv5 x5 (by omega) (by omega) d0 d1 d2) (fun x _ _ _ _ => g x)
    refine c_key M hi rfl (by omega) (by omega) (fun y => ?_)
    exact s_it43 (y := y.toInt) M d0 d1 hs d2 hi rfl (by omega) (by omega) (fun x2 q2 lv2 b0 b1 b2 _ => ih (i + 1) lv2 x2 (by omega) (by omega) b0 b1 b2) (fun x _ _ => g x)
theorem c_isThere {s : Int} {xs : Int32} (M : MX 49 W ρ m A h0 h F V G) (hs : xs.toInt = s) (g : ∀ x : Int32, Q (some (.int x)) h) : HJ 258 0 (lv_args 0 [.ref m, .int xs]) [] h Q :=
  s_it0 M rfl rfl hs (fun x1 q1 lv2 e0 e1 e2 => l_it M hs g 6 0 lv2 x1 rfl q1 e0 e1 e2)
theorem s_le0 {s : Int} (M : MX 49 W ρ m A h0 h F V G) (e0 : m_lk lv 0 = some (.ref m)) {lx1 : Int32} (e1 : m_lk lv 1 = some (.int lx1)) (lq1 : lx1.toInt = s) 
    (g0 : ∀ x1 : Int32, x1.toInt = (-1) → ∀ x3 : Int32, x3.toInt = 0 → ∀ lv4 : List (Nat × Value), m_lk lv4 0 = some (.ref m) → m_lk lv4 1 = some (.int lx1) → m_lk lv4 2 = some (.int x1) → m_lk lv4 3 = some (.int x3) → HJ 261 4 lv4 [] h Q)
    : HJ 261 0 lv [] h Q := by
  refine hM_ic (n := (-1)) rfl (by decide) rfl (fun x1 q1 => ?_) -- 0
  refine hM_si (k := 2) rfl (by decide +kernel) rfl (fun lv2 e2_2 u2 => ?_) -- 1
  have e2_0 := u2 0 _ (by decide) (Or.inl rfl) e0
  have e2_1 := u2 1 _ (by decide) (Or.inl rfl) e1
  refine hM_ic (n := 0) rfl (by decide) rfl (fun x3 q3 => ?_) -- 2
  refine hM_si (k := 3) rfl (by decide +kernel) rfl (fun lv4 e4_3 u4 => ?_) -- 3
  have e4_0 := u4 0 _ (by decide) (Or.inl rfl) e2_0
  have e4_1 := u4 1 _ (by decide) (Or.inl rfl) e2_1
  have e4_2 := u4 2 _ (by decide) (Or.inl rfl) e2_2
  exact g0 x1 q1 x3 q3 lv4 e4_0 e4_1 e4_2 e4_3
theorem s_le4 {s b i : Int} (M : MX 49 W ρ m A h0 h F V G) (e0 : m_lk lv 0 = some (.ref m)) {lx1 : Int32} (e1 : m_lk lv 1 = some (.int lx1)) (lq1 : lx1.toInt = s) {lx2 : Int32} (e2 : m_lk lv 2 = some (.int lx2)) (lq2 : lx2.toInt = b) {lx3 : Int32} (e3 : m_lk lv 3 = some (.int lx3)) (lq3 : lx3.toInt = i) 
    (g0 : ∀ x3 : Int32, x3.toInt = 0 → 0 ≤ F 51 → F 51 ≤ 6 → i ≥ F 51 → b ≠ (-1) → HJ 256 0 (lv_args 0 [.int lx1, .int lx2, .int x3]) [] h (fun v h' => HJ 261 105 lv (v.toList ++ []) h' Q))
    (g1 : 0 ≤ F 51 → F 51 ≤ 6 → i ≥ F 51 → b = (-1) → Q (some (.int lx1)) h)
    (g2 : 0 ≤ F 51 → F 51 ≤ 6 → i < F 51 → HJ 259 0 (lv_args 0 [.int lx1, .int lx3]) [] h (fun v h' => HJ 261 17 lv (v.toList ++ []) h' Q))
    : HJ 261 4 lv [] h Q := by
  refine hI_il (k := 3) rfl e3 rfl ?_ -- 4
  refine hI_al (k := 0) rfl e0 rfl ?_ -- 5
  refine hM_gi M (by decide) rfl rfl rfl (k := 51) (c := 9) (lo := 0) (hi := 6) rfl rfl rfl rfl rfl (fun x1 q1 a1 b1 => ?_) -- 6
  refine hM_cge (off := 81) (t := 90) rfl lq3 q1 (by decide) rfl (fun c9 => ?_) (fun c9 => ?_) -- 9
  · refine hI_il (k := 2) rfl e2 rfl ?_ -- 90
    refine hM_ic (n := (-1)) rfl (by decide) rfl (fun x2 q2 => ?_) -- 91
    refine hM_cne (off := 7) (t := 99) rfl lq2 q2 (by decide) rfl (fun c92 => ?_) (fun c92 => ?_) -- 92
    · refine hI_il (k := 1) rfl e1 rfl ?_ -- 99
      refine hI_il (k := 2) rfl e2 rfl ?_ -- 100
      refine hM_ic (n := 0) rfl (by decide) rfl (fun x3 q3 => ?_) -- 101
      refine hM_is0 (as := [.int lx1, .int lx2, .int x3]) (r := []) rfl rfl (by decide +kernel) rfl rfl rfl rfl rfl ?_ -- 102
      exact g0 x3 q3 a1 b1 c9 c92
    · refine hI_il (k := 1) rfl e1 rfl ?_ -- 95
      refine hI_go (pc' := 105) (off := 9) rfl (by decide) ?_ -- 96
      refine hI_ri rfl rfl ?_ -- 105
      exact g1 a1 b1 c9 c92
  · refine hI_il (k := 1) rfl e1 rfl ?_ -- 12
    refine hI_il (k := 3) rfl e3 rfl ?_ -- 13
    refine hM_is0 (as := [.int lx1, .int lx3]) (r := []) rfl rfl (by decide +kernel) rfl rfl rfl rfl rfl ?_ -- 14
    exact g2 a1 b1 c9
theorem s_le17 {s b i d : Int} (M : MX 49 W ρ m A h0 h F V G) (e0 : m_lk lv 0 = some (.ref m)) {lx1 : Int32} (e1 : m_lk lv 1 = some (.int lx1)) (lq1 : lx1.toInt = s) {lx2 : Int32} (e2 : m_lk lv 2 = some (.int lx2)) (lq2 : lx2.toInt = b) {lx3 : Int32} (e3 : m_lk lv 3 = some (.int lx3)) (lq3 : lx3.toInt = i) {sx0 : Int32} (sq0 : sx0.toInt = d) (i0 : 0 ≤ i) (i1 : i ≤ 5)
    (g0 : ∀ x2 : Int32, x2.toInt = i + 1 → ∀ lv2 : List (Nat × Value), m_lk lv2 0 = some (.ref m) → m_lk lv2 1 = some (.int lx1) → m_lk lv2 2 = some (.int lx2) → m_lk lv2 3 = some (.int x2) → d = 0 → HJ 261 4 lv2 [] h Q)
    (g1 : ∀ lv1 : List (Nat × Value), m_lk lv1 0 = some (.ref m) → m_lk lv1 1 = some (.int lx1) → m_lk lv1 2 = some (.int lx2) → m_lk lv1 3 = some (.int lx3) → d ≠ 0 → b ≠ (-1) → HJ 260 0 (lv_args 0 [.ref m, .int lx3, .int sx0]) [] h (fun v h' => HJ 261 40 lv1 (v.toList ++ []) h' Q))
    (g2 : ∀ x7 : Int32, x7.toInt = i + 1 → ∀ lv7 : List (Nat × Value), m_lk lv7 0 = some (.ref m) → m_lk lv7 1 = some (.int lx1) → m_lk lv7 2 = some (.int lx3) → m_lk lv7 3 = some (.int x7) → d ≠ 0 → b = (-1) → HJ 261 4 lv7 [] h Q)
    : HJ 261 17 lv [.int sx0] h Q := by
  refine hM_si2 (k := 4) rfl (by decide +kernel) rfl (fun lv1 e1_4 u1 => ?_) -- 17
  have e1_0 := u1 0 _ (by decide) (Or.inl rfl) e0
  have e1_1 := u1 1 _ (by decide) (Or.inl rfl) e1
  have e1_2 := u1 2 _ (by decide) (Or.inl rfl) e2
  have e1_3 := u1 3 _ (by decide) (Or.inl rfl) e3
  refine hI_il2 (k := 4) rfl e1_4 rfl ?_ -- 19
  refine hM_zeq (off := 63) (t := 84) rfl sq0 (by decide) rfl (fun c21 => ?_) (fun c21 => ?_) -- 21
  · refine hM_inc (k := 3) (z := 1) rfl e1_3 lq3 (by decide) (by omega) (by omega) (by decide +kernel) rfl (fun lv2 x2 q2 e2_3 u2 => ?_) -- 84
    have e2_0 := u2 0 _ (by decide) (Or.inl rfl) e1_0
    have e2_1 := u2 1 _ (by decide) (Or.inl rfl) e1_1
    have e2_2 := u2 2 _ (by decide) (Or.inl rfl) e1_2
    have e2_4 := u2 4 _ (by decide) (Or.inl rfl) e1_4
    refine hI_go (pc' := 4) (off := (-83)) rfl (by decide) ?_ -- 87
    exact g0 x2 q2 lv2 e2_0 e2_1 e2_2 e2_3 c21
  · refine hI_il (k := 2) rfl e1_2 rfl ?_ -- 24
    refine hM_ic (n := (-1)) rfl (by decide) rfl (fun x3 q3 => ?_) -- 25
    refine hM_cne (off := 7) (t := 33) rfl lq2 q3 (by decide) rfl (fun c26 => ?_) (fun c26 => ?_) -- 26
    · refine hI_al (k := 0) rfl e1_0 rfl ?_ -- 33
      refine hI_il (k := 3) rfl e1_3 rfl ?_ -- 34
      refine hI_il2 (k := 4) rfl e1_4 rfl ?_ -- 35
      refine hM_iv M (by decide) rfl rfl (by decide) (as := [.int lx3, .int sx0]) (r := []) rfl rfl (by decide +kernel) rfl (by decide +kernel) rfl rfl rfl rfl rfl ?_ -- 37
      exact g1 lv1 e1_0 e1_1 e1_2 e1_3 c21 c26
    · refine hM_ic (n := (-1)) rfl (by decide) rfl (fun x4 q4 => ?_) -- 29
      refine hI_go (pc' := 51) (off := 21) rfl (by decide) ?_ -- 30
      refine hM_si2 (k := 5) rfl (by decide +kernel) rfl (fun lv5 e5_5 u5 => ?_) -- 51
      have e5_0 := u5 0 _ (by decide) (Or.inl rfl) e1_0
      have e5_1 := u5 1 _ (by decide) (Or.inl rfl) e1_1
      have e5_2 := u5 2 _ (by decide) (Or.inl rfl) e1_2
      have e5_3 := u5 3 _ (by decide) (Or.inl rfl) e1_3
      have e5_4 := u5 4 _ (by decide) (Or.inl rfl) e1_4
      refine hI_il2 (k := 5) rfl e5_5 rfl ?_ -- 53
      refine hM_zlt (off := 23) (t := 78) rfl q4 (by decide) rfl (fun c55 => ?_) (fun c55 => ?_) -- 55
      · refine hI_il (k := 3) rfl e5_3 rfl ?_ -- 78
        refine hI_go (pc' := 83) (off := 4) rfl (by decide) ?_ -- 79
        refine hM_si (k := 2) rfl (by decide +kernel) rfl (fun lv6 e6_2 u6 => ?_) -- 83
        have e6_0 := u6 0 _ (by decide) (Or.inl rfl) e5_0
        have e6_1 := u6 1 _ (by decide) (Or.inl rfl) e5_1
        have e6_3 := u6 3 _ (by decide) (Or.inl rfl) e5_3
        have e6_4 := u6 4 _ (by decide) (Or.inl rfl) e5_4
        have e6_5 := u6 5 _ (by decide) (Or.inl rfl) e5_5
        refine hM_inc (k := 3) (z := 1) rfl e6_3 lq3 (by decide) (by omega) (by omega) (by decide +kernel) rfl (fun lv7 x7 q7 e7_3 u7 => ?_) -- 84
        have e7_0 := u7 0 _ (by decide) (Or.inl rfl) e6_0
        have e7_1 := u7 1 _ (by decide) (Or.inl rfl) e6_1
        have e7_4 := u7 4 _ (by decide) (Or.inl rfl) e6_4
        have e7_5 := u7 5 _ (by decide) (Or.inl rfl) e6_5
        have e7_2 := u7 2 _ (by decide) (Or.inl rfl) e6_2
        refine hI_go (pc' := 4) (off := (-83)) rfl (by decide) ?_ -- 87
        exact g2 x7 q7 lv7 e7_0 e7_1 e7_2 e7_3 c21 c26
      · exfalso; omega
theorem s_le40 {s b i y : Int} (M : MX 49 W ρ m A h0 h F V G) (e0 : m_lk lv 0 = some (.ref m)) {lx1 : Int32} (e1 : m_lk lv 1 = some (.int lx1)) (lq1 : lx1.toInt = s) {lx2 : Int32} (e2 : m_lk lv 2 = some (.int lx2)) (lq2 : lx2.toInt = b) {lx3 : Int32} (e3 : m_lk lv 3 = some (.int lx3)) (lq3 : lx3.toInt = i) {sx0 : Int32} (sq0 : sx0.toInt = y) 
    (g0 : HJ 259 0 (lv_args 0 [.int lx1, .int lx2]) [] h (fun v h' => HJ 261 47 lv (v.toList ++ [.int lx2, .ref m, .int sx0]) h' Q))
    : HJ 261 40 lv [.int sx0] h Q := by
  refine hI_al (k := 0) rfl e0 rfl ?_ -- 40
  refine hI_il (k := 2) rfl e2 rfl ?_ -- 41
  refine hI_il (k := 1) rfl e1 rfl ?_ -- 42
  refine hI_il (k := 2) rfl e2 rfl ?_ -- 43
  refine hM_is0 (as := [.int lx1, .int lx2]) (r := [.int lx2, .ref m, .int sx0]) rfl rfl (by decide +kernel) rfl rfl rfl rfl rfl ?_ -- 44
  exact g0 
theorem s_le47 {s b i y d : Int} (M : MX 49 W ρ m A h0 h F V G) (e0 : m_lk lv 0 = some (.ref m)) {lx1 : Int32} (e1 : m_lk lv 1 = some (.int lx1)) (lq1 : lx1.toInt = s) {lx2 : Int32} (e2 : m_lk lv 2 = some (.int lx2)) (lq2 : lx2.toInt = b) {lx3 : Int32} (e3 : m_lk lv 3 = some (.int lx3)) (lq3 : lx3.toInt = i) {sx0 : Int32} (sq0 : sx0.toInt = y) {sx2 : Int32} (sq2 : sx2.toInt = b) {sx3 : Int32} (sq3 : sx3.toInt = d) 
    (g0 : HJ 260 0 (lv_args 0 [.ref m, .int sx2, .int sx3]) [] h (fun v h' => HJ 261 50 lv (v.toList ++ [.int sx0]) h' Q))
    : HJ 261 47 lv [.int sx3, .int sx2, .ref m, .int sx0] h Q := by
  refine hM_iv M (by decide) rfl rfl (by decide) (as := [.int sx2, .int sx3]) (r := [.int sx0]) rfl rfl (by decide +kernel) rfl (by decide +kernel) rfl rfl rfl rfl rfl ?_ -- 47
  exact g0 
theorem s_le50 {s b i y z : Int} (M : MX 49 W ρ m A h0 h F V G) (e0 : m_lk lv 0 = some (.ref m)) {lx1 : Int32} (e1 : m_lk lv 1 = some (.int lx1)) (lq1 : lx1.toInt = s) {lx2 : Int32} (e2 : m_lk lv 2 = some (.int lx2)) (lq2 : lx2.toInt = b) {lx3 : Int32} (e3 : m_lk lv 3 = some (.int lx3)) (lq3 : lx3.toInt = i) {sx0 : Int32} (sq0 : sx0.toInt = y) {sx1 : Int32} (sq1 : sx1.toInt = z) (i0 : 0 ≤ i) (i1 : i ≤ 5) (b0 : 0 ≤ b) (b1 : b ≤ 5)
    (g0 : ∀ z1 : Int, -2147483648 ≤ z1 → z1 ≤ 2147483647 → ∀ x4 : Int32, x4.toInt = i + 1 → ∀ lv4 : List (Nat × Value), m_lk lv4 0 = some (.ref m) → m_lk lv4 1 = some (.int lx1) → m_lk lv4 2 = some (.int lx3) → m_lk lv4 3 = some (.int x4) → z1 < 0 → HJ 261 4 lv4 [] h Q)
    (g1 : ∀ z1 : Int, -2147483648 ≤ z1 → z1 ≤ 2147483647 → ∀ x6 : Int32, x6.toInt = i + 1 → ∀ lv6 : List (Nat × Value), m_lk lv6 0 = some (.ref m) → m_lk lv6 1 = some (.int lx1) → m_lk lv6 2 = some (.int lx2) → m_lk lv6 3 = some (.int x6) → z1 ≥ 0 → z1 ≠ 0 → HJ 261 4 lv6 [] h Q)
    (g2 : ∀ z1 : Int, -2147483648 ≤ z1 → z1 ≤ 2147483647 → ∀ x10 : Int32, x10.toInt = i + 1 → ∀ lv10 : List (Nat × Value), m_lk lv10 0 = some (.ref m) → m_lk lv10 1 = some (.int lx1) → m_lk lv10 2 = some (.int lx2) → m_lk lv10 3 = some (.int x10) → z1 ≥ 0 → z1 = 0 → V 52 (i).toNat ≥ V 52 (b).toNat → HJ 261 4 lv10 [] h Q)
    (g3 : ∀ z1 : Int, -2147483648 ≤ z1 → z1 ≤ 2147483647 → ∀ x12 : Int32, x12.toInt = i + 1 → ∀ lv12 : List (Nat × Value), m_lk lv12 0 = some (.ref m) → m_lk lv12 1 = some (.int lx1) → m_lk lv12 2 = some (.int lx3) → m_lk lv12 3 = some (.int x12) → z1 ≥ 0 → z1 = 0 → V 52 (i).toNat < V 52 (b).toNat → HJ 261 4 lv12 [] h Q)
    : HJ 261 50 lv [.int sx1, .int sx0] h Q := by
  refine hM_subw rfl rfl (fun x1 z1 q1 a1 b1 => ?_) -- 50
  refine hM_si2 (k := 5) rfl (by decide +kernel) rfl (fun lv2 e2_5 u2 => ?_) -- 51
  have e2_0 := u2 0 _ (by decide) (Or.inl rfl) e0
  have e2_1 := u2 1 _ (by decide) (Or.inl rfl) e1
  have e2_2 := u2 2 _ (by decide) (Or.inl rfl) e2
  have e2_3 := u2 3 _ (by decide) (Or.inl rfl) e3
  refine hI_il2 (k := 5) rfl e2_5 rfl ?_ -- 53
  refine hM_zlt (off := 23) (t := 78) rfl q1 (by decide) rfl (fun c55 => ?_) (fun c55 => ?_) -- 55
  · refine hI_il (k := 3) rfl e2_3 rfl ?_ -- 78
    refine hI_go (pc' := 83) (off := 4) rfl (by decide) ?_ -- 79
    refine hM_si (k := 2) rfl (by decide +kernel) rfl (fun lv3 e3_2 u3 => ?_) -- 83
    have e3_0 := u3 0 _ (by decide) (Or.inl rfl) e2_0
    have e3_1 := u3 1 _ (by decide) (Or.inl rfl) e2_1
    have e3_3 := u3 3 _ (by decide) (Or.inl rfl) e2_3
    have e3_5 := u3 5 _ (by decide) (Or.inl rfl) e2_5
    refine hM_inc (k := 3) (z := 1) rfl e3_3 lq3 (by decide) (by omega) (by omega) (by decide +kernel) rfl (fun lv4 x4 q4 e4_3 u4 => ?_) -- 84
    have e4_0 := u4 0 _ (by decide) (Or.inl rfl) e3_0
    have e4_1 := u4 1 _ (by decide) (Or.inl rfl) e3_1
    have e4_5 := u4 5 _ (by decide) (Or.inl rfl) e3_5
    have e4_2 := u4 2 _ (by decide) (Or.inl rfl) e3_2
    refine hI_go (pc' := 4) (off := (-83)) rfl (by decide) ?_ -- 87
    exact g0 z1 a1 b1 x4 q4 lv4 e4_0 e4_1 e4_2 e4_3 c55
  · refine hI_il2 (k := 5) rfl e2_5 rfl ?_ -- 58
    refine hM_zne (off := 22) (t := 82) rfl q1 (by decide) rfl (fun c60 => ?_) (fun c60 => ?_) -- 60
    · refine hI_il (k := 2) rfl e2_2 rfl ?_ -- 82
      refine hM_si (k := 2) rfl (by decide +kernel) rfl (fun lv5 e5_2 u5 => ?_) -- 83
      have e5_0 := u5 0 _ (by decide) (Or.inl rfl) e2_0
      have e5_1 := u5 1 _ (by decide) (Or.inl rfl) e2_1
      have e5_3 := u5 3 _ (by decide) (Or.inl rfl) e2_3
      have e5_5 := u5 5 _ (by decide) (Or.inl rfl) e2_5
      refine hM_inc (k := 3) (z := 1) rfl e5_3 lq3 (by decide) (by omega) (by omega) (by decide +kernel) rfl (fun lv6 x6 q6 e6_3 u6 => ?_) -- 84
      have e6_0 := u6 0 _ (by decide) (Or.inl rfl) e5_0
      have e6_1 := u6 1 _ (by decide) (Or.inl rfl) e5_1
      have e6_5 := u6 5 _ (by decide) (Or.inl rfl) e5_5
      have e6_2 := u6 2 _ (by decide) (Or.inl rfl) e5_2
      refine hI_go (pc' := 4) (off := (-83)) rfl (by decide) ?_ -- 87
      exact g1 z1 a1 b1 x6 q6 lv6 e6_0 e6_1 e6_2 e6_3 c55 c60
    · refine hI_al (k := 0) rfl e2_0 rfl ?_ -- 63
      refine hM_ga M (by decide) rfl rfl (k := 52) (c := 9) rfl rfl rfl (by decide +kernel) rfl ?_ -- 64
      refine hI_il (k := 3) rfl e2_3 rfl ?_ -- 67
      refine hM_ia M (by decide) (K := 52) (R2 := 83) (L := 6) (H := 6) (lo := (-2147483648)) (hi := 2147483647) rfl (by decide) rfl rfl (fun _ => rfl) rfl lq3 (by omega) (by omega) rfl (fun x7 q7 a7 b7 => ?_) -- 68
      refine hI_al (k := 0) rfl e2_0 rfl ?_ -- 69
      refine hM_ga M (by decide) rfl rfl (k := 52) (c := 9) rfl rfl rfl (by decide +kernel) rfl ?_ -- 70
      refine hI_il (k := 2) rfl e2_2 rfl ?_ -- 73
      refine hM_ia M (by decide) (K := 52) (R2 := 83) (L := 6) (H := 6) (lo := (-2147483648)) (hi := 2147483647) rfl (by decide) rfl rfl (fun _ => rfl) rfl lq2 (by omega) (by omega) rfl (fun x8 q8 a8 b8 => ?_) -- 74
      refine hM_cge (off := 7) (t := 82) rfl q7 q8 (by decide) rfl (fun c75 => ?_) (fun c75 => ?_) -- 75
      · refine hI_il (k := 2) rfl e2_2 rfl ?_ -- 82
        refine hM_si (k := 2) rfl (by decide +kernel) rfl (fun lv9 e9_2 u9 => ?_) -- 83
        have e9_0 := u9 0 _ (by decide) (Or.inl rfl) e2_0
        have e9_1 := u9 1 _ (by decide) (Or.inl rfl) e2_1
        have e9_3 := u9 3 _ (by decide) (Or.inl rfl) e2_3
        have e9_5 := u9 5 _ (by decide) (Or.inl rfl) e2_5
        refine hM_inc (k := 3) (z := 1) rfl e9_3 lq3 (by decide) (by omega) (by omega) (by decide +kernel) rfl (fun lv10 x10 q10 e10_3 u10 => ?_) -- 84
        have e10_0 := u10 0 _ (by decide) (Or.inl rfl) e9_0
        have e10_1 := u10 1 _ (by decide) (Or.inl rfl) e9_1
        have e10_5 := u10 5 _ (by decide) (Or.inl rfl) e9_5
        have e10_2 := u10 2 _ (by decide) (Or.inl rfl) e9_2
        refine hI_go (pc' := 4) (off := (-83)) rfl (by decide) ?_ -- 87
        exact g2 z1 a1 b1 x10 q10 lv10 e10_0 e10_1 e10_2 e10_3 c55 c60 c75
      · refine hI_il (k := 3) rfl e2_3 rfl ?_ -- 78
        refine hI_go (pc' := 83) (off := 4) rfl (by decide) ?_ -- 79
        refine hM_si (k := 2) rfl (by decide +kernel) rfl (fun lv11 e11_2 u11 => ?_) -- 83
        have e11_0 := u11 0 _ (by decide) (Or.inl rfl) e2_0
        have e11_1 := u11 1 _ (by decide) (Or.inl rfl) e2_1
        have e11_3 := u11 3 _ (by decide) (Or.inl rfl) e2_3
        have e11_5 := u11 5 _ (by decide) (Or.inl rfl) e2_5
        refine hM_inc (k := 3) (z := 1) rfl e11_3 lq3 (by decide) (by omega) (by omega) (by decide +kernel) rfl (fun lv12 x12 q12 e12_3 u12 => ?_) -- 84
        have e12_0 := u12 0 _ (by decide) (Or.inl rfl) e11_0
        have e12_1 := u12 1 _ (by decide) (Or.inl rfl) e11_1
        have e12_5 := u12 5 _ (by decide) (Or.inl rfl) e11_5
        have e12_2 := u12 2 _ (by decide) (Or.inl rfl) e11_2
        refine hI_go (pc' := 4) (off := (-83)) rfl (by decide) ?_ -- 87
        exact g3 z1 a1 b1 x12 q12 lv12 e12_0 e12_1 e12_2 e12_3 c55 c60 c75
theorem s_le105 {z : Int} (M : MX 49 W ρ m A h0 h F V G) {sx0 : Int32} (sq0 : sx0.toInt = z) 
    (g0 : Q (some (.int sx0)) h)
    : HJ 261 105 lv [.int sx0] h Q := by
  refine hI_ri rfl rfl ?_ -- 105
  exact g0 
theorem l_le {xs : Int32} (M : MX 49 W ρ m A h0 h F V G) (s0 : 0 ≤ xs.toInt) (s1 : xs.toInt < 4096) (g : ∀ x : Int32, 0 ≤ x.toInt → x.toInt < 4096 → Q (some (.int x)) h) : ∀ (d i : Nat) (lv : List (Nat × Value)) (xb xi : Int32), i + d = 6 → -1 ≤ xb.toInt → xb.toInt ≤ 5 → xi.toInt = (i : Int) → m_lk lv 0 = some (.ref m) → m_lk lv 1 = some (.int xs) → m_lk lv 2 = some (.int xb) → m_lk lv 3 = some (.int xi) → HJ 261 4 lv [] h Q := by
  intro d
  induction d with
  | zero =>
    intro i lv xb xi hd b0 b1 hi e0 e1 e2 e3
    refine s_le4 M e0 e1 rfl e2 rfl e3 hi (fun x3 q3 a1 b1 c9 c92 => ?_) (fun _ _ _ _ => g xs s0 s1) (fun a1 b1 c9 => by omega)
    exact c_with s0 s1 (by omega) (by omega) (by omega) (by omega) (fun z z0 z1 => s_le105 (z := z.toInt) M rfl (g z z0 z1))
  | succ d ih =>
    intro i lv xb xi hd b0 b1 hi e0 e1 e2 e3
    refine s_le4 M e0 e1 rfl e2 rfl e3 hi (fun x3 q3 a1 b1 c9 c92 => ?_) (fun _ _ _ _ => g xs s0 s1) (fun a1 b1 c9 => c_dig (fun z z0 z1 => ?_))
    · exact c_with s0 s1 (by omega) (by omega) (by omega) (by omega) (fun z z0 z1 => s_le105 (z := z.toInt) M rfl (g z z0 z1))
    · refine s_le17 (d := z.toInt) M e0 e1 rfl e2 rfl e3 hi rfl (by omega) (by omega) (fun x2 q2 lv2 d0 d1 d2 d3 _ => ih (i + 1) lv2 xb x2 (by omega) b0 (by omega) (by omega) d0 d1 d2 d3) (fun lv1 d0 d1 d2 d3 _ c26 => ?_) (fun x7 q7 lv7 d0 d1 d2 d3 _ _ => ih (i + 1) lv7 xi x7 (by omega) (by omega) (by omega) (by omega) d0 d1 d2 d3)
      refine c_key M hi rfl (by omega) (by omega) (fun y => ?_)
      refine s_le40 (y := y.toInt) M d0 d1 rfl d2 rfl d3 hi rfl (c_dig (fun z2 z20 z21 => ?_))
      refine s_le47 (y := y.toInt) (d := z2.toInt) M d0 d1 rfl d2 rfl d3 hi rfl rfl rfl ?_
      refine c_key M rfl rfl (by omega) (by omega) (fun y2 => ?_)
      exact s_le50 (y := y.toInt) (z := y2.toInt) M d0 d1 rfl d2 rfl d3 hi rfl rfl (by omega) (by omega) (by omega) (by omega)
        (fun z1 a1 b1 x4 q4 lv4 k0 k1 k2 k3 _ => ih (i + 1) lv4 xi x4 (by omega) (by omega) (by omega) (by omega) k0 k1 k2 k3)
        (fun z1 a1 b1 x4 q4 lv4 k0 k1 k2 k3 _ _ => ih (i + 1) lv4 xb x4 (by omega) b0 (by omega) (by omega) k0 k1 k2 k3)
        (fun z1 a1 b1 x4 q4 lv4 k0 k1 k2 k3 _ _ _ => ih (i + 1) lv4 xb x4 (by omega) b0 (by omega) (by omega) k0 k1 k2 k3)
        (fun z1 a1 b1 x4 q4 lv4 k0 k1 k2 k3 _ _ _ => ih (i + 1) lv4 xi x4 (by omega) (by omega) (by omega) (by omega) k0 k1 k2 k3)
theorem c_lessOf {xs : Int32} (M : MX 49 W ρ m A h0 h F V G) (s0 : 0 ≤ xs.toInt) (s1 : xs.toInt < 4096) (g : ∀ x : Int32, 0 ≤ x.toInt → x.toInt < 4096 → Q (some (.int x)) h) : HJ 261 0 (lv_args 0 [.ref m, .int xs]) [] h Q :=
  s_le0 M rfl rfl rfl (fun x1 q1 x3 q3 lv4 e0 e1 e2 e3 => l_le M s0 s1 g 6 0 lv4 x1 x3 rfl (by omega) (by omega) q3 e0 e1 e2 e3)
-- what the queue is known for
def z_q (F : Nat → Int) (V : Nat → Nat → Int) : Prop := F 57 ≤ z_cm (V 55) 4096 ∧ 0 ≤ F 57 ∧ ∀ j, j < 4096 → V 55 j = -1 ∨ (0 ≤ V 55 j ∧ V 55 j ≤ F 57)
theorem s_ct {s y : Int} (M : MX 49 W ρ m A h0 h F V G) (e0 : m_lk lv 0 = some (.ref m)) {lx1 : Int32} (e1 : m_lk lv 1 = some (.int lx1)) (lq1 : lx1.toInt = s) {lx2 : Int32} (e2 : m_lk lv 2 = some (.int lx2)) (lq2 : lx2.toInt = y) (s0 : 0 ≤ s) (s1 : s < 4096) (q0 : V 55 s.toNat = -1 → F 57 < 4096) (q1 : 0 ≤ F 57) (y0 : -2147483648 ≤ y ∧ y ≤ 2147483647)(hw : d_sub [(86, 1001), (87, 1001), (49, 57)] W = true)
    (g0 : V 55 (s).toNat ≠ (-1) → Q none h)
    (g1 : ∀ h3 : MH, ∀ V3 : Nat → Nat → Int, V3 = m_u V 55 (m_u (V 55) (s).toNat (y)) → ∀ h5 : MH, ∀ V5 : Nat → Nat → Int, V5 = m_u V3 56 (m_u (V3 56) (F 57).toNat (s)) → ∀ h9 : MH, ∀ F9 : Nat → Int, F9 = m_u F 57 ((F 57) + 1) → MX 49 W ρ m A h0 h9 F9 V5 G → V 55 (s).toNat = (-1) → 0 ≤ F 57 → F 57 ≤ 4096 → Q none h9)
    : HJ 257 0 lv [] h Q := by
  refine hI_al (k := 0) rfl e0 rfl ?_ -- 0
  refine hM_ga M (by decide) rfl rfl (k := 55) (c := 9) rfl rfl rfl (by decide +kernel) rfl ?_ -- 1
  refine hI_il (k := 1) rfl e1 rfl ?_ -- 4
  refine hM_ia M (by decide) (K := 55) (R2 := 86) (L := 4096) (H := 4096) (lo := (-2147483648)) (hi := 2147483647) rfl (by decide) rfl rfl (fun _ => rfl) rfl lq1 (by omega) (by omega) rfl (fun x1 q1 a1 b1 => ?_) -- 5
  refine hM_ic (n := (-1)) rfl (by decide) rfl (fun x2 q2 => ?_) -- 6
  refine hM_cne (off := 30) (t := 37) rfl q1 q2 (by decide) rfl (fun c7 => ?_) (fun c7 => ?_) -- 7
  · refine hI_rv rfl rfl ?_
    exact g0 c7
  · refine hI_al (k := 0) rfl e0 rfl ?_ -- 10
    refine hM_ga M (by decide) rfl rfl (k := 55) (c := 9) rfl rfl rfl (by decide +kernel) rfl ?_ -- 11
    refine hI_il (k := 1) rfl e1 rfl ?_ -- 14
    refine hI_il (k := 2) rfl e2 rfl ?_ -- 15
    refine hM_is M (by decide) ok_49 (K := 55) (R2 := 86) (L := 4096) (H := 4096) (lo := (-2147483648)) (hi := 2147483647) rfl (by decide) rfl rfl rfl (fun _ => rfl) (d_subm hw (by decide +kernel)) rfl lq1 lq2 (by omega) (by omega) (by omega) (by omega) rfl (fun h3 V3 f3 M3 => ?_) -- 16
    refine hI_al (k := 0) rfl e0 rfl ?_ -- 17
    refine hM_ga M3 (by decide) rfl rfl (k := 56) (c := 9) rfl rfl rfl (by decide +kernel) rfl ?_ -- 18
    refine hI_al (k := 0) rfl e0 rfl ?_ -- 21
    refine hM_gi M3 (by decide) rfl rfl rfl (k := 57) (c := 9) (lo := 0) (hi := 4096) rfl rfl rfl rfl rfl (fun x4 q4 a4 b4 => ?_) -- 22
    refine hI_il (k := 1) rfl e1 rfl ?_ -- 25
    refine hM_is M3 (by decide) ok_49 (K := 56) (R2 := 87) (L := 4096) (H := 4096) (lo := 0) (hi := 4095) rfl (by decide) rfl rfl rfl (fun _ => rfl) (d_subm hw (by decide +kernel)) rfl q4 lq1 (by omega) (by omega) (by omega) (by omega) rfl (fun h5 V5 f5 M5 => ?_) -- 26
    refine hI_al (k := 0) rfl e0 rfl ?_ -- 27
    refine hI_dup rfl rfl rfl ?_ -- 28
    refine hM_gi M5 (by decide) rfl rfl rfl (k := 57) (c := 9) (lo := 0) (hi := 4096) rfl rfl rfl rfl rfl (fun x6 q6 a6 b6 => ?_) -- 29
    refine hM_ic (n := 1) rfl (by decide) rfl (fun x7 q7 => ?_) -- 32
    refine hM_add rfl q6 q7 (by omega) (by omega) rfl (fun x8 q8 => ?_) -- 33
    refine hM_pi M5 (by decide) ok_49 rfl rfl (k := 57) (c := 9) (lo := 0) (hi := 4096) rfl rfl ⟨by decide, by decide +kernel, rfl⟩ rfl (d_subm hw (by decide +kernel)) q8 (by omega) (by omega) rfl (fun h9 F9 f9 M9 => ?_) -- 34
    refine hI_rv rfl rfl ?_
    exact g1 h3 V3 f3 h5 V5 f5 h9 F9 f9 M9 c7 a4 b4
def g_cts : List (Nat × Nat) := [(86, 1001), (87, 1001), (49, 57)]
theorem c_comes {xs xy : Int32} (M : MX 49 W ρ m A h0 h F V G) (hw : d_sub g_cts W = true) (I : z_q F V) (s0 : 0 ≤ xs.toInt) (s1 : xs.toInt < 4096) (y0 : 0 ≤ xy.toInt) (y1 : xy.toInt ≤ F 57 + 1) (g : ∀ (h' : MH) (F' : Nat → Int) (V' : Nat → Nat → Int), MX 49 W ρ m A h0 h' F' V' G → z_q F' V' → F 57 ≤ F' 57 → (∀ K, K ≠ 57 → F' K = F K) → Q none h') : HJ 257 0 (lv_args 0 [.ref m, .int xs, .int xy]) [] h Q := by
  obtain ⟨i1, i2, i3⟩ := I
  have yT : -2147483648 ≤ xy.toInt ∧ xy.toInt ≤ 2147483647 := g_iT xy
  refine s_ct M rfl rfl rfl rfl rfl s0 s1 (fun z => ?_) i2 yT hw (fun _ => g h F V M ⟨i1, i2, i3⟩ (Int.le_refl _) (fun _ _ => rfl)) (fun h3 V3 f3 h5 V5 f5 h9 F9 f9 M9 c7 _ _ => ?_)
  · have := z_cmS (n := 4096) z (by omega)
    omega
  · have f57 : F9 57 = F 57 + 1 := by rw [f9, m_uE]
    have v55 : V5 55 = m_u (V 55) xs.toInt.toNat xy.toInt := by rw [f5, m_uN _ _ _ _ (by decide), f3, m_uE]
    refine g h9 F9 V5 M9 ⟨?_, by omega, fun j hj => ?_⟩ (by omega) (fun K hK => by rw [f9, m_uN _ _ _ _ hK])
    · rw [v55, z_cmU c7 (by omega) (by omega), f57]
      omega
    · rw [v55, f57]
      by_cases e : j = xs.toInt.toNat
      · rw [e, m_uE]
        exact Or.inr (by omega)
      · rw [m_uN _ _ _ _ e]
        rcases i3 j hj with z | z
        · exact Or.inl z
        · exact Or.inr (by omega)
theorem s_fs0 (M : MX 49 W ρ m A h0 h F V G) (e0 : m_lk lv 0 = some (.ref m)) 
    (g0 : ∀ x1 : Int32, x1.toInt = 0 → ∀ lv2 : List (Nat × Value), m_lk lv2 0 = some (.ref m) → m_lk lv2 1 = some (.int x1) → HJ 255 2 lv2 [] h Q)
    : HJ 255 0 lv [] h Q := by
  refine hM_ic (n := 0) rfl (by decide) rfl (fun x1 q1 => ?_) -- 0
  refine hM_si (k := 1) rfl (by decide +kernel) rfl (fun lv2 e2_1 u2 => ?_) -- 1
  have e2_0 := u2 0 _ (by decide) (Or.inl rfl) e0
  exact g0 x1 q1 lv2 e2_0 e2_1
theorem s_fs2 {i : Int} (M : MX 49 W ρ m A h0 h F V G) (e0 : m_lk lv 0 = some (.ref m)) {lx1 : Int32} (e1 : m_lk lv 1 = some (.int lx1)) (lq1 : lx1.toInt = i) (i0 : 0 ≤ i)(hw : d_sub [(86, 1001)] W = true)
    (g0 : ∀ x2 : Int32, x2.toInt = 0 → ∀ x4 : Int32, x4.toInt = 0 → ∀ lv5 : List (Nat × Value), m_lk lv5 0 = some (.ref m) → m_lk lv5 1 = some (.int x2) → m_lk lv5 2 = some (.int x4) → i ≥ 4096 → HJ 255 26 lv5 [] h Q)
    (g1 : ∀ h7 : MH, ∀ V7 : Nat → Nat → Int, V7 = m_u V 55 (m_u (V 55) (i).toNat ((-1))) → ∀ x8 : Int32, x8.toInt = i + 1 → ∀ lv8 : List (Nat × Value), MX 49 W ρ m A h0 h7 F V7 G → m_lk lv8 0 = some (.ref m) → m_lk lv8 1 = some (.int x8) → i < 4096 → HJ 255 2 lv8 [] h7 Q)
    : HJ 255 2 lv [] h Q := by
  refine hI_il (k := 1) rfl e1 rfl ?_ -- 2
  refine hM_sp (n := 4096) rfl (by decide) rfl (fun x1 q1 => ?_) -- 3
  refine hM_cge (off := 16) (t := 22) rfl lq1 q1 (by decide) rfl (fun c6 => ?_) (fun c6 => ?_) -- 6
  · refine hM_ic (n := 0) rfl (by decide) rfl (fun x2 q2 => ?_) -- 22
    refine hM_si (k := 1) rfl (by decide +kernel) rfl (fun lv3 e3_1 u3 => ?_) -- 23
    have e3_0 := u3 0 _ (by decide) (Or.inl rfl) e0
    refine hM_ic (n := 0) rfl (by decide) rfl (fun x4 q4 => ?_) -- 24
    refine hM_si (k := 2) rfl (by decide +kernel) rfl (fun lv5 e5_2 u5 => ?_) -- 25
    have e5_0 := u5 0 _ (by decide) (Or.inl rfl) e3_0
    have e5_1 := u5 1 _ (by decide) (Or.inl rfl) e3_1
    exact g0 x2 q2 x4 q4 lv5 e5_0 e5_1 e5_2 c6
  · refine hI_al (k := 0) rfl e0 rfl ?_ -- 9
    refine hM_ga M (by decide) rfl rfl (k := 55) (c := 9) rfl rfl rfl (by decide +kernel) rfl ?_ -- 10
    refine hI_il (k := 1) rfl e1 rfl ?_ -- 13
    refine hM_ic (n := (-1)) rfl (by decide) rfl (fun x6 q6 => ?_) -- 14
    refine hM_is M (by decide) ok_49 (K := 55) (R2 := 86) (L := 4096) (H := 4096) (lo := (-2147483648)) (hi := 2147483647) rfl (by decide) rfl rfl rfl (fun _ => rfl) (d_subm hw (by decide +kernel)) rfl lq1 q6 (by omega) (by omega) (by omega) (by omega) rfl (fun h7 V7 f7 M7 => ?_) -- 15
    refine hM_inc (k := 1) (z := 1) rfl e1 lq1 (by decide) (by omega) (by omega) (by decide +kernel) rfl (fun lv8 x8 q8 e8_1 u8 => ?_) -- 16
    have e8_0 := u8 0 _ (by decide) (Or.inl rfl) e0
    refine hI_go (pc' := 2) (off := (-17)) rfl (by decide) ?_ -- 19
    exact g1 h7 V7 f7 x8 q8 lv8 M7 e8_0 e8_1 c6
theorem s_fs26 {b i : Int} (M : MX 49 W ρ m A h0 h F V G) (e0 : m_lk lv 0 = some (.ref m)) {lx1 : Int32} (e1 : m_lk lv 1 = some (.int lx1)) (lq1 : lx1.toInt = b) {lx2 : Int32} (e2 : m_lk lv 2 = some (.int lx2)) (lq2 : lx2.toInt = i) 
    (g0 : 0 ≤ F 51 → F 51 ≤ 6 → i ≥ F 51 → HJ 255 47 lv [] h Q)
    (g1 : ∀ x2 : Int32, x2.toInt = 1 → 0 ≤ F 51 → F 51 ≤ 6 → i < F 51 → HJ 256 0 (lv_args 0 [.int lx1, .int lx2, .int x2]) [] h (fun v h' => HJ 255 40 lv (v.toList ++ []) h' Q))
    : HJ 255 26 lv [] h Q := by
  refine hI_il (k := 2) rfl e2 rfl ?_ -- 26
  refine hI_al (k := 0) rfl e0 rfl ?_ -- 27
  refine hM_gi M (by decide) rfl rfl rfl (k := 51) (c := 9) (lo := 0) (hi := 6) rfl rfl rfl rfl rfl (fun x1 q1 a1 b1 => ?_) -- 28
  refine hM_cge (off := 16) (t := 47) rfl lq2 q1 (by decide) rfl (fun c31 => ?_) (fun c31 => ?_) -- 31
  · exact g0 a1 b1 c31
  · refine hI_il (k := 1) rfl e1 rfl ?_ -- 34
    refine hI_il (k := 2) rfl e2 rfl ?_ -- 35
    refine hM_ic (n := 1) rfl (by decide) rfl (fun x2 q2 => ?_) -- 36
    refine hM_is0 (as := [.int lx1, .int lx2, .int x2]) (r := []) rfl rfl (by decide +kernel) rfl rfl rfl rfl rfl ?_ -- 37
    exact g1 x2 q2 a1 b1 c31
theorem s_fs40 {i z : Int} (M : MX 49 W ρ m A h0 h F V G) (e0 : m_lk lv 0 = some (.ref m)) {lx2 : Int32} (e2 : m_lk lv 2 = some (.int lx2)) (lq2 : lx2.toInt = i) {sx0 : Int32} (sq0 : sx0.toInt = z) (i0 : 0 ≤ i) (i1 : i ≤ 6)
    (g0 : ∀ x2 : Int32, x2.toInt = i + 1 → ∀ lv2 : List (Nat × Value), m_lk lv2 0 = some (.ref m) → m_lk lv2 1 = some (.int sx0) → m_lk lv2 2 = some (.int x2) → HJ 255 26 lv2 [] h Q)
    : HJ 255 40 lv [.int sx0] h Q := by
  refine hM_si (k := 1) rfl (by decide +kernel) rfl (fun lv1 e1_1 u1 => ?_) -- 40
  have e1_0 := u1 0 _ (by decide) (Or.inl rfl) e0
  have e1_2 := u1 2 _ (by decide) (Or.inl rfl) e2
  refine hM_inc (k := 2) (z := 1) rfl e1_2 lq2 (by decide) (by omega) (by omega) (by decide +kernel) rfl (fun lv2 x2 q2 e2_2 u2 => ?_) -- 41
  have e2_0 := u2 0 _ (by decide) (Or.inl rfl) e1_0
  have e2_1 := u2 1 _ (by decide) (Or.inl rfl) e1_1
  refine hI_go (pc' := 26) (off := (-18)) rfl (by decide) ?_ -- 44
  exact g0 x2 q2 lv2 e2_0 e2_1 e2_2
theorem s_fs47 {b : Int} (M : MX 49 W ρ m A h0 h F V G) (e0 : m_lk lv 0 = some (.ref m)) {lx1 : Int32} (e1 : m_lk lv 1 = some (.int lx1)) (lq1 : lx1.toInt = b) (hw : d_sub [(49, 57)] W = true)
    (g0 : ∀ h2 : MH, ∀ F2 : Nat → Int, F2 = m_u F 57 (0) → ∀ x3 : Int32, x3.toInt = 0 → MX 49 W ρ m A h0 h2 F2 V G → HJ 257 0 (lv_args 0 [.ref m, .int lx1, .int x3]) [] h2 (fun v h' => HJ 255 58 lv (v.toList ++ []) h' Q))
    : HJ 255 47 lv [] h Q := by
  refine hI_al (k := 0) rfl e0 rfl ?_ -- 47
  refine hM_ic (n := 0) rfl (by decide) rfl (fun x1 q1 => ?_) -- 48
  refine hM_pi M (by decide) ok_49 rfl rfl (k := 57) (c := 9) (lo := 0) (hi := 4096) rfl rfl ⟨by decide, by decide +kernel, rfl⟩ rfl (d_subm hw (by decide +kernel)) q1 (by omega) (by omega) rfl (fun h2 F2 f2 M2 => ?_) -- 49
  refine hI_al (k := 0) rfl e0 rfl ?_ -- 52
  refine hI_il (k := 1) rfl e1 rfl ?_ -- 53
  refine hM_ic (n := 0) rfl (by decide) rfl (fun x3 q3 => ?_) -- 54
  refine hM_iv M2 (by decide) rfl rfl (by decide) (as := [.int lx1, .int x3]) (r := []) rfl rfl (by decide +kernel) rfl (by decide +kernel) rfl rfl rfl rfl rfl ?_ -- 55
  exact g0 h2 F2 f2 x3 q3 M2
theorem s_fs58 (M : MX 49 W ρ m A h0 h F V G) (e0 : m_lk lv 0 = some (.ref m)) 
    (g0 : ∀ x1 : Int32, x1.toInt = 0 → ∀ lv2 : List (Nat × Value), m_lk lv2 0 = some (.ref m) → m_lk lv2 2 = some (.int x1) → HJ 255 60 lv2 [] h Q)
    : HJ 255 58 lv [] h Q := by
  refine hM_ic (n := 0) rfl (by decide) rfl (fun x1 q1 => ?_) -- 58
  refine hM_si (k := 2) rfl (by decide +kernel) rfl (fun lv2 e2_2 u2 => ?_) -- 59
  have e2_0 := u2 0 _ (by decide) (Or.inl rfl) e0
  exact g0 x1 q1 lv2 e2_0 e2_2
theorem s_fs60 {k : Int} (M : MX 49 W ρ m A h0 h F V G) (e0 : m_lk lv 0 = some (.ref m)) {lx2 : Int32} (e2 : m_lk lv 2 = some (.int lx2)) (lq2 : lx2.toInt = k) (k0 : 0 ≤ k) (k1 : F 57 ≤ 4096) (s1 : ∀ j, j < 4096 → -1 ≤ V 55 j ∧ V 55 j ≤ 4096)
    (g0 : ∀ x2 : Int32, x2.toInt = (-1) → 0 ≤ F 57 → F 57 ≤ 4096 → k ≥ F 57 → Q (some (.int x2)) h)
    (g1 : ∀ x3 : Int32, x3.toInt = V 56 (k).toNat → ∀ x7 : Int32, x7.toInt = (V 55 (V 56 (k).toNat).toNat) + 1 → ∀ lv8 : List (Nat × Value), m_lk lv8 0 = some (.ref m) → m_lk lv8 2 = some (.int lx2) → m_lk lv8 3 = some (.int x3) → m_lk lv8 4 = some (.int x7) → 0 ≤ F 57 → F 57 ≤ 4096 → k < F 57 → 0 ≤ V 56 (k).toNat → V 56 (k).toNat ≤ 4095 → HJ 258 0 (lv_args 0 [.ref m, .int x3]) [] h (fun v h' => HJ 255 90 lv8 (v.toList ++ []) h' Q))
    : HJ 255 60 lv [] h Q := by
  refine hI_il (k := 2) rfl e2 rfl ?_ -- 60
  refine hI_al (k := 0) rfl e0 rfl ?_ -- 61
  refine hM_gi M (by decide) rfl rfl rfl (k := 57) (c := 9) (lo := 0) (hi := 4096) rfl rfl rfl rfl rfl (fun x1 q1 a1 b1 => ?_) -- 62
  refine hM_cge (off := 141) (t := 206) rfl lq2 q1 (by decide) rfl (fun c65 => ?_) (fun c65 => ?_) -- 65
  · refine hM_ic (n := (-1)) rfl (by decide) rfl (fun x2 q2 => ?_) -- 206
    refine hI_ri rfl rfl ?_ -- 207
    exact g0 x2 q2 a1 b1 c65
  · refine hI_al (k := 0) rfl e0 rfl ?_ -- 68
    refine hM_ga M (by decide) rfl rfl (k := 56) (c := 9) rfl rfl rfl (by decide +kernel) rfl ?_ -- 69
    refine hI_il (k := 2) rfl e2 rfl ?_ -- 72
    refine hM_ia M (by decide) (K := 56) (R2 := 87) (L := 4096) (H := 4096) (lo := 0) (hi := 4095) rfl (by decide) rfl rfl (fun _ => rfl) rfl lq2 (by omega) (by omega) rfl (fun x3 q3 a3 b3 => ?_) -- 73
    refine hM_si (k := 3) rfl (by decide +kernel) rfl (fun lv4 e4_3 u4 => ?_) -- 74
    have e4_0 := u4 0 _ (by decide) (Or.inl rfl) e0
    have e4_2 := u4 2 _ (by decide) (Or.inl rfl) e2
    refine hI_al (k := 0) rfl e4_0 rfl ?_ -- 75
    refine hM_ga M (by decide) rfl rfl (k := 55) (c := 9) rfl rfl rfl (by decide +kernel) rfl ?_ -- 76
    refine hI_il (k := 3) rfl e4_3 rfl ?_ -- 79
    refine hM_ia M (by decide) (K := 55) (R2 := 86) (L := 4096) (H := 4096) (lo := (-2147483648)) (hi := 2147483647) rfl (by decide) rfl rfl (fun _ => rfl) rfl q3 (by omega) (by omega) rfl (fun x5 q5 a5 b5 => ?_) -- 80
    have hs := s1 (V 56 (k).toNat).toNat (by omega)
    refine hM_ic (n := 1) rfl (by decide) rfl (fun x6 q6 => ?_) -- 81
    refine hM_add rfl q5 q6 (by omega) (by omega) rfl (fun x7 q7 => ?_) -- 82
    refine hM_si2 (k := 4) rfl (by decide +kernel) rfl (fun lv8 e8_4 u8 => ?_) -- 83
    have e8_0 := u8 0 _ (by decide) (Or.inl rfl) e4_0
    have e8_2 := u8 2 _ (by decide) (Or.inl rfl) e4_2
    have e8_3 := u8 3 _ (by decide) (Or.inl rfl) e4_3
    refine hI_al (k := 0) rfl e8_0 rfl ?_ -- 85
    refine hI_il (k := 3) rfl e8_3 rfl ?_ -- 86
    refine hM_iv M (by decide) rfl rfl (by decide) (as := [.int x3]) (r := []) rfl rfl (by decide +kernel) rfl (by decide +kernel) rfl rfl rfl rfl rfl ?_ -- 87
    exact g1 x3 q3 x7 q7 lv8 e8_0 e8_2 e8_3 e8_4 a1 b1 c65 a3 b3
theorem s_fs90 {k s y z : Int} (M : MX 49 W ρ m A h0 h F V G) (e0 : m_lk lv 0 = some (.ref m)) {lx2 : Int32} (e2 : m_lk lv 2 = some (.int lx2)) (lq2 : lx2.toInt = k) {lx3 : Int32} (e3 : m_lk lv 3 = some (.int lx3)) (lq3 : lx3.toInt = s) {lx4 : Int32} (e4 : m_lk lv 4 = some (.int lx4)) (lq4 : lx4.toInt = y) {sx0 : Int32} (sq0 : sx0.toInt = z) (y0 : 0 ≤ y) (y1 : y ≤ 5000)
    (g0 : z = 0 → HJ 261 0 (lv_args 0 [.ref m, .int lx3]) [] h (fun v h' => HJ 255 104 lv (v.toList ++ [.ref m]) h' Q))
    (g1 : ∀ x2 : Int32, x2.toInt = y - 1 → z ≠ 0 → Q (some (.int x2)) h)
    : HJ 255 90 lv [.int sx0] h Q := by
  refine hM_zeq (off := 8) (t := 98) rfl sq0 (by decide) rfl (fun c90 => ?_) (fun c90 => ?_) -- 90
  · refine hI_al (k := 0) rfl e0 rfl ?_ -- 98
    refine hI_al (k := 0) rfl e0 rfl ?_ -- 99
    refine hI_il (k := 3) rfl e3 rfl ?_ -- 100
    refine hM_iv M (by decide) rfl rfl (by decide) (as := [.int lx3]) (r := [.ref m]) rfl rfl (by decide +kernel) rfl (by decide +kernel) rfl rfl rfl rfl rfl ?_ -- 101
    exact g0 c90
  · refine hI_il2 (k := 4) rfl e4 rfl ?_ -- 93
    refine hM_ic (n := 1) rfl (by decide) rfl (fun x1 q1 => ?_) -- 95
    refine hM_sub rfl lq4 q1 (by omega) (by omega) rfl (fun x2 q2 => ?_) -- 96
    refine hI_ri rfl rfl ?_ -- 97
    exact g1 x2 q2 c90
theorem s_fs104 {k s y z : Int} (M : MX 49 W ρ m A h0 h F V G) (e0 : m_lk lv 0 = some (.ref m)) {lx2 : Int32} (e2 : m_lk lv 2 = some (.int lx2)) (lq2 : lx2.toInt = k) {lx3 : Int32} (e3 : m_lk lv 3 = some (.int lx3)) (lq3 : lx3.toInt = s) {lx4 : Int32} (e4 : m_lk lv 4 = some (.int lx4)) (lq4 : lx4.toInt = y) {sx1 : Int32} (sq1 : sx1.toInt = z) 
    (g0 : HJ 257 0 (lv_args 0 [.ref m, .int sx1, .int lx4]) [] h (fun v h' => HJ 255 109 lv (v.toList ++ []) h' Q))
    : HJ 255 104 lv [.int sx1, .ref m] h Q := by
  refine hI_il2 (k := 4) rfl e4 rfl ?_ -- 104
  refine hM_iv M (by decide) rfl rfl (by decide) (as := [.int sx1, .int lx4]) (r := []) rfl rfl (by decide +kernel) rfl (by decide +kernel) rfl rfl rfl rfl rfl ?_ -- 106
  exact g0 
theorem s_fs109 {k s y : Int} (M : MX 49 W ρ m A h0 h F V G) (e0 : m_lk lv 0 = some (.ref m)) {lx2 : Int32} (e2 : m_lk lv 2 = some (.int lx2)) (lq2 : lx2.toInt = k) {lx3 : Int32} (e3 : m_lk lv 3 = some (.int lx3)) (lq3 : lx3.toInt = s) {lx4 : Int32} (e4 : m_lk lv 4 = some (.int lx4)) (lq4 : lx4.toInt = y) 
    (g0 : ∀ x1 : Int32, x1.toInt = 0 → ∀ lv2 : List (Nat × Value), m_lk lv2 0 = some (.ref m) → m_lk lv2 2 = some (.int lx2) → m_lk lv2 3 = some (.int lx3) → m_lk lv2 4 = some (.int lx4) → m_lk lv2 5 = some (.int x1) → HJ 255 112 lv2 [] h Q)
    : HJ 255 109 lv [] h Q := by
  refine hM_ic (n := 0) rfl (by decide) rfl (fun x1 q1 => ?_) -- 109
  refine hM_si2 (k := 5) rfl (by decide +kernel) rfl (fun lv2 e2_5 u2 => ?_) -- 110
  have e2_0 := u2 0 _ (by decide) (Or.inl rfl) e0
  have e2_2 := u2 2 _ (by decide) (Or.inl rfl) e2
  have e2_3 := u2 3 _ (by decide) (Or.inl rfl) e3
  have e2_4 := u2 4 _ (by decide) (Or.inl rfl) e4
  exact g0 x1 q1 lv2 e2_0 e2_2 e2_3 e2_4 e2_5
theorem s_fs112 {k s y i : Int} (M : MX 49 W ρ m A h0 h F V G) (e0 : m_lk lv 0 = some (.ref m)) {lx2 : Int32} (e2 : m_lk lv 2 = some (.int lx2)) (lq2 : lx2.toInt = k) {lx3 : Int32} (e3 : m_lk lv 3 = some (.int lx3)) (lq3 : lx3.toInt = s) {lx4 : Int32} (e4 : m_lk lv 4 = some (.int lx4)) (lq4 : lx4.toInt = y) {lx5 : Int32} (e5 : m_lk lv 5 = some (.int lx5)) (lq5 : lx5.toInt = i) (k0 : 0 ≤ k) (k1 : k ≤ 4096)
    (g0 : ∀ x2 : Int32, x2.toInt = k + 1 → ∀ lv2 : List (Nat × Value), m_lk lv2 0 = some (.ref m) → m_lk lv2 2 = some (.int x2) → 0 ≤ F 51 → F 51 ≤ 6 → i ≥ F 51 → HJ 255 60 lv2 [] h Q)
    (g1 : 0 ≤ F 51 → F 51 ≤ 6 → i < F 51 → HJ 259 0 (lv_args 0 [.int lx3, .int lx5]) [] h (fun v h' => HJ 255 127 lv (v.toList ++ []) h' Q))
    : HJ 255 112 lv [] h Q := by
  refine hI_il2 (k := 5) rfl e5 rfl ?_ -- 112
  refine hI_al (k := 0) rfl e0 rfl ?_ -- 114
  refine hM_gi M (by decide) rfl rfl rfl (k := 51) (c := 9) (lo := 0) (hi := 6) rfl rfl rfl rfl rfl (fun x1 q1 a1 b1 => ?_) -- 115
  refine hM_cge (off := 82) (t := 200) rfl lq5 q1 (by decide) rfl (fun c118 => ?_) (fun c118 => ?_) -- 118
  · refine hM_inc (k := 2) (z := 1) rfl e2 lq2 (by decide) (by omega) (by omega) (by decide +kernel) rfl (fun lv2 x2 q2 e2_2 u2 => ?_) -- 200
    have e2_0 := u2 0 _ (by decide) (Or.inl rfl) e0
    have e2_3 := u2 3 _ (by decide) (Or.inl rfl) e3
    have e2_4 := u2 4 _ (by decide) (Or.inl rfl) e4
    have e2_5 := u2 5 _ (by decide) (Or.inl rfl) e5
    refine hI_go (pc' := 60) (off := (-143)) rfl (by decide) ?_ -- 203
    exact g0 x2 q2 lv2 e2_0 e2_2 a1 b1 c118
  · refine hI_il (k := 3) rfl e3 rfl ?_ -- 121
    refine hI_il2 (k := 5) rfl e5 rfl ?_ -- 122
    refine hM_is0 (as := [.int lx3, .int lx5]) (r := []) rfl rfl (by decide +kernel) rfl rfl rfl rfl rfl ?_ -- 124
    exact g1 a1 b1 c118
theorem s_fs127 {k s y i d : Int} (M : MX 49 W ρ m A h0 h F V G) (e0 : m_lk lv 0 = some (.ref m)) {lx2 : Int32} (e2 : m_lk lv 2 = some (.int lx2)) (lq2 : lx2.toInt = k) {lx3 : Int32} (e3 : m_lk lv 3 = some (.int lx3)) (lq3 : lx3.toInt = s) {lx4 : Int32} (e4 : m_lk lv 4 = some (.int lx4)) (lq4 : lx4.toInt = y) {lx5 : Int32} (e5 : m_lk lv 5 = some (.int lx5)) (lq5 : lx5.toInt = i) {sx0 : Int32} (sq0 : sx0.toInt = d) 
    (g0 : ∀ lv1 : List (Nat × Value), m_lk lv1 0 = some (.ref m) → m_lk lv1 2 = some (.int lx2) → m_lk lv1 3 = some (.int lx3) → m_lk lv1 4 = some (.int lx4) → m_lk lv1 5 = some (.int lx5) → m_lk lv1 6 = some (.int sx0) → d = 0 → HJ 255 147 lv1 [] h Q)
    (g1 : ∀ x2 : Int32, x2.toInt = 3 → ∀ lv1 : List (Nat × Value), m_lk lv1 0 = some (.ref m) → m_lk lv1 2 = some (.int lx2) → m_lk lv1 3 = some (.int lx3) → m_lk lv1 4 = some (.int lx4) → m_lk lv1 5 = some (.int lx5) → m_lk lv1 6 = some (.int sx0) → d ≠ 0 → HJ 256 0 (lv_args 0 [.int lx3, .int lx5, .int x2]) [] h (fun v h' => HJ 255 142 lv1 (v.toList ++ [.ref m]) h' Q))
    : HJ 255 127 lv [.int sx0] h Q := by
  refine hM_si2 (k := 6) rfl (by decide +kernel) rfl (fun lv1 e1_6 u1 => ?_) -- 127
  have e1_0 := u1 0 _ (by decide) (Or.inl rfl) e0
  have e1_2 := u1 2 _ (by decide) (Or.inl rfl) e2
  have e1_3 := u1 3 _ (by decide) (Or.inl rfl) e3
  have e1_4 := u1 4 _ (by decide) (Or.inl rfl) e4
  have e1_5 := u1 5 _ (by decide) (Or.inl rfl) e5
  refine hI_il2 (k := 6) rfl e1_6 rfl ?_ -- 129
  refine hM_zeq (off := 16) (t := 147) rfl sq0 (by decide) rfl (fun c131 => ?_) (fun c131 => ?_) -- 131
  · exact g0 lv1 e1_0 e1_2 e1_3 e1_4 e1_5 e1_6 c131
  · refine hI_al (k := 0) rfl e1_0 rfl ?_ -- 134
    refine hI_il (k := 3) rfl e1_3 rfl ?_ -- 135
    refine hI_il2 (k := 5) rfl e1_5 rfl ?_ -- 136
    refine hM_ic (n := 3) rfl (by decide) rfl (fun x2 q2 => ?_) -- 138
    refine hM_is0 (as := [.int lx3, .int lx5, .int x2]) (r := [.ref m]) rfl rfl (by decide +kernel) rfl rfl rfl rfl rfl ?_ -- 139
    exact g1 x2 q2 lv1 e1_0 e1_2 e1_3 e1_4 e1_5 e1_6 c131
theorem s_fs142 {k s y i d z : Int} (M : MX 49 W ρ m A h0 h F V G) (e0 : m_lk lv 0 = some (.ref m)) {lx2 : Int32} (e2 : m_lk lv 2 = some (.int lx2)) (lq2 : lx2.toInt = k) {lx3 : Int32} (e3 : m_lk lv 3 = some (.int lx3)) (lq3 : lx3.toInt = s) {lx4 : Int32} (e4 : m_lk lv 4 = some (.int lx4)) (lq4 : lx4.toInt = y) {lx5 : Int32} (e5 : m_lk lv 5 = some (.int lx5)) (lq5 : lx5.toInt = i) {lx6 : Int32} (e6 : m_lk lv 6 = some (.int lx6)) (lq6 : lx6.toInt = d) {sx1 : Int32} (sq1 : sx1.toInt = z) 
    (g0 : HJ 257 0 (lv_args 0 [.ref m, .int sx1, .int lx4]) [] h (fun v h' => HJ 255 147 lv (v.toList ++ []) h' Q))
    : HJ 255 142 lv [.int sx1, .ref m] h Q := by
  refine hI_il2 (k := 4) rfl e4 rfl ?_ -- 142
  refine hM_iv M (by decide) rfl rfl (by decide) (as := [.int sx1, .int lx4]) (r := []) rfl rfl (by decide +kernel) rfl (by decide +kernel) rfl rfl rfl rfl rfl ?_ -- 144
  exact g0 
theorem s_fs147 {k s y i d : Int} (M : MX 49 W ρ m A h0 h F V G) (e0 : m_lk lv 0 = some (.ref m)) {lx2 : Int32} (e2 : m_lk lv 2 = some (.int lx2)) (lq2 : lx2.toInt = k) {lx3 : Int32} (e3 : m_lk lv 3 = some (.int lx3)) (lq3 : lx3.toInt = s) {lx4 : Int32} (e4 : m_lk lv 4 = some (.int lx4)) (lq4 : lx4.toInt = y) {lx5 : Int32} (e5 : m_lk lv 5 = some (.int lx5)) (lq5 : lx5.toInt = i) {lx6 : Int32} (e6 : m_lk lv 6 = some (.int lx6)) (lq6 : lx6.toInt = d) (i0 : 0 ≤ i) (i1 : i ≤ 5)
    (g0 : ∀ x3 : Int32, x3.toInt = i + 1 → ∀ lv3 : List (Nat × Value), m_lk lv3 0 = some (.ref m) → m_lk lv3 2 = some (.int lx2) → m_lk lv3 3 = some (.int lx3) → m_lk lv3 4 = some (.int lx4) → m_lk lv3 5 = some (.int x3) → V 54 (i).toNat = (-1) → HJ 255 112 lv3 [] h Q)
    (g1 : ∀ x4 : Int32, x4.toInt = 2 → V 54 (i).toNat ≠ (-1) → d = 0 → HJ 256 0 (lv_args 0 [.int lx3, .int lx5, .int x4]) [] h (fun v h' => HJ 255 189 lv (v.toList ++ [.ref m]) h' Q))
    (g2 : V 54 (i).toNat ≠ (-1) → d ≠ 0 → HJ 260 0 (lv_args 0 [.ref m, .int lx5, .int lx6]) [] h (fun v h' => HJ 255 171 lv (v.toList ++ []) h' Q))
    : HJ 255 147 lv [] h Q := by
  refine hI_al (k := 0) rfl e0 rfl ?_ -- 147
  refine hM_ga M (by decide) rfl rfl (k := 54) (c := 9) rfl rfl rfl (by decide +kernel) rfl ?_ -- 148
  refine hI_il2 (k := 5) rfl e5 rfl ?_ -- 151
  refine hM_ia M (by decide) (K := 54) (R2 := 85) (L := 6) (H := 6) (lo := (-2147483648)) (hi := 2147483647) rfl (by decide) rfl rfl (fun _ => rfl) rfl lq5 (by omega) (by omega) rfl (fun x1 q1 a1 b1 => ?_) -- 153
  refine hM_ic (n := (-1)) rfl (by decide) rfl (fun x2 q2 => ?_) -- 154
  refine hM_ceq (off := 39) (t := 194) rfl q1 q2 (by decide) rfl (fun c155 => ?_) (fun c155 => ?_) -- 155
  · refine hM_inc (k := 5) (z := 1) rfl e5 lq5 (by decide) (by omega) (by omega) (by decide +kernel) rfl (fun lv3 x3 q3 e3_5 u3 => ?_) -- 194
    have e3_0 := u3 0 _ (by decide) (Or.inl rfl) e0
    have e3_2 := u3 2 _ (by decide) (Or.inl rfl) e2
    have e3_3 := u3 3 _ (by decide) (Or.inl rfl) e3
    have e3_4 := u3 4 _ (by decide) (Or.inl rfl) e4
    have e3_6 := u3 6 _ (by decide) (Or.inl rfl) e6
    refine hI_go (pc' := 112) (off := (-85)) rfl (by decide) ?_ -- 197
    exact g0 x3 q3 lv3 e3_0 e3_2 e3_3 e3_4 e3_5 c155
  · refine hI_il2 (k := 6) rfl e6 rfl ?_ -- 158
    refine hM_zeq (off := 21) (t := 181) rfl lq6 (by decide) rfl (fun c160 => ?_) (fun c160 => ?_) -- 160
    · refine hI_al (k := 0) rfl e0 rfl ?_ -- 181
      refine hI_il (k := 3) rfl e3 rfl ?_ -- 182
      refine hI_il2 (k := 5) rfl e5 rfl ?_ -- 183
      refine hM_ic (n := 2) rfl (by decide) rfl (fun x4 q4 => ?_) -- 185
      refine hM_is0 (as := [.int lx3, .int lx5, .int x4]) (r := [.ref m]) rfl rfl (by decide +kernel) rfl rfl rfl rfl rfl ?_ -- 186
      exact g1 x4 q4 c155 c160
    · refine hI_al (k := 0) rfl e0 rfl ?_ -- 163
      refine hI_il2 (k := 5) rfl e5 rfl ?_ -- 164
      refine hI_il2 (k := 6) rfl e6 rfl ?_ -- 166
      refine hM_iv M (by decide) rfl rfl (by decide) (as := [.int lx5, .int lx6]) (r := []) rfl rfl (by decide +kernel) rfl (by decide +kernel) rfl rfl rfl rfl rfl ?_ -- 168
      exact g2 c155 c160
theorem s_fs171 {k s y i d z : Int} (M : MX 49 W ρ m A h0 h F V G) (e0 : m_lk lv 0 = some (.ref m)) {lx2 : Int32} (e2 : m_lk lv 2 = some (.int lx2)) (lq2 : lx2.toInt = k) {lx3 : Int32} (e3 : m_lk lv 3 = some (.int lx3)) (lq3 : lx3.toInt = s) {lx4 : Int32} (e4 : m_lk lv 4 = some (.int lx4)) (lq4 : lx4.toInt = y) {lx5 : Int32} (e5 : m_lk lv 5 = some (.int lx5)) (lq5 : lx5.toInt = i) {lx6 : Int32} (e6 : m_lk lv 6 = some (.int lx6)) (lq6 : lx6.toInt = d) {sx0 : Int32} (sq0 : sx0.toInt = z) (i0 : 0 ≤ i) (i1 : i ≤ 5)
    (g0 : ∀ x2 : Int32, x2.toInt = i + 1 → ∀ lv2 : List (Nat × Value), m_lk lv2 0 = some (.ref m) → m_lk lv2 2 = some (.int lx2) → m_lk lv2 3 = some (.int lx3) → m_lk lv2 4 = some (.int lx4) → m_lk lv2 5 = some (.int x2) → z < V 54 (i).toNat → HJ 255 112 lv2 [] h Q)
    (g1 : ∀ x3 : Int32, x3.toInt = 2 → z ≥ V 54 (i).toNat → HJ 256 0 (lv_args 0 [.int lx3, .int lx5, .int x3]) [] h (fun v h' => HJ 255 189 lv (v.toList ++ [.ref m]) h' Q))
    : HJ 255 171 lv [.int sx0] h Q := by
  refine hI_al (k := 0) rfl e0 rfl ?_ -- 171
  refine hM_ga M (by decide) rfl rfl (k := 54) (c := 9) rfl rfl rfl (by decide +kernel) rfl ?_ -- 172
  refine hI_il2 (k := 5) rfl e5 rfl ?_ -- 175
  refine hM_ia M (by decide) (K := 54) (R2 := 85) (L := 6) (H := 6) (lo := (-2147483648)) (hi := 2147483647) rfl (by decide) rfl rfl (fun _ => rfl) rfl lq5 (by omega) (by omega) rfl (fun x1 q1 a1 b1 => ?_) -- 177
  refine hM_clt (off := 16) (t := 194) rfl sq0 q1 (by decide) rfl (fun c178 => ?_) (fun c178 => ?_) -- 178
  · refine hM_inc (k := 5) (z := 1) rfl e5 lq5 (by decide) (by omega) (by omega) (by decide +kernel) rfl (fun lv2 x2 q2 e2_5 u2 => ?_) -- 194
    have e2_0 := u2 0 _ (by decide) (Or.inl rfl) e0
    have e2_2 := u2 2 _ (by decide) (Or.inl rfl) e2
    have e2_3 := u2 3 _ (by decide) (Or.inl rfl) e3
    have e2_4 := u2 4 _ (by decide) (Or.inl rfl) e4
    have e2_6 := u2 6 _ (by decide) (Or.inl rfl) e6
    refine hI_go (pc' := 112) (off := (-85)) rfl (by decide) ?_ -- 197
    exact g0 x2 q2 lv2 e2_0 e2_2 e2_3 e2_4 e2_5 c178
  · refine hI_al (k := 0) rfl e0 rfl ?_ -- 181
    refine hI_il (k := 3) rfl e3 rfl ?_ -- 182
    refine hI_il2 (k := 5) rfl e5 rfl ?_ -- 183
    refine hM_ic (n := 2) rfl (by decide) rfl (fun x3 q3 => ?_) -- 185
    refine hM_is0 (as := [.int lx3, .int lx5, .int x3]) (r := [.ref m]) rfl rfl (by decide +kernel) rfl rfl rfl rfl rfl ?_ -- 186
    exact g1 x3 q3 c178
theorem s_fs189 {k s y i z : Int} (M : MX 49 W ρ m A h0 h F V G) (e0 : m_lk lv 0 = some (.ref m)) {lx2 : Int32} (e2 : m_lk lv 2 = some (.int lx2)) (lq2 : lx2.toInt = k) {lx3 : Int32} (e3 : m_lk lv 3 = some (.int lx3)) (lq3 : lx3.toInt = s) {lx4 : Int32} (e4 : m_lk lv 4 = some (.int lx4)) (lq4 : lx4.toInt = y) {lx5 : Int32} (e5 : m_lk lv 5 = some (.int lx5)) (lq5 : lx5.toInt = i) {sx1 : Int32} (sq1 : sx1.toInt = z) 
    (g0 : HJ 257 0 (lv_args 0 [.ref m, .int sx1, .int lx4]) [] h (fun v h' => HJ 255 194 lv (v.toList ++ []) h' Q))
    : HJ 255 189 lv [.int sx1, .ref m] h Q := by
  refine hI_il2 (k := 4) rfl e4 rfl ?_ -- 189
  refine hM_iv M (by decide) rfl rfl (by decide) (as := [.int sx1, .int lx4]) (r := []) rfl rfl (by decide +kernel) rfl (by decide +kernel) rfl rfl rfl rfl rfl ?_ -- 191
  exact g0 
theorem s_fs194 {k s y i : Int} (M : MX 49 W ρ m A h0 h F V G) (e0 : m_lk lv 0 = some (.ref m)) {lx2 : Int32} (e2 : m_lk lv 2 = some (.int lx2)) (lq2 : lx2.toInt = k) {lx3 : Int32} (e3 : m_lk lv 3 = some (.int lx3)) (lq3 : lx3.toInt = s) {lx4 : Int32} (e4 : m_lk lv 4 = some (.int lx4)) (lq4 : lx4.toInt = y) {lx5 : Int32} (e5 : m_lk lv 5 = some (.int lx5)) (lq5 : lx5.toInt = i) (i0 : 0 ≤ i) (i1 : i ≤ 5)
    (g0 : ∀ x1 : Int32, x1.toInt = i + 1 → ∀ lv1 : List (Nat × Value), m_lk lv1 0 = some (.ref m) → m_lk lv1 2 = some (.int lx2) → m_lk lv1 3 = some (.int lx3) → m_lk lv1 4 = some (.int lx4) → m_lk lv1 5 = some (.int x1) → HJ 255 112 lv1 [] h Q)
    : HJ 255 194 lv [] h Q := by
  refine hM_inc (k := 5) (z := 1) rfl e5 lq5 (by decide) (by omega) (by omega) (by decide +kernel) rfl (fun lv1 x1 q1 e1_5 u1 => ?_) -- 194
  have e1_0 := u1 0 _ (by decide) (Or.inl rfl) e0
  have e1_2 := u1 2 _ (by decide) (Or.inl rfl) e2
  have e1_3 := u1 3 _ (by decide) (Or.inl rfl) e3
  have e1_4 := u1 4 _ (by decide) (Or.inl rfl) e4
  refine hI_go (pc' := 112) (off := (-85)) rfl (by decide) ?_ -- 197
  exact g0 x1 q1 lv1 e1_0 e1_2 e1_3 e1_4 e1_5
theorem l_fs112 {k : Int} {xk xs xy : Int32} {a6 : Int} (hw : d_sub g_cts W = true) (a0 : 0 ≤ a6) (a1 : a6 ≤ 6) (k0 : 0 ≤ k) (k1 : k ≤ 4096) (hk : xk.toInt = k) (s0 : 0 ≤ xs.toInt) (s1 : xs.toInt < 4096) (y0 : 0 ≤ xy.toInt) (g : ∀ (lv : List (Nat × Value)) (h : MH) (F : Nat → Int) (V : Nat → Nat → Int) (xk' : Int32), MX 49 W ρ m A h0 h F V G → z_q F V → F 51 = a6 → xk'.toInt = k + 1 → m_lk lv 0 = some (.ref m) → m_lk lv 2 = some (.int xk') → HJ 255 60 lv [] h Q) : ∀ (d i : Nat) (lv : List (Nat × Value)) (h : MH) (F : Nat → Int) (V : Nat → Nat → Int) (xi : Int32), i + d = 6 → MX 49 W ρ m A h0 h F V G → z_q F V → F 51 = a6 → xy.toInt ≤ F 57 + 1 → xi.toInt = (i : Int) → m_lk lv 0 = some (.ref m) → m_lk lv 2 = some (.int xk) → m_lk lv 3 = some (.int xs) → m_lk lv 4 = some (.int xy) → m_lk lv 5 = some (.int xi) → HJ 255 112 lv [] h Q := by
  intro d
  induction d with
  | zero =>
    intro i lv h F V xi hd M I fa y1 hi e0 e2 e3 e4 e5
    exact s_fs112 M e0 e2 hk e3 rfl e4 rfl e5 hi k0 k1 (fun x2 q2 lv2 d0 d2 _ _ _ => g lv2 h F V x2 M I fa q2 d0 d2) (fun _ _ c => by omega)
  | succ d ih =>
    intro i lv h F V xi hd M I fa y1 hi e0 e2 e3 e4 e5
    refine s_fs112 M e0 e2 hk e3 rfl e4 rfl e5 hi k0 k1 (fun x2 q2 lv2 d0 d2 _ _ _ => g lv2 h F V x2 M I fa q2 d0 d2) (fun _ _ c => c_dig (fun z z0 z1 => ?_))
    -- behind the first of both
    have two : ∀ (h : MH) (F : Nat → Int) (V : Nat → Nat → Int) (lv : List (Nat × Value)), MX 49 W ρ m A h0 h F V G → z_q F V → F 51 = a6 → xy.toInt ≤ F 57 + 1 → m_lk lv 0 = some (.ref m) → m_lk lv 2 = some (.int xk) → m_lk lv 3 = some (.int xs) → m_lk lv 4 = some (.int xy) → m_lk lv 5 = some (.int xi) → m_lk lv 6 = some (.int z) → HJ 255 147 lv [] h Q := fun h F V lv M I fa y1 e0 e2 e3 e4 e5 e6 => by
      have last : ∀ (x4 : Int32), x4.toInt = 2 → HJ 256 0 (lv_args 0 [.int xs, .int xi, .int x4]) [] h (fun v h' => HJ 255 189 lv (v.toList ++ [.ref m]) h' Q) := fun x4 q4 => by
        refine c_with s0 s1 (by omega) (by omega) (by omega) (by omega) (fun u u0 u1 => ?_)
        refine s_fs189 (z := u.toInt) M e0 e2 hk e3 rfl e4 rfl e5 hi rfl ?_
        refine c_comes M hw I u0 u1 y0 y1 (fun h' F' V' M' I' f57 fo => ?_)
        exact s_fs194 M' e0 e2 hk e3 rfl e4 rfl e5 hi (by omega) (by omega) (fun x1 q1 lv1 b0 b2 b3 b4 b5 => ih (i + 1) lv1 h' F' V' x1 (by omega) M' I' (by rw [fo 51 (by decide)]; exact fa) (by omega) (by omega) b0 b2 b3 b4 b5)
      refine s_fs147 M e0 e2 hk e3 rfl e4 rfl e5 hi e6 rfl (by omega) (by omega) (fun x3 q3 lv3 b0 b2 b3 b4 b5 _ => ih (i + 1) lv3 h F V x3 (by omega) M I fa y1 (by omega) b0 b2 b3 b4 b5) (fun x4 q4 _ _ => last x4 q4) (fun _ _ => ?_)
      refine c_key M hi rfl (by omega) (by omega) (fun y => ?_)
      exact s_fs171 (z := y.toInt) M e0 e2 hk e3 rfl e4 rfl e5 hi e6 rfl rfl (by omega) (by omega) (fun x2 q2 lv2 b0 b2 b3 b4 b5 _ => ih (i + 1) lv2 h F V x2 (by omega) M I fa y1 (by omega) b0 b2 b3 b4 b5) (fun x3 q3 _ => last x3 q3)
    refine s_fs127 (d := z.toInt) M e0 e2 hk e3 rfl e4 rfl e5 hi rfl (fun lv1 b0 b2 b3 b4 b5 b6 _ => two h F V lv1 M I fa y1 b0 b2 b3 b4 b5 b6) (fun x2 q2 lv1 b0 b2 b3 b4 b5 b6 _ => ?_)
    refine c_with s0 s1 (by omega) (by omega) (by omega) (by omega) (fun u u0 u1 => ?_)
    refine s_fs142 (z := u.toInt) M b0 b2 hk b3 rfl b4 rfl b5 hi b6 rfl rfl ?_
    exact c_comes M hw I u0 u1 y0 y1 (fun h' F' V' M' I' f57 fo => two h' F' V' lv1 M' I' (by rw [fo 51 (by decide)]; exact fa) (by omega) b0 b2 b3 b4 b5 b6)
theorem l_fs60 {a6 : Int} (hw : d_sub g_cts W = true) (a60 : 0 ≤ a6) (a61 : a6 ≤ 6) (g : ∀ (x : Int32) (h' : MH) (F' : Nat → Int) (V' : Nat → Nat → Int), MX 49 W ρ m A h0 h' F' V' G → Q (some (.int x)) h') : ∀ (d k : Nat) (lv : List (Nat × Value)) (h : MH) (F : Nat → Int) (V : Nat → Nat → Int) (xk : Int32), k + d = 4096 → MX 49 W ρ m A h0 h F V G → z_q F V → F 51 = a6 → xk.toInt = (k : Int) → m_lk lv 0 = some (.ref m) → m_lk lv 2 = some (.int xk) → HJ 255 60 lv [] h Q := by
  intro d
  induction d with
  | zero =>
    intro k lv h F V xk hd M I fa hk e0 e2
    have l1 := z_cmL (f := V 55) 4096
    have I' := I
    obtain ⟨i1, i2, i3⟩ := I'
    exact s_fs60 M e0 e2 hk (by omega) (by omega) (fun j hj => by rcases i3 j hj with z | z <;> omega) (fun x _ _ _ _ => g x h F V M) (fun x3 q3 x7 q7 lv8 e8_0 e8_2 e8_3 e8_4 a1 b1 c65 a3 b3 => by omega)
  | succ d ih =>
    intro k lv h F V xk hd M I fa hk e0 e2
    have l1 := z_cmL (f := V 55) 4096
    have I' := I
    obtain ⟨i1, i2, i3⟩ := I'
    refine s_fs60 M e0 e2 hk (by omega) (by omega) (fun j hj => by rcases i3 j hj with z | z <;> omega) (fun x _ _ _ _ => g x h F V M) (fun x3 q3 x7 q7 lv8 d0 d2 d3 d4 a1 b1 c65 a3 b3 => ?_)
    have st := i3 (V 56 (k : Int).toNat).toNat (by omega)
    refine c_isThere M rfl (fun z => ?_)
    refine s_fs90 (z := z.toInt) M d0 d2 hk d3 rfl d4 rfl rfl (by omega) (by omega) (fun _ => ?_) (fun x _ _ => g x h F V M)
    refine c_lessOf M (by omega) (by omega) (fun u u0 u1 => ?_)
    refine s_fs104 (z := u.toInt) M d0 d2 hk d3 rfl d4 rfl rfl ?_
    refine c_comes M hw I u0 u1 (by omega) (by omega) (fun h' F' V' M' I2 f57 fo => ?_)
    refine s_fs109 M' d0 d2 hk d3 rfl d4 rfl (fun x1 q1 lv2 b0 b2 b3 b4 b5 => ?_)
    exact l_fs112 (k := (k : Int)) (xk := xk) (a6 := a6) hw a60 a61 (by omega) (by omega) hk (by omega) (by omega) (by omega) (fun lv9 h9 F9 V9 xk' M9 I9 fa9 q9 c0 c2 => ih (k + 1) lv9 h9 F9 V9 xk' (by omega) M9 I9 fa9 (by omega) c0 c2) 6 0 lv2 h' F' V' x1 rfl M' I2 (by rw [fo 51 (by decide)]; exact fa) (by omega) q1 b0 b2 b3 b4 b5
theorem l_fs26 {a6 : Int} (M : MX 49 W ρ m A h0 h F V G) (fa : F 51 = a6) (g : ∀ (lv : List (Nat × Value)) (xb : Int32), 0 ≤ xb.toInt → xb.toInt < 4096 → m_lk lv 0 = some (.ref m) → m_lk lv 1 = some (.int xb) → HJ 255 47 lv [] h Q) : ∀ (d i : Nat) (lv : List (Nat × Value)) (xb xi : Int32), i + d = 6 → 0 ≤ xb.toInt → xb.toInt < 4096 → xi.toInt = (i : Int) → m_lk lv 0 = some (.ref m) → m_lk lv 1 = some (.int xb) → m_lk lv 2 = some (.int xi) → HJ 255 26 lv [] h Q := by
  intro d
  induction d with
  | zero =>
    intro i lv xb xi hd b0 b1 hi e0 e1 e2
    exact s_fs26 M e0 e1 rfl e2 hi (fun _ _ _ => g lv xb b0 b1 e0 e1) (fun x2 q2 _ _ c => by omega)
  | succ d ih =>
    intro i lv xb xi hd b0 b1 hi e0 e1 e2
    refine s_fs26 M e0 e1 rfl e2 hi (fun _ _ _ => g lv xb b0 b1 e0 e1) (fun x2 q2 _ _ c => ?_)
    refine c_with b0 b1 (by omega) (by omega) (by omega) (by omega) (fun u u0 u1 => ?_)
    exact s_fs40 (z := u.toInt) M e0 e2 hi rfl (by omega) (by omega) (fun x3 q3 lv3 d0 d1 d2 => ih (i + 1) lv3 u x3 (by omega) u0 u1 (by omega) d0 d1 d2)
theorem l_fs2 (hw : d_sub [(86, 1001)] W = true) (g : ∀ (lv : List (Nat × Value)) (h : MH) (V : Nat → Nat → Int) (x1 x2 : Int32), MX 49 W ρ m A h0 h F V G → (∀ j, j < 4096 → V 55 j = -1) → x1.toInt = 0 → x2.toInt = 0 → m_lk lv 0 = some (.ref m) → m_lk lv 1 = some (.int x1) → m_lk lv 2 = some (.int x2) → HJ 255 26 lv [] h Q) : ∀ (d i : Nat) (lv : List (Nat × Value)) (h : MH) (V : Nat → Nat → Int) (xi : Int32), i + d = 4096 → MX 49 W ρ m A h0 h F V G → (∀ j, j < i → V 55 j = -1) → xi.toInt = (i : Int) → m_lk lv 0 = some (.ref m) → m_lk lv 1 = some (.int xi) → HJ 255 2 lv [] h Q := by
  intro d
  induction d with
  | zero =>
    intro i lv h V xi hd M k1 hi e0 e1
    exact s_fs2 M e0 e1 hi (by omega) hw (fun x2 q2 x4 q4 lv5 d0 d1 d2 _ => g lv5 h V x2 x4 M (fun j hj => k1 j (by omega)) q2 q4 d0 d1 d2) (fun h7 V7 f7 x8 q8 lv8 M7 e8_0 e8_1 c6 => by omega)
  | succ d ih =>
    intro i lv h V xi hd M k1 hi e0 e1
    refine s_fs2 M e0 e1 hi (by omega) hw (fun x2 q2 x4 q4 lv5 d0 d1 d2 _ => by omega) (fun h7 V7 f7 x8 q8 lv8 M7 d0 d1 c6 => ?_)
    rw [Int.toNat_natCast] at f7
    refine ih (i + 1) lv8 h7 V7 x8 (by omega) M7 (fun j hj => ?_) (by omega) d0 d1
    rw [f7, m_uE]
    by_cases e : j = i
    · rw [e, m_uE]
    · rw [m_uN _ _ _ _ e]
      exact k1 j (by omega)
theorem c_steps (M : MX 49 W ρ m A h0 h F V G) (b0_ : m_lk lv 0 = some (.ref m)) (hw : d_sub g_cts W = true) (g : ∀ (x : Int32) (h' : MH) (F' : Nat → Int) (V' : Nat → Nat → Int), MX 49 W ρ m A h0 h' F' V' G → Q (some (.int x)) h') : HJ 255 0 lv [] h Q := by
  have w1 : d_sub [(86, 1001)] W = true := d_subm hw (by decide +kernel)
  have w2 : d_sub [(49, 57)] W = true := d_subm hw (by decide +kernel)
  have ab := M.fi (by decide) (k := 51) (lo := 0) (hi := 6) rfl rfl rfl
  refine s_fs0 M b0_ (fun x1 q1 lv2 e0 e1 => ?_)
  refine l_fs2 w1 (fun lv3 h3 V3 y1 y2 M3 k1 p1 p2 d0 d1 d2 => ?_) 4096 0 lv2 h V x1 rfl M (fun j hj => absurd hj (Nat.not_lt_zero j)) q1 e0 e1
  refine l_fs26 (a6 := F 51) M3 rfl (fun lv4 xb b0 b1 c0 c1 => ?_) 6 0 lv3 y1 y2 rfl (by omega) (by omega) p2 d0 d1 d2
  refine s_fs47 M3 c0 c1 rfl w2 (fun h5 F5 f5 x3 q3 M5 => ?_)
  have f57 : F5 57 = 0 := by rw [f5, m_uE]
  refine c_comes M5 hw ⟨by rw [f57]; omega, by omega, fun j hj => Or.inl (k1 j hj)⟩ b0 b1 (by omega) (by omega) (fun h6 F6 V6 M6 I6 _ fo => ?_)
  refine s_fs58 M6 c0 (fun x4 q4 lv7 k0 k2 => ?_)
  exact l_fs60 (a6 := F 51) hw ab.1 ab.2 g 4096 0 lv7 h6 F6 V6 x4 rfl M6 I6 (by rw [fo 51 (by decide), f5, m_uN _ _ _ _ (by decide)]) q4 k0 k2
end
