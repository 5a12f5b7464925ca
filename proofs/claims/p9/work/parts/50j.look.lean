-- LOOKED FOR
def z_ct (f : Nat → Int) : Nat → Nat
  | 0 => 0
  | n + 1 => z_ct f n + (if f n = 0 then 0 else 1)
theorem z_ctA {f : Nat → Int} : ∀ {n : Nat}, (∀ i, i < n → f i ≠ 0) → z_ct f n = n
  | 0, _ => rfl
  | n + 1, h => by rw [z_ct, z_ctA (n := n) (fun i hi => h i (by omega)), if_neg (h n (by omega))]
theorem z_ct0 {f : Nat → Int} : ∀ {n : Nat}, (∀ i, i < n → f i = 0) → z_ct f n = 0
  | 0, _ => rfl
  | n + 1, h => by rw [z_ct, z_ct0 (n := n) (fun i hi => h i (by omega)), if_pos (h n (by omega))]
theorem z_ctL (f : Nat → Int) : ∀ n : Nat, (∀ i, i < n → f i ≠ 0) ∨ ∃ i, i < n ∧ f i = 0 ∧ ∀ j, j < i → f j ≠ 0
  | 0 => Or.inl (fun i hi => absurd hi (Nat.not_lt_zero i))
  | n + 1 => by
    rcases z_ctL f n with z | ⟨i, z1, z2, z3⟩
    · by_cases e : f n = 0
      · exact Or.inr ⟨n, by omega, e, z⟩
      · refine Or.inl (fun i hi => ?_)
        by_cases e2 : i = n
        · rw [e2]
          exact e
        · exact z i (by omega)
    · exact Or.inr ⟨i, by omega, z2, z3⟩
theorem z_ctC {f f' : Nat → Int} : ∀ {n : Nat}, (∀ i, i < n → f' i = f i) → z_ct f' n = z_ct f n
  | 0, _ => rfl
  | n + 1, h => by rw [z_ct, z_ct, z_ctC (n := n) (fun i hi => h i (by omega)), h n (by omega)]
theorem z_ctU {f : Nat → Int} {g : Nat} {x : Int} : ∀ n : Nat, z_ct (m_u f g x) n ≤ z_ct f n + 1
  | 0 => by
    rw [z_ct]
    omega
  | n + 1 => by
    by_cases e : n = g
    · rw [z_ct, z_ct, z_ctC (f := f) (fun i hi => m_uN _ _ _ _ (by omega))]
      split <;> split <;> omega
    · have := z_ctU (f := f) (g := g) (x := x) n
      rw [z_ct, z_ct, m_uN _ _ _ _ e]
      omega
def z_cl (L T U : Nat → Int) (w : Nat) : Prop := ∀ i, i < w → (U i = -1 ∨ (0 ≤ U i ∧ T (U i).toNat ≠ 0)) → L i ≠ 0
theorem z_key {L T U : Nat → Int} {w : Nat} (hU : ∀ i, i < w → U i = -1 ∨ (0 ≤ U i ∧ U i < i)) (cl : z_cl L T U w) (hc : z_ct T w < w) : ∃ i, i < w ∧ L i ≠ 0 ∧ T i = 0 := by
  rcases z_ctL T w with z | ⟨i, z1, z2, z3⟩
  · rw [z_ctA z] at hc
    omega
  · refine ⟨i, z1, cl i z1 ?_, z2⟩
    rcases hU i z1 with y | ⟨y1, y2⟩
    · exact Or.inl y
    · exact Or.inr ⟨y1, z3 _ (by omega)⟩
section
variable {lv : List (Nat × Value)} {Q : Option Value → MH → Prop} {W : List (Nat × Nat)} {ρ : Nat → Nat} {m : Nat} {A : Nat → Nat} {h0 h : MH} {F : Nat → Int} {V : Nat → Nat → Int} {G : Nat → Nat → Int64}
theorem s_nx0 (M : MX 49 W ρ m A h0 h F V G) (e0 : m_lk lv 0 = some (.ref m)) 
    (g0 : ∀ x1 : Int32, x1.toInt = (-1) → ∀ x3 : Int32, x3.toInt = 0 → ∀ lv4 : List (Nat × Value), m_lk lv4 0 = some (.ref m) → m_lk lv4 1 = some (.int x1) → m_lk lv4 2 = some (.int x3) → HJ 279 4 lv4 [] h Q)
    : HJ 279 0 lv [] h Q := by
  refine hM_ic (n := (-1)) rfl (by decide) rfl (fun x1 q1 => ?_) -- 0
  refine hM_si (k := 1) rfl (by decide +kernel) rfl (fun lv2 e2_1 u2 => ?_) -- 1
  have e2_0 := u2 0 _ (by decide) (Or.inl rfl) e0
  refine hM_ic (n := 0) rfl (by decide) rfl (fun x3 q3 => ?_) -- 2
  refine hM_si (k := 2) rfl (by decide +kernel) rfl (fun lv4 e4_2 u4 => ?_) -- 3
  have e4_0 := u4 0 _ (by decide) (Or.inl rfl) e2_0
  have e4_1 := u4 1 _ (by decide) (Or.inl rfl) e2_1
  exact g0 x1 q1 x3 q3 lv4 e4_0 e4_1 e4_2
theorem s_nx4 {b i : Int} (M : MX 49 W ρ m A h0 h F V G) (e0 : m_lk lv 0 = some (.ref m)) {lx1 : Int32} (e1 : m_lk lv 1 = some (.int lx1)) (lq1 : lx1.toInt = b) {lx2 : Int32} (e2 : m_lk lv 2 = some (.int lx2)) (lq2 : lx2.toInt = i) (i0 : 0 ≤ i) (b0 : -1 ≤ b) (b1 : b < 63) (w1 : F 26 ≤ 63)
    (g0 : 0 ≤ F 26 → F 26 ≤ 63 → i ≥ F 26 → Q (some (.int lx1)) h)
    (g1 : ∀ x4 : Int32, x4.toInt = i + 1 → ∀ lv4 : List (Nat × Value), m_lk lv4 0 = some (.ref m) → m_lk lv4 1 = some (.int lx1) → m_lk lv4 2 = some (.int x4) → 0 ≤ F 26 → F 26 ≤ 63 → i < F 26 → V 63 (i).toNat = 0 → HJ 279 4 lv4 [] h Q)
    (g2 : ∀ x7 : Int32, x7.toInt = i + 1 → ∀ lv7 : List (Nat × Value), m_lk lv7 0 = some (.ref m) → m_lk lv7 1 = some (.int lx1) → m_lk lv7 2 = some (.int x7) → 0 ≤ F 26 → F 26 ≤ 63 → i < F 26 → V 63 (i).toNat ≠ 0 → V 64 (i).toNat ≠ 0 → HJ 279 4 lv7 [] h Q)
    (g3 : ∀ x10 : Int32, x10.toInt = i + 1 → ∀ lv10 : List (Nat × Value), m_lk lv10 0 = some (.ref m) → m_lk lv10 1 = some (.int lx2) → m_lk lv10 2 = some (.int x10) → 0 ≤ F 26 → F 26 ≤ 63 → i < F 26 → V 63 (i).toNat ≠ 0 → V 64 (i).toNat = 0 → b = (-1) → HJ 279 4 lv10 [] h Q)
    (g4 : ∀ x11 : Int32, x11.toInt = V 27 (i).toNat → ∀ x12 : Int32, x12.toInt = V 27 (b).toNat → 0 ≤ F 26 → F 26 ≤ 63 → i < F 26 → V 63 (i).toNat ≠ 0 → V 64 (i).toNat = 0 → b ≠ (-1) → 0 ≤ V 27 (i).toNat → V 27 (i).toNat ≤ 15999 → 0 ≤ V 27 (b).toNat → V 27 (b).toNat ≤ 15999 → HJ 211 0 (lv_args 0 [.ref m, .int x11, .int x12]) [] h (fun v h' => HJ 279 51 lv (v.toList ++ []) h' Q))
    : HJ 279 4 lv [] h Q := by
  refine hI_il (k := 2) rfl e2 rfl ?_ -- 4
  refine hI_al (k := 0) rfl e0 rfl ?_ -- 5
  refine hM_gi M (by decide) rfl rfl rfl (k := 26) (c := 9) (lo := 0) (hi := 63) rfl rfl rfl rfl rfl (fun x1 q1 a1 b1 => ?_) -- 6
  refine hM_cge (off := 57) (t := 66) rfl lq2 q1 (by decide) rfl (fun c9 => ?_) (fun c9 => ?_) -- 9
  · refine hI_il (k := 1) rfl e1 rfl ?_ -- 66
    refine hI_ri rfl rfl ?_ -- 67
    exact g0 a1 b1 c9
  · refine hI_al (k := 0) rfl e0 rfl ?_ -- 12
    refine hM_ga M (by decide) rfl rfl (k := 63) (c := 9) rfl rfl rfl (by decide +kernel) rfl ?_ -- 13
    refine hI_il (k := 2) rfl e2 rfl ?_ -- 16
    refine hM_ba M (by decide) (K := 63) (R2 := 92) (L := 64) (H := 64) (lo := (-2147483648)) (hi := 2147483647) rfl (by decide) rfl rfl (Or.inr rfl) (fun _ => rfl) rfl lq2 (by omega) (by omega) rfl (fun x2 q2 a2 b2 => ?_) -- 17
    refine hM_zeq (off := 40) (t := 58) rfl q2 (by decide) rfl (fun c18 => ?_) (fun c18 => ?_) -- 18
    · refine hI_il (k := 1) rfl e1 rfl ?_ -- 58
      refine hM_si (k := 1) rfl (by decide +kernel) rfl (fun lv3 e3_1 u3 => ?_) -- 59
      have e3_0 := u3 0 _ (by decide) (Or.inl rfl) e0
      have e3_2 := u3 2 _ (by decide) (Or.inl rfl) e2
      refine hM_inc (k := 2) (z := 1) rfl e3_2 lq2 (by decide) (by omega) (by omega) (by decide +kernel) rfl (fun lv4 x4 q4 e4_2 u4 => ?_) -- 60
      have e4_0 := u4 0 _ (by decide) (Or.inl rfl) e3_0
      have e4_1 := u4 1 _ (by decide) (Or.inl rfl) e3_1
      refine hI_go (pc' := 4) (off := (-59)) rfl (by decide) ?_ -- 63
      exact g1 x4 q4 lv4 e4_0 e4_1 e4_2 a1 b1 c9 c18
    · refine hI_al (k := 0) rfl e0 rfl ?_ -- 21
      refine hM_ga M (by decide) rfl rfl (k := 64) (c := 9) rfl rfl rfl (by decide +kernel) rfl ?_ -- 22
      refine hI_il (k := 2) rfl e2 rfl ?_ -- 25
      refine hM_ba M (by decide) (K := 64) (R2 := 93) (L := 64) (H := 64) (lo := (-2147483648)) (hi := 2147483647) rfl (by decide) rfl rfl (Or.inr rfl) (fun _ => rfl) rfl lq2 (by omega) (by omega) rfl (fun x5 q5 a5 b5 => ?_) -- 26
      refine hM_zne (off := 31) (t := 58) rfl q5 (by decide) rfl (fun c27 => ?_) (fun c27 => ?_) -- 27
      · refine hI_il (k := 1) rfl e1 rfl ?_ -- 58
        refine hM_si (k := 1) rfl (by decide +kernel) rfl (fun lv6 e6_1 u6 => ?_) -- 59
        have e6_0 := u6 0 _ (by decide) (Or.inl rfl) e0
        have e6_2 := u6 2 _ (by decide) (Or.inl rfl) e2
        refine hM_inc (k := 2) (z := 1) rfl e6_2 lq2 (by decide) (by omega) (by omega) (by decide +kernel) rfl (fun lv7 x7 q7 e7_2 u7 => ?_) -- 60
        have e7_0 := u7 0 _ (by decide) (Or.inl rfl) e6_0
        have e7_1 := u7 1 _ (by decide) (Or.inl rfl) e6_1
        refine hI_go (pc' := 4) (off := (-59)) rfl (by decide) ?_ -- 63
        exact g2 x7 q7 lv7 e7_0 e7_1 e7_2 a1 b1 c9 c18 c27
      · refine hI_il (k := 1) rfl e1 rfl ?_ -- 30
        refine hM_ic (n := (-1)) rfl (by decide) rfl (fun x8 q8 => ?_) -- 31
        refine hM_ceq (off := 22) (t := 54) rfl lq1 q8 (by decide) rfl (fun c32 => ?_) (fun c32 => ?_) -- 32
        · refine hI_il (k := 2) rfl e2 rfl ?_ -- 54
          refine hI_go (pc' := 59) (off := 4) rfl (by decide) ?_ -- 55
          refine hM_si (k := 1) rfl (by decide +kernel) rfl (fun lv9 e9_1 u9 => ?_) -- 59
          have e9_0 := u9 0 _ (by decide) (Or.inl rfl) e0
          have e9_2 := u9 2 _ (by decide) (Or.inl rfl) e2
          refine hM_inc (k := 2) (z := 1) rfl e9_2 lq2 (by decide) (by omega) (by omega) (by decide +kernel) rfl (fun lv10 x10 q10 e10_2 u10 => ?_) -- 60
          have e10_0 := u10 0 _ (by decide) (Or.inl rfl) e9_0
          have e10_1 := u10 1 _ (by decide) (Or.inl rfl) e9_1
          refine hI_go (pc' := 4) (off := (-59)) rfl (by decide) ?_ -- 63
          exact g3 x10 q10 lv10 e10_0 e10_1 e10_2 a1 b1 c9 c18 c27 c32
        · refine hI_al (k := 0) rfl e0 rfl ?_ -- 35
          refine hI_al (k := 0) rfl e0 rfl ?_ -- 36
          refine hM_ga M (by decide) rfl rfl (k := 27) (c := 9) rfl rfl rfl (by decide +kernel) rfl ?_ -- 37
          refine hI_il (k := 2) rfl e2 rfl ?_ -- 40
          refine hM_ia M (by decide) (K := 27) (R2 := 63) (L := 64) (H := 64) (lo := 0) (hi := 15999) rfl (by decide) rfl rfl (fun _ => rfl) rfl lq2 (by omega) (by omega) rfl (fun x11 q11 a11 b11 => ?_) -- 41
          refine hI_al (k := 0) rfl e0 rfl ?_ -- 42
          refine hM_ga M (by decide) rfl rfl (k := 27) (c := 9) rfl rfl rfl (by decide +kernel) rfl ?_ -- 43
          refine hI_il (k := 1) rfl e1 rfl ?_ -- 46
          refine hM_ia M (by decide) (K := 27) (R2 := 63) (L := 64) (H := 64) (lo := 0) (hi := 15999) rfl (by decide) rfl rfl (fun _ => rfl) rfl lq1 (by omega) (by omega) rfl (fun x12 q12 a12 b12 => ?_) -- 47
          refine hM_iv M (by decide) rfl rfl (by decide) (as := [.int x11, .int x12]) (r := []) rfl rfl (by decide +kernel) rfl (by decide +kernel) rfl rfl rfl rfl rfl ?_ -- 48
          exact g4 x11 q11 x12 q12 a1 b1 c9 c18 c27 c32 a11 b11 a12 b12
theorem s_nx51 {b i z : Int} (M : MX 49 W ρ m A h0 h F V G) (e0 : m_lk lv 0 = some (.ref m)) {lx1 : Int32} (e1 : m_lk lv 1 = some (.int lx1)) (lq1 : lx1.toInt = b) {lx2 : Int32} (e2 : m_lk lv 2 = some (.int lx2)) (lq2 : lx2.toInt = i) {sx0 : Int32} (sq0 : sx0.toInt = z) (i0 : 0 ≤ i) (i1 : i < 63)
    (g0 : ∀ x2 : Int32, x2.toInt = i + 1 → ∀ lv2 : List (Nat × Value), m_lk lv2 0 = some (.ref m) → m_lk lv2 1 = some (.int lx1) → m_lk lv2 2 = some (.int x2) → z = 0 → HJ 279 4 lv2 [] h Q)
    (g1 : ∀ x4 : Int32, x4.toInt = i + 1 → ∀ lv4 : List (Nat × Value), m_lk lv4 0 = some (.ref m) → m_lk lv4 1 = some (.int lx2) → m_lk lv4 2 = some (.int x4) → z ≠ 0 → HJ 279 4 lv4 [] h Q)
    : HJ 279 51 lv [.int sx0] h Q := by
  refine hM_zeq (off := 7) (t := 58) rfl sq0 (by decide) rfl (fun c51 => ?_) (fun c51 => ?_) -- 51
  · refine hI_il (k := 1) rfl e1 rfl ?_ -- 58
    refine hM_si (k := 1) rfl (by decide +kernel) rfl (fun lv1 e1_1 u1 => ?_) -- 59
    have e1_0 := u1 0 _ (by decide) (Or.inl rfl) e0
    have e1_2 := u1 2 _ (by decide) (Or.inl rfl) e2
    refine hM_inc (k := 2) (z := 1) rfl e1_2 lq2 (by decide) (by omega) (by omega) (by decide +kernel) rfl (fun lv2 x2 q2 e2_2 u2 => ?_) -- 60
    have e2_0 := u2 0 _ (by decide) (Or.inl rfl) e1_0
    have e2_1 := u2 1 _ (by decide) (Or.inl rfl) e1_1
    refine hI_go (pc' := 4) (off := (-59)) rfl (by decide) ?_ -- 63
    exact g0 x2 q2 lv2 e2_0 e2_1 e2_2 c51
  · refine hI_il (k := 2) rfl e2 rfl ?_ -- 54
    refine hI_go (pc' := 59) (off := 4) rfl (by decide) ?_ -- 55
    refine hM_si (k := 1) rfl (by decide +kernel) rfl (fun lv3 e3_1 u3 => ?_) -- 59
    have e3_0 := u3 0 _ (by decide) (Or.inl rfl) e0
    have e3_2 := u3 2 _ (by decide) (Or.inl rfl) e2
    refine hM_inc (k := 2) (z := 1) rfl e3_2 lq2 (by decide) (by omega) (by omega) (by decide +kernel) rfl (fun lv4 x4 q4 e4_2 u4 => ?_) -- 60
    have e4_0 := u4 0 _ (by decide) (Or.inl rfl) e3_0
    have e4_1 := u4 1 _ (by decide) (Or.inl rfl) e3_1
    refine hI_go (pc' := 4) (off := (-59)) rfl (by decide) ?_ -- 63
    exact g1 x4 q4 lv4 e4_0 e4_1 e4_2 c51
def z_nx (L T : Nat → Int) (i : Nat) (b : Int) : Prop := (b = -1 ∧ ∀ j, j < i → L j = 0 ∨ T j ≠ 0) ∨ (0 ≤ b ∧ b < i)
theorem l_nx4 {w : Nat} (M : MX 49 W ρ m A h0 h F V G) (fw : F 26 = (w : Int)) (w63 : w ≤ 63) (at_ : ∀ i, i < w → 0 ≤ V 27 i ∧ V 27 i < 16000) (g : ∀ x : Int32, z_nx (V 63) (V 64) w x.toInt → Q (some (.int x)) h) : ∀ (d i : Nat) (lv : List (Nat × Value)) (xb xi : Int32), i + d = w → z_nx (V 63) (V 64) i xb.toInt → xi.toInt = (i : Int) → m_lk lv 0 = some (.ref m) → m_lk lv 1 = some (.int xb) → m_lk lv 2 = some (.int xi) → HJ 279 4 lv [] h Q := by
  intro d
  induction d with
  | zero =>
    intro i lv xb xi hd I hi e0 e1 e2
    have iw : i = w := by omega
    subst iw
    have bb : -1 ≤ xb.toInt ∧ xb.toInt < 63 := by rcases I with z | z <;> omega
    exact s_nx4 M e0 e1 rfl e2 hi (by omega) bb.1 bb.2 (by omega) (fun _ _ _ => g xb I) (fun x4 q4 lv4 e4_0 e4_1 e4_2 a1 b1 c9 c18 => by omega) (fun x4 q4 lv4 e4_0 e4_1 e4_2 a1 b1 c9 c18 c27 => by omega) (fun x4 q4 lv4 e4_0 e4_1 e4_2 a1 b1 c9 c18 c27 c32 => by omega) (fun x11 q11 x12 q12 a1 b1 c9 c18 c27 c32 a11 b11 a12 b12 => by omega)
  | succ d ih =>
    intro i lv xb xi hd I hi e0 e1 e2
    have bb : -1 ≤ xb.toInt ∧ xb.toInt < 63 := by rcases I with z | z <;> omega
    have keep : (V 63 i = 0 ∨ V 64 i ≠ 0) ∨ xb.toInt ≠ -1 → z_nx (V 63) (V 64) (i + 1) xb.toInt := fun f => by
      rcases I with ⟨z1, z2⟩ | ⟨z1, z2⟩
      · refine Or.inl ⟨z1, fun k hk => ?_⟩
        by_cases e : k = i
        · rw [e]
          exact f.resolve_right (fun y => y z1)
        · exact z2 k (by omega)
      · exact Or.inr ⟨z1, by omega⟩
    have take : z_nx (V 63) (V 64) (i + 1) xi.toInt := Or.inr (by omega)
    refine s_nx4 M e0 e1 rfl e2 hi (by omega) bb.1 bb.2 (by omega) (fun _ _ _ => by omega) (fun x4 q4 lv4 d0 d1 d2 a1 b1 c9 c18 => ?_) (fun x4 q4 lv4 d0 d1 d2 a1 b1 c9 c18 c27 => ?_) (fun x4 q4 lv4 d0 d1 d2 a1 b1 c9 c18 c27 c32 => ?_) (fun x11 q11 x12 q12 a1 b1 c9 c18 c27 c32 a11 b11 a12 b12 => ?_)
    · rw [Int.toNat_natCast] at c18
      exact ih (i + 1) lv4 xb x4 (by omega) (keep (Or.inl (Or.inl c18))) (by omega) d0 d1 d2
    · rw [Int.toNat_natCast] at c27
      exact ih (i + 1) lv4 xb x4 (by omega) (keep (Or.inl (Or.inr c27))) (by omega) d0 d1 d2
    · exact ih (i + 1) lv4 xi x4 (by omega) take (by omega) d0 d1 d2
    · rw [Int.toNat_natCast] at q11
      have a := at_ i (by omega)
      refine c_less M q11 q12 (by omega) (by omega) (by omega) (by omega) (fun z z0 z1 _ => ?_)
      exact s_nx51 (z := z.toInt) M e0 e1 rfl e2 hi rfl (by omega) (by omega)
        (fun x2 q2 lv2 d0 d1 d2 _ => ih (i + 1) lv2 xb x2 (by omega) (keep (Or.inr c32)) (by omega) d0 d1 d2)
        (fun x2 q2 lv2 d0 d1 d2 _ => ih (i + 1) lv2 xi x2 (by omega) take (by omega) d0 d1 d2)
theorem c_next {w : Nat} (M : MX 49 W ρ m A h0 h F V G) (fw : F 26 = (w : Int)) (w63 : w ≤ 63) (at_ : ∀ i, i < w → 0 ≤ V 27 i ∧ V 27 i < 16000) (g : ∀ x : Int32, z_nx (V 63) (V 64) w x.toInt → Q (some (.int x)) h) : HJ 279 0 (lv_args 0 [.ref m]) [] h Q := by
  refine s_nx0 M rfl (fun x1 q1 x3 q3 lv4 e0 e1 e2 => ?_)
  exact l_nx4 M fw w63 at_ g w 0 lv4 x1 x3 (by omega) (Or.inl ⟨q1, fun j hj => absurd hj (Nat.not_lt_zero j)⟩) q3 e0 e1 e2
theorem s_lf0 {k : Int} (M : MX 49 W ρ m A h0 h F V G) (e0 : m_lk lv 0 = some (.ref m)) {lx1 : Int32} (e1 : m_lk lv 1 = some (.int lx1)) (lq1 : lx1.toInt = k) 
    (g0 : ∀ x1 : Int32, x1.toInt = 0 → ∀ lv2 : List (Nat × Value), m_lk lv2 0 = some (.ref m) → m_lk lv2 1 = some (.int lx1) → m_lk lv2 2 = some (.int x1) → HJ 278 2 lv2 [] h Q)
    : HJ 278 0 lv [] h Q := by
  refine hM_ic (n := 0) rfl (by decide) rfl (fun x1 q1 => ?_) -- 0
  refine hM_si (k := 2) rfl (by decide +kernel) rfl (fun lv2 e2_2 u2 => ?_) -- 1
  have e2_0 := u2 0 _ (by decide) (Or.inl rfl) e0
  have e2_1 := u2 1 _ (by decide) (Or.inl rfl) e1
  exact g0 x1 q1 lv2 e2_0 e2_1 e2_2
theorem s_lf2 {k i : Int} (M : MX 49 W ρ m A h0 h F V G) (e0 : m_lk lv 0 = some (.ref m)) {lx1 : Int32} (e1 : m_lk lv 1 = some (.int lx1)) (lq1 : lx1.toInt = k) {lx2 : Int32} (e2 : m_lk lv 2 = some (.int lx2)) (lq2 : lx2.toInt = i) (i0 : 0 ≤ i) (w1 : F 26 ≤ 63)(hw : d_sub [(92, 1001), (93, 1001)] W = true)
    (g0 : ∀ x2 : Int32, x2.toInt = 0 → ∀ lv3 : List (Nat × Value), m_lk lv3 0 = some (.ref m) → m_lk lv3 1 = some (.int lx1) → m_lk lv3 2 = some (.int x2) → 0 ≤ F 26 → F 26 ≤ 63 → i ≥ F 26 → HJ 278 46 lv3 [] h Q)
    (g1 : ∀ h7 : MH, ∀ V7 : Nat → Nat → Int, V7 = m_u V 63 (m_u (V 63) (i).toNat (0)) → ∀ h9 : MH, ∀ V9 : Nat → Nat → Int, V9 = m_u V7 64 (m_u (V7 64) (i).toNat (0)) → ∀ x10 : Int32, x10.toInt = i + 1 → ∀ lv10 : List (Nat × Value), MX 49 W ρ m A h0 h9 F V9 G → m_lk lv10 0 = some (.ref m) → m_lk lv10 1 = some (.int lx1) → m_lk lv10 2 = some (.int x10) → 0 ≤ F 26 → F 26 ≤ 63 → i < F 26 → (-1) ≤ V 29 (i).toNat → V 29 (i).toNat ≤ 62 → V 29 (i).toNat ≠ (-1) → HJ 278 2 lv10 [] h9 Q)
    (g2 : ∀ h12 : MH, ∀ V12 : Nat → Nat → Int, V12 = m_u V 63 (m_u (V 63) (i).toNat (1)) → ∀ h14 : MH, ∀ V14 : Nat → Nat → Int, V14 = m_u V12 64 (m_u (V12 64) (i).toNat (0)) → ∀ x15 : Int32, x15.toInt = i + 1 → ∀ lv15 : List (Nat × Value), MX 49 W ρ m A h0 h14 F V14 G → m_lk lv15 0 = some (.ref m) → m_lk lv15 1 = some (.int lx1) → m_lk lv15 2 = some (.int x15) → 0 ≤ F 26 → F 26 ≤ 63 → i < F 26 → (-1) ≤ V 29 (i).toNat → V 29 (i).toNat ≤ 62 → V 29 (i).toNat = (-1) → HJ 278 2 lv15 [] h14 Q)
    : HJ 278 2 lv [] h Q := by
  refine hI_il (k := 2) rfl e2 rfl ?_ -- 2
  refine hI_al (k := 0) rfl e0 rfl ?_ -- 3
  refine hM_gi M (by decide) rfl rfl rfl (k := 26) (c := 9) (lo := 0) (hi := 63) rfl rfl rfl rfl rfl (fun x1 q1 a1 b1 => ?_) -- 4
  refine hM_cge (off := 37) (t := 44) rfl lq2 q1 (by decide) rfl (fun c7 => ?_) (fun c7 => ?_) -- 7
  · refine hM_ic (n := 0) rfl (by decide) rfl (fun x2 q2 => ?_) -- 44
    refine hM_si (k := 2) rfl (by decide +kernel) rfl (fun lv3 e3_2 u3 => ?_) -- 45
    have e3_0 := u3 0 _ (by decide) (Or.inl rfl) e0
    have e3_1 := u3 1 _ (by decide) (Or.inl rfl) e1
    exact g0 x2 q2 lv3 e3_0 e3_1 e3_2 a1 b1 c7
  · refine hI_al (k := 0) rfl e0 rfl ?_ -- 10
    refine hM_ga M (by decide) rfl rfl (k := 63) (c := 9) rfl rfl rfl (by decide +kernel) rfl ?_ -- 11
    refine hI_il (k := 2) rfl e2 rfl ?_ -- 14
    refine hI_al (k := 0) rfl e0 rfl ?_ -- 15
    refine hM_ga M (by decide) rfl rfl (k := 29) (c := 9) rfl rfl rfl (by decide +kernel) rfl ?_ -- 16
    refine hI_il (k := 2) rfl e2 rfl ?_ -- 19
    refine hM_ia M (by decide) (K := 29) (R2 := 65) (L := 64) (H := 64) (lo := (-1)) (hi := 62) rfl (by decide) rfl rfl (fun _ => rfl) rfl lq2 (by omega) (by omega) rfl (fun x4 q4 a4 b4 => ?_) -- 20
    refine hM_ic (n := (-1)) rfl (by decide) rfl (fun x5 q5 => ?_) -- 21
    refine hM_cne (off := 7) (t := 29) rfl q4 q5 (by decide) rfl (fun c22 => ?_) (fun c22 => ?_) -- 22
    · refine hM_ic (n := 0) rfl (by decide) rfl (fun x6 q6 => ?_) -- 29
      refine hM_zs M (by decide) ok_49 (K := 63) (R2 := 92) (L := 64) (H := 64) rfl (by decide) rfl rfl rfl (fun _ => rfl) (d_subm hw (by decide +kernel)) rfl lq2 q6 (by omega) (by omega) (by omega) (by omega) rfl (fun h7 V7 f7 M7 => ?_) -- 30
      refine hI_al (k := 0) rfl e0 rfl ?_ -- 31
      refine hM_ga M7 (by decide) rfl rfl (k := 64) (c := 9) rfl rfl rfl (by decide +kernel) rfl ?_ -- 32
      refine hI_il (k := 2) rfl e2 rfl ?_ -- 35
      refine hM_ic (n := 0) rfl (by decide) rfl (fun x8 q8 => ?_) -- 36
      refine hM_zs M7 (by decide) ok_49 (K := 64) (R2 := 93) (L := 64) (H := 64) rfl (by decide) rfl rfl rfl (fun _ => rfl) (d_subm hw (by decide +kernel)) rfl lq2 q8 (by omega) (by omega) (by omega) (by omega) rfl (fun h9 V9 f9 M9 => ?_) -- 37
      refine hM_inc (k := 2) (z := 1) rfl e2 lq2 (by decide) (by omega) (by omega) (by decide +kernel) rfl (fun lv10 x10 q10 e10_2 u10 => ?_) -- 38
      have e10_0 := u10 0 _ (by decide) (Or.inl rfl) e0
      have e10_1 := u10 1 _ (by decide) (Or.inl rfl) e1
      refine hI_go (pc' := 2) (off := (-39)) rfl (by decide) ?_ -- 41
      exact g1 h7 V7 f7 h9 V9 f9 x10 q10 lv10 M9 e10_0 e10_1 e10_2 a1 b1 c7 a4 b4 c22
    · refine hM_ic (n := 1) rfl (by decide) rfl (fun x11 q11 => ?_) -- 25
      refine hI_go (pc' := 30) (off := 4) rfl (by decide) ?_ -- 26
      refine hM_zs M (by decide) ok_49 (K := 63) (R2 := 92) (L := 64) (H := 64) rfl (by decide) rfl rfl rfl (fun _ => rfl) (d_subm hw (by decide +kernel)) rfl lq2 q11 (by omega) (by omega) (by omega) (by omega) rfl (fun h12 V12 f12 M12 => ?_) -- 30
      refine hI_al (k := 0) rfl e0 rfl ?_ -- 31
      refine hM_ga M12 (by decide) rfl rfl (k := 64) (c := 9) rfl rfl rfl (by decide +kernel) rfl ?_ -- 32
      refine hI_il (k := 2) rfl e2 rfl ?_ -- 35
      refine hM_ic (n := 0) rfl (by decide) rfl (fun x13 q13 => ?_) -- 36
      refine hM_zs M12 (by decide) ok_49 (K := 64) (R2 := 93) (L := 64) (H := 64) rfl (by decide) rfl rfl rfl (fun _ => rfl) (d_subm hw (by decide +kernel)) rfl lq2 q13 (by omega) (by omega) (by omega) (by omega) rfl (fun h14 V14 f14 M14 => ?_) -- 37
      refine hM_inc (k := 2) (z := 1) rfl e2 lq2 (by decide) (by omega) (by omega) (by decide +kernel) rfl (fun lv15 x15 q15 e15_2 u15 => ?_) -- 38
      have e15_0 := u15 0 _ (by decide) (Or.inl rfl) e0
      have e15_1 := u15 1 _ (by decide) (Or.inl rfl) e1
      refine hI_go (pc' := 2) (off := (-39)) rfl (by decide) ?_ -- 41
      exact g2 h12 V12 f12 h14 V14 f14 x15 q15 lv15 M14 e15_0 e15_1 e15_2 a1 b1 c7 a4 b4 c22
theorem s_lf46 {k n : Int} (M : MX 49 W ρ m A h0 h F V G) (e0 : m_lk lv 0 = some (.ref m)) {lx1 : Int32} (e1 : m_lk lv 1 = some (.int lx1)) (lq1 : lx1.toInt = k) {lx2 : Int32} (e2 : m_lk lv 2 = some (.int lx2)) (lq2 : lx2.toInt = n) 
    (g0 : ∀ x1 : Int32, x1.toInt = 0 → ∀ x3 : Int32, x3.toInt = 0 → ∀ lv4 : List (Nat × Value), m_lk lv4 0 = some (.ref m) → m_lk lv4 2 = some (.int x1) → m_lk lv4 3 = some (.int x3) → n ≥ k → HJ 278 124 lv4 [] h Q)
    (g1 : n < k → HJ 279 0 (lv_args 0 [.ref m]) [] h (fun v h' => HJ 278 55 lv (v.toList ++ []) h' Q))
    : HJ 278 46 lv [] h Q := by
  refine hI_il (k := 2) rfl e2 rfl ?_ -- 46
  refine hI_il (k := 1) rfl e1 rfl ?_ -- 47
  refine hM_cge (off := 72) (t := 120) rfl lq2 lq1 (by decide) rfl (fun c48 => ?_) (fun c48 => ?_) -- 48
  · refine hM_ic (n := 0) rfl (by decide) rfl (fun x1 q1 => ?_) -- 120
    refine hM_si (k := 2) rfl (by decide +kernel) rfl (fun lv2 e2_2 u2 => ?_) -- 121
    have e2_0 := u2 0 _ (by decide) (Or.inl rfl) e0
    have e2_1 := u2 1 _ (by decide) (Or.inl rfl) e1
    refine hM_ic (n := 0) rfl (by decide) rfl (fun x3 q3 => ?_) -- 122
    refine hM_si (k := 3) rfl (by decide +kernel) rfl (fun lv4 e4_3 u4 => ?_) -- 123
    have e4_0 := u4 0 _ (by decide) (Or.inl rfl) e2_0
    have e4_1 := u4 1 _ (by decide) (Or.inl rfl) e2_1
    have e4_2 := u4 2 _ (by decide) (Or.inl rfl) e2_2
    exact g0 x1 q1 x3 q3 lv4 e4_0 e4_2 e4_3 c48
  · refine hI_al (k := 0) rfl e0 rfl ?_ -- 51
    refine hM_iv M (by decide) rfl rfl (by decide) (as := []) (r := []) rfl rfl (by decide +kernel) rfl (by decide +kernel) rfl rfl rfl rfl rfl ?_ -- 52
    exact g1 c48
theorem s_lf55 {k n x : Int} (M : MX 49 W ρ m A h0 h F V G) (e0 : m_lk lv 0 = some (.ref m)) {lx1 : Int32} (e1 : m_lk lv 1 = some (.int lx1)) (lq1 : lx1.toInt = k) {lx2 : Int32} (e2 : m_lk lv 2 = some (.int lx2)) (lq2 : lx2.toInt = n) {sx0 : Int32} (sq0 : sx0.toInt = x) (x0 : 0 ≤ x) (x1 : x < 63)(hw : d_sub [(93, 1001)] W = true)
    (g0 : ∀ h3 : MH, ∀ V3 : Nat → Nat → Int, V3 = m_u V 64 (m_u (V 64) (x).toNat (1)) → ∀ x4 : Int32, x4.toInt = 0 → ∀ lv5 : List (Nat × Value), MX 49 W ρ m A h0 h3 F V3 G → m_lk lv5 0 = some (.ref m) → m_lk lv5 1 = some (.int lx1) → m_lk lv5 2 = some (.int lx2) → m_lk lv5 3 = some (.int sx0) → m_lk lv5 4 = some (.int x4) → HJ 278 66 lv5 [] h3 Q)
    : HJ 278 55 lv [.int sx0] h Q := by
  refine hM_si (k := 3) rfl (by decide +kernel) rfl (fun lv1 e1_3 u1 => ?_) -- 55
  have e1_0 := u1 0 _ (by decide) (Or.inl rfl) e0
  have e1_1 := u1 1 _ (by decide) (Or.inl rfl) e1
  have e1_2 := u1 2 _ (by decide) (Or.inl rfl) e2
  refine hI_al (k := 0) rfl e1_0 rfl ?_ -- 56
  refine hM_ga M (by decide) rfl rfl (k := 64) (c := 9) rfl rfl rfl (by decide +kernel) rfl ?_ -- 57
  refine hI_il (k := 3) rfl e1_3 rfl ?_ -- 60
  refine hM_ic (n := 1) rfl (by decide) rfl (fun x2 q2 => ?_) -- 61
  refine hM_zs M (by decide) ok_49 (K := 64) (R2 := 93) (L := 64) (H := 64) rfl (by decide) rfl rfl rfl (fun _ => rfl) (d_subm hw (by decide +kernel)) rfl sq0 q2 (by omega) (by omega) (by omega) (by omega) rfl (fun h3 V3 f3 M3 => ?_) -- 62
  refine hM_ic (n := 0) rfl (by decide) rfl (fun x4 q4 => ?_) -- 63
  refine hM_si2 (k := 4) rfl (by decide +kernel) rfl (fun lv5 e5_4 u5 => ?_) -- 64
  have e5_0 := u5 0 _ (by decide) (Or.inl rfl) e1_0
  have e5_1 := u5 1 _ (by decide) (Or.inl rfl) e1_1
  have e5_2 := u5 2 _ (by decide) (Or.inl rfl) e1_2
  have e5_3 := u5 3 _ (by decide) (Or.inl rfl) e1_3
  exact g0 h3 V3 f3 x4 q4 lv5 M3 e5_0 e5_1 e5_2 e5_3 e5_4
theorem s_lf66 {k n x i : Int} (M : MX 49 W ρ m A h0 h F V G) (e0 : m_lk lv 0 = some (.ref m)) {lx1 : Int32} (e1 : m_lk lv 1 = some (.int lx1)) (lq1 : lx1.toInt = k) {lx2 : Int32} (e2 : m_lk lv 2 = some (.int lx2)) (lq2 : lx2.toInt = n) {lx3 : Int32} (e3 : m_lk lv 3 = some (.int lx3)) (lq3 : lx3.toInt = x) {lx4 : Int32} (e4 : m_lk lv 4 = some (.int lx4)) (lq4 : lx4.toInt = i) (i0 : 0 ≤ i) (n0 : 0 ≤ n) (n1 : n ≤ 63) (w1 : F 26 ≤ 63)(hw : d_sub [(92, 1001)] W = true)
    (g0 : ∀ x2 : Int32, x2.toInt = n + 1 → ∀ lv2 : List (Nat × Value), m_lk lv2 0 = some (.ref m) → m_lk lv2 1 = some (.int lx1) → m_lk lv2 2 = some (.int x2) → m_lk lv2 3 = some (.int lx3) → m_lk lv2 4 = some (.int lx4) → 0 ≤ F 26 → F 26 ≤ 63 → i ≥ F 26 → HJ 278 46 lv2 [] h Q)
    (g1 : ∀ h5 : MH, ∀ V5 : Nat → Nat → Int, V5 = m_u V 63 (m_u (V 63) (i).toNat (1)) → ∀ x6 : Int32, x6.toInt = i + 1 → ∀ lv6 : List (Nat × Value), MX 49 W ρ m A h0 h5 F V5 G → m_lk lv6 0 = some (.ref m) → m_lk lv6 1 = some (.int lx1) → m_lk lv6 2 = some (.int lx2) → m_lk lv6 3 = some (.int lx3) → m_lk lv6 4 = some (.int x6) → 0 ≤ F 26 → F 26 ≤ 63 → i < F 26 → V 63 (i).toNat ≠ 0 → HJ 278 66 lv6 [] h5 Q)
    (g2 : ∀ h9 : MH, ∀ V9 : Nat → Nat → Int, V9 = m_u V 63 (m_u (V 63) (i).toNat (0)) → ∀ x10 : Int32, x10.toInt = i + 1 → ∀ lv10 : List (Nat × Value), MX 49 W ρ m A h0 h9 F V9 G → m_lk lv10 0 = some (.ref m) → m_lk lv10 1 = some (.int lx1) → m_lk lv10 2 = some (.int lx2) → m_lk lv10 3 = some (.int lx3) → m_lk lv10 4 = some (.int x10) → 0 ≤ F 26 → F 26 ≤ 63 → i < F 26 → V 63 (i).toNat = 0 → (-1) ≤ V 29 (i).toNat → V 29 (i).toNat ≤ 62 → V 29 (i).toNat ≠ x → HJ 278 66 lv10 [] h9 Q)
    (g3 : ∀ h12 : MH, ∀ V12 : Nat → Nat → Int, V12 = m_u V 63 (m_u (V 63) (i).toNat (1)) → ∀ x13 : Int32, x13.toInt = i + 1 → ∀ lv13 : List (Nat × Value), MX 49 W ρ m A h0 h12 F V12 G → m_lk lv13 0 = some (.ref m) → m_lk lv13 1 = some (.int lx1) → m_lk lv13 2 = some (.int lx2) → m_lk lv13 3 = some (.int lx3) → m_lk lv13 4 = some (.int x13) → 0 ≤ F 26 → F 26 ≤ 63 → i < F 26 → V 63 (i).toNat = 0 → (-1) ≤ V 29 (i).toNat → V 29 (i).toNat ≤ 62 → V 29 (i).toNat = x → HJ 278 66 lv13 [] h12 Q)
    : HJ 278 66 lv [] h Q := by
  refine hI_il2 (k := 4) rfl e4 rfl ?_ -- 66
  refine hI_al (k := 0) rfl e0 rfl ?_ -- 68
  refine hM_gi M (by decide) rfl rfl rfl (k := 26) (c := 9) (lo := 0) (hi := 63) rfl rfl rfl rfl rfl (fun x1 q1 a1 b1 => ?_) -- 69
  refine hM_cge (off := 42) (t := 114) rfl lq4 q1 (by decide) rfl (fun c72 => ?_) (fun c72 => ?_) -- 72
  · refine hM_inc (k := 2) (z := 1) rfl e2 lq2 (by decide) (by omega) (by omega) (by decide +kernel) rfl (fun lv2 x2 q2 e2_2 u2 => ?_) -- 114
    have e2_0 := u2 0 _ (by decide) (Or.inl rfl) e0
    have e2_1 := u2 1 _ (by decide) (Or.inl rfl) e1
    have e2_3 := u2 3 _ (by decide) (Or.inl rfl) e3
    have e2_4 := u2 4 _ (by decide) (Or.inl rfl) e4
    refine hI_go (pc' := 46) (off := (-71)) rfl (by decide) ?_ -- 117
    exact g0 x2 q2 lv2 e2_0 e2_1 e2_2 e2_3 e2_4 a1 b1 c72
  · refine hI_al (k := 0) rfl e0 rfl ?_ -- 75
    refine hM_ga M (by decide) rfl rfl (k := 63) (c := 9) rfl rfl rfl (by decide +kernel) rfl ?_ -- 76
    refine hI_il2 (k := 4) rfl e4 rfl ?_ -- 79
    refine hI_al (k := 0) rfl e0 rfl ?_ -- 81
    refine hM_ga M (by decide) rfl rfl (k := 63) (c := 9) rfl rfl rfl (by decide +kernel) rfl ?_ -- 82
    refine hI_il2 (k := 4) rfl e4 rfl ?_ -- 85
    refine hM_ba M (by decide) (K := 63) (R2 := 92) (L := 64) (H := 64) (lo := (-2147483648)) (hi := 2147483647) rfl (by decide) rfl rfl (Or.inr rfl) (fun _ => rfl) rfl lq4 (by omega) (by omega) rfl (fun x3 q3 a3 b3 => ?_) -- 87
    refine hM_zne (off := 14) (t := 102) rfl q3 (by decide) rfl (fun c88 => ?_) (fun c88 => ?_) -- 88
    · refine hM_ic (n := 1) rfl (by decide) rfl (fun x4 q4 => ?_) -- 102
      refine hI_go (pc' := 107) (off := 4) rfl (by decide) ?_ -- 103
      refine hM_zs M (by decide) ok_49 (K := 63) (R2 := 92) (L := 64) (H := 64) rfl (by decide) rfl rfl rfl (fun _ => rfl) (d_subm hw (by decide +kernel)) rfl lq4 q4 (by omega) (by omega) (by omega) (by omega) rfl (fun h5 V5 f5 M5 => ?_) -- 107
      refine hM_inc (k := 4) (z := 1) rfl e4 lq4 (by decide) (by omega) (by omega) (by decide +kernel) rfl (fun lv6 x6 q6 e6_4 u6 => ?_) -- 108
      have e6_0 := u6 0 _ (by decide) (Or.inl rfl) e0
      have e6_1 := u6 1 _ (by decide) (Or.inl rfl) e1
      have e6_2 := u6 2 _ (by decide) (Or.inl rfl) e2
      have e6_3 := u6 3 _ (by decide) (Or.inl rfl) e3
      refine hI_go (pc' := 66) (off := (-45)) rfl (by decide) ?_ -- 111
      exact g1 h5 V5 f5 x6 q6 lv6 M5 e6_0 e6_1 e6_2 e6_3 e6_4 a1 b1 c72 c88
    · refine hI_al (k := 0) rfl e0 rfl ?_ -- 91
      refine hM_ga M (by decide) rfl rfl (k := 29) (c := 9) rfl rfl rfl (by decide +kernel) rfl ?_ -- 92
      refine hI_il2 (k := 4) rfl e4 rfl ?_ -- 95
      refine hM_ia M (by decide) (K := 29) (R2 := 65) (L := 64) (H := 64) (lo := (-1)) (hi := 62) rfl (by decide) rfl rfl (fun _ => rfl) rfl lq4 (by omega) (by omega) rfl (fun x7 q7 a7 b7 => ?_) -- 97
      refine hI_il (k := 3) rfl e3 rfl ?_ -- 98
      refine hM_cne (off := 7) (t := 106) rfl q7 lq3 (by decide) rfl (fun c99 => ?_) (fun c99 => ?_) -- 99
      · refine hM_ic (n := 0) rfl (by decide) rfl (fun x8 q8 => ?_) -- 106
        refine hM_zs M (by decide) ok_49 (K := 63) (R2 := 92) (L := 64) (H := 64) rfl (by decide) rfl rfl rfl (fun _ => rfl) (d_subm hw (by decide +kernel)) rfl lq4 q8 (by omega) (by omega) (by omega) (by omega) rfl (fun h9 V9 f9 M9 => ?_) -- 107
        refine hM_inc (k := 4) (z := 1) rfl e4 lq4 (by decide) (by omega) (by omega) (by decide +kernel) rfl (fun lv10 x10 q10 e10_4 u10 => ?_) -- 108
        have e10_0 := u10 0 _ (by decide) (Or.inl rfl) e0
        have e10_1 := u10 1 _ (by decide) (Or.inl rfl) e1
        have e10_2 := u10 2 _ (by decide) (Or.inl rfl) e2
        have e10_3 := u10 3 _ (by decide) (Or.inl rfl) e3
        refine hI_go (pc' := 66) (off := (-45)) rfl (by decide) ?_ -- 111
        exact g2 h9 V9 f9 x10 q10 lv10 M9 e10_0 e10_1 e10_2 e10_3 e10_4 a1 b1 c72 c88 a7 b7 c99
      · refine hM_ic (n := 1) rfl (by decide) rfl (fun x11 q11 => ?_) -- 102
        refine hI_go (pc' := 107) (off := 4) rfl (by decide) ?_ -- 103
        refine hM_zs M (by decide) ok_49 (K := 63) (R2 := 92) (L := 64) (H := 64) rfl (by decide) rfl rfl rfl (fun _ => rfl) (d_subm hw (by decide +kernel)) rfl lq4 q11 (by omega) (by omega) (by omega) (by omega) rfl (fun h12 V12 f12 M12 => ?_) -- 107
        refine hM_inc (k := 4) (z := 1) rfl e4 lq4 (by decide) (by omega) (by omega) (by decide +kernel) rfl (fun lv13 x13 q13 e13_4 u13 => ?_) -- 108
        have e13_0 := u13 0 _ (by decide) (Or.inl rfl) e0
        have e13_1 := u13 1 _ (by decide) (Or.inl rfl) e1
        have e13_2 := u13 2 _ (by decide) (Or.inl rfl) e2
        have e13_3 := u13 3 _ (by decide) (Or.inl rfl) e3
        refine hI_go (pc' := 66) (off := (-45)) rfl (by decide) ?_ -- 111
        exact g3 h12 V12 f12 x13 q13 lv13 M12 e13_0 e13_1 e13_2 e13_3 e13_4 a1 b1 c72 c88 a7 b7 c99
theorem s_lf124 {a i : Int} (M : MX 49 W ρ m A h0 h F V G) (e0 : m_lk lv 0 = some (.ref m)) {lx2 : Int32} (e2 : m_lk lv 2 = some (.int lx2)) (lq2 : lx2.toInt = a) {lx3 : Int32} (e3 : m_lk lv 3 = some (.int lx3)) (lq3 : lx3.toInt = i) (i0 : 0 ≤ i) (a0 : 0 ≤ a) (a1 : a ≤ i) (w1 : F 26 ≤ 63)
    (g0 : 0 ≤ F 26 → F 26 ≤ 63 → i ≥ F 26 → Q (some (.int lx2)) h)
    (g1 : ∀ x4 : Int32, x4.toInt = a + 0 → ∀ x6 : Int32, x6.toInt = i + 1 → ∀ lv6 : List (Nat × Value), m_lk lv6 0 = some (.ref m) → m_lk lv6 2 = some (.int x4) → m_lk lv6 3 = some (.int x6) → 0 ≤ F 26 → F 26 ≤ 63 → i < F 26 → V 63 (i).toNat = 0 → HJ 278 124 lv6 [] h Q)
    (g2 : ∀ x8 : Int32, x8.toInt = a + 1 → ∀ x10 : Int32, x10.toInt = i + 1 → ∀ lv10 : List (Nat × Value), m_lk lv10 0 = some (.ref m) → m_lk lv10 2 = some (.int x8) → m_lk lv10 3 = some (.int x10) → 0 ≤ F 26 → F 26 ≤ 63 → i < F 26 → V 63 (i).toNat ≠ 0 → HJ 278 124 lv10 [] h Q)
    : HJ 278 124 lv [] h Q := by
  refine hI_il (k := 3) rfl e3 rfl ?_ -- 124
  refine hI_al (k := 0) rfl e0 rfl ?_ -- 125
  refine hM_gi M (by decide) rfl rfl rfl (k := 26) (c := 9) (lo := 0) (hi := 63) rfl rfl rfl rfl rfl (fun x1 q1 a1 b1 => ?_) -- 126
  refine hM_cge (off := 26) (t := 155) rfl lq3 q1 (by decide) rfl (fun c129 => ?_) (fun c129 => ?_) -- 129
  · refine hI_il (k := 2) rfl e2 rfl ?_ -- 155
    refine hI_ri rfl rfl ?_ -- 156
    exact g0 a1 b1 c129
  · refine hI_il (k := 2) rfl e2 rfl ?_ -- 132
    refine hI_al (k := 0) rfl e0 rfl ?_ -- 133
    refine hM_ga M (by decide) rfl rfl (k := 63) (c := 9) rfl rfl rfl (by decide +kernel) rfl ?_ -- 134
    refine hI_il (k := 3) rfl e3 rfl ?_ -- 137
    refine hM_ba M (by decide) (K := 63) (R2 := 92) (L := 64) (H := 64) (lo := (-2147483648)) (hi := 2147483647) rfl (by decide) rfl rfl (Or.inr rfl) (fun _ => rfl) rfl lq3 (by omega) (by omega) rfl (fun x2 q2 a2 b2 => ?_) -- 138
    refine hM_zeq (off := 7) (t := 146) rfl q2 (by decide) rfl (fun c139 => ?_) (fun c139 => ?_) -- 139
    · refine hM_ic (n := 0) rfl (by decide) rfl (fun x3 q3 => ?_) -- 146
      refine hM_add rfl lq2 q3 (by omega) (by omega) rfl (fun x4 q4 => ?_) -- 147
      refine hM_si (k := 2) rfl (by decide +kernel) rfl (fun lv5 e5_2 u5 => ?_) -- 148
      have e5_0 := u5 0 _ (by decide) (Or.inl rfl) e0
      have e5_3 := u5 3 _ (by decide) (Or.inl rfl) e3
      refine hM_inc (k := 3) (z := 1) rfl e5_3 lq3 (by decide) (by omega) (by omega) (by decide +kernel) rfl (fun lv6 x6 q6 e6_3 u6 => ?_) -- 149
      have e6_0 := u6 0 _ (by decide) (Or.inl rfl) e5_0
      have e6_2 := u6 2 _ (by decide) (Or.inl rfl) e5_2
      refine hI_go (pc' := 124) (off := (-28)) rfl (by decide) ?_ -- 152
      exact g1 x4 q4 x6 q6 lv6 e6_0 e6_2 e6_3 a1 b1 c129 c139
    · refine hM_ic (n := 1) rfl (by decide) rfl (fun x7 q7 => ?_) -- 142
      refine hI_go (pc' := 147) (off := 4) rfl (by decide) ?_ -- 143
      refine hM_add rfl lq2 q7 (by omega) (by omega) rfl (fun x8 q8 => ?_) -- 147
      refine hM_si (k := 2) rfl (by decide +kernel) rfl (fun lv9 e9_2 u9 => ?_) -- 148
      have e9_0 := u9 0 _ (by decide) (Or.inl rfl) e0
      have e9_3 := u9 3 _ (by decide) (Or.inl rfl) e3
      refine hM_inc (k := 3) (z := 1) rfl e9_3 lq3 (by decide) (by omega) (by omega) (by decide +kernel) rfl (fun lv10 x10 q10 e10_3 u10 => ?_) -- 149
      have e10_0 := u10 0 _ (by decide) (Or.inl rfl) e9_0
      have e10_2 := u10 2 _ (by decide) (Or.inl rfl) e9_2
      refine hI_go (pc' := 124) (off := (-28)) rfl (by decide) ?_ -- 152
      exact g2 x8 q8 x10 q10 lv10 e10_0 e10_2 e10_3 a1 b1 c129 c139
def z_o (V V0 : Nat → Nat → Int) : Prop := ∀ K, K ≠ 63 → K ≠ 64 → V K = V0 K
theorem l_lf124 {w : Nat} (M : MX 49 W ρ m A h0 h F V G) (fw : F 26 = (w : Int)) (w63 : w ≤ 63) (g : ∀ x : Int32, Q (some (.int x)) h) : ∀ (d i : Nat) (a : Int) (lv : List (Nat × Value)) (xa xi : Int32), i + d = w → 0 ≤ a → a ≤ i → xa.toInt = a → xi.toInt = (i : Int) → m_lk lv 0 = some (.ref m) → m_lk lv 2 = some (.int xa) → m_lk lv 3 = some (.int xi) → HJ 278 124 lv [] h Q := by
  intro d
  induction d with
  | zero =>
    intro i a lv xa xi hd a0 a1 ha hi e0 e2 e3
    exact s_lf124 M e0 e2 ha e3 hi (by omega) a0 a1 (by omega) (fun _ _ _ => g xa) (fun x4 q4 x6 q6 lv6 e6_0 e6_2 e6_3 a1 b1 c129 c139 => by omega) (fun x4 q4 x6 q6 lv6 e6_0 e6_2 e6_3 a1 b1 c129 c139 => by omega)
  | succ d ih =>
    intro i a lv xa xi hd a0 a1 ha hi e0 e2 e3
    exact s_lf124 M e0 e2 ha e3 hi (by omega) a0 a1 (by omega) (fun _ _ _ => g xa) (fun x4 q4 x6 q6 lv6 d0 d2 d3 _ _ _ _ => ih (i + 1) _ lv6 x4 x6 (by omega) (by omega) (by omega) q4 (by omega) d0 d2 d3) (fun x4 q4 x6 q6 lv6 d0 d2 d3 _ _ _ _ => ih (i + 1) _ lv6 x4 x6 (by omega) (by omega) (by omega) q4 (by omega) d0 d2 d3)
theorem l_lf66 {w n x : Nat} {k : Int} {xk xn xx : Int32} {V1 : Nat → Nat → Int} (hw : d_sub [(92, 1001)] W = true) (fw : F 26 = (w : Int)) (w63 : w ≤ 63) (n63 : n ≤ 63) (hk : xk.toInt = k) (hn : xn.toInt = (n : Int)) (hx : xx.toInt = (x : Int)) (g : ∀ (lv : List (Nat × Value)) (h : MH) (V : Nat → Nat → Int) (xn' : Int32), MX 49 W ρ m A h0 h F V G → (∀ K, K ≠ 63 → V K = V1 K) → (∀ j, j < w → V1 63 j ≠ 0 ∨ V1 29 j = x → V 63 j ≠ 0) → xn'.toInt = (n : Int) + 1 → m_lk lv 0 = some (.ref m) → m_lk lv 1 = some (.int xk) → m_lk lv 2 = some (.int xn') → HJ 278 46 lv [] h Q) : ∀ (d i : Nat) (lv : List (Nat × Value)) (h : MH) (V : Nat → Nat → Int) (xi : Int32), i + d = w → MX 49 W ρ m A h0 h F V G → (∀ K, K ≠ 63 → V K = V1 K) → (∀ j, j < i → V1 63 j ≠ 0 ∨ V1 29 j = x → V 63 j ≠ 0) → (∀ j, i ≤ j → V 63 j = V1 63 j) → xi.toInt = (i : Int) → m_lk lv 0 = some (.ref m) → m_lk lv 1 = some (.int xk) → m_lk lv 2 = some (.int xn) → m_lk lv 3 = some (.int xx) → m_lk lv 4 = some (.int xi) → HJ 278 66 lv [] h Q := by
  intro d
  induction d with
  | zero =>
    intro i lv h V xi hd M vo k1 k2 hi e0 e1 e2 e3 e4
    have iw : i = w := by omega
    subst iw
    exact s_lf66 M e0 e1 hk e2 hn e3 hx e4 hi (by omega) (by omega) (by omega) (by omega) hw (fun x2 q2 lv2 d0 d1 d2 d3 d4 _ _ _ => g lv2 h V x2 M vo k1 q2 d0 d1 d2) (fun h5 V5 f5 x6 q6 lv6 M5 e6_0 e6_1 e6_2 e6_3 e6_4 a1 b1 c72 c88 => by omega) (fun h9 V9 f9 x10 q10 lv10 M9 e10_0 e10_1 e10_2 e10_3 e10_4 a1 b1 c72 c88 a7 b7 c99 => by omega) (fun h9 V9 f9 x10 q10 lv10 M9 e10_0 e10_1 e10_2 e10_3 e10_4 a1 b1 c72 c88 a7 b7 c99 => by omega)
  | succ d ih =>
    intro i lv h V xi hd M vo k1 k2 hi e0 e1 e2 e3 e4
    have nx : ∀ (y : Int) (V2 : Nat → Nat → Int), V2 = m_u V 63 (m_u (V 63) i y) → (V1 63 i ≠ 0 ∨ V1 29 i = x → y ≠ 0) → (∀ K, K ≠ 63 → V2 K = V1 K) ∧ (∀ j, j < i + 1 → V1 63 j ≠ 0 ∨ V1 29 j = x → V2 63 j ≠ 0) ∧ (∀ j, i + 1 ≤ j → V2 63 j = V1 63 j) := fun y V2 p hy => by
      refine ⟨fun K hK => by rw [p, m_uN _ _ _ _ hK, vo K hK], fun j hj hh => ?_, fun j hj => ?_⟩
      · rw [p, m_uE]
        by_cases e : j = i
        · rw [e, m_uE]
          rw [e] at hh
          exact hy hh
        · rw [m_uN _ _ _ _ e]
          exact k1 j (by omega) hh
      · rw [p, m_uE, m_uN _ _ _ _ (by omega)]
        exact k2 j (by omega)
    have u29 : V 29 = V1 29 := vo 29 (by decide)
    have u63 : V 63 i = V1 63 i := k2 i (Nat.le_refl i)
    refine s_lf66 M e0 e1 hk e2 hn e3 hx e4 hi (by omega) (by omega) (by omega) (by omega) hw (fun x2 q2 lv2 d0 d1 d2 d3 d4 _ _ _ => by omega) (fun h5 V5 f5 x6 q6 lv6 M5 d0 d1 d2 d3 d4 a1 b1 c72 c88 => ?_) (fun h9 V9 f9 x10 q10 lv10 M9 d0 d1 d2 d3 d4 a1 b1 c72 c88 a7 b7 c99 => ?_) (fun h9 V9 f9 x10 q10 lv10 M9 d0 d1 d2 d3 d4 a1 b1 c72 c88 a7 b7 c99 => ?_)
    · rw [Int.toNat_natCast] at f5
      obtain ⟨p1, p2, p3⟩ := nx 1 V5 f5 (fun _ => by decide)
      exact ih (i + 1) lv6 h5 V5 x6 (by omega) M5 p1 p2 p3 (by omega) d0 d1 d2 d3 d4
    · rw [Int.toNat_natCast] at f9 c88 c99
      rw [u29] at c99
      rw [u63] at c88
      obtain ⟨p1, p2, p3⟩ := nx 0 V9 f9 (fun y => by
        rcases y with y | y
        · exact absurd c88 y
        · exact absurd y c99)
      exact ih (i + 1) lv10 h9 V9 x10 (by omega) M9 p1 p2 p3 (by omega) d0 d1 d2 d3 d4
    · rw [Int.toNat_natCast] at f9
      obtain ⟨p1, p2, p3⟩ := nx 1 V9 f9 (fun _ => by decide)
      exact ih (i + 1) lv10 h9 V9 x10 (by omega) M9 p1 p2 p3 (by omega) d0 d1 d2 d3 d4
theorem l_lf46 {w k : Nat} {xk : Int32} {V0 : Nat → Nat → Int} (hw : d_sub [(92, 1001), (93, 1001)] W = true) (fw : F 26 = (w : Int)) (w63 : w ≤ 63) (kw : k ≤ w) (at_ : ∀ i, i < w → 0 ≤ V0 27 i ∧ V0 27 i < 16000) (hU : ∀ i, i < w → V0 29 i = -1 ∨ (0 ≤ V0 29 i ∧ V0 29 i < i)) (hk : xk.toInt = (k : Int)) (g : ∀ (x : Int32) (h' : MH) (V' : Nat → Nat → Int), MX 49 W ρ m A h0 h' F V' G → Q (some (.int x)) h') : ∀ (d n : Nat) (lv : List (Nat × Value)) (h : MH) (V : Nat → Nat → Int) (xn : Int32), n + d = k → MX 49 W ρ m A h0 h F V G → z_o V V0 → z_cl (V 63) (V 64) (V 29) w → z_ct (V 64) w ≤ n → xn.toInt = (n : Int) → m_lk lv 0 = some (.ref m) → m_lk lv 1 = some (.int xk) → m_lk lv 2 = some (.int xn) → HJ 278 46 lv [] h Q := by
  have w1 : d_sub [(92, 1001)] W = true := d_subm hw (by decide +kernel)
  have w2 : d_sub [(93, 1001)] W = true := d_subm hw (by decide +kernel)
  intro d
  induction d with
  | zero =>
    intro n lv h V xn hd M vo cl ct hn e0 e1 e2
    refine s_lf46 M e0 e1 hk e2 hn (fun x1 q1 x3 q3 lv4 d0 d2 d3 _ => ?_) (fun c48 => by omega)
    exact l_lf124 M fw w63 (fun x => g x h V M) w 0 0 lv4 x1 x3 (by omega) (by omega) (by omega) q1 q3 d0 d2 d3
  | succ d ih =>
    intro n lv h V xn hd M vo cl ct hn e0 e1 e2
    refine s_lf46 M e0 e1 hk e2 hn (fun x1 q1 x3 q3 lv4 d0 d2 d3 _ => by omega) (fun c48 => ?_)
    refine c_next (w := w) M fw w63 (fun i hi => by rw [vo 27 (by decide) (by decide)]; exact at_ i hi) (fun xx I => ?_)
    have gx : 0 ≤ xx.toInt ∧ xx.toInt < w := by
      rcases I with ⟨z1, z2⟩ | z
      · obtain ⟨i, y1, y2, y3⟩ := z_key (fun i hi => by rw [vo 29 (by decide) (by decide)]; exact hU i hi) cl (by omega)
        rcases z2 i y1 with y | y
        · exact absurd y y2
        · exact absurd y3 y
      · exact z
    refine s_lf55 (x := xx.toInt) M e0 e1 hk e2 hn rfl gx.1 (by omega) w2 (fun h3 V3 f3 x4 q4 lv5 M3 d0 d1 d2 d3 d4 => ?_)
    have vo3 : ∀ K, K ≠ 64 → V3 K = V K := fun K hK => by rw [f3, m_uN _ _ _ _ hK]
    have t3 : V3 64 = m_u (V 64) xx.toInt.toNat 1 := by rw [f3, m_uE]
    refine l_lf66 (w := w) (n := n) (x := xx.toInt.toNat) (V1 := V3) w1 fw w63 (by omega) hk hn (by omega) (fun lv6 h4 V4 xn' M4 o4 k4 q4' b0 b1 b2 => ?_) w 0 lv5 h3 V3 x4 (by omega) M3 (fun _ _ => rfl) (fun j hj => absurd hj (Nat.not_lt_zero j)) (fun _ _ => rfl) q4 d0 d1 d2 d3 d4
    have e64 : V4 64 = m_u (V 64) xx.toInt.toNat 1 := by rw [o4 64 (by decide), t3]
    have e29 : V4 29 = V 29 := by rw [o4 29 (by decide), vo3 29 (by decide)]
    refine ih (n + 1) lv6 h4 V4 xn' (by omega) M4 (fun K j1 j2 => by rw [o4 K j1, vo3 K j2, vo K j1 j2]) (fun i hi hh => ?_) ?_ (by omega) b0 b1 b2
    · refine k4 i hi ?_
      rw [e29, e64] at hh
      rw [vo3 63 (by decide), vo3 29 (by decide)]
      rcases hh with y | ⟨y1, y2⟩
      · exact Or.inl (cl i hi (Or.inl y))
      · by_cases e : (V 29 i).toNat = xx.toInt.toNat
        · exact Or.inr (by omega)
        · rw [m_uN _ _ _ _ e] at y2
          exact Or.inl (cl i hi (Or.inr ⟨y1, y2⟩))
    · rw [e64]
      have := z_ctU (f := V 64) (g := xx.toInt.toNat) (x := 1) w
      omega
theorem l_lf2 {w : Nat} {k : Int} {xk : Int32} {V0 : Nat → Nat → Int} (hw : d_sub [(92, 1001), (93, 1001)] W = true) (fw : F 26 = (w : Int)) (w63 : w ≤ 63) (hk : xk.toInt = k) (g : ∀ (lv : List (Nat × Value)) (h : MH) (V : Nat → Nat → Int) (xn : Int32), MX 49 W ρ m A h0 h F V G → z_o V V0 → (∀ j, j < w → V0 29 j = -1 → V 63 j ≠ 0) → (∀ j, j < w → V 64 j = 0) → xn.toInt = 0 → m_lk lv 0 = some (.ref m) → m_lk lv 1 = some (.int xk) → m_lk lv 2 = some (.int xn) → HJ 278 46 lv [] h Q) : ∀ (d i : Nat) (lv : List (Nat × Value)) (h : MH) (V : Nat → Nat → Int) (xi : Int32), i + d = w → MX 49 W ρ m A h0 h F V G → z_o V V0 → (∀ j, j < i → V0 29 j = -1 → V 63 j ≠ 0) → (∀ j, j < i → V 64 j = 0) → xi.toInt = (i : Int) → m_lk lv 0 = some (.ref m) → m_lk lv 1 = some (.int xk) → m_lk lv 2 = some (.int xi) → HJ 278 2 lv [] h Q := by
  intro d
  induction d with
  | zero =>
    intro i lv h V xi hd M vo k1 k2 hi e0 e1 e2
    have iw : i = w := by omega
    subst iw
    exact s_lf2 M e0 e1 hk e2 hi (by omega) (by omega) hw (fun x2 q2 lv3 d0 d1 d2 _ _ _ => g lv3 h V x2 M vo k1 k2 q2 d0 d1 d2) (fun h7 V7 f7 h9 V9 f9 x10 q10 lv10 M9 e10_0 e10_1 e10_2 a1 b1 c7 a4 b4 c22 => by omega) (fun h7 V7 f7 h9 V9 f9 x10 q10 lv10 M9 e10_0 e10_1 e10_2 a1 b1 c7 a4 b4 c22 => by omega)
  | succ d ih =>
    intro i lv h V xi hd M vo k1 k2 hi e0 e1 e2
    have nx : ∀ (y : Int) (V2 V3 : Nat → Nat → Int), V2 = m_u V 63 (m_u (V 63) i y) → V3 = m_u V2 64 (m_u (V2 64) i 0) → (V0 29 i = -1 → y ≠ 0) → z_o V3 V0 ∧ (∀ j, j < i + 1 → V0 29 j = -1 → V3 63 j ≠ 0) ∧ (∀ j, j < i + 1 → V3 64 j = 0) := fun y V2 V3 p2 p3 hy => by
      refine ⟨fun K j1 j2 => by rw [p3, m_uN _ _ _ _ j2, p2, m_uN _ _ _ _ j1, vo K j1 j2], fun j hj hh => ?_, fun j hj => ?_⟩
      · rw [p3, m_uN _ _ _ _ (by decide), p2, m_uE]
        by_cases e : j = i
        · rw [e, m_uE]
          rw [e] at hh
          exact hy hh
        · rw [m_uN _ _ _ _ e]
          exact k1 j (by omega) hh
      · rw [p3, m_uE]
        by_cases e : j = i
        · rw [e, m_uE]
        · rw [m_uN _ _ _ _ e, p2, m_uN _ _ _ _ (by decide)]
          exact k2 j (by omega)
    have u29 : V 29 = V0 29 := vo 29 (by decide) (by decide)
    refine s_lf2 M e0 e1 hk e2 hi (by omega) (by omega) hw (fun x2 q2 lv3 d0 d1 d2 _ _ _ => by omega) (fun h7 V7 f7 h9 V9 f9 x10 q10 lv10 M9 d0 d1 d2 a1 b1 c7 a4 b4 c22 => ?_) (fun h7 V7 f7 h9 V9 f9 x10 q10 lv10 M9 d0 d1 d2 a1 b1 c7 a4 b4 c22 => ?_)
    · rw [Int.toNat_natCast] at f7 f9 c22
      rw [u29] at c22
      obtain ⟨p1, p2, p3⟩ := nx _ V7 V9 f7 f9 (fun y => absurd y c22)
      exact ih (i + 1) lv10 h9 V9 x10 (by omega) M9 p1 p2 p3 (by omega) d0 d1 d2
    · rw [Int.toNat_natCast] at f7 f9
      obtain ⟨p1, p2, p3⟩ := nx _ V7 V9 f7 f9 (fun _ => by decide)
      exact ih (i + 1) lv10 h9 V9 x10 (by omega) M9 p1 p2 p3 (by omega) d0 d1 d2
theorem c_looked {k : Nat} {xk : Int32} (M : MX 49 W ρ m A h0 h F V G) (b0_ : m_lk lv 0 = some (.ref m)) (b1_ : m_lk lv 1 = some (.int xk)) (hw : d_sub [(92, 1001), (93, 1001)] W = true) (X : w_X (F 17) (V 22) (V 27) (V 29) (V 28) (F 26).toNat) (hk : xk.toInt = (k : Int)) (kw : (k : Int) ≤ F 26) (g : ∀ (x : Int32) (h' : MH) (V' : Nat → Nat → Int), MX 49 W ρ m A h0 h' F V' G → Q (some (.int x)) h') : HJ 278 0 lv [] h Q := by
  have wb := M.fi (by decide) (k := 26) (lo := 0) (hi := 63) rfl rfl rfl
  have nb := M.fi (by decide) (k := 17) (lo := 0) (hi := 16000) rfl rfl rfl
  have fw : F 26 = (((F 26).toNat : Nat) : Int) := by omega
  refine s_lf0 M b0_ b1_ hk (fun x1 q1 lv2 e0 e1 e2 => ?_)
  refine l_lf2 (w := (F 26).toNat) (V0 := V) hw fw (by omega) hk (fun lv3 h3 V3 xn M3 vo k1 k2 qn d0 d1 d2 => ?_) (F 26).toNat 0 lv2 h V x1 (by omega) M (fun _ _ _ => rfl) (fun j hj => absurd hj (Nat.not_lt_zero j)) (fun j hj => absurd hj (Nat.not_lt_zero j)) q1 e0 e1 e2
  refine l_lf46 (w := (F 26).toNat) (V0 := V) hw fw (by omega) (by omega) (fun i hi => ?_) (fun i hi => ?_) hk g k 0 lv3 h3 V3 xn (by omega) M3 vo (fun i hi hh => ?_) ?_ qn d0 d1 d2
  · have := (X i hi).1
    omega
  · rcases (X i hi).2 with y | y
    · exact Or.inl y.1
    · exact Or.inr ⟨y.1, y.2.1⟩
  · rw [vo 29 (by decide) (by decide)] at hh
    refine k1 i hi ?_
    rcases hh with y | ⟨y1, y2⟩
    · exact y
    · refine absurd (k2 _ ?_) y2
      rcases (X i hi).2 with z | z <;> omega
  · rw [z_ct0 k2]
    omega
end
