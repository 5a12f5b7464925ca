-- THE SHARES' TABLE BY HAND: chosen ones, sums, the fewest
section
variable {i pc pc' : Nat} {lv : List (Nat × Value)} {st : List Value} {h : MH} {Q : Option Value → MH → Prop}
theorem hM_ishlx {x y : Int32} (a : m_at i pc = some (.ishl, 1)) (hp : pc + 1 = pc') (g : ∀ w : Int32, w.toInt = (x <<< (y &&& 31)).toInt → HJ i pc' lv (.int w :: st) h Q) : HJ i pc lv (.int y :: .int x :: st) h Q := hI_ishl a hp (g _ rfl)
theorem hM_iorx {x y : Int32} (a : m_at i pc = some (.ior, 1)) (hp : pc + 1 = pc') (g : ∀ w : Int32, w.toInt = (x ||| y).toInt → HJ i pc' lv (.int w :: st) h Q) : HJ i pc lv (.int y :: .int x :: st) h Q := hI_ior a hp (g _ rfl)
theorem hM_ixorx {x y : Int32} (a : m_at i pc = some (.ixor, 1)) (hp : pc + 1 = pc') (g : ∀ w : Int32, w.toInt = (x ^^^ y).toInt → HJ i pc' lv (.int w :: st) h Q) : HJ i pc lv (.int y :: .int x :: st) h Q := hI_ixor a hp (g _ rfl)
theorem hM_lw {w idx : Nat} {x : Int32} (a : m_at i pc = some (.ldc_w idx, w)) (hx : m_ic i idx = some x) (hp : pc + 3 = pc') (g : ∀ (y : Int32) (z : Int), y.toInt = z → -2147483648 ≤ z → z ≤ 2147483647 → HJ i pc' lv (.int y :: st) h Q) (hw : w = 3 := by rfl) : HJ i pc lv st h Q := by
  subst hp hw
  refine HJ.ex a (Or.inl rfl) ?_ (g x _ rfl (g_iT _).1 (g_iT _).2)
  show e_ldc 3 i idx pc lv st h = _
  unfold e_ldc
  rw [hx]
  rfl
end
theorem i_nat {x : Int32} (h0 : 0 ≤ x.toInt) : (x.toBitVec.toNat : Int) = x.toInt := by
  have e : x.toInt = x.toBitVec.toInt := rfl
  rw [e] at h0 ⊢
  rw [BitVec.toInt_eq_toNat_cond] at h0 ⊢
  split
  · rfl
  · next hc =>
    rw [if_neg hc] at h0
    have := x.toBitVec.isLt
    omega
theorem i_ofn {x : Int32} {n : Nat} (hn : n ≤ 30) (hx : x.toBitVec.toNat < 2 ^ n) : 0 ≤ x.toInt ∧ x.toInt < (2 : Int) ^ n := by
  have e : x.toInt = x.toBitVec.toInt := rfl
  have h2 : (2 : Nat) ^ n ≤ 2 ^ 30 := Nat.pow_le_pow_right (by decide) hn
  have h3 : (((2 : Nat) ^ n : Nat) : Int) = (2 : Int) ^ n := Int.natCast_pow 2 n
  rw [e, BitVec.toInt_eq_toNat_of_lt (by omega)]
  omega
theorem i_ltn {x : Int32} {n : Nat} (h0 : 0 ≤ x.toInt) (h1 : x.toInt < (2 : Int) ^ n) : x.toBitVec.toNat < 2 ^ n := by
  have h3 : (((2 : Nat) ^ n : Nat) : Int) = (2 : Int) ^ n := Int.natCast_pow 2 n
  have := i_nat h0
  omega
theorem i_xorB {a b : Int32} {n : Nat} (hn : n ≤ 30) (a0 : 0 ≤ a.toInt) (a1 : a.toInt < (2 : Int) ^ n) (b0 : 0 ≤ b.toInt) (b1 : b.toInt < (2 : Int) ^ n) : 0 ≤ (a ^^^ b).toInt ∧ (a ^^^ b).toInt < (2 : Int) ^ n := i_ofn hn (by
  show (a.toBitVec ^^^ b.toBitVec).toNat < 2 ^ n
  rw [BitVec.toNat_xor]
  exact Nat.xor_lt_two_pow (i_ltn a0 a1) (i_ltn b0 b1))
theorem i_orB {a b : Int32} {n : Nat} (hn : n ≤ 30) (a0 : 0 ≤ a.toInt) (a1 : a.toInt < (2 : Int) ^ n) (b0 : 0 ≤ b.toInt) (b1 : b.toInt < (2 : Int) ^ n) : 0 ≤ (a ||| b).toInt ∧ (a ||| b).toInt < (2 : Int) ^ n := i_ofn hn (by
  show (a.toBitVec ||| b.toBitVec).toNat < 2 ^ n
  rw [BitVec.toNat_or]
  exact Nat.or_lt_two_pow (i_ltn a0 a1) (i_ltn b0 b1))
theorem z_pow {n : Nat} : (1 : Int) ≤ (2 : Int) ^ n := by
  have h3 : (((2 : Nat) ^ n : Nat) : Int) = (2 : Int) ^ n := Int.natCast_pow 2 n
  have := Nat.one_le_two_pow (n := n)
  omega
theorem z_powL {a b : Nat} (h : a ≤ b) : (2 : Int) ^ a ≤ (2 : Int) ^ b := by
  have h3 : (((2 : Nat) ^ a : Nat) : Int) = (2 : Int) ^ a := Int.natCast_pow 2 a
  have h4 : (((2 : Nat) ^ b : Nat) : Int) = (2 : Int) ^ b := Int.natCast_pow 2 b
  have := Nat.pow_le_pow_right (n := 2) (by decide) h
  omega
theorem z_powS {a : Nat} : (2 : Int) ^ (a + 1) = 2 * (2 : Int) ^ a := by
  rw [Int.pow_succ]
  omega
theorem sb_x {a b : Int32} {i j k : Int} (ha : a.toInt = j) (j0 : 0 ≤ j) (j1 : j < (2 : Int) ^ k.toNat) (hb : b.toInt = (2 : Int) ^ i.toNat) (i0 : 0 ≤ i) (i1 : i < k) (k1 : k ≤ 12) : 0 ≤ (a ^^^ b).toInt ∧ (a ^^^ b).toInt < (2 : Int) ^ k.toNat := by
  have e1 : (2 : Int) ^ (i.toNat + 1) ≤ (2 : Int) ^ k.toNat := z_powL (by omega)
  rw [z_powS] at e1
  have e2 := z_pow (n := i.toNat)
  exact i_xorB (by omega) (by omega) (by omega) (by omega) (by omega)
theorem fk_x {a b : Int32} {x y k : Int} (ha : a.toInt = x) (hb : b.toInt = y) (y0 : 0 ≤ y) (y1 : y < x) (x1 : x < (2 : Int) ^ k.toNat) (k1 : k ≤ 12) : 0 ≤ (a ^^^ b).toInt ∧ (a ^^^ b).toInt < (2 : Int) ^ k.toNat := i_xorB (by omega) (by omega) (by omega) (by omega) (by omega)
theorem pk_F : ∀ (c : Fin 2) (i : Fin 13), ((Int64.ofNat c.val).toInt32 <<< (Int32.ofInt (i.val : Int) &&& 31)).toInt = (c.val : Int) * (2 : Int) ^ i.val := by decide +kernel
theorem pk_1 (y : Int64) : ∃ c : Fin 2, y &&& (Int64.ofNat (1 : Fin 2).val) = Int64.ofNat c.val := by
  have h1 : (y &&& (Int64.ofNat (1 : Fin 2).val)).toBitVec.toNat < 2 := by
    show (y.toBitVec &&& (1#64)).toNat < 2
    rw [BitVec.toNat_and]
    exact Nat.lt_of_le_of_lt Nat.and_le_right (by decide)
  refine ⟨⟨_, h1⟩, ?_⟩
  show _ = Int64.ofNat (y &&& (Int64.ofNat (1 : Fin 2).val)).toBitVec.toNat
  generalize y &&& (Int64.ofNat (1 : Fin 2).val) = w
  refine Int64.toBitVec_inj.mp ?_
  show w.toBitVec = BitVec.ofNat 64 w.toBitVec.toNat
  rw [BitVec.ofNat_toNat, BitVec.setWidth_eq]
theorem pk_b {b x w i2 : Int32} {y : Int64} {i : Nat} (hi : i2.toInt = (i : Int)) (i1 : i ≤ 11) (b0 : 0 ≤ b.toInt) (b1 : b.toInt < (2 : Int) ^ i) (hx : x.toInt = ((y &&& (Int64.ofNat (1 : Fin 2).val)).toInt32).toInt) (hw : w.toInt = (x <<< (i2 &&& 31)).toInt) : 0 ≤ (b ||| w).toInt ∧ (b ||| w).toInt < (2 : Int) ^ (i + 1) := by
  obtain ⟨c, hc⟩ := pk_1 y
  rw [hc] at hx
  have ex : x = (Int64.ofNat c.val).toInt32 := Int32.toInt_inj.mp hx
  have ei : i2 = Int32.ofInt (i : Int) := by rw [← hi, Int32.ofInt_toInt]
  rw [ex, ei, pk_F c ⟨i, by omega⟩] at hw
  dsimp only at hw
  have p := z_pow (n := i)
  have ps := z_powS (a := i)
  have hcc : c.val = 0 ∨ c.val = 1 := by omega
  have hw2 : w.toInt = 0 ∨ w.toInt = (2 : Int) ^ i := by
    rcases hcc with e | e
    · left; rw [hw, e]; simp
    · right; rw [hw, e]; simp
  exact i_orB (by omega) b0 (by omega) (by omega) (by omega)
section
variable {lv : List (Nat × Value)} {Q : Option Value → MH → Prop} {W : List (Nat × Nat)} {ρ : Nat → Nat} {m : Nat} {A : Nat → Nat} {h0 h : MH} {F : Nat → Int} {V : Nat → Nat → Int} {G : Nat → Nat → Int64}
theorem s_ft0 {z : Int} (M : MX 25 W ρ m A h0 h F V G) (e0 : m_lk lv 0 = some (.ref (A 0))) {lx1 : Int32} (e1 : m_lk lv 1 = some (.int lx1)) (lq1 : lx1.toInt = z) 
    (g0 : ∀ x1 : Int32, x1.toInt = 0 → ∀ x3 : Int32, ∀ z3 : Int, x3.toInt = z3 → 1 ≤ z3 → z3 ≤ 4096 → z3 = ((h_k h0 (A 0)).2 : Int) → ∀ lv4 : List (Nat × Value), m_lk lv4 0 = some (.ref (A 0)) → m_lk lv4 1 = some (.int lx1) → m_lk lv4 2 = some (.int x1) → m_lk lv4 3 = some (.int x3) → HJ 48 5 lv4 [] h Q)
    : HJ 48 0 lv [] h Q := by
  refine hM_ic (n := 0) rfl (by decide) rfl (fun x1 q1 => ?_) -- 0
  refine hM_si (k := 2) rfl (by decide +kernel) rfl (fun lv2 e2_2 u2 => ?_) -- 1
  have e2_0 := u2 0 _ (by decide) (Or.inl rfl) e0
  have e2_1 := u2 1 _ (by decide) (Or.inl rfl) e1
  refine hI_al (k := 0) rfl e2_0 rfl ?_ -- 2
  refine hM_al M (by decide) (K := 0) (R2 := 26) (L := 1) (H := 4096) rfl (by decide) rfl rfl (by decide) rfl rfl (fun x3 z3 q3 a3 b3 c3 => ?_) -- 3
  refine hM_si (k := 3) rfl (by decide +kernel) rfl (fun lv4 e4_3 u4 => ?_) -- 4
  have e4_0 := u4 0 _ (by decide) (Or.inl rfl) e2_0
  have e4_1 := u4 1 _ (by decide) (Or.inl rfl) e2_1
  have e4_2 := u4 2 _ (by decide) (Or.inl rfl) e2_2
  exact g0 x1 q1 x3 z3 q3 a3 b3 c3 lv4 e4_0 e4_1 e4_2 e4_3
theorem s_ft5 {z i n T : Int} (M : MX 25 W ρ m A h0 h F V G) (e0 : m_lk lv 0 = some (.ref (A 0))) {lx1 : Int32} (e1 : m_lk lv 1 = some (.int lx1)) (lq1 : lx1.toInt = z) {lx2 : Int32} (e2 : m_lk lv 2 = some (.int lx2)) (lq2 : lx2.toInt = i) {lx3 : Int32} (e3 : m_lk lv 3 = some (.int lx3)) (lq3 : lx3.toInt = n) (i0 : 0 ≤ i) (n1 : n ≤ T) (t1 : T ≤ 4096)(hl0 : ((h_k h0 (A 0)).2 : Int) = T)(hw : d_sub [(26, 1001)] W = true)
    (g0 : i ≥ n → Q none h)
    (g1 : ∀ h1 : MH, ∀ V1 : Nat → Nat → Int, ∀ x2 : Int32, x2.toInt = i + 1 → ∀ lv2 : List (Nat × Value), MX 25 W ρ m A h0 h1 F V1 G → m_lk lv2 0 = some (.ref (A 0)) → m_lk lv2 1 = some (.int lx1) → m_lk lv2 2 = some (.int x2) → m_lk lv2 3 = some (.int lx3) → i < n → HJ 48 5 lv2 [] h1 Q)
    : HJ 48 5 lv [] h Q := by
  refine hI_il (k := 2) rfl e2 rfl ?_ -- 5
  refine hI_il (k := 3) rfl e3 rfl ?_ -- 6
  refine hM_cge (off := 13) (t := 20) rfl lq2 lq3 (by decide) rfl (fun c7 => ?_) (fun c7 => ?_) -- 7
  · refine hI_rv rfl rfl ?_
    exact g0 c7
  · refine hI_al (k := 0) rfl e0 rfl ?_ -- 10
    refine hI_il (k := 2) rfl e2 rfl ?_ -- 11
    refine hI_il (k := 1) rfl e1 rfl ?_ -- 12
    refine hM_isv M (by decide) ok_25 (K := 0) (R2 := 26) (L := 1) (H := 4096) rfl (by decide) rfl rfl rfl (fun _ => rfl) (d_subm hw (by decide +kernel)) hl0 rfl lq2 (by omega) (by omega) rfl (fun h1 V1 M1 => ?_) -- 13
    refine hM_inc (k := 2) (z := 1) rfl e2 lq2 (by decide) (by omega) (by omega) (by decide +kernel) rfl (fun lv2 x2 q2 e2_2 u2 => ?_) -- 14
    have e2_0 := u2 0 _ (by decide) (Or.inl rfl) e0
    have e2_1 := u2 1 _ (by decide) (Or.inl rfl) e1
    have e2_3 := u2 3 _ (by decide) (Or.inl rfl) e3
    refine hI_go (pc' := 5) (off := (-12)) rfl (by decide) ?_ -- 17
    exact g1 h1 V1 x2 q2 lv2 M1 e2_0 e2_1 e2_2 e2_3 c7
theorem s_ch0 (M : MX 25 W ρ m A h0 h F V G) (e0 : m_lk lv 0 = some (.ref m)) {lx1 : Int64} (e1 : m_lk lv 1 = some (.long lx1)) (hw : d_sub [(25, 3)] W = true)
    (g0 : ∀ h2 : MH, ∀ F2 : Nat → Int, F2 = m_u F 3 (0) → ∀ x3 : Int32, x3.toInt = 0 → ∀ lv4 : List (Nat × Value), MX 25 W ρ m A h0 h2 F2 V G → m_lk lv4 0 = some (.ref m) → m_lk lv4 1 = some (.long lx1) → m_lk lv4 3 = some (.int x3) → HJ 158 7 lv4 [] h2 Q)
    : HJ 158 0 lv [] h Q := by
  refine hI_al (k := 0) rfl e0 rfl ?_ -- 0
  refine hM_ic (n := 0) rfl (by decide) rfl (fun x1 q1 => ?_) -- 1
  refine hM_pi M (by decide) ok_25 rfl rfl (k := 3) (c := 5) (lo := 0) (hi := 12) rfl rfl ⟨by decide, by decide +kernel, rfl⟩ rfl (d_subm hw (by decide +kernel)) q1 (by omega) (by omega) rfl (fun h2 F2 f2 M2 => ?_) -- 2
  refine hM_ic (n := 0) rfl (by decide) rfl (fun x3 q3 => ?_) -- 5
  refine hM_si (k := 3) rfl (by decide +kernel) rfl (fun lv4 e4_3 u4 => ?_) -- 6
  have e4_0 := u4 0 _ (by decide) (Or.inl rfl) e0
  have e4_1 := u4 1 _ (by decide) (Or.inr (by decide)) e1
  exact g0 h2 F2 f2 x3 q3 lv4 M2 e4_0 e4_1 e4_3
theorem s_ch7 {v : Int} (M : MX 25 W ρ m A h0 h F V G) (e0 : m_lk lv 0 = some (.ref m)) {lx1 : Int64} (e1 : m_lk lv 1 = some (.long lx1)) {lx3 : Int32} (e3 : m_lk lv 3 = some (.int lx3)) (lq3 : lx3.toInt = v) 
    (g0 : v ≥ 41 → HJ 158 59 lv [] h Q)
    (g1 : v < 41 → 0 ≤ F 3 → F 3 ≤ 12 → F 3 ≥ 12 → HJ 158 59 lv [] h Q)
    (g2 : v < 41 → 0 ≤ F 3 → F 3 ≤ 12 → F 3 < 12 → HJ 52 0 (lv_args 0 [.int lx3]) [] h (fun v h' => HJ 158 27 lv (v.toList ++ [.long lx1]) h' Q))
    : HJ 158 7 lv [] h Q := by
  refine hI_il (k := 3) rfl e3 rfl ?_ -- 7
  refine hM_bp (n := 41) rfl (by decide) rfl (fun x1 q1 => ?_) -- 8
  refine hM_cge (off := 49) (t := 59) rfl lq3 q1 (by decide) rfl (fun c10 => ?_) (fun c10 => ?_) -- 10
  · exact g0 c10
  · refine hI_al (k := 0) rfl e0 rfl ?_ -- 13
    refine hM_gi M (by decide) rfl rfl rfl (k := 3) (c := 5) (lo := 0) (hi := 12) rfl rfl rfl rfl rfl (fun x2 q2 a2 b2 => ?_) -- 14
    refine hM_bp (n := 12) rfl (by decide) rfl (fun x3 q3 => ?_) -- 17
    refine hM_cge (off := 40) (t := 59) rfl q2 q3 (by decide) rfl (fun c19 => ?_) (fun c19 => ?_) -- 19
    · exact g1 c10 a2 b2 c19
    · refine hI_ll (k := 1) rfl e1 rfl ?_ -- 22
      refine hI_il (k := 3) rfl e3 rfl ?_ -- 23
      refine hM_is0 (as := [.int lx3]) (r := [.long lx1]) rfl rfl (by decide +kernel) rfl rfl rfl rfl rfl ?_ -- 24
      exact g2 c10 a2 b2 c19
theorem s_ch27 {v : Int} (M : MX 25 W ρ m A h0 h F V G) (e0 : m_lk lv 0 = some (.ref m)) {lx1 : Int64} (e1 : m_lk lv 1 = some (.long lx1)) {lx3 : Int32} (e3 : m_lk lv 3 = some (.int lx3)) (lq3 : lx3.toInt = v) {sx0 : Int64} {sx1 : Int64} (f0 : 0 ≤ F 3) (f1 : F 3 < 12) (v0 : 0 ≤ v) (v1 : v ≤ 40)(hw : d_sub [(27, 1001), (25, 3)] W = true)
    (g0 : ∀ x2 : Int32, x2.toInt = v + 1 → ∀ lv2 : List (Nat × Value), m_lk lv2 0 = some (.ref m) → m_lk lv2 1 = some (.long lx1) → m_lk lv2 3 = some (.int x2) → (lg_cmp (sx0 &&& sx1) (Int64.ofNat (0 : Fin 2).val)).toInt = 0 → HJ 158 7 lv2 [] h Q)
    (g1 : ∀ h4 : MH, ∀ V4 : Nat → Nat → Int, V4 = m_u V 1 (m_u (V 1) (F 3).toNat (v)) → ∀ h8 : MH, ∀ F8 : Nat → Int, F8 = m_u F 3 ((F 3) + 1) → ∀ x9 : Int32, x9.toInt = v + 1 → ∀ lv9 : List (Nat × Value), MX 25 W ρ m A h0 h8 F8 V4 G → m_lk lv9 0 = some (.ref m) → m_lk lv9 1 = some (.long lx1) → m_lk lv9 3 = some (.int x9) → (lg_cmp (sx0 &&& sx1) (Int64.ofNat (0 : Fin 2).val)).toInt ≠ 0 → 0 ≤ F 3 → F 3 ≤ 12 → HJ 158 7 lv9 [] h8 Q)
    : HJ 158 27 lv [.long sx1, .long sx0] h Q := by
  refine hI_land rfl rfl ?_ -- 27
  refine hI_lc (n := 0) rfl rfl ?_ -- 28
  refine hM_lcmp rfl rfl (fun x1 q1 => ?_) -- 29
  refine hM_zeq (off := 23) (t := 53) rfl q1 (by decide) rfl (fun c30 => ?_) (fun c30 => ?_) -- 30
  · refine hM_inc (k := 3) (z := 1) rfl e3 lq3 (by decide) (by omega) (by omega) (by decide +kernel) rfl (fun lv2 x2 q2 e2_3 u2 => ?_) -- 53
    have e2_0 := u2 0 _ (by decide) (Or.inl rfl) e0
    have e2_1 := u2 1 _ (by decide) (Or.inr (by decide)) e1
    refine hI_go (pc' := 7) (off := (-49)) rfl (by decide) ?_ -- 56
    exact g0 x2 q2 lv2 e2_0 e2_1 e2_3 c30
  · refine hI_al (k := 0) rfl e0 rfl ?_ -- 33
    refine hM_ga M (by decide) rfl rfl (k := 1) (c := 5) rfl rfl rfl (by decide +kernel) rfl ?_ -- 34
    refine hI_al (k := 0) rfl e0 rfl ?_ -- 37
    refine hM_gi M (by decide) rfl rfl rfl (k := 3) (c := 5) (lo := 0) (hi := 12) rfl rfl rfl rfl rfl (fun x3 q3 a3 b3 => ?_) -- 38
    refine hI_il (k := 3) rfl e3 rfl ?_ -- 41
    refine hM_is M (by decide) ok_25 (K := 1) (R2 := 27) (L := 12) (H := 12) (lo := 0) (hi := 40) rfl (by decide) rfl rfl rfl (fun _ => rfl) (d_subm hw (by decide +kernel)) rfl q3 lq3 (by omega) (by omega) (by omega) (by omega) rfl (fun h4 V4 f4 M4 => ?_) -- 42
    refine hI_al (k := 0) rfl e0 rfl ?_ -- 43
    refine hI_dup rfl rfl rfl ?_ -- 44
    refine hM_gi M4 (by decide) rfl rfl rfl (k := 3) (c := 5) (lo := 0) (hi := 12) rfl rfl rfl rfl rfl (fun x5 q5 a5 b5 => ?_) -- 45
    refine hM_ic (n := 1) rfl (by decide) rfl (fun x6 q6 => ?_) -- 48
    refine hM_add rfl q5 q6 (by omega) (by omega) rfl (fun x7 q7 => ?_) -- 49
    refine hM_pi M4 (by decide) ok_25 rfl rfl (k := 3) (c := 5) (lo := 0) (hi := 12) rfl rfl ⟨by decide, by decide +kernel, rfl⟩ rfl (d_subm hw (by decide +kernel)) q7 (by omega) (by omega) rfl (fun h8 F8 f8 M8 => ?_) -- 50
    refine hM_inc (k := 3) (z := 1) rfl e3 lq3 (by decide) (by omega) (by omega) (by decide +kernel) rfl (fun lv9 x9 q9 e9_3 u9 => ?_) -- 53
    have e9_0 := u9 0 _ (by decide) (Or.inl rfl) e0
    have e9_1 := u9 1 _ (by decide) (Or.inr (by decide)) e1
    refine hI_go (pc' := 7) (off := (-49)) rfl (by decide) ?_ -- 56
    exact g1 h4 V4 f4 h8 F8 f8 x9 q9 lv9 M8 e9_0 e9_1 e9_3 c30 a3 b3
theorem s_ch59 (M : MX 25 W ρ m A h0 h F V G) (e0 : m_lk lv 0 = some (.ref m)) 
    (g0 : ∀ z1 : Int, 1 ≤ z1 → z1 ≤ 4096 → z1 = ((h_k h0 (A 0)).2 : Int) → 0 ≤ F 3 → F 3 ≤ 12 → z1 ≥ (2 : Int) ^ (F 3).toNat → HJ 158 85 lv [] h Q)
    (g1 : ∀ z1 : Int, 1 ≤ z1 → z1 ≤ 4096 → z1 = ((h_k h0 (A 0)).2 : Int) → 0 ≤ F 3 → F 3 ≤ 12 → z1 < (2 : Int) ^ (F 3).toNat → HJ 158 73 lv [] h Q)
    : HJ 158 59 lv [] h Q := by
  refine hI_al (k := 0) rfl e0 rfl ?_ -- 59
  refine hM_ga M (by decide) rfl rfl (k := 0) (c := 5) rfl rfl rfl (by decide +kernel) rfl ?_ -- 60
  refine hM_al M (by decide) (K := 0) (R2 := 26) (L := 1) (H := 4096) rfl (by decide) rfl rfl (by decide) rfl rfl (fun x1 z1 q1 a1 b1 c1 => ?_) -- 63
  refine hM_ic (n := 1) rfl (by decide) rfl (fun x2 q2 => ?_) -- 64
  refine hI_al (k := 0) rfl e0 rfl ?_ -- 65
  refine hM_gi M (by decide) rfl rfl rfl (k := 3) (c := 5) (lo := 0) (hi := 12) rfl rfl rfl rfl rfl (fun x3 q3 a3 b3 => ?_) -- 66
  refine hM_shl rfl q2 q3 (by omega) (by omega) rfl (fun x4 q4 => ?_) -- 69
  refine hM_cge (off := 15) (t := 85) rfl q1 q4 (by decide) rfl (fun c70 => ?_) (fun c70 => ?_) -- 70
  · exact g0 z1 a1 b1 c1 a3 b3 c70
  · exact g1 z1 a1 b1 c1 a3 b3 c70
theorem s_ch73 (M : MX 25 W ρ m A h0 h F V G) (e0 : m_lk lv 0 = some (.ref m)) 
    (g0 : ∀ x3 : Int32, x3.toInt = (2 : Int) ^ (F 3).toNat → 0 ≤ F 3 → F 3 ≤ 12 → HJ 158 80 lv [.int x3, .ref m] h Q)
    : HJ 158 73 lv [] h Q := by
  refine hI_al (k := 0) rfl e0 rfl ?_ -- 73
  refine hM_ic (n := 1) rfl (by decide) rfl (fun x1 q1 => ?_) -- 74
  refine hI_al (k := 0) rfl e0 rfl ?_ -- 75
  refine hM_gi M (by decide) rfl rfl rfl (k := 3) (c := 5) (lo := 0) (hi := 12) rfl rfl rfl rfl rfl (fun x2 q2 a2 b2 => ?_) -- 76
  refine hM_shl rfl q1 q2 (by omega) (by omega) rfl (fun x3 q3 => ?_) -- 79
  exact g0 x3 q3 a2 b2
theorem s_ch85 (M : MX 25 W ρ m A h0 h F V G) (e0 : m_lk lv 0 = some (.ref m)) 
    (g0 : ∀ x1 : Int32, x1.toInt = 0 → HJ 48 0 (lv_args 0 [.ref (A 0), .int x1]) [] h (fun v h' => HJ 158 93 lv (v.toList ++ []) h' Q))
    : HJ 158 85 lv [] h Q := by
  refine hI_al (k := 0) rfl e0 rfl ?_ -- 85
  refine hM_ga M (by decide) rfl rfl (k := 0) (c := 5) rfl rfl rfl (by decide +kernel) rfl ?_ -- 86
  refine hM_ic (n := 0) rfl (by decide) rfl (fun x1 q1 => ?_) -- 89
  refine hM_is0 (as := [.ref (A 0), .int x1]) (r := []) rfl rfl (by decide +kernel) rfl rfl rfl rfl rfl ?_ -- 90
  exact g0 x1 q1
theorem s_ch93   
    (g0 : Q none h)
    : HJ 158 93 lv [] h Q := by
  refine hI_rv rfl rfl ?_
  exact g0 
theorem s_pk0 (M : MX 25 W ρ m A h0 h F V G) (e0 : m_lk lv 0 = some (.ref m)) {lx1 : Int64} (e1 : m_lk lv 1 = some (.long lx1)) 
    (g0 : ∀ x1 : Int32, x1.toInt = 0 → ∀ x3 : Int32, x3.toInt = 0 → ∀ lv4 : List (Nat × Value), m_lk lv4 0 = some (.ref m) → m_lk lv4 1 = some (.long lx1) → m_lk lv4 3 = some (.int x1) → m_lk lv4 4 = some (.int x3) → HJ 159 5 lv4 [] h Q)
    : HJ 159 0 lv [] h Q := by
  refine hM_ic (n := 0) rfl (by decide) rfl (fun x1 q1 => ?_) -- 0
  refine hM_si (k := 3) rfl (by decide +kernel) rfl (fun lv2 e2_3 u2 => ?_) -- 1
  have e2_0 := u2 0 _ (by decide) (Or.inl rfl) e0
  have e2_1 := u2 1 _ (by decide) (Or.inr (by decide)) e1
  refine hM_ic (n := 0) rfl (by decide) rfl (fun x3 q3 => ?_) -- 2
  refine hM_si2 (k := 4) rfl (by decide +kernel) rfl (fun lv4 e4_4 u4 => ?_) -- 3
  have e4_0 := u4 0 _ (by decide) (Or.inl rfl) e2_0
  have e4_1 := u4 1 _ (by decide) (Or.inr (by decide)) e2_1
  have e4_3 := u4 3 _ (by decide) (Or.inl rfl) e2_3
  exact g0 x1 q1 x3 q3 lv4 e4_0 e4_1 e4_3 e4_4
theorem s_pk5 {b i : Int} (M : MX 25 W ρ m A h0 h F V G) (e0 : m_lk lv 0 = some (.ref m)) {lx1 : Int64} (e1 : m_lk lv 1 = some (.long lx1)) {lx3 : Int32} (e3 : m_lk lv 3 = some (.int lx3)) (lq3 : lx3.toInt = b) {lx4 : Int32} (e4 : m_lk lv 4 = some (.int lx4)) (lq4 : lx4.toInt = i) (i0 : 0 ≤ i) (i1 : i ≤ 12)
    (g0 : 0 ≤ F 3 → F 3 ≤ 12 → i ≥ F 3 → Q (some (.int lx3)) h)
    (g1 : ∀ x3 : Int32, x3.toInt = (((lu_sh lx1 (V 1 (i).toNat)) &&& (Int64.ofNat (1 : Fin 2).val)).toInt32).toInt → ∀ x4 : Int32, x4.toInt = (x3 <<< (lx4 &&& 31)).toInt → ∀ x5 : Int32, x5.toInt = (lx3 ||| x4).toInt → ∀ x7 : Int32, x7.toInt = i + 1 → ∀ lv7 : List (Nat × Value), m_lk lv7 0 = some (.ref m) → m_lk lv7 1 = some (.long lx1) → m_lk lv7 3 = some (.int x5) → m_lk lv7 4 = some (.int x7) → 0 ≤ F 3 → F 3 ≤ 12 → i < F 3 → 0 ≤ V 1 (i).toNat → V 1 (i).toNat ≤ 40 → HJ 159 5 lv7 [] h Q)
    : HJ 159 5 lv [] h Q := by
  refine hI_il2 (k := 4) rfl e4 rfl ?_ -- 5
  refine hI_al (k := 0) rfl e0 rfl ?_ -- 7
  refine hM_gi M (by decide) rfl rfl rfl (k := 3) (c := 5) (lo := 0) (hi := 12) rfl rfl rfl rfl rfl (fun x1 q1 a1 b1 => ?_) -- 8
  refine hM_cge (off := 27) (t := 38) rfl lq4 q1 (by decide) rfl (fun c11 => ?_) (fun c11 => ?_) -- 11
  · refine hI_il (k := 3) rfl e3 rfl ?_ -- 38
    refine hI_ri rfl rfl ?_ -- 39
    exact g0 a1 b1 c11
  · refine hI_il (k := 3) rfl e3 rfl ?_ -- 14
    refine hI_ll (k := 1) rfl e1 rfl ?_ -- 15
    refine hI_al (k := 0) rfl e0 rfl ?_ -- 16
    refine hM_ga M (by decide) rfl rfl (k := 1) (c := 5) rfl rfl rfl (by decide +kernel) rfl ?_ -- 17
    refine hI_il2 (k := 4) rfl e4 rfl ?_ -- 20
    refine hM_ia M (by decide) (K := 1) (R2 := 27) (L := 12) (H := 12) (lo := 0) (hi := 40) rfl (by decide) rfl rfl (fun _ => rfl) rfl lq4 (by omega) (by omega) rfl (fun x2 q2 a2 b2 => ?_) -- 22
    refine hM_lushr rfl q2 rfl ?_ -- 23
    refine hI_lc (n := 1) rfl rfl ?_ -- 24
    refine hI_land rfl rfl ?_ -- 25
    refine hM_l2i rfl rfl (fun x3 q3 => ?_) -- 26
    refine hI_il2 (k := 4) rfl e4 rfl ?_ -- 27
    refine hM_ishlx rfl rfl (fun x4 q4 => ?_) -- 29
    refine hM_iorx rfl rfl (fun x5 q5 => ?_) -- 30
    refine hM_si (k := 3) rfl (by decide +kernel) rfl (fun lv6 e6_3 u6 => ?_) -- 31
    have e6_0 := u6 0 _ (by decide) (Or.inl rfl) e0
    have e6_1 := u6 1 _ (by decide) (Or.inr (by decide)) e1
    have e6_4 := u6 4 _ (by decide) (Or.inl rfl) e4
    refine hM_inc (k := 4) (z := 1) rfl e6_4 lq4 (by decide) (by omega) (by omega) (by decide +kernel) rfl (fun lv7 x7 q7 e7_4 u7 => ?_) -- 32
    have e7_0 := u7 0 _ (by decide) (Or.inl rfl) e6_0
    have e7_1 := u7 1 _ (by decide) (Or.inr (by decide)) e6_1
    have e7_3 := u7 3 _ (by decide) (Or.inl rfl) e6_3
    refine hI_go (pc' := 5) (off := (-30)) rfl (by decide) ?_ -- 35
    exact g1 x3 q3 x4 q4 x5 q5 x7 q7 lv7 e7_0 e7_1 e7_3 e7_4 a1 b1 c11 a2 b2
theorem s_sb0 (M : MX 25 W ρ m A h0 h F V G) (e0 : m_lk lv 0 = some (.ref m)) 
    (g0 : ∀ x1 : Int32, x1.toInt = 0 → ∀ lv2 : List (Nat × Value), m_lk lv2 0 = some (.ref m) → m_lk lv2 1 = some (.int x1) → HJ 160 2 lv2 [] h Q)
    : HJ 160 0 lv [] h Q := by
  refine hM_ic (n := 0) rfl (by decide) rfl (fun x1 q1 => ?_) -- 0
  refine hM_si (k := 1) rfl (by decide +kernel) rfl (fun lv2 e2_1 u2 => ?_) -- 1
  have e2_0 := u2 0 _ (by decide) (Or.inl rfl) e0
  exact g0 x1 q1 lv2 e2_0 e2_1
theorem s_sb2 {i : Int} (M : MX 25 W ρ m A h0 h F V G) (e0 : m_lk lv 0 = some (.ref m)) {lx1 : Int32} (e1 : m_lk lv 1 = some (.int lx1)) (lq1 : lx1.toInt = i) 
    (g0 : 0 ≤ F 3 → F 3 ≤ 12 → i ≥ F 3 → Q none h)
    (g1 : ∀ x2 : Int32, x2.toInt = 0 → ∀ lv3 : List (Nat × Value), m_lk lv3 0 = some (.ref m) → m_lk lv3 1 = some (.int lx1) → m_lk lv3 2 = some (.int x2) → 0 ≤ F 3 → F 3 ≤ 12 → i < F 3 → HJ 160 12 lv3 [] h Q)
    : HJ 160 2 lv [] h Q := by
  refine hI_il (k := 1) rfl e1 rfl ?_ -- 2
  refine hI_al (k := 0) rfl e0 rfl ?_ -- 3
  refine hM_gi M (by decide) rfl rfl rfl (k := 3) (c := 5) (lo := 0) (hi := 12) rfl rfl rfl rfl rfl (fun x1 q1 a1 b1 => ?_) -- 4
  refine hM_cge (off := 54) (t := 61) rfl lq1 q1 (by decide) rfl (fun c7 => ?_) (fun c7 => ?_) -- 7
  · refine hI_rv rfl rfl ?_
    exact g0 a1 b1 c7
  · refine hM_ic (n := 0) rfl (by decide) rfl (fun x2 q2 => ?_) -- 10
    refine hM_si (k := 2) rfl (by decide +kernel) rfl (fun lv3 e3_2 u3 => ?_) -- 11
    have e3_0 := u3 0 _ (by decide) (Or.inl rfl) e0
    have e3_1 := u3 1 _ (by decide) (Or.inl rfl) e1
    exact g1 x2 q2 lv3 e3_0 e3_1 e3_2 a1 b1 c7
theorem s_sb12 {i j T : Int} (M : MX 25 W ρ m A h0 h F V G) (e0 : m_lk lv 0 = some (.ref m)) {lx1 : Int32} (e1 : m_lk lv 1 = some (.int lx1)) (lq1 : lx1.toInt = i) {lx2 : Int32} (e2 : m_lk lv 2 = some (.int lx2)) (lq2 : lx2.toInt = j) (i0 : 0 ≤ i) (i1 : i < F 3) (j0 : 0 ≤ j) (j1 : j ≤ 4096) (f12 : F 3 ≤ 12) (tl : (2 : Int) ^ (F 3).toNat ≤ T)(hl0 : ((h_k h0 (A 0)).2 : Int) = T)(hw : d_sub [(26, 1001)] W = true)
    (g0 : ∀ x4 : Int32, x4.toInt = i + 1 → ∀ lv4 : List (Nat × Value), m_lk lv4 0 = some (.ref m) → m_lk lv4 1 = some (.int x4) → m_lk lv4 2 = some (.int lx2) → 0 ≤ F 3 → F 3 ≤ 12 → j ≥ (2 : Int) ^ (F 3).toNat → HJ 160 2 lv4 [] h Q)
    (g1 : ∀ z5 : Int, -2147483648 ≤ z5 → z5 ≤ 2147483647 → ∀ z7 : Int, -2147483648 ≤ z7 → z7 ≤ 2147483647 → ∀ x8 : Int32, x8.toInt = j + 1 → ∀ lv8 : List (Nat × Value), m_lk lv8 0 = some (.ref m) → m_lk lv8 1 = some (.int lx1) → m_lk lv8 2 = some (.int x8) → 0 ≤ F 3 → F 3 ≤ 12 → j < (2 : Int) ^ (F 3).toNat → z7 = 0 → HJ 160 12 lv8 [] h Q)
    (g2 : ∀ z5 : Int, -2147483648 ≤ z5 → z5 ≤ 2147483647 → ∀ z7 : Int, -2147483648 ≤ z7 → z7 ≤ 2147483647 → ∀ z9 : Int, -2147483648 ≤ z9 → z9 ≤ 2147483647 → ∀ z13 : Int, -2147483648 ≤ z13 → z13 ≤ 2147483647 → ∀ z14 : Int, -2147483648 ≤ z14 → z14 ≤ 2147483647 → ∀ h15 : MH, ∀ V15 : Nat → Nat → Int, ∀ x16 : Int32, x16.toInt = j + 1 → ∀ lv16 : List (Nat × Value), MX 25 W ρ m A h0 h15 F V15 G → m_lk lv16 0 = some (.ref m) → m_lk lv16 1 = some (.int lx1) → m_lk lv16 2 = some (.int x16) → 0 ≤ F 3 → F 3 ≤ 12 → j < (2 : Int) ^ (F 3).toNat → z7 ≠ 0 → HJ 160 12 lv16 [] h15 Q)
    : HJ 160 12 lv [] h Q := by
  refine hI_il (k := 2) rfl e2 rfl ?_ -- 12
  refine hM_ic (n := 1) rfl (by decide) rfl (fun x1 q1 => ?_) -- 13
  refine hI_al (k := 0) rfl e0 rfl ?_ -- 14
  refine hM_gi M (by decide) rfl rfl rfl (k := 3) (c := 5) (lo := 0) (hi := 12) rfl rfl rfl rfl rfl (fun x2 q2 a2 b2 => ?_) -- 15
  refine hM_shl rfl q1 q2 (by omega) (by omega) rfl (fun x3 q3 => ?_) -- 18
  refine hM_cge (off := 36) (t := 55) rfl lq2 q3 (by decide) rfl (fun c19 => ?_) (fun c19 => ?_) -- 19
  · refine hM_inc (k := 1) (z := 1) rfl e1 lq1 (by decide) (by omega) (by omega) (by decide +kernel) rfl (fun lv4 x4 q4 e4_1 u4 => ?_) -- 55
    have e4_0 := u4 0 _ (by decide) (Or.inl rfl) e0
    have e4_2 := u4 2 _ (by decide) (Or.inl rfl) e2
    refine hI_go (pc' := 2) (off := (-56)) rfl (by decide) ?_ -- 58
    exact g0 x4 q4 lv4 e4_0 e4_1 e4_2 a2 b2 c19
  · refine hI_il (k := 2) rfl e2 rfl ?_ -- 22
    refine hI_il (k := 1) rfl e1 rfl ?_ -- 23
    refine hM_iushr rfl rfl (fun x5 z5 q5 a5 b5 => ?_) -- 24
    refine hM_ic (n := 1) rfl (by decide) rfl (fun x6 q6 => ?_) -- 25
    refine hM_iand rfl rfl (fun x7 z7 q7 a7 b7 => ?_) -- 26
    refine hM_zeq (off := 22) (t := 49) rfl q7 (by decide) rfl (fun c27 => ?_) (fun c27 => ?_) -- 27
    · refine hM_inc (k := 2) (z := 1) rfl e2 lq2 (by decide) (by omega) (by omega) (by decide +kernel) rfl (fun lv8 x8 q8 e8_2 u8 => ?_) -- 49
      have e8_0 := u8 0 _ (by decide) (Or.inl rfl) e0
      have e8_1 := u8 1 _ (by decide) (Or.inl rfl) e1
      refine hI_go (pc' := 12) (off := (-40)) rfl (by decide) ?_ -- 52
      exact g1 z5 a5 b5 z7 a7 b7 x8 q8 lv8 e8_0 e8_1 e8_2 a2 b2 c19 c27
    · refine hI_al (k := 0) rfl e0 rfl ?_ -- 30
      refine hM_ga M (by decide) rfl rfl (k := 0) (c := 5) rfl rfl rfl (by decide +kernel) rfl ?_ -- 31
      refine hI_il (k := 2) rfl e2 rfl ?_ -- 34
      refine hI_dup2 rfl rfl rfl rfl ?_ -- 35
      refine hM_iav M (by decide) (K := 0) (R2 := 26) (L := 1) (H := 4096) rfl (by decide) rfl rfl hl0 rfl lq2 (by omega) (by omega) rfl (fun x9 z9 q9 a9 b9 => ?_) -- 36
      refine hI_al (k := 0) rfl e0 rfl ?_ -- 37
      refine hM_ga M (by decide) rfl rfl (k := 0) (c := 5) rfl rfl rfl (by decide +kernel) rfl ?_ -- 38
      refine hI_il (k := 2) rfl e2 rfl ?_ -- 41
      refine hM_ic (n := 1) rfl (by decide) rfl (fun x10 q10 => ?_) -- 42
      refine hI_il (k := 1) rfl e1 rfl ?_ -- 43
      refine hM_shl rfl q10 lq1 (by omega) (by omega) rfl (fun x11 q11 => ?_) -- 44
      refine hM_ixorx rfl rfl (fun x12 q12 => ?_) -- 45
      have ⟨u0, u1⟩ := sb_x lq2 j0 c19 q11 i0 i1 f12
      refine hM_iav M (by decide) (K := 0) (R2 := 26) (L := 1) (H := 4096) rfl (by decide) rfl rfl hl0 rfl q12 (by omega) (by omega) rfl (fun x13 z13 q13 a13 b13 => ?_) -- 46
      refine hM_addw rfl rfl (fun x14 z14 q14 a14 b14 => ?_) -- 47
      refine hM_isv M (by decide) ok_25 (K := 0) (R2 := 26) (L := 1) (H := 4096) rfl (by decide) rfl rfl rfl (fun _ => rfl) (d_subm hw (by decide +kernel)) hl0 rfl lq2 (by omega) (by omega) rfl (fun h15 V15 M15 => ?_) -- 48
      refine hM_inc (k := 2) (z := 1) rfl e2 lq2 (by decide) (by omega) (by omega) (by decide +kernel) rfl (fun lv16 x16 q16 e16_2 u16 => ?_) -- 49
      have e16_0 := u16 0 _ (by decide) (Or.inl rfl) e0
      have e16_1 := u16 1 _ (by decide) (Or.inl rfl) e1
      refine hI_go (pc' := 12) (off := (-40)) rfl (by decide) ?_ -- 52
      exact g2 z5 a5 b5 z7 a7 b7 z9 a9 b9 z13 a13 b13 z14 a14 b14 h15 V15 x16 q16 lv16 M15 e16_0 e16_1 e16_2 a2 b2 c19 c27
theorem s_up0 {b : Int} (M : MX 25 W ρ m A h0 h F V G) (e0 : m_lk lv 0 = some (.ref m)) {lx1 : Int32} (e1 : m_lk lv 1 = some (.int lx1)) (lq1 : lx1.toInt = b) 
    (g0 : ∀ x2 : Int32, x2.toInt = 0 → ∀ lv3 : List (Nat × Value), m_lk lv3 0 = some (.ref m) → m_lk lv3 1 = some (.int lx1) → m_lk lv3 2 = some (.long (Int64.ofNat (0 : Fin 2).val)) → m_lk lv3 4 = some (.int x2) → HJ 161 5 lv3 [] h Q)
    : HJ 161 0 lv [] h Q := by
  refine hI_lc (n := 0) rfl rfl ?_ -- 0
  refine hM_sl (k := 2) rfl (by decide +kernel) rfl (fun lv1 e1_2 u1 => ?_) -- 1
  have e1_0 := u1 0 _ (by decide) (by decide) (Or.inl rfl) e0
  have e1_1 := u1 1 _ (by decide) (by decide) (Or.inl rfl) e1
  refine hM_ic (n := 0) rfl (by decide) rfl (fun x2 q2 => ?_) -- 2
  refine hM_si2 (k := 4) rfl (by decide +kernel) rfl (fun lv3 e3_4 u3 => ?_) -- 3
  have e3_0 := u3 0 _ (by decide) (Or.inl rfl) e1_0
  have e3_1 := u3 1 _ (by decide) (Or.inl rfl) e1_1
  have e3_2 := u3 2 _ (by decide) (Or.inr (by decide)) e1_2
  exact g0 x2 q2 lv3 e3_0 e3_1 e3_2 e3_4
theorem s_up5 {b i : Int} (M : MX 25 W ρ m A h0 h F V G) (e0 : m_lk lv 0 = some (.ref m)) {lx1 : Int32} (e1 : m_lk lv 1 = some (.int lx1)) (lq1 : lx1.toInt = b) {lx2 : Int64} (e2 : m_lk lv 2 = some (.long lx2)) {lx4 : Int32} (e4 : m_lk lv 4 = some (.int lx4)) (lq4 : lx4.toInt = i) (i0 : 0 ≤ i) (i1 : i ≤ 12)
    (g0 : 0 ≤ F 3 → F 3 ≤ 12 → i ≥ F 3 → Q (some (.long lx2)) h)
    (g1 : ∀ z2 : Int, -2147483648 ≤ z2 → z2 ≤ 2147483647 → ∀ z4 : Int, -2147483648 ≤ z4 → z4 ≤ 2147483647 → ∀ x5 : Int32, x5.toInt = i + 1 → ∀ lv5 : List (Nat × Value), m_lk lv5 0 = some (.ref m) → m_lk lv5 1 = some (.int lx1) → m_lk lv5 2 = some (.long lx2) → m_lk lv5 4 = some (.int x5) → 0 ≤ F 3 → F 3 ≤ 12 → i < F 3 → z4 = 0 → HJ 161 5 lv5 [] h Q)
    (g2 : ∀ z2 : Int, -2147483648 ≤ z2 → z2 ≤ 2147483647 → ∀ z4 : Int, -2147483648 ≤ z4 → z4 ≤ 2147483647 → ∀ x6 : Int32, x6.toInt = V 1 (i).toNat → 0 ≤ F 3 → F 3 ≤ 12 → i < F 3 → z4 ≠ 0 → 0 ≤ V 1 (i).toNat → V 1 (i).toNat ≤ 40 → HJ 52 0 (lv_args 0 [.int x6]) [] h (fun v h' => HJ 161 34 lv (v.toList ++ [.long lx2]) h' Q))
    : HJ 161 5 lv [] h Q := by
  refine hI_il2 (k := 4) rfl e4 rfl ?_ -- 5
  refine hI_al (k := 0) rfl e0 rfl ?_ -- 7
  refine hM_gi M (by decide) rfl rfl rfl (k := 3) (c := 5) (lo := 0) (hi := 12) rfl rfl rfl rfl rfl (fun x1 q1 a1 b1 => ?_) -- 8
  refine hM_cge (off := 31) (t := 42) rfl lq4 q1 (by decide) rfl (fun c11 => ?_) (fun c11 => ?_) -- 11
  · refine hI_ll (k := 2) rfl e2 rfl ?_ -- 42
    refine hI_rl rfl rfl ?_
    exact g0 a1 b1 c11
  · refine hI_il (k := 1) rfl e1 rfl ?_ -- 14
    refine hI_il2 (k := 4) rfl e4 rfl ?_ -- 15
    refine hM_iushr rfl rfl (fun x2 z2 q2 a2 b2 => ?_) -- 17
    refine hM_ic (n := 1) rfl (by decide) rfl (fun x3 q3 => ?_) -- 18
    refine hM_iand rfl rfl (fun x4 z4 q4 a4 b4 => ?_) -- 19
    refine hM_zeq (off := 16) (t := 36) rfl q4 (by decide) rfl (fun c20 => ?_) (fun c20 => ?_) -- 20
    · refine hM_inc (k := 4) (z := 1) rfl e4 lq4 (by decide) (by omega) (by omega) (by decide +kernel) rfl (fun lv5 x5 q5 e5_4 u5 => ?_) -- 36
      have e5_0 := u5 0 _ (by decide) (Or.inl rfl) e0
      have e5_1 := u5 1 _ (by decide) (Or.inl rfl) e1
      have e5_2 := u5 2 _ (by decide) (Or.inr (by decide)) e2
      refine hI_go (pc' := 5) (off := (-34)) rfl (by decide) ?_ -- 39
      exact g1 z2 a2 b2 z4 a4 b4 x5 q5 lv5 e5_0 e5_1 e5_2 e5_4 a1 b1 c11 c20
    · refine hI_ll (k := 2) rfl e2 rfl ?_ -- 23
      refine hI_al (k := 0) rfl e0 rfl ?_ -- 24
      refine hM_ga M (by decide) rfl rfl (k := 1) (c := 5) rfl rfl rfl (by decide +kernel) rfl ?_ -- 25
      refine hI_il2 (k := 4) rfl e4 rfl ?_ -- 28
      refine hM_ia M (by decide) (K := 1) (R2 := 27) (L := 12) (H := 12) (lo := 0) (hi := 40) rfl (by decide) rfl rfl (fun _ => rfl) rfl lq4 (by omega) (by omega) rfl (fun x6 q6 a6 b6 => ?_) -- 30
      refine hM_is0 (as := [.int x6]) (r := [.long lx2]) rfl rfl (by decide +kernel) rfl rfl rfl rfl rfl ?_ -- 31
      exact g2 z2 a2 b2 z4 a4 b4 x6 q6 a1 b1 c11 c20 a6 b6
theorem s_up34 {b i : Int} (M : MX 25 W ρ m A h0 h F V G) (e0 : m_lk lv 0 = some (.ref m)) {lx1 : Int32} (e1 : m_lk lv 1 = some (.int lx1)) (lq1 : lx1.toInt = b) {lx4 : Int32} (e4 : m_lk lv 4 = some (.int lx4)) (lq4 : lx4.toInt = i) {sx0 : Int64} {sx1 : Int64} (i0 : 0 ≤ i) (i1 : i ≤ 12)
    (g0 : ∀ x2 : Int32, x2.toInt = i + 1 → ∀ lv2 : List (Nat × Value), m_lk lv2 0 = some (.ref m) → m_lk lv2 1 = some (.int lx1) → m_lk lv2 2 = some (.long (sx0 ||| sx1)) → m_lk lv2 4 = some (.int x2) → HJ 161 5 lv2 [] h Q)
    : HJ 161 34 lv [.long sx1, .long sx0] h Q := by
  refine hI_lor rfl rfl ?_ -- 34
  refine hM_sl (k := 2) rfl (by decide +kernel) rfl (fun lv1 e1_2 u1 => ?_) -- 35
  have e1_0 := u1 0 _ (by decide) (by decide) (Or.inl rfl) e0
  have e1_1 := u1 1 _ (by decide) (by decide) (Or.inl rfl) e1
  have e1_4 := u1 4 _ (by decide) (by decide) (Or.inl rfl) e4
  refine hM_inc (k := 4) (z := 1) rfl e1_4 lq4 (by decide) (by omega) (by omega) (by decide +kernel) rfl (fun lv2 x2 q2 e2_4 u2 => ?_) -- 36
  have e2_0 := u2 0 _ (by decide) (Or.inl rfl) e1_0
  have e2_1 := u2 1 _ (by decide) (Or.inl rfl) e1_1
  have e2_2 := u2 2 _ (by decide) (Or.inr (by decide)) e1_2
  refine hI_go (pc' := 5) (off := (-34)) rfl (by decide) ?_ -- 39
  exact g0 x2 q2 lv2 e2_0 e2_1 e2_2 e2_4
theorem s_ib {y : Int}  {lx0 : Int32} (e0 : m_lk lv 0 = some (.int lx0)) (lq0 : lx0.toInt = y) 
    (g0 : ∀ z2 : Int, -2147483648 ≤ z2 → z2 ≤ 2147483647 → ∀ z3 : Int, -2147483648 ≤ z3 → z3 ≤ 2147483647 → ∀ z4 : Int, -2147483648 ≤ z4 → z4 ≤ 2147483647 → ∀ z5 : Int, -2147483648 ≤ z5 → z5 ≤ 2147483647 → ∀ z7 : Int, -2147483648 ≤ z7 → z7 ≤ 2147483647 → ∀ z8 : Int, -2147483648 ≤ z8 → z8 ≤ 2147483647 → ∀ z10 : Int, -2147483648 ≤ z10 → z10 ≤ 2147483647 → ∀ z11 : Int, -2147483648 ≤ z11 → z11 ≤ 2147483647 → ∀ z12 : Int, -2147483648 ≤ z12 → z12 ≤ 2147483647 → ∀ z13 : Int, -2147483648 ≤ z13 → z13 ≤ 2147483647 → ∀ z16 : Int, -2147483648 ≤ z16 → z16 ≤ 2147483647 → ∀ z17 : Int, -2147483648 ≤ z17 → z17 ≤ 2147483647 → ∀ z18 : Int, -2147483648 ≤ z18 → z18 ≤ 2147483647 → ∀ z19 : Int, -2147483648 ≤ z19 → z19 ≤ 2147483647 → ∀ z22 : Int, -2147483648 ≤ z22 → z22 ≤ 2147483647 → ∀ z23 : Int, -2147483648 ≤ z23 → z23 ≤ 2147483647 → ∀ z26 : Int, -2147483648 ≤ z26 → z26 ≤ 2147483647 → ∀ z27 : Int, -2147483648 ≤ z27 → z27 ≤ 2147483647 → ∀ x30 : Int32, ∀ z30 : Int, x30.toInt = z30 → -2147483648 ≤ z30 → z30 ≤ 2147483647 → ∀ lv28 : List (Nat × Value), Q (some (.int x30)) h)
    : HJ 82 0 lv [] h Q := by
  refine hI_il (k := 0) rfl e0 rfl ?_ -- 0
  refine hI_il (k := 0) rfl e0 rfl ?_ -- 1
  refine hM_ic (n := 1) rfl (by decide) rfl (fun x1 q1 => ?_) -- 2
  refine hM_iushr rfl rfl (fun x2 z2 q2 a2 b2 => ?_) -- 3
  refine hM_lw (w := 3) rfl rfl rfl (fun x3 z3 q3 a3 b3 => ?_) -- 4
  refine hM_iand rfl rfl (fun x4 z4 q4 a4 b4 => ?_) -- 7
  refine hM_subw rfl rfl (fun x5 z5 q5 a5 b5 => ?_) -- 8
  refine hM_si (k := 0) rfl (by decide +kernel) rfl (fun lv6 e6_0 u6 => ?_) -- 9
  refine hI_il (k := 0) rfl e6_0 rfl ?_ -- 10
  refine hM_lw (w := 3) rfl rfl rfl (fun x7 z7 q7 a7 b7 => ?_) -- 11
  refine hM_iand rfl rfl (fun x8 z8 q8 a8 b8 => ?_) -- 14
  refine hI_il (k := 0) rfl e6_0 rfl ?_ -- 15
  refine hM_ic (n := 2) rfl (by decide) rfl (fun x9 q9 => ?_) -- 16
  refine hM_iushr rfl rfl (fun x10 z10 q10 a10 b10 => ?_) -- 17
  refine hM_lw (w := 3) rfl rfl rfl (fun x11 z11 q11 a11 b11 => ?_) -- 18
  refine hM_iand rfl rfl (fun x12 z12 q12 a12 b12 => ?_) -- 21
  refine hM_addw rfl rfl (fun x13 z13 q13 a13 b13 => ?_) -- 22
  refine hM_si (k := 0) rfl (by decide +kernel) rfl (fun lv14 e14_0 u14 => ?_) -- 23
  refine hI_il (k := 0) rfl e14_0 rfl ?_ -- 24
  refine hI_il (k := 0) rfl e14_0 rfl ?_ -- 25
  refine hM_ic (n := 4) rfl (by decide) rfl (fun x15 q15 => ?_) -- 26
  refine hM_iushr rfl rfl (fun x16 z16 q16 a16 b16 => ?_) -- 27
  refine hM_addw rfl rfl (fun x17 z17 q17 a17 b17 => ?_) -- 28
  refine hM_lw (w := 3) rfl rfl rfl (fun x18 z18 q18 a18 b18 => ?_) -- 29
  refine hM_iand rfl rfl (fun x19 z19 q19 a19 b19 => ?_) -- 32
  refine hM_si (k := 0) rfl (by decide +kernel) rfl (fun lv20 e20_0 u20 => ?_) -- 33
  refine hI_il (k := 0) rfl e20_0 rfl ?_ -- 34
  refine hI_il (k := 0) rfl e20_0 rfl ?_ -- 35
  refine hM_bp (n := 8) rfl (by decide) rfl (fun x21 q21 => ?_) -- 36
  refine hM_iushr rfl rfl (fun x22 z22 q22 a22 b22 => ?_) -- 38
  refine hM_addw rfl rfl (fun x23 z23 q23 a23 b23 => ?_) -- 39
  refine hM_si (k := 0) rfl (by decide +kernel) rfl (fun lv24 e24_0 u24 => ?_) -- 40
  refine hI_il (k := 0) rfl e24_0 rfl ?_ -- 41
  refine hI_il (k := 0) rfl e24_0 rfl ?_ -- 42
  refine hM_bp (n := 16) rfl (by decide) rfl (fun x25 q25 => ?_) -- 43
  refine hM_iushr rfl rfl (fun x26 z26 q26 a26 b26 => ?_) -- 45
  refine hM_addw rfl rfl (fun x27 z27 q27 a27 b27 => ?_) -- 46
  refine hM_si (k := 0) rfl (by decide +kernel) rfl (fun lv28 e28_0 u28 => ?_) -- 47
  refine hI_il (k := 0) rfl e28_0 rfl ?_ -- 48
  refine hM_bp (n := 63) rfl (by decide) rfl (fun x29 q29 => ?_) -- 49
  refine hM_iand rfl rfl (fun x30 z30 q30 a30 b30 => ?_) -- 51
  refine hI_ri rfl rfl ?_ -- 52
  exact g0 z2 a2 b2 z3 a3 b3 z4 a4 b4 z5 a5 b5 z7 a7 b7 z8 a8 b8 z10 a10 b10 z11 a11 b11 z12 a12 b12 z13 a13 b13 z16 a16 b16 z17 a17 b17 z18 a18 b18 z19 a19 b19 z22 a22 b22 z23 a23 b23 z26 a26 b26 z27 a27 b27 x30 z30 q30 a30 b30 lv28
theorem s_fk0 (M : MX 25 W ρ m A h0 h F V G) (e0 : m_lk lv 0 = some (.ref m)) {nd : Nat} (e1 : m_lk lv 1 = some (.ref nd)) (hnd : ρ nd = 39) {lx2 : Int64} (e2 : m_lk lv 2 = some (.long lx2)) 
    (g0 : HJ 158 0 (lv_args 0 [.ref m, .long lx2]) [] h (fun v h' => HJ 157 5 lv (v.toList ++ []) h' Q))
    : HJ 157 0 lv [] h Q := by
  refine hI_al (k := 0) rfl e0 rfl ?_ -- 0
  refine hI_ll (k := 2) rfl e2 rfl ?_ -- 1
  refine hM_iv M (by decide) rfl rfl (by decide) (as := [.long lx2]) (r := []) rfl rfl (by decide +kernel) rfl (by decide +kernel) rfl rfl rfl rfl rfl ?_ -- 2
  exact g0 
theorem s_fk5 (M : MX 25 W ρ m A h0 h F V G) (e0 : m_lk lv 0 = some (.ref m)) {nd : Nat} (e1 : m_lk lv 1 = some (.ref nd)) (hnd : ρ nd = 39) {lx2 : Int64} (e2 : m_lk lv 2 = some (.long lx2)) 
    (g0 : ∀ x1 : Int32, x1.toInt = 0 → ∀ lv2 : List (Nat × Value), m_lk lv2 0 = some (.ref m) → m_lk lv2 1 = some (.ref nd) → m_lk lv2 2 = some (.long lx2) → m_lk lv2 4 = some (.int x1) → HJ 157 8 lv2 [] h Q)
    : HJ 157 5 lv [] h Q := by
  refine hM_ic (n := 0) rfl (by decide) rfl (fun x1 q1 => ?_) -- 5
  refine hM_si2 (k := 4) rfl (by decide +kernel) rfl (fun lv2 e2_4 u2 => ?_) -- 6
  have e2_0 := u2 0 _ (by decide) (Or.inl rfl) e0
  have e2_1 := u2 1 _ (by decide) (Or.inl rfl) e1
  have e2_2 := u2 2 _ (by decide) (Or.inr (by decide)) e2
  exact g0 x1 q1 lv2 e2_0 e2_1 e2_2 e2_4
theorem s_fk8 {i : Int} (M : MX 25 W ρ m A h0 h F V G) (e0 : m_lk lv 0 = some (.ref m)) {nd : Nat} (e1 : m_lk lv 1 = some (.ref nd)) (hnd : ρ nd = 39) {lx2 : Int64} (e2 : m_lk lv 2 = some (.long lx2)) {lx4 : Int32} (e4 : m_lk lv 4 = some (.int lx4)) (lq4 : lx4.toInt = i) 
    (g0 : ∀ z1 : Int, 0 ≤ z1 → z1 ≤ 15120 → i ≥ z1 → HJ 157 51 lv [] h Q)
    (g1 : ∀ z1 : Int, 0 ≤ z1 → z1 ≤ 15120 → i < z1 → HJ 99 0 (lv_args 0 [.ref nd, .int lx4]) [] h (fun v h' => HJ 157 24 lv (v.toList ++ [.ref m]) h' Q))
    : HJ 157 8 lv [] h Q := by
  refine hI_il2 (k := 4) rfl e4 rfl ?_ -- 8
  refine hI_al (k := 1) rfl e1 rfl ?_ -- 10
  refine hM_gn (W := W) M.1.1 hnd (by decide) rfl rfl rfl (k := 5) (c := 2) (lo := 0) (hi := 15120) rfl rfl rfl rfl rfl (fun x1 z1 q1 a1 b1 => ?_) -- 11
  refine hM_cge (off := 37) (t := 51) rfl lq4 q1 (by decide) rfl (fun c14 => ?_) (fun c14 => ?_) -- 14
  · exact g0 z1 a1 b1 c14
  · refine hI_al (k := 0) rfl e0 rfl ?_ -- 17
    refine hI_al (k := 1) rfl e1 rfl ?_ -- 18
    refine hI_il2 (k := 4) rfl e4 rfl ?_ -- 19
    refine hM_iv (MX.start (W := W) M.1.1 hnd) (by decide) rfl rfl (by decide) (as := [.int lx4]) (r := [.ref m]) rfl rfl (by decide +kernel) rfl (by decide +kernel) rfl rfl rfl rfl rfl ?_ -- 21
    exact g1 z1 a1 b1 c14
theorem s_fk24 {i : Int} (M : MX 25 W ρ m A h0 h F V G) (e0 : m_lk lv 0 = some (.ref m)) {nd : Nat} (e1 : m_lk lv 1 = some (.ref nd)) (hnd : ρ nd = 39) {lx2 : Int64} (e2 : m_lk lv 2 = some (.long lx2)) {lx4 : Int32} (e4 : m_lk lv 4 = some (.int lx4)) (lq4 : lx4.toInt = i) {sx1 : Int64} 
    (g0 : HJ 159 0 (lv_args 0 [.ref m, .long sx1]) [] h (fun v h' => HJ 157 27 lv (v.toList ++ []) h' Q))
    : HJ 157 24 lv [.long sx1, .ref m] h Q := by
  refine hM_iv M (by decide) rfl rfl (by decide) (as := [.long sx1]) (r := []) rfl rfl (by decide +kernel) rfl (by decide +kernel) rfl rfl rfl rfl rfl ?_ -- 24
  exact g0 
theorem s_fk27 {i b T : Int} (M : MX 25 W ρ m A h0 h F V G) (e0 : m_lk lv 0 = some (.ref m)) {nd : Nat} (e1 : m_lk lv 1 = some (.ref nd)) (hnd : ρ nd = 39) {lx2 : Int64} (e2 : m_lk lv 2 = some (.long lx2)) {lx4 : Int32} (e4 : m_lk lv 4 = some (.int lx4)) (lq4 : lx4.toInt = i) {sx0 : Int32} (sq0 : sx0.toInt = b) (b0 : 0 ≤ b) (b1 : b < T) (i0 : 0 ≤ i) (i1 : i ≤ 15120)(hl0 : ((h_k h0 (A 0)).2 : Int) = T)(hw : d_sub [(26, 1001)] W = true)
    (g0 : ∀ x2 : Int32, x2.toInt = i + 1 → ∀ lv2 : List (Nat × Value), m_lk lv2 0 = some (.ref m) → m_lk lv2 1 = some (.ref nd) → m_lk lv2 2 = some (.long lx2) → m_lk lv2 4 = some (.int x2) → b = 0 → HJ 157 8 lv2 [] h Q)
    (g1 : ∀ z3 : Int, -2147483648 ≤ z3 → z3 ≤ 2147483647 → ∀ z5 : Int, -2147483648 ≤ z5 → z5 ≤ 2147483647 → ∀ h6 : MH, ∀ V6 : Nat → Nat → Int, ∀ x7 : Int32, x7.toInt = i + 1 → ∀ lv7 : List (Nat × Value), MX 25 W ρ m A h0 h6 F V6 G → m_lk lv7 0 = some (.ref m) → m_lk lv7 1 = some (.ref nd) → m_lk lv7 2 = some (.long lx2) → m_lk lv7 4 = some (.int x7) → b ≠ 0 → HJ 157 8 lv7 [] h6 Q)
    : HJ 157 27 lv [.int sx0] h Q := by
  refine hM_si2 (k := 5) rfl (by decide +kernel) rfl (fun lv1 e1_5 u1 => ?_) -- 27
  have e1_0 := u1 0 _ (by decide) (Or.inl rfl) e0
  have e1_1 := u1 1 _ (by decide) (Or.inl rfl) e1
  have e1_2 := u1 2 _ (by decide) (Or.inr (by decide)) e2
  have e1_4 := u1 4 _ (by decide) (Or.inl rfl) e4
  refine hI_il2 (k := 5) rfl e1_5 rfl ?_ -- 29
  refine hM_zeq (off := 14) (t := 45) rfl sq0 (by decide) rfl (fun c31 => ?_) (fun c31 => ?_) -- 31
  · refine hM_inc (k := 4) (z := 1) rfl e1_4 lq4 (by decide) (by omega) (by omega) (by decide +kernel) rfl (fun lv2 x2 q2 e2_4 u2 => ?_) -- 45
    have e2_0 := u2 0 _ (by decide) (Or.inl rfl) e1_0
    have e2_1 := u2 1 _ (by decide) (Or.inl rfl) e1_1
    have e2_2 := u2 2 _ (by decide) (Or.inr (by decide)) e1_2
    have e2_5 := u2 5 _ (by decide) (Or.inl rfl) e1_5
    refine hI_go (pc' := 8) (off := (-40)) rfl (by decide) ?_ -- 48
    exact g0 x2 q2 lv2 e2_0 e2_1 e2_2 e2_4 c31
  · refine hI_al (k := 0) rfl e1_0 rfl ?_ -- 34
    refine hM_ga M (by decide) rfl rfl (k := 0) (c := 5) rfl rfl rfl (by decide +kernel) rfl ?_ -- 35
    refine hI_il2 (k := 5) rfl e1_5 rfl ?_ -- 38
    refine hI_dup2 rfl rfl rfl rfl ?_ -- 40
    refine hM_iav M (by decide) (K := 0) (R2 := 26) (L := 1) (H := 4096) rfl (by decide) rfl rfl hl0 rfl sq0 (by omega) (by omega) rfl (fun x3 z3 q3 a3 b3 => ?_) -- 41
    refine hM_ic (n := 1) rfl (by decide) rfl (fun x4 q4 => ?_) -- 42
    refine hM_addw rfl rfl (fun x5 z5 q5 a5 b5 => ?_) -- 43
    refine hM_isv M (by decide) ok_25 (K := 0) (R2 := 26) (L := 1) (H := 4096) rfl (by decide) rfl rfl rfl (fun _ => rfl) (d_subm hw (by decide +kernel)) hl0 rfl sq0 (by omega) (by omega) rfl (fun h6 V6 M6 => ?_) -- 44
    refine hM_inc (k := 4) (z := 1) rfl e1_4 lq4 (by decide) (by omega) (by omega) (by decide +kernel) rfl (fun lv7 x7 q7 e7_4 u7 => ?_) -- 45
    have e7_0 := u7 0 _ (by decide) (Or.inl rfl) e1_0
    have e7_1 := u7 1 _ (by decide) (Or.inl rfl) e1_1
    have e7_2 := u7 2 _ (by decide) (Or.inr (by decide)) e1_2
    have e7_5 := u7 5 _ (by decide) (Or.inl rfl) e1_5
    refine hI_go (pc' := 8) (off := (-40)) rfl (by decide) ?_ -- 48
    exact g1 z3 a3 b3 z5 a5 b5 h6 V6 x7 q7 lv7 M6 e7_0 e7_1 e7_2 e7_4 c31
theorem s_fk51 (M : MX 25 W ρ m A h0 h F V G) (e0 : m_lk lv 0 = some (.ref m)) 
    (g0 : HJ 160 0 (lv_args 0 [.ref m]) [] h (fun v h' => HJ 157 55 lv (v.toList ++ []) h' Q))
    : HJ 157 51 lv [] h Q := by
  refine hI_al (k := 0) rfl e0 rfl ?_ -- 51
  refine hM_iv M (by decide) rfl rfl (by decide) (as := []) (r := []) rfl rfl (by decide +kernel) rfl (by decide +kernel) rfl rfl rfl rfl rfl ?_ -- 52
  exact g0 
theorem s_fk55 (M : MX 25 W ρ m A h0 h F V G) (e0 : m_lk lv 0 = some (.ref m)) (k1 : (2 : Int) ^ (F 3).toNat ≤ 4096) (k0 : 1 ≤ (2 : Int) ^ (F 3).toNat)
    (g0 : ∀ x5 : Int32, x5.toInt = ((2 : Int) ^ (F 3).toNat) - 1 → ∀ x8 : Int32, x8.toInt = 0 → ∀ lv9 : List (Nat × Value), m_lk lv9 0 = some (.ref m) → m_lk lv9 4 = some (.int x5) → m_lk lv9 5 = some (.int x5) → m_lk lv9 6 = some (.int x8) → 0 ≤ F 3 → F 3 ≤ 12 → HJ 157 72 lv9 [] h Q)
    : HJ 157 55 lv [] h Q := by
  refine hM_ic (n := 1) rfl (by decide) rfl (fun x1 q1 => ?_) -- 55
  refine hI_al (k := 0) rfl e0 rfl ?_ -- 56
  refine hM_gi M (by decide) rfl rfl rfl (k := 3) (c := 5) (lo := 0) (hi := 12) rfl rfl rfl rfl rfl (fun x2 q2 a2 b2 => ?_) -- 57
  refine hM_shl rfl q1 q2 (by omega) (by omega) rfl (fun x3 q3 => ?_) -- 60
  refine hM_ic (n := 1) rfl (by decide) rfl (fun x4 q4 => ?_) -- 61
  refine hM_sub rfl q3 q4 (by omega) (by omega) rfl (fun x5 q5 => ?_) -- 62
  refine hM_si2 (k := 4) rfl (by decide +kernel) rfl (fun lv6 e6_4 u6 => ?_) -- 63
  have e6_0 := u6 0 _ (by decide) (Or.inl rfl) e0
  refine hI_il2 (k := 4) rfl e6_4 rfl ?_ -- 65
  refine hM_si2 (k := 5) rfl (by decide +kernel) rfl (fun lv7 e7_5 u7 => ?_) -- 67
  have e7_0 := u7 0 _ (by decide) (Or.inl rfl) e6_0
  have e7_4 := u7 4 _ (by decide) (Or.inl rfl) e6_4
  refine hM_ic (n := 0) rfl (by decide) rfl (fun x8 q8 => ?_) -- 69
  refine hM_si2 (k := 6) rfl (by decide +kernel) rfl (fun lv9 e9_6 u9 => ?_) -- 70
  have e9_0 := u9 0 _ (by decide) (Or.inl rfl) e7_0
  have e9_4 := u9 4 _ (by decide) (Or.inl rfl) e7_4
  have e9_5 := u9 5 _ (by decide) (Or.inl rfl) e7_5
  exact g0 x5 q5 x8 q8 lv9 e9_0 e9_4 e9_5 e9_6 a2 b2
theorem s_fk72 {a b j T : Int} (M : MX 25 W ρ m A h0 h F V G) (e0 : m_lk lv 0 = some (.ref m)) {lx4 : Int32} (e4 : m_lk lv 4 = some (.int lx4)) (lq4 : lx4.toInt = a) {lx5 : Int32} (e5 : m_lk lv 5 = some (.int lx5)) (lq5 : lx5.toInt = b) {lx6 : Int32} (e6 : m_lk lv 6 = some (.int lx6)) (lq6 : lx6.toInt = j) (j0 : 0 ≤ j) (a1 : a ≤ 4096) (f12 : F 3 ≤ 12) (ak : a < (2 : Int) ^ (F 3).toNat) (tl : (2 : Int) ^ (F 3).toNat ≤ T)(hl0 : ((h_k h0 (A 0)).2 : Int) = T)
    (g0 : j ≥ a → HJ 157 115 lv [] h Q)
    (g1 : ∀ z2 : Int, -2147483648 ≤ z2 → z2 ≤ 2147483647 → ∀ x3 : Int32, x3.toInt = j + 1 → ∀ lv3 : List (Nat × Value), m_lk lv3 0 = some (.ref m) → m_lk lv3 4 = some (.int lx4) → m_lk lv3 5 = some (.int lx5) → m_lk lv3 6 = some (.int x3) → j < a → z2 ≠ 0 → HJ 157 72 lv3 [] h Q)
    (g2 : ∀ z2 : Int, -2147483648 ≤ z2 → z2 ≤ 2147483647 → j < a → z2 = 0 → HJ 82 0 (lv_args 0 [.int lx6]) [] h (fun v h' => HJ 157 97 lv (v.toList ++ []) h' Q))
    : HJ 157 72 lv [] h Q := by
  refine hI_il2 (k := 6) rfl e6 rfl ?_ -- 72
  refine hI_il2 (k := 4) rfl e4 rfl ?_ -- 74
  refine hM_cge (off := 39) (t := 115) rfl lq6 lq4 (by decide) rfl (fun c76 => ?_) (fun c76 => ?_) -- 76
  · exact g0 c76
  · refine hI_al (k := 0) rfl e0 rfl ?_ -- 79
    refine hM_ga M (by decide) rfl rfl (k := 0) (c := 5) rfl rfl rfl (by decide +kernel) rfl ?_ -- 80
    refine hI_il2 (k := 4) rfl e4 rfl ?_ -- 83
    refine hI_il2 (k := 6) rfl e6 rfl ?_ -- 85
    refine hM_ixorx rfl rfl (fun x1 q1 => ?_) -- 87
    have ⟨u0, u1⟩ := fk_x lq4 lq6 j0 c76 ak f12
    refine hM_iav M (by decide) (K := 0) (R2 := 26) (L := 1) (H := 4096) rfl (by decide) rfl rfl hl0 rfl q1 (by omega) (by omega) rfl (fun x2 z2 q2 a2 b2 => ?_) -- 88
    refine hM_zne (off := 20) (t := 109) rfl q2 (by decide) rfl (fun c89 => ?_) (fun c89 => ?_) -- 89
    · refine hM_inc (k := 6) (z := 1) rfl e6 lq6 (by decide) (by omega) (by omega) (by decide +kernel) rfl (fun lv3 x3 q3 e3_6 u3 => ?_) -- 109
      have e3_0 := u3 0 _ (by decide) (Or.inl rfl) e0
      have e3_4 := u3 4 _ (by decide) (Or.inl rfl) e4
      have e3_5 := u3 5 _ (by decide) (Or.inl rfl) e5
      refine hI_go (pc' := 72) (off := (-40)) rfl (by decide) ?_ -- 112
      exact g1 z2 a2 b2 x3 q3 lv3 e3_0 e3_4 e3_5 e3_6 c76 c89
    · refine hI_il2 (k := 6) rfl e6 rfl ?_ -- 92
      refine hM_is0 (as := [.int lx6]) (r := []) rfl rfl (by decide +kernel) rfl rfl rfl rfl rfl ?_ -- 94
      exact g2 z2 a2 b2 c76 c89
theorem s_fk97 {a b j y : Int} (M : MX 25 W ρ m A h0 h F V G) (e0 : m_lk lv 0 = some (.ref m)) {lx4 : Int32} (e4 : m_lk lv 4 = some (.int lx4)) (lq4 : lx4.toInt = a) {lx5 : Int32} (e5 : m_lk lv 5 = some (.int lx5)) (lq5 : lx5.toInt = b) {lx6 : Int32} (e6 : m_lk lv 6 = some (.int lx6)) (lq6 : lx6.toInt = j) {sx0 : Int32} (sq0 : sx0.toInt = y) 
    (g0 : HJ 82 0 (lv_args 0 [.int lx5]) [] h (fun v h' => HJ 157 102 lv (v.toList ++ [.int sx0]) h' Q))
    : HJ 157 97 lv [.int sx0] h Q := by
  refine hI_il2 (k := 5) rfl e5 rfl ?_ -- 97
  refine hM_is0 (as := [.int lx5]) (r := [.int sx0]) rfl rfl (by decide +kernel) rfl rfl rfl rfl rfl ?_ -- 99
  exact g0 
theorem s_fk102 {a b j y z : Int} (M : MX 25 W ρ m A h0 h F V G) (e0 : m_lk lv 0 = some (.ref m)) {lx4 : Int32} (e4 : m_lk lv 4 = some (.int lx4)) (lq4 : lx4.toInt = a) {lx5 : Int32} (e5 : m_lk lv 5 = some (.int lx5)) (lq5 : lx5.toInt = b) {lx6 : Int32} (e6 : m_lk lv 6 = some (.int lx6)) (lq6 : lx6.toInt = j) {sx0 : Int32} (sq0 : sx0.toInt = y) {sx1 : Int32} (sq1 : sx1.toInt = z) (j0 : 0 ≤ j) (j1 : j ≤ 4096)
    (g0 : ∀ x1 : Int32, x1.toInt = j + 1 → ∀ lv1 : List (Nat × Value), m_lk lv1 0 = some (.ref m) → m_lk lv1 4 = some (.int lx4) → m_lk lv1 5 = some (.int lx5) → m_lk lv1 6 = some (.int x1) → y ≥ z → HJ 157 72 lv1 [] h Q)
    (g1 : ∀ x3 : Int32, x3.toInt = j + 1 → ∀ lv3 : List (Nat × Value), m_lk lv3 0 = some (.ref m) → m_lk lv3 4 = some (.int lx4) → m_lk lv3 5 = some (.int lx6) → m_lk lv3 6 = some (.int x3) → y < z → HJ 157 72 lv3 [] h Q)
    : HJ 157 102 lv [.int sx1, .int sx0] h Q := by
  refine hM_cge (off := 7) (t := 109) rfl sq0 sq1 (by decide) rfl (fun c102 => ?_) (fun c102 => ?_) -- 102
  · refine hM_inc (k := 6) (z := 1) rfl e6 lq6 (by decide) (by omega) (by omega) (by decide +kernel) rfl (fun lv1 x1 q1 e1_6 u1 => ?_) -- 109
    have e1_0 := u1 0 _ (by decide) (Or.inl rfl) e0
    have e1_4 := u1 4 _ (by decide) (Or.inl rfl) e4
    have e1_5 := u1 5 _ (by decide) (Or.inl rfl) e5
    refine hI_go (pc' := 72) (off := (-40)) rfl (by decide) ?_ -- 112
    exact g0 x1 q1 lv1 e1_0 e1_4 e1_5 e1_6 c102
  · refine hI_il2 (k := 6) rfl e6 rfl ?_ -- 105
    refine hM_si2 (k := 5) rfl (by decide +kernel) rfl (fun lv2 e2_5 u2 => ?_) -- 107
    have e2_0 := u2 0 _ (by decide) (Or.inl rfl) e0
    have e2_4 := u2 4 _ (by decide) (Or.inl rfl) e4
    have e2_6 := u2 6 _ (by decide) (Or.inl rfl) e6
    refine hM_inc (k := 6) (z := 1) rfl e2_6 lq6 (by decide) (by omega) (by omega) (by decide +kernel) rfl (fun lv3 x3 q3 e3_6 u3 => ?_) -- 109
    have e3_0 := u3 0 _ (by decide) (Or.inl rfl) e2_0
    have e3_4 := u3 4 _ (by decide) (Or.inl rfl) e2_4
    have e3_5 := u3 5 _ (by decide) (Or.inl rfl) e2_5
    refine hI_go (pc' := 72) (off := (-40)) rfl (by decide) ?_ -- 112
    exact g1 x3 q3 lv3 e3_0 e3_4 e3_5 e3_6 c102
theorem s_fk115 {b : Int} (M : MX 25 W ρ m A h0 h F V G) (e0 : m_lk lv 0 = some (.ref m)) {lx5 : Int32} (e5 : m_lk lv 5 = some (.int lx5)) (lq5 : lx5.toInt = b) 
    (g0 : HJ 161 0 (lv_args 0 [.ref m, .int lx5]) [] h (fun v h' => HJ 157 121 lv (v.toList ++ []) h' Q))
    : HJ 157 115 lv [] h Q := by
  refine hI_al (k := 0) rfl e0 rfl ?_ -- 115
  refine hI_il2 (k := 5) rfl e5 rfl ?_ -- 116
  refine hM_iv M (by decide) rfl rfl (by decide) (as := [.int lx5]) (r := []) rfl rfl (by decide +kernel) rfl (by decide +kernel) rfl rfl rfl rfl rfl ?_ -- 118
  exact g0 
theorem s_fk121  {sx0 : Int64} 
    (g0 : Q (some (.long sx0)) h)
    : HJ 157 121 lv [.long sx0] h Q := by
  refine hI_rl rfl rfl ?_
  exact g0 
theorem s_gv0 (M : MX 25 W ρ m A h0 h F V G) (e0 : m_lk lv 0 = some (.ref m)) {nd : Nat} (e1 : m_lk lv 1 = some (.ref nd)) (hnd : ρ nd = 39) {lx2 : Int64} (e2 : m_lk lv 2 = some (.long lx2)) 
    (g0 : HJ 158 0 (lv_args 0 [.ref m, .long lx2]) [] h (fun v h' => HJ 163 5 lv (v.toList ++ []) h' Q))
    : HJ 163 0 lv [] h Q := by
  refine hI_al (k := 0) rfl e0 rfl ?_ -- 0
  refine hI_ll (k := 2) rfl e2 rfl ?_ -- 1
  refine hM_iv M (by decide) rfl rfl (by decide) (as := [.long lx2]) (r := []) rfl rfl (by decide +kernel) rfl (by decide +kernel) rfl rfl rfl rfl rfl ?_ -- 2
  exact g0 
theorem s_gv5 {n : Int} (M : MX 25 W ρ m A h0 h F V G) (e0 : m_lk lv 0 = some (.ref m)) {nd : Nat} (e1 : m_lk lv 1 = some (.ref nd)) (hnd : ρ nd = 39) {lx2 : Int64} (e2 : m_lk lv 2 = some (.long lx2)) {lx4 : Int32} (e4 : m_lk lv 4 = some (.int lx4)) (lq4 : lx4.toInt = n) 
    (g0 : ∀ x1 : Int32, x1.toInt = 0 → ∀ lv2 : List (Nat × Value), m_lk lv2 0 = some (.ref m) → m_lk lv2 1 = some (.ref nd) → m_lk lv2 2 = some (.long lx2) → m_lk lv2 4 = some (.int lx4) → m_lk lv2 5 = some (.int x1) → HJ 163 8 lv2 [] h Q)
    : HJ 163 5 lv [] h Q := by
  refine hM_ic (n := 0) rfl (by decide) rfl (fun x1 q1 => ?_) -- 5
  refine hM_si2 (k := 5) rfl (by decide +kernel) rfl (fun lv2 e2_5 u2 => ?_) -- 6
  have e2_0 := u2 0 _ (by decide) (Or.inl rfl) e0
  have e2_1 := u2 1 _ (by decide) (Or.inl rfl) e1
  have e2_2 := u2 2 _ (by decide) (Or.inr (by decide)) e2
  have e2_4 := u2 4 _ (by decide) (Or.inl rfl) e4
  exact g0 x1 q1 lv2 e2_0 e2_1 e2_2 e2_4 e2_5
theorem s_gv8 {n i : Int} (M : MX 25 W ρ m A h0 h F V G) (e0 : m_lk lv 0 = some (.ref m)) {nd : Nat} (e1 : m_lk lv 1 = some (.ref nd)) (hnd : ρ nd = 39) {lx2 : Int64} (e2 : m_lk lv 2 = some (.long lx2)) {lx4 : Int32} (e4 : m_lk lv 4 = some (.int lx4)) (lq4 : lx4.toInt = n) {lx5 : Int32} (e5 : m_lk lv 5 = some (.int lx5)) (lq5 : lx5.toInt = i) 
    (g0 : ∀ z1 : Int, 0 ≤ z1 → z1 ≤ 15120 → i ≥ z1 → HJ 163 59 lv [] h Q)
    (g1 : ∀ z1 : Int, 0 ≤ z1 → z1 ≤ 15120 → i < z1 → HJ 99 0 (lv_args 0 [.ref nd, .int lx5]) [] h (fun v h' => HJ 163 23 lv (v.toList ++ []) h' Q))
    : HJ 163 8 lv [] h Q := by
  refine hI_il2 (k := 5) rfl e5 rfl ?_ -- 8
  refine hI_al (k := 1) rfl e1 rfl ?_ -- 10
  refine hM_gn (W := W) M.1.1 hnd (by decide) rfl rfl rfl (k := 5) (c := 2) (lo := 0) (hi := 15120) rfl rfl rfl rfl rfl (fun x1 z1 q1 a1 b1 => ?_) -- 11
  refine hM_cge (off := 45) (t := 59) rfl lq5 q1 (by decide) rfl (fun c14 => ?_) (fun c14 => ?_) -- 14
  · exact g0 z1 a1 b1 c14
  · refine hI_al (k := 1) rfl e1 rfl ?_ -- 17
    refine hI_il2 (k := 5) rfl e5 rfl ?_ -- 18
    refine hM_iv (MX.start (W := W) M.1.1 hnd) (by decide) rfl rfl (by decide) (as := [.int lx5]) (r := []) rfl rfl (by decide +kernel) rfl (by decide +kernel) rfl rfl rfl rfl rfl ?_ -- 20
    exact g1 z1 a1 b1 c14
theorem s_gv23 {n i : Int} (M : MX 25 W ρ m A h0 h F V G) (e0 : m_lk lv 0 = some (.ref m)) {nd : Nat} (e1 : m_lk lv 1 = some (.ref nd)) (hnd : ρ nd = 39) {lx2 : Int64} (e2 : m_lk lv 2 = some (.long lx2)) {lx4 : Int32} (e4 : m_lk lv 4 = some (.int lx4)) (lq4 : lx4.toInt = n) {lx5 : Int32} (e5 : m_lk lv 5 = some (.int lx5)) (lq5 : lx5.toInt = i) {sx0 : Int64} (i0 : 0 ≤ i) (i1 : i ≤ 15120)
    (g0 : ∀ x3 : Int32, x3.toInt = i + 1 → ∀ lv3 : List (Nat × Value), m_lk lv3 0 = some (.ref m) → m_lk lv3 1 = some (.ref nd) → m_lk lv3 2 = some (.long lx2) → m_lk lv3 4 = some (.int lx4) → m_lk lv3 5 = some (.int x3) → (lg_cmp (sx0 &&& (lx2 ^^^ (-1))) (Int64.ofNat (0 : Fin 2).val)).toInt ≠ 0 → HJ 163 8 lv3 [] h Q)
    (g1 : ∀ lv1 : List (Nat × Value), m_lk lv1 0 = some (.ref m) → m_lk lv1 1 = some (.ref nd) → m_lk lv1 2 = some (.long lx2) → m_lk lv1 4 = some (.int lx4) → m_lk lv1 5 = some (.int lx5) → (lg_cmp (sx0 &&& (lx2 ^^^ (-1))) (Int64.ofNat (0 : Fin 2).val)).toInt = 0 → HJ 159 0 (lv_args 0 [.ref m, .long sx0]) [] h (fun v h' => HJ 163 48 lv1 (v.toList ++ [.ref (A 0)]) h' Q))
    : HJ 163 23 lv [.long sx0] h Q := by
  refine hM_sl2 (k := 6) rfl (by decide +kernel) rfl (fun lv1 e1_6 u1 => ?_) -- 23
  have e1_0 := u1 0 _ (by decide) (by decide) (Or.inl rfl) e0
  have e1_1 := u1 1 _ (by decide) (by decide) (Or.inl rfl) e1
  have e1_2 := u1 2 _ (by decide) (by decide) (Or.inr (by decide)) e2
  have e1_4 := u1 4 _ (by decide) (by decide) (Or.inl rfl) e4
  have e1_5 := u1 5 _ (by decide) (by decide) (Or.inl rfl) e5
  refine hI_ll2 (k := 6) rfl e1_6 rfl ?_ -- 25
  refine hI_ll (k := 2) rfl e1_2 rfl ?_ -- 27
  refine hM_jc (x := (-1)) rfl rfl rfl ?_ -- 28
  refine hI_lxor rfl rfl ?_ -- 31
  refine hI_land rfl rfl ?_ -- 32
  refine hI_lc (n := 0) rfl rfl ?_ -- 33
  refine hM_lcmp rfl rfl (fun x2 q2 => ?_) -- 34
  refine hM_zne (off := 18) (t := 53) rfl q2 (by decide) rfl (fun c35 => ?_) (fun c35 => ?_) -- 35
  · refine hM_inc (k := 5) (z := 1) rfl e1_5 lq5 (by decide) (by omega) (by omega) (by decide +kernel) rfl (fun lv3 x3 q3 e3_5 u3 => ?_) -- 53
    have e3_0 := u3 0 _ (by decide) (Or.inl rfl) e1_0
    have e3_1 := u3 1 _ (by decide) (Or.inl rfl) e1_1
    have e3_2 := u3 2 _ (by decide) (Or.inr (by decide)) e1_2
    have e3_4 := u3 4 _ (by decide) (Or.inl rfl) e1_4
    have e3_6 := u3 6 _ (by decide) (Or.inr (by decide)) e1_6
    refine hI_go (pc' := 8) (off := (-48)) rfl (by decide) ?_ -- 56
    exact g0 x3 q3 lv3 e3_0 e3_1 e3_2 e3_4 e3_5 c35
  · refine hI_al (k := 0) rfl e1_0 rfl ?_ -- 38
    refine hM_ga M (by decide) rfl rfl (k := 0) (c := 5) rfl rfl rfl (by decide +kernel) rfl ?_ -- 39
    refine hI_al (k := 0) rfl e1_0 rfl ?_ -- 42
    refine hI_ll2 (k := 6) rfl e1_6 rfl ?_ -- 43
    refine hM_iv M (by decide) rfl rfl (by decide) (as := [.long sx0]) (r := [.ref (A 0)]) rfl rfl (by decide +kernel) rfl (by decide +kernel) rfl rfl rfl rfl rfl ?_ -- 45
    exact g1 lv1 e1_0 e1_1 e1_2 e1_4 e1_5 c35
theorem s_gv48 {n i b T : Int} (M : MX 25 W ρ m A h0 h F V G) (e0 : m_lk lv 0 = some (.ref m)) {nd : Nat} (e1 : m_lk lv 1 = some (.ref nd)) (hnd : ρ nd = 39) {lx2 : Int64} (e2 : m_lk lv 2 = some (.long lx2)) {lx4 : Int32} (e4 : m_lk lv 4 = some (.int lx4)) (lq4 : lx4.toInt = n) {lx5 : Int32} (e5 : m_lk lv 5 = some (.int lx5)) (lq5 : lx5.toInt = i) {sx1 : Int32} (sq1 : sx1.toInt = b) (b0 : 0 ≤ b) (b1 : b < T) (i0 : 0 ≤ i) (i1 : i ≤ 15120)(hl0 : ((h_k h0 (A 0)).2 : Int) = T)(hw : d_sub [(26, 1001)] W = true)
    (g0 : ∀ z1 : Int, -2147483648 ≤ z1 → z1 ≤ 2147483647 → ∀ z3 : Int, -2147483648 ≤ z3 → z3 ≤ 2147483647 → ∀ h4 : MH, ∀ V4 : Nat → Nat → Int, ∀ x5 : Int32, x5.toInt = i + 1 → ∀ lv5 : List (Nat × Value), MX 25 W ρ m A h0 h4 F V4 G → m_lk lv5 0 = some (.ref m) → m_lk lv5 1 = some (.ref nd) → m_lk lv5 2 = some (.long lx2) → m_lk lv5 4 = some (.int lx4) → m_lk lv5 5 = some (.int x5) → HJ 163 8 lv5 [] h4 Q)
    : HJ 163 48 lv [.int sx1, .ref (A 0)] h Q := by
  refine hI_dup2 rfl rfl rfl rfl ?_ -- 48
  refine hM_iav M (by decide) (K := 0) (R2 := 26) (L := 1) (H := 4096) rfl (by decide) rfl rfl hl0 rfl sq1 (by omega) (by omega) rfl (fun x1 z1 q1 a1 b1 => ?_) -- 49
  refine hM_ic (n := 1) rfl (by decide) rfl (fun x2 q2 => ?_) -- 50
  refine hM_addw rfl rfl (fun x3 z3 q3 a3 b3 => ?_) -- 51
  refine hM_isv M (by decide) ok_25 (K := 0) (R2 := 26) (L := 1) (H := 4096) rfl (by decide) rfl rfl rfl (fun _ => rfl) (d_subm hw (by decide +kernel)) hl0 rfl sq1 (by omega) (by omega) rfl (fun h4 V4 M4 => ?_) -- 52
  refine hM_inc (k := 5) (z := 1) rfl e5 lq5 (by decide) (by omega) (by omega) (by decide +kernel) rfl (fun lv5 x5 q5 e5_5 u5 => ?_) -- 53
  have e5_0 := u5 0 _ (by decide) (Or.inl rfl) e0
  have e5_1 := u5 1 _ (by decide) (Or.inl rfl) e1
  have e5_2 := u5 2 _ (by decide) (Or.inr (by decide)) e2
  have e5_4 := u5 4 _ (by decide) (Or.inl rfl) e4
  refine hI_go (pc' := 8) (off := (-48)) rfl (by decide) ?_ -- 56
  exact g0 z1 a1 b1 z3 a3 b3 h4 V4 x5 q5 lv5 M4 e5_0 e5_1 e5_2 e5_4 e5_5
theorem s_gv59 {n : Int} (M : MX 25 W ρ m A h0 h F V G) (e0 : m_lk lv 0 = some (.ref m)) {lx4 : Int32} (e4 : m_lk lv 4 = some (.int lx4)) (lq4 : lx4.toInt = n) 
    (g0 : HJ 160 0 (lv_args 0 [.ref m]) [] h (fun v h' => HJ 163 63 lv (v.toList ++ []) h' Q))
    : HJ 163 59 lv [] h Q := by
  refine hI_al (k := 0) rfl e0 rfl ?_ -- 59
  refine hM_iv M (by decide) rfl rfl (by decide) (as := []) (r := []) rfl rfl (by decide +kernel) rfl (by decide +kernel) rfl rfl rfl rfl rfl ?_ -- 60
  exact g0 
theorem s_gv63 {n : Int} (M : MX 25 W ρ m A h0 h F V G) (e0 : m_lk lv 0 = some (.ref m)) {lx4 : Int32} (e4 : m_lk lv 4 = some (.int lx4)) (lq4 : lx4.toInt = n) 
    (g0 : ∀ x1 : Int32, x1.toInt = (-1) → ∀ x3 : Int32, x3.toInt = 0 → ∀ lv4 : List (Nat × Value), m_lk lv4 0 = some (.ref m) → m_lk lv4 4 = some (.int lx4) → m_lk lv4 5 = some (.int x1) → m_lk lv4 6 = some (.int x3) → HJ 163 69 lv4 [] h Q)
    : HJ 163 63 lv [] h Q := by
  refine hM_ic (n := (-1)) rfl (by decide) rfl (fun x1 q1 => ?_) -- 63
  refine hM_si2 (k := 5) rfl (by decide +kernel) rfl (fun lv2 e2_5 u2 => ?_) -- 64
  have e2_0 := u2 0 _ (by decide) (Or.inl rfl) e0
  have e2_4 := u2 4 _ (by decide) (Or.inl rfl) e4
  refine hM_ic (n := 0) rfl (by decide) rfl (fun x3 q3 => ?_) -- 66
  refine hM_si2 (k := 6) rfl (by decide +kernel) rfl (fun lv4 e4_6 u4 => ?_) -- 67
  have e4_0 := u4 0 _ (by decide) (Or.inl rfl) e2_0
  have e4_4 := u4 4 _ (by decide) (Or.inl rfl) e2_4
  have e4_5 := u4 5 _ (by decide) (Or.inl rfl) e2_5
  exact g0 x1 q1 x3 q3 lv4 e4_0 e4_4 e4_5 e4_6
theorem s_gv69 {n b j T : Int} (M : MX 25 W ρ m A h0 h F V G) (e0 : m_lk lv 0 = some (.ref m)) {lx4 : Int32} (e4 : m_lk lv 4 = some (.int lx4)) (lq4 : lx4.toInt = n) {lx5 : Int32} (e5 : m_lk lv 5 = some (.int lx5)) (lq5 : lx5.toInt = b) {lx6 : Int32} (e6 : m_lk lv 6 = some (.int lx6)) (lq6 : lx6.toInt = j) (j0 : 0 ≤ j) (k1 : (2 : Int) ^ (F 3).toNat ≤ 4096) (tl : (2 : Int) ^ (F 3).toNat ≤ T)(hl0 : ((h_k h0 (A 0)).2 : Int) = T)
    (g0 : 0 ≤ F 3 → F 3 ≤ 12 → j ≥ (2 : Int) ^ (F 3).toNat → HJ 163 121 lv [] h Q)
    (g1 : ∀ z4 : Int, -2147483648 ≤ z4 → z4 ≤ 2147483647 → ∀ x5 : Int32, x5.toInt = j + 1 → ∀ lv5 : List (Nat × Value), m_lk lv5 0 = some (.ref m) → m_lk lv5 4 = some (.int lx4) → m_lk lv5 5 = some (.int lx5) → m_lk lv5 6 = some (.int x5) → 0 ≤ F 3 → F 3 ≤ 12 → j < (2 : Int) ^ (F 3).toNat → z4 < n → HJ 163 69 lv5 [] h Q)
    (g2 : ∀ z4 : Int, -2147483648 ≤ z4 → z4 ≤ 2147483647 → ∀ x8 : Int32, x8.toInt = j + 1 → ∀ lv8 : List (Nat × Value), m_lk lv8 0 = some (.ref m) → m_lk lv8 4 = some (.int lx4) → m_lk lv8 5 = some (.int lx6) → m_lk lv8 6 = some (.int x8) → 0 ≤ F 3 → F 3 ≤ 12 → j < (2 : Int) ^ (F 3).toNat → z4 ≥ n → b = (-1) → HJ 163 69 lv8 [] h Q)
    (g3 : ∀ z4 : Int, -2147483648 ≤ z4 → z4 ≤ 2147483647 → 0 ≤ F 3 → F 3 ≤ 12 → j < (2 : Int) ^ (F 3).toNat → z4 ≥ n → b ≠ (-1) → HJ 82 0 (lv_args 0 [.int lx6]) [] h (fun v h' => HJ 163 103 lv (v.toList ++ []) h' Q))
    : HJ 163 69 lv [] h Q := by
  refine hI_il2 (k := 6) rfl e6 rfl ?_ -- 69
  refine hM_ic (n := 1) rfl (by decide) rfl (fun x1 q1 => ?_) -- 71
  refine hI_al (k := 0) rfl e0 rfl ?_ -- 72
  refine hM_gi M (by decide) rfl rfl rfl (k := 3) (c := 5) (lo := 0) (hi := 12) rfl rfl rfl rfl rfl (fun x2 q2 a2 b2 => ?_) -- 73
  refine hM_shl rfl q1 q2 (by omega) (by omega) rfl (fun x3 q3 => ?_) -- 76
  refine hM_cge (off := 44) (t := 121) rfl lq6 q3 (by decide) rfl (fun c77 => ?_) (fun c77 => ?_) -- 77
  · exact g0 a2 b2 c77
  · refine hI_al (k := 0) rfl e0 rfl ?_ -- 80
    refine hM_ga M (by decide) rfl rfl (k := 0) (c := 5) rfl rfl rfl (by decide +kernel) rfl ?_ -- 81
    refine hI_il2 (k := 6) rfl e6 rfl ?_ -- 84
    refine hM_iav M (by decide) (K := 0) (R2 := 26) (L := 1) (H := 4096) rfl (by decide) rfl rfl hl0 rfl lq6 (by omega) (by omega) rfl (fun x4 z4 q4 a4 b4 => ?_) -- 86
    refine hI_il2 (k := 4) rfl e4 rfl ?_ -- 87
    refine hM_clt (off := 26) (t := 115) rfl q4 lq4 (by decide) rfl (fun c89 => ?_) (fun c89 => ?_) -- 89
    · refine hM_inc (k := 6) (z := 1) rfl e6 lq6 (by decide) (by omega) (by omega) (by decide +kernel) rfl (fun lv5 x5 q5 e5_6 u5 => ?_) -- 115
      have e5_0 := u5 0 _ (by decide) (Or.inl rfl) e0
      have e5_4 := u5 4 _ (by decide) (Or.inl rfl) e4
      have e5_5 := u5 5 _ (by decide) (Or.inl rfl) e5
      refine hI_go (pc' := 69) (off := (-49)) rfl (by decide) ?_ -- 118
      exact g1 z4 a4 b4 x5 q5 lv5 e5_0 e5_4 e5_5 e5_6 a2 b2 c77 c89
    · refine hI_il2 (k := 5) rfl e5 rfl ?_ -- 92
      refine hM_ic (n := (-1)) rfl (by decide) rfl (fun x6 q6 => ?_) -- 94
      refine hM_ceq (off := 16) (t := 111) rfl lq5 q6 (by decide) rfl (fun c95 => ?_) (fun c95 => ?_) -- 95
      · refine hI_il2 (k := 6) rfl e6 rfl ?_ -- 111
        refine hM_si2 (k := 5) rfl (by decide +kernel) rfl (fun lv7 e7_5 u7 => ?_) -- 113
        have e7_0 := u7 0 _ (by decide) (Or.inl rfl) e0
        have e7_4 := u7 4 _ (by decide) (Or.inl rfl) e4
        have e7_6 := u7 6 _ (by decide) (Or.inl rfl) e6
        refine hM_inc (k := 6) (z := 1) rfl e7_6 lq6 (by decide) (by omega) (by omega) (by decide +kernel) rfl (fun lv8 x8 q8 e8_6 u8 => ?_) -- 115
        have e8_0 := u8 0 _ (by decide) (Or.inl rfl) e7_0
        have e8_4 := u8 4 _ (by decide) (Or.inl rfl) e7_4
        have e8_5 := u8 5 _ (by decide) (Or.inl rfl) e7_5
        refine hI_go (pc' := 69) (off := (-49)) rfl (by decide) ?_ -- 118
        exact g2 z4 a4 b4 x8 q8 lv8 e8_0 e8_4 e8_5 e8_6 a2 b2 c77 c89 c95
      · refine hI_il2 (k := 6) rfl e6 rfl ?_ -- 98
        refine hM_is0 (as := [.int lx6]) (r := []) rfl rfl (by decide +kernel) rfl rfl rfl rfl rfl ?_ -- 100
        exact g3 z4 a4 b4 a2 b2 c77 c89 c95
theorem s_gv103 {n b j y : Int} (M : MX 25 W ρ m A h0 h F V G) (e0 : m_lk lv 0 = some (.ref m)) {lx4 : Int32} (e4 : m_lk lv 4 = some (.int lx4)) (lq4 : lx4.toInt = n) {lx5 : Int32} (e5 : m_lk lv 5 = some (.int lx5)) (lq5 : lx5.toInt = b) {lx6 : Int32} (e6 : m_lk lv 6 = some (.int lx6)) (lq6 : lx6.toInt = j) {sx0 : Int32} (sq0 : sx0.toInt = y) 
    (g0 : HJ 82 0 (lv_args 0 [.int lx5]) [] h (fun v h' => HJ 163 108 lv (v.toList ++ [.int sx0]) h' Q))
    : HJ 163 103 lv [.int sx0] h Q := by
  refine hI_il2 (k := 5) rfl e5 rfl ?_ -- 103
  refine hM_is0 (as := [.int lx5]) (r := [.int sx0]) rfl rfl (by decide +kernel) rfl rfl rfl rfl rfl ?_ -- 105
  exact g0 
theorem s_gv108 {n b j y z : Int} (M : MX 25 W ρ m A h0 h F V G) (e0 : m_lk lv 0 = some (.ref m)) {lx4 : Int32} (e4 : m_lk lv 4 = some (.int lx4)) (lq4 : lx4.toInt = n) {lx5 : Int32} (e5 : m_lk lv 5 = some (.int lx5)) (lq5 : lx5.toInt = b) {lx6 : Int32} (e6 : m_lk lv 6 = some (.int lx6)) (lq6 : lx6.toInt = j) {sx0 : Int32} (sq0 : sx0.toInt = y) {sx1 : Int32} (sq1 : sx1.toInt = z) (j0 : 0 ≤ j) (j1 : j ≤ 4096)
    (g0 : ∀ x1 : Int32, x1.toInt = j + 1 → ∀ lv1 : List (Nat × Value), m_lk lv1 0 = some (.ref m) → m_lk lv1 4 = some (.int lx4) → m_lk lv1 5 = some (.int lx5) → m_lk lv1 6 = some (.int x1) → y ≥ z → HJ 163 69 lv1 [] h Q)
    (g1 : ∀ x3 : Int32, x3.toInt = j + 1 → ∀ lv3 : List (Nat × Value), m_lk lv3 0 = some (.ref m) → m_lk lv3 4 = some (.int lx4) → m_lk lv3 5 = some (.int lx6) → m_lk lv3 6 = some (.int x3) → y < z → HJ 163 69 lv3 [] h Q)
    : HJ 163 108 lv [.int sx1, .int sx0] h Q := by
  refine hM_cge (off := 7) (t := 115) rfl sq0 sq1 (by decide) rfl (fun c108 => ?_) (fun c108 => ?_) -- 108
  · refine hM_inc (k := 6) (z := 1) rfl e6 lq6 (by decide) (by omega) (by omega) (by decide +kernel) rfl (fun lv1 x1 q1 e1_6 u1 => ?_) -- 115
    have e1_0 := u1 0 _ (by decide) (Or.inl rfl) e0
    have e1_4 := u1 4 _ (by decide) (Or.inl rfl) e4
    have e1_5 := u1 5 _ (by decide) (Or.inl rfl) e5
    refine hI_go (pc' := 69) (off := (-49)) rfl (by decide) ?_ -- 118
    exact g0 x1 q1 lv1 e1_0 e1_4 e1_5 e1_6 c108
  · refine hI_il2 (k := 6) rfl e6 rfl ?_ -- 111
    refine hM_si2 (k := 5) rfl (by decide +kernel) rfl (fun lv2 e2_5 u2 => ?_) -- 113
    have e2_0 := u2 0 _ (by decide) (Or.inl rfl) e0
    have e2_4 := u2 4 _ (by decide) (Or.inl rfl) e4
    have e2_6 := u2 6 _ (by decide) (Or.inl rfl) e6
    refine hM_inc (k := 6) (z := 1) rfl e2_6 lq6 (by decide) (by omega) (by omega) (by decide +kernel) rfl (fun lv3 x3 q3 e3_6 u3 => ?_) -- 115
    have e3_0 := u3 0 _ (by decide) (Or.inl rfl) e2_0
    have e3_4 := u3 4 _ (by decide) (Or.inl rfl) e2_4
    have e3_5 := u3 5 _ (by decide) (Or.inl rfl) e2_5
    refine hI_go (pc' := 69) (off := (-49)) rfl (by decide) ?_ -- 118
    exact g1 x3 q3 lv3 e3_0 e3_4 e3_5 e3_6 c108
theorem s_gv121 {b : Int} (M : MX 25 W ρ m A h0 h F V G) (e0 : m_lk lv 0 = some (.ref m)) {lx5 : Int32} (e5 : m_lk lv 5 = some (.int lx5)) (lq5 : lx5.toInt = b) 
    (g0 : b ≠ (-1) → HJ 161 0 (lv_args 0 [.ref m, .int lx5]) [] h (fun v h' => HJ 163 139 lv (v.toList ++ []) h' Q))
    (g1 : b = (-1) → Q (some (.long (-1))) h)
    : HJ 163 121 lv [] h Q := by
  refine hI_il2 (k := 5) rfl e5 rfl ?_ -- 121
  refine hM_ic (n := (-1)) rfl (by decide) rfl (fun x1 q1 => ?_) -- 123
  refine hM_cne (off := 9) (t := 133) rfl lq5 q1 (by decide) rfl (fun c124 => ?_) (fun c124 => ?_) -- 124
  · refine hI_al (k := 0) rfl e0 rfl ?_ -- 133
    refine hI_il2 (k := 5) rfl e5 rfl ?_ -- 134
    refine hM_iv M (by decide) rfl rfl (by decide) (as := [.int lx5]) (r := []) rfl rfl (by decide +kernel) rfl (by decide +kernel) rfl rfl rfl rfl rfl ?_ -- 136
    exact g0 c124
  · refine hM_jc (x := (-1)) rfl rfl rfl ?_ -- 127
    refine hI_go (pc' := 139) (off := 9) rfl (by decide) ?_ -- 130
    refine hI_rl rfl rfl ?_
    exact g1 c124
theorem s_gv139  {sx0 : Int64} 
    (g0 : Q (some (.long sx0)) h)
    : HJ 163 139 lv [.long sx0] h Q := by
  refine hI_rl rfl rfl ?_
  exact g0 
theorem l_ft {T : Int} {xz : Int32} (hw : d_sub [(26, 1001)] W = true) (hl : ((h_k h0 (A 0)).2 : Int) = T) (t1 : T ≤ 4096) (g : ∀ (h : MH) (V : Nat → Nat → Int), MX 25 W ρ m A h0 h F V G → Q none h) : ∀ (d i : Nat) (lv : List (Nat × Value)) (h : MH) (V : Nat → Nat → Int) (xi xn : Int32), i + d = 4096 → MX 25 W ρ m A h0 h F V G → xi.toInt = (i : Int) → xn.toInt = T → m_lk lv 0 = some (.ref (A 0)) → m_lk lv 1 = some (.int xz) → m_lk lv 2 = some (.int xi) → m_lk lv 3 = some (.int xn) → HJ 48 5 lv [] h Q := by
  intro d
  induction d with
  | zero =>
    intro i lv h V xi xn hd M qi qn e0 e1 e2 e3
    exact s_ft5 M e0 e1 rfl e2 qi e3 qn (by omega) (by omega) t1 hl hw (fun _ => g h V M) (fun h1 V1 x2 q2 lv2 M1 _ _ _ _ c => by omega)
  | succ d ih =>
    intro i lv h V xi xn hd M qi qn e0 e1 e2 e3
    exact s_ft5 M e0 e1 rfl e2 qi e3 qn (by omega) (by omega) t1 hl hw (fun _ => g h V M) (fun h1 V1 x2 q2 lv2 M1 d0 d1 d2 d3 _ => ih (i + 1) lv2 h1 V1 x2 xn (by omega) M1 (by omega) qn d0 d1 d2 d3)
theorem c_fillT {xz : Int32} (M : MX 25 W ρ m A h0 h F V G) (hw : d_sub [(26, 1001)] W = true) (g : ∀ (h' : MH) (V' : Nat → Nat → Int), MX 25 W ρ m A h0 h' F V' G → Q none h') : HJ 48 0 (lv_args 0 [.ref (A 0), .int xz]) [] h Q :=
  s_ft0 M rfl rfl rfl (fun x1 q1 x3 z3 q3 a3 b3 c3 lv4 d0 d1 d2 d3 => l_ft hw c3.symm b3 g 4096 0 lv4 h V x1 x3 rfl M q1 q3 d0 d1 d2 d3)
theorem c_ib {x : Int32} (g : ∀ y : Int32, Q (some (.int y)) h) : HJ 82 0 (lv_args 0 [.int x]) [] h Q := s_ib (y := x.toInt) rfl rfl (by intros; exact g _)
theorem l_pk {p : Int64} (M : MX 25 W ρ m A h0 h F V G) (g : ∀ x : Int32, 0 ≤ x.toInt → x.toInt < (2 : Int) ^ (F 3).toNat → Q (some (.int x)) h) : ∀ (d i : Nat) (lv : List (Nat × Value)) (xb xi : Int32), i + d = (F 3).toNat → xi.toInt = (i : Int) → 0 ≤ xb.toInt → xb.toInt < (2 : Int) ^ i → m_lk lv 0 = some (.ref m) → m_lk lv 1 = some (.long p) → m_lk lv 3 = some (.int xb) → m_lk lv 4 = some (.int xi) → HJ 159 5 lv [] h Q := by
  have b := M.fi (by decide) (k := 3) (lo := 0) (hi := 12) rfl rfl rfl
  intro d
  induction d with
  | zero =>
    intro i lv xb xi hd qi b0 b1 e0 e1 e3 e4
    have hd : i = (F 3).toNat := hd
    exact s_pk5 M e0 e1 e3 rfl e4 qi (by omega) (by omega) (fun _ _ _ => g xb b0 (by rw [← hd]; exact b1)) (fun x3 q3 x4 q4 x5 q5 x7 q7 lv7 _ _ _ _ a1 b1 c _ _ => by omega)
  | succ d ih =>
    intro i lv xb xi hd qi b0 b1 e0 e1 e3 e4
    exact s_pk5 M e0 e1 e3 rfl e4 qi (by omega) (by omega) (fun _ _ c => by omega) (fun x3 q3 x4 q4 x5 q5 x7 q7 lv7 d0 d1 d3 d4 _ _ c _ _ => by
      have k := pk_b qi (by omega) b0 b1 q3 q4
      exact ih (i + 1) lv7 x5 x7 (by omega) (by omega) (by rw [q5]; exact k.1) (by rw [q5]; exact k.2) d0 d1 d3 d4)
theorem c_packed {p : Int64} (M : MX 25 W ρ m A h0 h F V G) (g : ∀ x : Int32, 0 ≤ x.toInt → x.toInt < (2 : Int) ^ (F 3).toNat → Q (some (.int x)) h) : HJ 159 0 (lv_args 0 [.ref m, .long p]) [] h Q :=
  s_pk0 M rfl rfl (fun x1 q1 x3 q3 lv4 d0 d1 d3 d4 => l_pk M g (F 3).toNat 0 lv4 x1 x3 (by omega) q3 (by omega) (by rw [q1]; decide) d0 d1 d3 d4)
theorem l_up {xb : Int32} (M : MX 25 W ρ m A h0 h F V G) (g : ∀ y : Int64, Q (some (.long y)) h) : ∀ (d i : Nat) (lv : List (Nat × Value)) (y : Int64) (xi : Int32), i + d = 12 → xi.toInt = (i : Int) → m_lk lv 0 = some (.ref m) → m_lk lv 1 = some (.int xb) → m_lk lv 2 = some (.long y) → m_lk lv 4 = some (.int xi) → HJ 161 5 lv [] h Q := by
  have b := M.fi (by decide) (k := 3) (lo := 0) (hi := 12) rfl rfl rfl
  intro d
  induction d with
  | zero =>
    intro i lv y xi hd qi e0 e1 e2 e4
    exact s_up5 M e0 e1 rfl e2 e4 qi (by omega) (by omega) (fun _ _ _ => g _) (by intros; omega) (by intros; omega)
  | succ d ih =>
    intro i lv y xi hd qi e0 e1 e2 e4
    exact s_up5 M e0 e1 rfl e2 e4 qi (by omega) (by omega) (fun _ _ _ => g _) (fun z2 _ _ z4 _ _ x5 q5 lv5 d0 d1 d2 d4 _ _ _ _ => ih (i + 1) lv5 _ x5 (by omega) (by omega) d0 d1 d2 d4) (fun z2 _ _ z4 _ _ x6 q6 _ _ _ _ _ _ => c_bit (fun w => s_up34 M e0 e1 rfl e4 qi (by omega) (by omega) (fun x2 q2 lv2 d0 d1 d2 d4 => ih (i + 1) lv2 _ x2 (by omega) (by omega) d0 d1 d2 d4)))
theorem c_unp {xb : Int32} (M : MX 25 W ρ m A h0 h F V G) (g : ∀ y : Int64, Q (some (.long y)) h) : HJ 161 0 (lv_args 0 [.ref m, .int xb]) [] h Q :=
  s_up0 M rfl rfl rfl (fun x2 q2 lv3 d0 d1 d2 d4 => l_up M g 12 0 lv3 _ x2 rfl q2 d0 d1 d2 d4)
theorem l_sb12 {T : Int} {i : Nat} {xi : Int32} (hw : d_sub [(26, 1001)] W = true) (hl : ((h_k h0 (A 0)).2 : Int) = T) (tl : (2 : Int) ^ (F 3).toNat ≤ T) (t1 : T ≤ 4096) (qi : xi.toInt = (i : Int)) (i1 : (i : Int) < F 3) (f12 : F 3 ≤ 12) (g : ∀ (lv : List (Nat × Value)) (h : MH) (V : Nat → Nat → Int) (x : Int32), MX 25 W ρ m A h0 h F V G → x.toInt = (i : Int) + 1 → m_lk lv 0 = some (.ref m) → m_lk lv 1 = some (.int x) → HJ 160 2 lv [] h Q) : ∀ (d j : Nat) (lv : List (Nat × Value)) (h : MH) (V : Nat → Nat → Int) (xj : Int32), j + d = 4096 → MX 25 W ρ m A h0 h F V G → xj.toInt = (j : Int) → m_lk lv 0 = some (.ref m) → m_lk lv 1 = some (.int xi) → m_lk lv 2 = some (.int xj) → HJ 160 12 lv [] h Q := by
  intro d
  induction d with
  | zero =>
    intro j lv h V xj hd M qj e0 e1 e2
    exact s_sb12 M e0 e1 qi e2 qj (by omega) i1 (by omega) (by omega) f12 tl hl hw (fun x4 q4 lv4 d0 d1 _ _ _ _ => g lv4 h V x4 M q4 d0 d1) (by intros; omega) (by intros; omega)
  | succ d ih =>
    intro j lv h V xj hd M qj e0 e1 e2
    exact s_sb12 M e0 e1 qi e2 qj (by omega) i1 (by omega) (by omega) f12 tl hl hw (fun x4 q4 lv4 d0 d1 _ _ _ _ => g lv4 h V x4 M q4 d0 d1) (fun z5 _ _ z7 _ _ x8 q8 lv8 d0 d1 d2 _ _ _ _ => ih (j + 1) lv8 h V x8 (by omega) M (by omega) d0 d1 d2) (fun z5 _ _ z7 _ _ z9 _ _ z13 _ _ z14 _ _ h15 V15 x16 q16 lv16 M15 d0 d1 d2 _ _ _ _ => ih (j + 1) lv16 h15 V15 x16 (by omega) M15 (by omega) d0 d1 d2)
theorem l_sb2 {T : Int} (hw : d_sub [(26, 1001)] W = true) (hl : ((h_k h0 (A 0)).2 : Int) = T) (tl : (2 : Int) ^ (F 3).toNat ≤ T) (t1 : T ≤ 4096) (g : ∀ (h : MH) (V : Nat → Nat → Int), MX 25 W ρ m A h0 h F V G → Q none h) : ∀ (d i : Nat) (lv : List (Nat × Value)) (h : MH) (V : Nat → Nat → Int) (xi : Int32), i + d = 12 → MX 25 W ρ m A h0 h F V G → xi.toInt = (i : Int) → m_lk lv 0 = some (.ref m) → m_lk lv 1 = some (.int xi) → HJ 160 2 lv [] h Q := by
  intro d
  induction d with
  | zero =>
    intro i lv h V xi hd M qi e0 e1
    exact s_sb2 M e0 e1 qi (fun _ _ _ => g h V M) (by intros; omega)
  | succ d ih =>
    intro i lv h V xi hd M qi e0 e1
    exact s_sb2 M e0 e1 qi (fun _ _ _ => g h V M) (fun x2 q2 lv3 d0 d1 d2 _ b c => l_sb12 hw hl tl t1 qi c b (fun lv4 h4 V4 x4 M4 q4 f0 f1 => ih (i + 1) lv4 h4 V4 x4 (by omega) M4 (by omega) f0 f1) 4096 0 lv3 h V x2 rfl M q2 d0 d1 d2)
theorem c_sumB {T : Int} (M : MX 25 W ρ m A h0 h F V G) (hw : d_sub [(26, 1001)] W = true) (hl : ((h_k h0 (A 0)).2 : Int) = T) (tl : (2 : Int) ^ (F 3).toNat ≤ T) (t1 : T ≤ 4096) (g : ∀ (h : MH) (V : Nat → Nat → Int), MX 25 W ρ m A h0 h F V G → Q none h) : HJ 160 0 (lv_args 0 [.ref m]) [] h Q :=
  s_sb0 M rfl (fun x1 q1 lv2 d0 d1 => l_sb2 hw hl tl t1 g 12 0 lv2 h V x1 rfl M q1 d0 d1)
end
