-- BYTES TOLD: feed and end, on both sides
theorem HJ.both {i pc : Nat} {lv : List (Nat × Value)} {st : List Value} {h : MH} {Q1 Q2 Q : Option Value → MH → Prop} (a : HJ i pc lv st h Q1) (b : HJ i pc lv st h Q2) (c : ∀ v h', Q1 v h' → Q2 v h' → Q v h') : HJ i pc lv st h Q := by
  obtain ⟨v1, h1, ⟨n1, r1⟩, q1⟩ := a
  obtain ⟨v2, h2, ⟨n2, r2⟩, q2⟩ := b
  have e1 := m_upk n2 r1
  have e2 := m_upk n1 r2
  rw [Nat.add_comm, e1] at e2
  cases e2
  exact ⟨v1, h1, ⟨n1, r1⟩, c v1 h1 q1 q2⟩
-- one byte of a word, told on either side
def b_u (x : Int32) (z : Int) : Int := ((x.toUInt32 >>> ((Int32.ofInt z).toUInt32 &&& Int32.toUInt32 31)).toInt32.toInt8.toInt32).toInt
def b_s (x : Int32) (z : Int) : Int := ((x >>> ((Int32.ofInt z) &&& 31)).toInt8.toInt32).toInt
theorem b_8 (y : Int8) : -128 ≤ (y.toInt32).toInt ∧ (y.toInt32).toInt ≤ 127 := by
  rw [Int8.toInt_toInt32]
  have := Int8.toInt_lt y
  have := Int8.le_toInt y
  omega
theorem b_key (v : BitVec 32) (k : Nat) (hk : k ≤ 24) : (v >>> k).signExtend 8 = (v.sshiftRight k).signExtend 8 := by
  apply BitVec.eq_of_getLsbD_eq
  intro i hi
  rw [BitVec.getLsbD_signExtend, BitVec.getLsbD_signExtend, BitVec.getLsbD_ushiftRight, BitVec.getLsbD_sshiftRight, if_pos (show i < 32 by omega), if_pos (show i < 32 by omega), if_pos (show k + i < 32 by omega)]
  have e : decide (32 ≤ i) = false := decide_eq_false (by omega)
  rw [e]
  rfl
theorem b_us (x : Int32) (z : Int) (hz : z = 0 ∨ z = 8 ∨ z = 16 ∨ z = 24) : b_u x z = b_s x z := by
  unfold b_u b_s
  refine congrArg (fun y : Int8 => (y.toInt32).toInt) (Int8.toBitVec_inj.mp ?_)
  show (x.toBitVec >>> ((((Int32.ofInt z).toUInt32 &&& Int32.toUInt32 31).toBitVec % 32).toNat)).signExtend 8 = (x.toBitVec.sshiftRight (((Int32.ofInt z &&& 31 : Int32).toBitVec.smod 32).toNat)).signExtend 8
  rcases hz with rfl | rfl | rfl | rfl
  · rw [show (((Int32.ofInt 0).toUInt32 &&& Int32.toUInt32 31).toBitVec % 32).toNat = 0 by decide, show ((Int32.ofInt 0 &&& 31 : Int32).toBitVec.smod 32).toNat = 0 by decide]
    exact b_key _ _ (by decide)
  · rw [show (((Int32.ofInt 8).toUInt32 &&& Int32.toUInt32 31).toBitVec % 32).toNat = 8 by decide, show ((Int32.ofInt 8 &&& 31 : Int32).toBitVec.smod 32).toNat = 8 by decide]
    exact b_key _ _ (by decide)
  · rw [show (((Int32.ofInt 16).toUInt32 &&& Int32.toUInt32 31).toBitVec % 32).toNat = 16 by decide, show ((Int32.ofInt 16 &&& 31 : Int32).toBitVec.smod 32).toNat = 16 by decide]
    exact b_key _ _ (by decide)
  · rw [show (((Int32.ofInt 24).toUInt32 &&& Int32.toUInt32 31).toBitVec % 32).toNat = 24 by decide, show ((Int32.ofInt 24 &&& 31 : Int32).toBitVec.smod 32).toNat = 24 by decide]
    exact b_key _ _ (by decide)
section
variable {i pc pc' : Nat} {lv : List (Nat × Value)} {st : List Value} {h : MH} {Q : Option Value → MH → Prop}
theorem hM_bu {x y : Int32} {zy : Int} (a : m_at i pc = some (.iushr, 1)) (a2 : m_at i (pc + 1) = some (.i2b, 1)) (hy : y.toInt = zy) (hp : pc + 2 = pc') (g : ∀ w : Int32, w.toInt = b_u x zy → -128 ≤ b_u x zy → b_u x zy ≤ 127 → HJ i pc' lv (.int w :: st) h Q) : HJ i pc lv (.int y :: .int x :: st) h Q := by
  subst hp hy
  refine HJ.ex a (Or.inl rfl) rfl (hI_i2b a2 rfl (g _ ?_ ?_ ?_))
  · unfold b_u
    rw [Int32.ofInt_toInt]
  · exact (b_8 _).1
  · exact (b_8 _).2
theorem hM_bs_ {x y : Int32} {zy : Int} (a : m_at i pc = some (.ishr, 1)) (a2 : m_at i (pc + 1) = some (.i2b, 1)) (hy : y.toInt = zy) (hp : pc + 2 = pc') (g : ∀ w : Int32, w.toInt = b_s x zy → -128 ≤ b_s x zy → b_s x zy ≤ 127 → HJ i pc' lv (.int w :: st) h Q) : HJ i pc lv (.int y :: .int x :: st) h Q := by
  subst hp hy
  refine hI_ishr a rfl (hI_i2b a2 rfl (g _ ?_ ?_ ?_))
  · unfold b_s
    rw [Int32.ofInt_toInt]
  · exact (b_8 _).1
  · exact (b_8 _).2
end
section
variable {i pc pc' : Nat} {lv : List (Nat × Value)} {st : List Value} {Q : Option Value → MH → Prop} {R : Nat} {W : List (Nat × Nat)} {ρ : Nat → Nat} {m : Nat} {A : Nat → Nat} {h0 h : MH} {F : Nat → Int} {V : Nat → Nat → Int} {G : Nat → Nat → Int64}
-- the object's own fields stay as they were
theorem MX.gP (M : MX R W ρ m A h0 h F V G) (h16 : ρ 16 = 6) {k : Nat} (hk : k ≠ 1002) (hn : d_no [(6, k)] W = true) : h_r h 16 k = h_r h0 16 k := by
  have l := (M.1.1.2 16 (by rw [h16]; decide)).1
  have e : h_n h = h_n h0 := congrArg Prod.fst M.1.2.2.1
  exact ((M.1.2.2.2 16 (by omega)).2 k (by rw [h16]; exact d_noW hn (List.mem_singleton.mpr rfl) hk)).2.2
theorem hM_gP {idx nest k y : Nat} (M : MX R W ρ m A h0 h F V G) (h16 : ρ 16 = 6) (hy : h_r h0 16 k = y) (hn : d_no [(6, k)] W = true) (hk : k ≠ 1002) (a : m_at i pc = some (.getfield idx, 3)) (hf : m_fl i idx = some (nest, 8, k)) (ht : (m_ty 8 k).1 = 2) (hp : pc + 3 = pc') (g : HJ i pc' lv (.ref y :: st) h Q) : HJ i pc lv (.ref 16 :: st) h Q := by
  rw [← hy, ← M.gP h16 hk hn] at g
  exact hI_gr a hf ht (t_spec M.1.1 (by decide) (rfl : c_sp[6]? = some _) h16).1 hp g
theorem hM_go {idx nest c k o R2 : Nat} {rs : RS} (ht : TH c_sp ρ h) (hm : ρ o = R2) (hR : R2 ≠ 0) (hs : c_sp[R2]? = some rs) (hc : rs.1.1 = c + 1) (a : m_at i pc = some (.getfield idx, 3)) (hf : m_fl i idx = some (nest, c, k)) (hty : (m_ty c k).1 = 0) (hp : pc + 3 = pc') (g : ∀ x : Int32, x.toInt = (h_i h o k).toInt → HJ i pc' lv (.int x :: st) h Q) : HJ i pc lv (.ref o :: st) h Q := hI_gi a hf hty ((t_spec ht hR hs hm).1.trans hc) hp (g _ rfl)
end
theorem ok_7 : rg_okb 7 = true := by decide +kernel
-- the bytes of a word, of five
def f_4 (T : Nat → Int) (u : Nat) (x : Int32) : Nat → Int := m_u (m_u (m_u (m_u T u (b_u x 24)) (u + 1) (b_u x 16)) (u + 2) (b_u x 8)) (u + 3) (b_u x 0)
def f_20 (T : Nat → Int) (u : Nat) (a b c d e : Int32) : Nat → Int := f_4 (f_4 (f_4 (f_4 (f_4 T u a) (u + 4) b) (u + 8) c) (u + 12) d) (u + 16) e
theorem m_uR {T U : Nat → Int} {u v : Nat} {z : Int} (h : ∀ j, j < u → T j = U j) : ∀ j, j < u + 1 → m_u T u z j = m_u U u z j := fun j hj => by
  by_cases e : j = u
  · rw [e, m_uE, m_uE]
  · rw [m_uN _ _ _ _ e, m_uN _ _ _ _ e]
    exact h j (by omega)
theorem f_4R {T U : Nat → Int} {u : Nat} {x : Int32} (h : ∀ j, j < u → T j = U j) : ∀ j, j < u + 4 → f_4 T u x j = f_4 U u x j := m_uR (v := 0) (m_uR (v := 0) (m_uR (v := 0) (m_uR (v := 0) h)))
theorem f_20R {T U : Nat → Int} {u : Nat} {a b c d e : Int32} (h : ∀ j, j < u → T j = U j) : ∀ j, j < u + 20 → f_20 T u a b c d e j = f_20 U u a b c d e j := f_4R (f_4R (f_4R (f_4R (f_4R h))))
theorem f_4o {T : Nat → Int} {u : Nat} {x : Int32} {j : Nat} (h : u + 4 ≤ j) : f_4 T u x j = T j := by
  unfold f_4
  rw [m_uN _ _ _ _ (by omega), m_uN _ _ _ _ (by omega), m_uN _ _ _ _ (by omega), m_uN _ _ _ _ (by omega)]
theorem f_20o {T : Nat → Int} {u : Nat} {a b c d e : Int32} {j : Nat} (h : u + 20 ≤ j) : f_20 T u a b c d e j = T j := by
  unfold f_20
  rw [f_4o (by omega), f_4o (by omega), f_4o (by omega), f_4o (by omega), f_4o (by omega)]
section
variable {lv : List (Nat × Value)} {Q : Option Value → MH → Prop} {W : List (Nat × Nat)} {ρ : Nat → Nat} {m : Nat} {A : Nat → Nat} {h0 h : MH} {F : Nat → Int} {V : Nat → Nat → Int} {G : Nat → Nat → Int64}
theorem s_mfo0 {x : Int} (M : MX 49 W ρ m A h0 h F V G) (e0 : m_lk lv 0 = some (.ref m)) {lx1 : Int32} (e1 : m_lk lv 1 = some (.int lx1)) (lq1 : lx1.toInt = x) 
    (g0 : ∀ x1 : Int32, x1.toInt = 24 → ∀ lv2 : List (Nat × Value), m_lk lv2 0 = some (.ref m) → m_lk lv2 1 = some (.int lx1) → m_lk lv2 2 = some (.int x1) → HJ 184 3 lv2 [] h Q)
    : HJ 184 0 lv [] h Q := by
  refine hM_bp (n := 24) rfl (by decide) rfl (fun x1 q1 => ?_) -- 0
  refine hM_si (k := 2) rfl (by decide +kernel) rfl (fun lv2 e2_2 u2 => ?_) -- 2
  have e2_0 := u2 0 _ (by decide) (Or.inl rfl) e0
  have e2_1 := u2 1 _ (by decide) (Or.inl rfl) e1
  exact g0 x1 q1 lv2 e2_0 e2_1 e2_2
theorem s_mfo3 {x k : Int} (M : MX 49 W ρ m A h0 h F V G) (e0 : m_lk lv 0 = some (.ref m)) {lx1 : Int32} (e1 : m_lk lv 1 = some (.int lx1)) (lq1 : lx1.toInt = x) {lx2 : Int32} (e2 : m_lk lv 2 = some (.int lx2)) (lq2 : lx2.toInt = k) (k0 : 0 ≤ k → V 2 (0 : Int).toNat ≤ 599) (k1 : -8 ≤ k) (k2 : k ≤ 24)(hw : d_sub [(50, 1001), (51, 1001)] W = true)
    (g0 : k < 0 → Q none h)
    (g1 : ∀ h4 : MH, ∀ V4 : Nat → Nat → Int, V4 = m_u V 1 (m_u (V 1) (V 2 (0 : Int).toNat).toNat (b_s lx1 (k))) → ∀ h9 : MH, ∀ V9 : Nat → Nat → Int, V9 = m_u V4 2 (m_u (V4 2) (0 : Int).toNat ((V 2 (0 : Int).toNat) + 1)) → ∀ x10 : Int32, x10.toInt = k + (-8) → ∀ lv10 : List (Nat × Value), MX 49 W ρ m A h0 h9 F V9 G → m_lk lv10 0 = some (.ref m) → m_lk lv10 1 = some (.int lx1) → m_lk lv10 2 = some (.int x10) → k ≥ 0 → 0 ≤ V 2 (0 : Int).toNat → V 2 (0 : Int).toNat ≤ 600 → -128 ≤ b_s lx1 (k) → b_s lx1 (k) ≤ 127 → HJ 184 3 lv10 [] h9 Q)
    : HJ 184 3 lv [] h Q := by
  refine hI_il (k := 2) rfl e2 rfl ?_ -- 3
  refine hM_zlt (off := 34) (t := 38) rfl lq2 (by decide) rfl (fun c4 => ?_) (fun c4 => ?_) -- 4
  · refine hI_rv rfl rfl ?_
    exact g0 c4
  · refine hI_al (k := 0) rfl e0 rfl ?_ -- 7
    refine hM_ga M (by decide) rfl rfl (k := 1) (c := 9) rfl rfl rfl (by decide +kernel) rfl ?_ -- 8
    refine hI_al (k := 0) rfl e0 rfl ?_ -- 11
    refine hM_ga M (by decide) rfl rfl (k := 2) (c := 9) rfl rfl rfl (by decide +kernel) rfl ?_ -- 12
    refine hM_ic (n := 0) rfl (by decide) rfl (fun x1 q1 => ?_) -- 15
    refine hM_ia M (by decide) (K := 2) (R2 := 51) (L := 4) (H := 4) (lo := 0) (hi := 600) rfl (by decide) rfl rfl (fun _ => rfl) rfl q1 (by omega) (by omega) rfl (fun x2 q2 a2 b2 => ?_) -- 16
    refine hI_il (k := 1) rfl e1 rfl ?_ -- 17
    refine hI_il (k := 2) rfl e2 rfl ?_ -- 18
    refine hM_bs_ rfl rfl lq2 rfl (fun x3 q3 a3 b3 => ?_) -- 19
    refine hM_bs M (by decide) ok_49 (K := 1) (R2 := 50) (L := 2400) (H := 2400) (lo := (-128)) (hi := 127) rfl (by decide) rfl rfl rfl (fun _ => rfl) (by decide) (by decide) (d_subm hw (by decide +kernel)) rfl q2 q3 (by omega) (by omega) (by omega) (by omega) rfl (fun h4 V4 f4 M4 => ?_) -- 21
    refine hI_al (k := 0) rfl e0 rfl ?_ -- 22
    refine hM_ga M4 (by decide) rfl rfl (k := 2) (c := 9) rfl rfl rfl (by decide +kernel) rfl ?_ -- 23
    refine hM_ic (n := 0) rfl (by decide) rfl (fun x5 q5 => ?_) -- 26
    refine hI_dup2 rfl rfl rfl rfl ?_ -- 27
    refine hM_ia M4 (by decide) (K := 2) (R2 := 51) (L := 4) (H := 4) (lo := 0) (hi := 600) rfl (by decide) rfl rfl (fun _ => rfl) rfl q5 (by omega) (by omega) rfl (fun x6 q6 a6 b6 => ?_) -- 28
    have q6 : x6.toInt = V 2 (0 : Int).toNat := by rw [q6, f4]; rfl
    rw [f4] at a6 b6
    change 0 ≤ V 2 (0 : Int).toNat at a6
    change V 2 (0 : Int).toNat ≤ 600 at b6 -- 28
    refine hM_ic (n := 1) rfl (by decide) rfl (fun x7 q7 => ?_) -- 29
    refine hM_add rfl q6 q7 (by omega) (by omega) rfl (fun x8 q8 => ?_) -- 30
    refine hM_is M4 (by decide) ok_49 (K := 2) (R2 := 51) (L := 4) (H := 4) (lo := 0) (hi := 600) rfl (by decide) rfl rfl rfl (fun _ => rfl) (d_subm hw (by decide +kernel)) rfl q5 q8 (by omega) (by omega) (by omega) (by omega) rfl (fun h9 V9 f9 M9 => ?_) -- 31
    refine hM_inc (k := 2) (z := (-8)) rfl e2 lq2 (by decide) (by omega) (by omega) (by decide +kernel) rfl (fun lv10 x10 q10 e10_2 u10 => ?_) -- 32
    have e10_0 := u10 0 _ (by decide) (Or.inl rfl) e0
    have e10_1 := u10 1 _ (by decide) (Or.inl rfl) e1
    refine hI_go (pc' := 3) (off := (-32)) rfl (by decide) ?_ -- 35
    exact g1 h4 V4 f4 h9 V9 f9 x10 q10 lv10 M9 e10_0 e10_1 e10_2 c4 a2 b2 a3 b3
theorem s_ap0 {x : Int} (M : MX 7 W ρ m A h0 h F V G) (e0 : m_lk lv 0 = some (.ref m)) {lx1 : Int32} (e1 : m_lk lv 1 = some (.int lx1)) (lq1 : lx1.toInt = x) 
    (g0 : ∀ x1 : Int32, x1.toInt = 24 → ∀ lv2 : List (Nat × Value), m_lk lv2 0 = some (.ref m) → m_lk lv2 1 = some (.int lx1) → m_lk lv2 2 = some (.int x1) → HJ 8 3 lv2 [] h Q)
    : HJ 8 0 lv [] h Q := by
  refine hM_bp (n := 24) rfl (by decide) rfl (fun x1 q1 => ?_) -- 0
  refine hM_si (k := 2) rfl (by decide +kernel) rfl (fun lv2 e2_2 u2 => ?_) -- 2
  have e2_0 := u2 0 _ (by decide) (Or.inl rfl) e0
  have e2_1 := u2 1 _ (by decide) (Or.inl rfl) e1
  exact g0 x1 q1 lv2 e2_0 e2_1 e2_2
theorem s_ap3 {x k : Int} (M : MX 7 W ρ m A h0 h F V G) (e0 : m_lk lv 0 = some (.ref m)) {lx1 : Int32} (e1 : m_lk lv 1 = some (.int lx1)) (lq1 : lx1.toInt = x) {lx2 : Int32} (e2 : m_lk lv 2 = some (.int lx2)) (lq2 : lx2.toInt = k) (k1 : -8 ≤ k) (k2 : k ≤ 24)(hw : d_sub [(13, 1001), (7, 2)] W = true)
    (g0 : k < 0 → Q none h)
    (g1 : k ≥ 0 → 0 ≤ F 2 → F 2 ≤ 600 → F 2 ≥ 600 → Q none h)
    (g2 : ∀ h5 : MH, ∀ V5 : Nat → Nat → Int, V5 = m_u V 0 (m_u (V 0) (F 2).toNat (b_u lx1 (k))) → ∀ h9 : MH, ∀ F9 : Nat → Int, F9 = m_u F 2 ((F 2) + 1) → ∀ x10 : Int32, x10.toInt = k + (-8) → ∀ lv10 : List (Nat × Value), MX 7 W ρ m A h0 h9 F9 V5 G → m_lk lv10 0 = some (.ref m) → m_lk lv10 1 = some (.int lx1) → m_lk lv10 2 = some (.int x10) → k ≥ 0 → 0 ≤ F 2 → F 2 ≤ 600 → F 2 < 600 → -128 ≤ b_u lx1 (k) → b_u lx1 (k) ≤ 127 → HJ 8 3 lv10 [] h9 Q)
    : HJ 8 3 lv [] h Q := by
  refine hI_il (k := 2) rfl e2 rfl ?_ -- 3
  refine hM_zlt (off := 42) (t := 46) rfl lq2 (by decide) rfl (fun c4 => ?_) (fun c4 => ?_) -- 4
  · refine hI_rv rfl rfl ?_
    exact g0 c4
  · refine hI_al (k := 0) rfl e0 rfl ?_ -- 7
    refine hM_gi M (by decide) rfl rfl rfl (k := 2) (c := 6) (lo := 0) (hi := 600) rfl rfl rfl rfl rfl (fun x1 q1 a1 b1 => ?_) -- 8
    refine hM_sp (n := 600) rfl (by decide) rfl (fun x2 q2 => ?_) -- 11
    refine hM_cge (off := 32) (t := 46) rfl q1 q2 (by decide) rfl (fun c14 => ?_) (fun c14 => ?_) -- 14
    · refine hI_rv rfl rfl ?_
      exact g1 c4 a1 b1 c14
    · refine hI_al (k := 0) rfl e0 rfl ?_ -- 17
      refine hM_ga M (by decide) rfl rfl (k := 0) (c := 6) rfl rfl rfl (by decide +kernel) rfl ?_ -- 18
      refine hI_al (k := 0) rfl e0 rfl ?_ -- 21
      refine hM_gi M (by decide) rfl rfl rfl (k := 2) (c := 6) (lo := 0) (hi := 600) rfl rfl rfl rfl rfl (fun x3 q3 a3 b3 => ?_) -- 22
      refine hI_il (k := 1) rfl e1 rfl ?_ -- 25
      refine hI_il (k := 2) rfl e2 rfl ?_ -- 26
      refine hM_bu rfl rfl lq2 rfl (fun x4 q4 a4 b4 => ?_) -- 27
      refine hM_bs M (by decide) ok_7 (K := 0) (R2 := 13) (L := 600) (H := 600) (lo := (-128)) (hi := 127) rfl (by decide) rfl rfl rfl (fun _ => rfl) (by decide) (by decide) (d_subm hw (by decide +kernel)) rfl q3 q4 (by omega) (by omega) (by omega) (by omega) rfl (fun h5 V5 f5 M5 => ?_) -- 29
      refine hI_al (k := 0) rfl e0 rfl ?_ -- 30
      refine hI_dup rfl rfl rfl ?_ -- 31
      refine hM_gi M5 (by decide) rfl rfl rfl (k := 2) (c := 6) (lo := 0) (hi := 600) rfl rfl rfl rfl rfl (fun x6 q6 a6 b6 => ?_) -- 32
      refine hM_ic (n := 1) rfl (by decide) rfl (fun x7 q7 => ?_) -- 35
      refine hM_add rfl q6 q7 (by omega) (by omega) rfl (fun x8 q8 => ?_) -- 36
      refine hM_pi M5 (by decide) ok_7 rfl rfl (k := 2) (c := 6) (lo := 0) (hi := 600) rfl rfl ⟨by decide, by decide +kernel, rfl⟩ rfl (d_subm hw (by decide +kernel)) q8 (by omega) (by omega) rfl (fun h9 F9 f9 M9 => ?_) -- 37
      refine hM_inc (k := 2) (z := (-8)) rfl e2 lq2 (by decide) (by omega) (by omega) (by decide +kernel) rfl (fun lv10 x10 q10 e10_2 u10 => ?_) -- 40
      have e10_0 := u10 0 _ (by decide) (Or.inl rfl) e0
      have e10_1 := u10 1 _ (by decide) (Or.inl rfl) e1
      refine hI_go (pc' := 3) (off := (-40)) rfl (by decide) ?_ -- 43
      exact g2 h5 V5 f5 h9 F9 f9 x10 q10 lv10 M9 e10_0 e10_1 e10_2 c4 a1 b1 c14 a4 b4
theorem l_fo {k : Int} {u : Nat} {xx xk : Int32} (M : MX 49 W ρ m A h0 h F V G) (hw : d_sub [(50, 1001), (51, 1001)] W = true) (q : V 2 0 = (u : Int)) (u6 : u ≤ 599) (hk : k = 0 ∨ k = 8 ∨ k = 16 ∨ k = 24) (qk : xk.toInt = k) (e0 : m_lk lv 0 = some (.ref m)) (e1 : m_lk lv 1 = some (.int xx)) (e2 : m_lk lv 2 = some (.int xk)) (g : ∀ (h' : MH) (V' : Nat → Nat → Int) (x2 : Int32) (lv' : List (Nat × Value)), MX 49 W ρ m A h0 h' F V' G → V' 1 = m_u (V 1) u (b_u xx k) → V' 2 0 = ((u + 1 : Nat) : Int) → (∀ j, j ≠ 0 → V' 2 j = V 2 j) → (∀ K, K ≠ 1 → K ≠ 2 → V' K = V K) → x2.toInt = k - 8 → m_lk lv' 0 = some (.ref m) → m_lk lv' 1 = some (.int xx) → m_lk lv' 2 = some (.int x2) → HJ 184 3 lv' [] h' Q) : HJ 184 3 lv [] h Q := by
  refine s_mfo3 M e0 e1 rfl e2 qk (fun _ => by show V 2 0 ≤ 599; omega) (by omega) (by omega) hw (fun c => by omega) (fun h4 V4 f4 h9 V9 f9 x10 q10 lv10 M9 d0 d1 d2 _ _ _ _ _ => ?_)
  have f4 : V4 = m_u V 1 (m_u (V 1) (V 2 0).toNat (b_s xx k)) := f4
  have f9 : V9 = m_u V4 2 (m_u (V4 2) 0 (V 2 0 + 1)) := f9
  have hu : (V 2 0).toNat = u := by omega
  rw [hu, ← b_us xx k hk] at f4
  refine g h9 V9 x10 lv10 M9 ?_ ?_ (fun j hj => ?_) (fun K k1 k2 => ?_) (by omega) d0 d1 d2
  · rw [f9, m_uN _ _ _ _ (by decide), f4, m_uE]
  · rw [f9, m_uE, m_uE]
    omega
  · rw [f9, m_uE, m_uN _ _ _ _ hj, f4, m_uN _ _ _ _ (by decide)]
  · rw [f9, m_uN _ _ _ _ k2, f4, m_uN _ _ _ _ k1]
theorem c_four {u : Nat} {xx : Int32} (M : MX 49 W ρ m A h0 h F V G) (hw : d_sub [(50, 1001), (51, 1001)] W = true) (q : V 2 0 = (u : Int)) (u6 : u ≤ 596) (g : ∀ (h' : MH) (V' : Nat → Nat → Int), MX 49 W ρ m A h0 h' F V' G → V' 1 = f_4 (V 1) u xx → V' 2 0 = ((u + 4 : Nat) : Int) → (∀ j, j ≠ 0 → V' 2 j = V 2 j) → (∀ K, K ≠ 1 → K ≠ 2 → V' K = V K) → Q none h') : HJ 184 0 (lv_args 0 [.ref m, .int xx]) [] h Q := by
  refine s_mfo0 M rfl rfl rfl (fun x1 q1 lv2 a0 a1 a2 => l_fo M hw q (by omega) (by decide) q1 a0 a1 a2 (fun h1 V1 y1 lv3 M1 v1 s1 o1 r1 p1 b0 b1 b2 => ?_))
  refine l_fo M1 hw s1 (by omega) (k := 16) (by decide) (by omega) b0 b1 b2 (fun h2 V2 y2 lv4 M2 v2 s2 o2 r2 p2 c0 c1 c2 => ?_)
  refine l_fo M2 hw s2 (by omega) (k := 8) (by decide) (by omega) c0 c1 c2 (fun h3 V3 y3 lv5 M3 v3 s3 o3 r3 p3 d0 d1 d2 => ?_)
  refine l_fo M3 hw s3 (by omega) (k := 0) (by decide) (by omega) d0 d1 d2 (fun h4 V4 y4 lv6 M4 v4 s4 o4 r4 p4 i0 i1 i2 => ?_)
  refine s_mfo3 M4 i0 i1 rfl i2 p4 (fun c => absurd c (by decide)) (by decide) (by decide) hw (fun _ => g h4 V4 M4 ?_ s4 (fun j hj => ?_) (fun K k1 k2 => ?_)) (fun _ _ _ _ _ _ _ _ _ _ _ _ _ c => absurd c (by decide))
  · rw [v4, v3, v2, v1]
    rfl
  · rw [o4 j hj, o3 j hj, o2 j hj, o1 j hj]
  · rw [r4 K k1 k2, r3 K k1 k2, r2 K k1 k2, r1 K k1 k2]
theorem l_ap {k : Int} {u : Nat} {xx xk : Int32} (M : MX 7 W ρ m A h0 h F V G) (hw : d_sub [(13, 1001), (7, 2)] W = true) (q : F 2 = (u : Int)) (u6 : u ≤ 599) (hk : 0 ≤ k) (k24 : k ≤ 24) (qk : xk.toInt = k) (e0 : m_lk lv 0 = some (.ref m)) (e1 : m_lk lv 1 = some (.int xx)) (e2 : m_lk lv 2 = some (.int xk)) (g : ∀ (h' : MH) (F' : Nat → Int) (V' : Nat → Nat → Int) (x2 : Int32) (lv' : List (Nat × Value)), MX 7 W ρ m A h0 h' F' V' G → V' 0 = m_u (V 0) u (b_u xx k) → F' 2 = ((u + 1 : Nat) : Int) → (∀ K, K ≠ 2 → F' K = F K) → x2.toInt = k - 8 → m_lk lv' 0 = some (.ref m) → m_lk lv' 1 = some (.int xx) → m_lk lv' 2 = some (.int x2) → HJ 8 3 lv' [] h' Q) : HJ 8 3 lv [] h Q := by
  refine s_ap3 M e0 e1 rfl e2 qk (by omega) k24 hw (fun c => by omega) (fun _ _ _ c => by omega) (fun h5 V5 f5 h9 F9 f9 x10 q10 lv10 M9 d0 d1 d2 _ _ _ _ _ _ => ?_)
  have hu : (F 2).toNat = u := by omega
  rw [hu] at f5
  refine g h9 F9 V5 x10 lv10 M9 ?_ ?_ (fun K k2 => ?_) (by omega) d0 d1 d2
  · rw [f5, m_uE]
  · rw [f9, m_uE]
    omega
  · rw [f9, m_uN _ _ _ _ k2]
theorem c_app {u : Nat} {xx : Int32} (M : MX 7 W ρ m A h0 h F V G) (hw : d_sub [(13, 1001), (7, 2)] W = true) (q : F 2 = (u : Int)) (u6 : u ≤ 596) (g : ∀ (h' : MH) (F' : Nat → Int) (V' : Nat → Nat → Int), MX 7 W ρ m A h0 h' F' V' G → V' 0 = f_4 (V 0) u xx → F' 2 = ((u + 4 : Nat) : Int) → (∀ K, K ≠ 2 → F' K = F K) → Q none h') : HJ 8 0 (lv_args 0 [.ref m, .int xx]) [] h Q := by
  refine s_ap0 M rfl rfl rfl (fun x1 q1 lv2 a0 a1 a2 => l_ap M hw q (by omega) (by decide) (by decide) q1 a0 a1 a2 (fun h1 F1 V1 y1 lv3 M1 v1 s1 o1 p1 b0 b1 b2 => ?_))
  refine l_ap M1 hw s1 (by omega) (k := 16) (by decide) (by decide) (by omega) b0 b1 b2 (fun h2 F2 V2 y2 lv4 M2 v2 s2 o2 p2 c0 c1 c2 => ?_)
  refine l_ap M2 hw s2 (by omega) (k := 8) (by decide) (by decide) (by omega) c0 c1 c2 (fun h3 F3 V3 y3 lv5 M3 v3 s3 o3 p3 d0 d1 d2 => ?_)
  refine l_ap M3 hw s3 (by omega) (k := 0) (by decide) (by decide) (by omega) d0 d1 d2 (fun h4 F4 V4 y4 lv6 M4 v4 s4 o4 p4 i0 i1 i2 => ?_)
  refine s_ap3 M4 i0 i1 rfl i2 p4 (by decide) (by decide) hw (fun _ => g h4 F4 V4 M4 ?_ s4 (fun K k2 => ?_)) (fun c => absurd c (by decide)) (fun _ _ _ _ _ _ _ _ _ _ _ _ _ c => absurd c (by decide))
  · rw [v4, v3, v2, v1]
    rfl
  · rw [o4 K k2, o3 K k2, o2 K k2, o1 K k2]
theorem s_mf0 {a b c d e : Int} (M : MX 49 W ρ m A h0 h F V G) (e0 : m_lk lv 0 = some (.ref m)) {lx1 : Int32} (e1 : m_lk lv 1 = some (.int lx1)) (lq1 : lx1.toInt = a) {lx2 : Int32} (e2 : m_lk lv 2 = some (.int lx2)) (lq2 : lx2.toInt = b) {lx3 : Int32} (e3 : m_lk lv 3 = some (.int lx3)) (lq3 : lx3.toInt = c) {lx4 : Int32} (e4 : m_lk lv 4 = some (.int lx4)) (lq4 : lx4.toInt = d) {lx5 : Int32} (e5 : m_lk lv 5 = some (.int lx5)) (lq5 : lx5.toInt = e) (hw : d_sub [(49, 0)] W = true)
    (g0 : ∀ h2 : MH, ∀ F2 : Nat → Int, F2 = m_u F 0 (0) → MX 49 W ρ m A h0 h2 F2 V G → 0 ≤ V 2 (0 : Int).toNat → V 2 (0 : Int).toNat ≤ 600 → (V 2 (0 : Int).toNat) + 20 ≤ 600 → HJ 184 0 (lv_args 0 [.ref m, .int lx1]) [] h2 (fun v h' => HJ 183 27 lv (v.toList ++ []) h' Q))
    (g1 : ∀ h2 : MH, ∀ F2 : Nat → Int, F2 = m_u F 0 (0) → ∀ x8 : Int32, x8.toInt = (-1) → MX 49 W ρ m A h0 h2 F2 V G → 0 ≤ V 2 (0 : Int).toNat → V 2 (0 : Int).toNat ≤ 600 → (V 2 (0 : Int).toNat) + 20 > 600 → Q (some (.int x8)) h2)
    : HJ 183 0 lv [] h Q := by
  refine hI_al (k := 0) rfl e0 rfl ?_ -- 0
  refine hM_ic (n := 0) rfl (by decide) rfl (fun x1 q1 => ?_) -- 1
  refine hM_pi M (by decide) ok_49 rfl rfl (k := 0) (c := 9) (lo := (-2147483648)) (hi := 2147483647) rfl rfl ⟨by decide, by decide +kernel, rfl⟩ rfl (d_subm hw (by decide +kernel)) q1 (by omega) (by omega) rfl (fun h2 F2 f2 M2 => ?_) -- 2
  refine hI_al (k := 0) rfl e0 rfl ?_ -- 5
  refine hM_ga M2 (by decide) rfl rfl (k := 2) (c := 9) rfl rfl rfl (by decide +kernel) rfl ?_ -- 6
  refine hM_ic (n := 0) rfl (by decide) rfl (fun x3 q3 => ?_) -- 9
  refine hM_ia M2 (by decide) (K := 2) (R2 := 51) (L := 4) (H := 4) (lo := 0) (hi := 600) rfl (by decide) rfl rfl (fun _ => rfl) rfl q3 (by omega) (by omega) rfl (fun x4 q4 a4 b4 => ?_) -- 10
  refine hM_bp (n := 20) rfl (by decide) rfl (fun x5 q5 => ?_) -- 11
  refine hM_add rfl q4 q5 (by omega) (by omega) rfl (fun x6 q6 => ?_) -- 13
  refine hM_sp (n := 600) rfl (by decide) rfl (fun x7 q7 => ?_) -- 14
  refine hM_cle (off := 5) (t := 22) rfl q6 q7 (by decide) rfl (fun c17 => ?_) (fun c17 => ?_) -- 17
  · refine hI_al (k := 0) rfl e0 rfl ?_ -- 22
    refine hI_il (k := 1) rfl e1 rfl ?_ -- 23
    refine hM_iv M2 (by decide) rfl rfl (by decide) (as := [.int lx1]) (r := []) rfl rfl (by decide +kernel) rfl (by decide +kernel) rfl rfl rfl rfl rfl ?_ -- 24
    exact g0 h2 F2 f2 M2 a4 b4 c17
  · refine hM_ic (n := (-1)) rfl (by decide) rfl (fun x8 q8 => ?_) -- 20
    refine hI_ri rfl rfl ?_ -- 21
    exact g1 h2 F2 f2 x8 q8 M2 a4 b4 c17
theorem s_mf27 {a b c d e : Int} (M : MX 49 W ρ m A h0 h F V G) (e0 : m_lk lv 0 = some (.ref m)) {lx1 : Int32} (e1 : m_lk lv 1 = some (.int lx1)) (lq1 : lx1.toInt = a) {lx2 : Int32} (e2 : m_lk lv 2 = some (.int lx2)) (lq2 : lx2.toInt = b) {lx3 : Int32} (e3 : m_lk lv 3 = some (.int lx3)) (lq3 : lx3.toInt = c) {lx4 : Int32} (e4 : m_lk lv 4 = some (.int lx4)) (lq4 : lx4.toInt = d) {lx5 : Int32} (e5 : m_lk lv 5 = some (.int lx5)) (lq5 : lx5.toInt = e) 
    (g0 : HJ 184 0 (lv_args 0 [.ref m, .int lx2]) [] h (fun v h' => HJ 183 32 lv (v.toList ++ []) h' Q))
    : HJ 183 27 lv [] h Q := by
  refine hI_al (k := 0) rfl e0 rfl ?_ -- 27
  refine hI_il (k := 2) rfl e2 rfl ?_ -- 28
  refine hM_iv M (by decide) rfl rfl (by decide) (as := [.int lx2]) (r := []) rfl rfl (by decide +kernel) rfl (by decide +kernel) rfl rfl rfl rfl rfl ?_ -- 29
  exact g0 
theorem s_mf32 {a b c d e : Int} (M : MX 49 W ρ m A h0 h F V G) (e0 : m_lk lv 0 = some (.ref m)) {lx1 : Int32} (e1 : m_lk lv 1 = some (.int lx1)) (lq1 : lx1.toInt = a) {lx2 : Int32} (e2 : m_lk lv 2 = some (.int lx2)) (lq2 : lx2.toInt = b) {lx3 : Int32} (e3 : m_lk lv 3 = some (.int lx3)) (lq3 : lx3.toInt = c) {lx4 : Int32} (e4 : m_lk lv 4 = some (.int lx4)) (lq4 : lx4.toInt = d) {lx5 : Int32} (e5 : m_lk lv 5 = some (.int lx5)) (lq5 : lx5.toInt = e) 
    (g0 : HJ 184 0 (lv_args 0 [.ref m, .int lx3]) [] h (fun v h' => HJ 183 37 lv (v.toList ++ []) h' Q))
    : HJ 183 32 lv [] h Q := by
  refine hI_al (k := 0) rfl e0 rfl ?_ -- 32
  refine hI_il (k := 3) rfl e3 rfl ?_ -- 33
  refine hM_iv M (by decide) rfl rfl (by decide) (as := [.int lx3]) (r := []) rfl rfl (by decide +kernel) rfl (by decide +kernel) rfl rfl rfl rfl rfl ?_ -- 34
  exact g0 
theorem s_mf37 {a b c d e : Int} (M : MX 49 W ρ m A h0 h F V G) (e0 : m_lk lv 0 = some (.ref m)) {lx1 : Int32} (e1 : m_lk lv 1 = some (.int lx1)) (lq1 : lx1.toInt = a) {lx2 : Int32} (e2 : m_lk lv 2 = some (.int lx2)) (lq2 : lx2.toInt = b) {lx3 : Int32} (e3 : m_lk lv 3 = some (.int lx3)) (lq3 : lx3.toInt = c) {lx4 : Int32} (e4 : m_lk lv 4 = some (.int lx4)) (lq4 : lx4.toInt = d) {lx5 : Int32} (e5 : m_lk lv 5 = some (.int lx5)) (lq5 : lx5.toInt = e) 
    (g0 : HJ 184 0 (lv_args 0 [.ref m, .int lx4]) [] h (fun v h' => HJ 183 43 lv (v.toList ++ []) h' Q))
    : HJ 183 37 lv [] h Q := by
  refine hI_al (k := 0) rfl e0 rfl ?_ -- 37
  refine hI_il2 (k := 4) rfl e4 rfl ?_ -- 38
  refine hM_iv M (by decide) rfl rfl (by decide) (as := [.int lx4]) (r := []) rfl rfl (by decide +kernel) rfl (by decide +kernel) rfl rfl rfl rfl rfl ?_ -- 40
  exact g0 
theorem s_mf43 {a b c d e : Int} (M : MX 49 W ρ m A h0 h F V G) (e0 : m_lk lv 0 = some (.ref m)) {lx1 : Int32} (e1 : m_lk lv 1 = some (.int lx1)) (lq1 : lx1.toInt = a) {lx2 : Int32} (e2 : m_lk lv 2 = some (.int lx2)) (lq2 : lx2.toInt = b) {lx3 : Int32} (e3 : m_lk lv 3 = some (.int lx3)) (lq3 : lx3.toInt = c) {lx4 : Int32} (e4 : m_lk lv 4 = some (.int lx4)) (lq4 : lx4.toInt = d) {lx5 : Int32} (e5 : m_lk lv 5 = some (.int lx5)) (lq5 : lx5.toInt = e) 
    (g0 : HJ 184 0 (lv_args 0 [.ref m, .int lx5]) [] h (fun v h' => HJ 183 49 lv (v.toList ++ []) h' Q))
    : HJ 183 43 lv [] h Q := by
  refine hI_al (k := 0) rfl e0 rfl ?_ -- 43
  refine hI_il2 (k := 5) rfl e5 rfl ?_ -- 44
  refine hM_iv M (by decide) rfl rfl (by decide) (as := [.int lx5]) (r := []) rfl rfl (by decide +kernel) rfl (by decide +kernel) rfl rfl rfl rfl rfl ?_ -- 46
  exact g0 
theorem s_mf49 (M : MX 49 W ρ m A h0 h F V G) (e0 : m_lk lv 0 = some (.ref m)) 
    (g0 : ∀ x2 : Int32, x2.toInt = V 2 (0 : Int).toNat → 0 ≤ V 2 (0 : Int).toNat → V 2 (0 : Int).toNat ≤ 600 → Q (some (.int x2)) h)
    : HJ 183 49 lv [] h Q := by
  refine hI_al (k := 0) rfl e0 rfl ?_ -- 49
  refine hM_ga M (by decide) rfl rfl (k := 2) (c := 9) rfl rfl rfl (by decide +kernel) rfl ?_ -- 50
  refine hM_ic (n := 0) rfl (by decide) rfl (fun x1 q1 => ?_) -- 53
  refine hM_ia M (by decide) (K := 2) (R2 := 51) (L := 4) (H := 4) (lo := 0) (hi := 600) rfl (by decide) rfl rfl (fun _ => rfl) rfl q1 (by omega) (by omega) rfl (fun x2 q2 a2 b2 => ?_) -- 54
  refine hI_ri rfl rfl ?_ -- 55
  exact g0 x2 q2 a2 b2
def w_mfd : List (Nat × Nat) := [(49, 0), (50, 1001), (51, 1001)]
theorem c_mfeed {u : Nat} {xa xb xc xd xe : Int32} (M : MX 49 W ρ m A h0 h F V G) (hw : d_sub w_mfd W = true) (q : V 2 0 = (u : Int)) (g : ∀ (x : Int32) (h' : MH) (F' : Nat → Int) (V' : Nat → Nat → Int), MX 49 W ρ m A h0 h' F' V' G → (x.toInt = -1 ∧ 581 ≤ u ∧ V' = V) ∨ (x.toInt = ((u + 20 : Nat) : Int) ∧ u ≤ 580 ∧ V' 1 = f_20 (V 1) u xa xb xc xd xe ∧ V' 2 0 = ((u + 20 : Nat) : Int) ∧ (∀ j, j ≠ 0 → V' 2 j = V 2 j) ∧ ∀ K, K ≠ 1 → K ≠ 2 → V' K = V K) → Q (some (.int x)) h') : HJ 183 0 (lv_args 0 [.ref m, .int xa, .int xb, .int xc, .int xd, .int xe]) [] h Q := by
  have hf : d_sub [(50, 1001), (51, 1001)] W = true := d_subm hw (by decide +kernel)
  refine s_mf0 M rfl rfl rfl rfl rfl rfl rfl rfl rfl rfl rfl (d_subm hw (by decide +kernel)) (fun h2 F2 f2 M2 a4 b4 c17 => ?_) (fun h2 F2 f2 x8 q8 M2 a4 b4 c17 => ?_)
  · have c17 : V 2 0 + 20 ≤ 600 := c17
    refine c_four M2 hf q (by omega) (fun h3 V3 M3 v3 s3 o3 r3 => s_mf27 M3 rfl rfl rfl rfl rfl rfl rfl rfl rfl rfl rfl ?_)
    refine c_four M3 hf s3 (by omega) (fun h4 V4 M4 v4 s4 o4 r4 => s_mf32 M4 rfl rfl rfl rfl rfl rfl rfl rfl rfl rfl rfl ?_)
    refine c_four M4 hf s4 (by omega) (fun h5 V5 M5 v5 s5 o5 r5 => s_mf37 M5 rfl rfl rfl rfl rfl rfl rfl rfl rfl rfl rfl ?_)
    refine c_four M5 hf s5 (by omega) (fun h6 V6 M6 v6 s6 o6 r6 => s_mf43 M6 rfl rfl rfl rfl rfl rfl rfl rfl rfl rfl rfl ?_)
    refine c_four M6 hf s6 (by omega) (fun h7 V7 M7 v7 s7 o7 r7 => s_mf49 M7 rfl (fun x3 q3 _ _ => g x3 h7 F2 V7 M7 (Or.inr ⟨?_, by omega, ?_, ?_, fun j hj => ?_, fun K k1 k2 => ?_⟩)))
    · exact q3.trans s7
    · rw [v7, v6, v5, v4, v3]
      rfl
    · exact s7
    · rw [o7 j hj, o6 j hj, o5 j hj, o4 j hj, o3 j hj]
    · rw [r7 K k1 k2, r6 K k1 k2, r5 K k1 k2, r4 K k1 k2, r3 K k1 k2]
  · have c17 : V 2 0 + 20 > 600 := c17
    exact g x8 h2 F2 V M2 (Or.inl ⟨q8, by omega, rfl⟩)
theorem s_fe0 {a b c d e : Int} (M : MX 7 W ρ m A h0 h F V G) (e0 : m_lk lv 0 = some (.ref 16)) {lx1 : Int32} (e1 : m_lk lv 1 = some (.int lx1)) (lq1 : lx1.toInt = a) {lx2 : Int32} (e2 : m_lk lv 2 = some (.int lx2)) (lq2 : lx2.toInt = b) {lx3 : Int32} (e3 : m_lk lv 3 = some (.int lx3)) (lq3 : lx3.toInt = c) {lx4 : Int32} (e4 : m_lk lv 4 = some (.int lx4)) (lq4 : lx4.toInt = d) {lx5 : Int32} (e5 : m_lk lv 5 = some (.int lx5)) (lq5 : lx5.toInt = e) (h16 : ρ 16 = 6) (hP0 : h_r h0 16 0 = m) (hn0 : d_no [(6, 0)] W = true)
    (g0 : 0 ≤ F 2 → F 2 ≤ 600 → (F 2) + 20 ≤ 600 → HJ 8 0 (lv_args 0 [.ref m, .int lx1]) [] h (fun v h' => HJ 7 26 lv (v.toList ++ []) h' Q))
    (g1 : ∀ x5 : Int32, x5.toInt = (-1) → 0 ≤ F 2 → F 2 ≤ 600 → (F 2) + 20 > 600 → Q (some (.int x5)) h)
    : HJ 7 0 lv [] h Q := by
  refine hI_al (k := 0) rfl e0 rfl ?_ -- 0
  refine hM_gP (k := 0) M h16 hP0 hn0 (by decide) rfl rfl rfl rfl ?_ -- 1
  refine hM_gi M (by decide) rfl rfl rfl (k := 2) (c := 6) (lo := 0) (hi := 600) rfl rfl rfl rfl rfl (fun x1 q1 a1 b1 => ?_) -- 4
  refine hM_bp (n := 20) rfl (by decide) rfl (fun x2 q2 => ?_) -- 7
  refine hM_add rfl q1 q2 (by omega) (by omega) rfl (fun x3 q3 => ?_) -- 9
  refine hM_sp (n := 600) rfl (by decide) rfl (fun x4 q4 => ?_) -- 10
  refine hM_cle (off := 5) (t := 18) rfl q3 q4 (by decide) rfl (fun c13 => ?_) (fun c13 => ?_) -- 13
  · refine hI_al (k := 0) rfl e0 rfl ?_ -- 18
    refine hM_gP (k := 0) M h16 hP0 hn0 (by decide) rfl rfl rfl rfl ?_ -- 19
    refine hI_il (k := 1) rfl e1 rfl ?_ -- 22
    refine hM_iv M (by decide) rfl rfl (by decide) (as := [.int lx1]) (r := []) rfl rfl (by decide +kernel) rfl (by decide +kernel) rfl rfl rfl rfl rfl ?_ -- 23
    exact g0 a1 b1 c13
  · refine hM_ic (n := (-1)) rfl (by decide) rfl (fun x5 q5 => ?_) -- 16
    refine hI_ri rfl rfl ?_ -- 17
    exact g1 x5 q5 a1 b1 c13
theorem s_fe26 {a b c d e : Int} (M : MX 7 W ρ m A h0 h F V G) (e0 : m_lk lv 0 = some (.ref 16)) {lx1 : Int32} (e1 : m_lk lv 1 = some (.int lx1)) (lq1 : lx1.toInt = a) {lx2 : Int32} (e2 : m_lk lv 2 = some (.int lx2)) (lq2 : lx2.toInt = b) {lx3 : Int32} (e3 : m_lk lv 3 = some (.int lx3)) (lq3 : lx3.toInt = c) {lx4 : Int32} (e4 : m_lk lv 4 = some (.int lx4)) (lq4 : lx4.toInt = d) {lx5 : Int32} (e5 : m_lk lv 5 = some (.int lx5)) (lq5 : lx5.toInt = e) (h16 : ρ 16 = 6) (hP0 : h_r h0 16 0 = m) (hn0 : d_no [(6, 0)] W = true)
    (g0 : HJ 8 0 (lv_args 0 [.ref m, .int lx2]) [] h (fun v h' => HJ 7 34 lv (v.toList ++ []) h' Q))
    : HJ 7 26 lv [] h Q := by
  refine hI_al (k := 0) rfl e0 rfl ?_ -- 26
  refine hM_gP (k := 0) M h16 hP0 hn0 (by decide) rfl rfl rfl rfl ?_ -- 27
  refine hI_il (k := 2) rfl e2 rfl ?_ -- 30
  refine hM_iv M (by decide) rfl rfl (by decide) (as := [.int lx2]) (r := []) rfl rfl (by decide +kernel) rfl (by decide +kernel) rfl rfl rfl rfl rfl ?_ -- 31
  exact g0 
theorem s_fe34 {a b c d e : Int} (M : MX 7 W ρ m A h0 h F V G) (e0 : m_lk lv 0 = some (.ref 16)) {lx1 : Int32} (e1 : m_lk lv 1 = some (.int lx1)) (lq1 : lx1.toInt = a) {lx2 : Int32} (e2 : m_lk lv 2 = some (.int lx2)) (lq2 : lx2.toInt = b) {lx3 : Int32} (e3 : m_lk lv 3 = some (.int lx3)) (lq3 : lx3.toInt = c) {lx4 : Int32} (e4 : m_lk lv 4 = some (.int lx4)) (lq4 : lx4.toInt = d) {lx5 : Int32} (e5 : m_lk lv 5 = some (.int lx5)) (lq5 : lx5.toInt = e) (h16 : ρ 16 = 6) (hP0 : h_r h0 16 0 = m) (hn0 : d_no [(6, 0)] W = true)
    (g0 : HJ 8 0 (lv_args 0 [.ref m, .int lx3]) [] h (fun v h' => HJ 7 42 lv (v.toList ++ []) h' Q))
    : HJ 7 34 lv [] h Q := by
  refine hI_al (k := 0) rfl e0 rfl ?_ -- 34
  refine hM_gP (k := 0) M h16 hP0 hn0 (by decide) rfl rfl rfl rfl ?_ -- 35
  refine hI_il (k := 3) rfl e3 rfl ?_ -- 38
  refine hM_iv M (by decide) rfl rfl (by decide) (as := [.int lx3]) (r := []) rfl rfl (by decide +kernel) rfl (by decide +kernel) rfl rfl rfl rfl rfl ?_ -- 39
  exact g0 
theorem s_fe42 {a b c d e : Int} (M : MX 7 W ρ m A h0 h F V G) (e0 : m_lk lv 0 = some (.ref 16)) {lx1 : Int32} (e1 : m_lk lv 1 = some (.int lx1)) (lq1 : lx1.toInt = a) {lx2 : Int32} (e2 : m_lk lv 2 = some (.int lx2)) (lq2 : lx2.toInt = b) {lx3 : Int32} (e3 : m_lk lv 3 = some (.int lx3)) (lq3 : lx3.toInt = c) {lx4 : Int32} (e4 : m_lk lv 4 = some (.int lx4)) (lq4 : lx4.toInt = d) {lx5 : Int32} (e5 : m_lk lv 5 = some (.int lx5)) (lq5 : lx5.toInt = e) (h16 : ρ 16 = 6) (hP0 : h_r h0 16 0 = m) (hn0 : d_no [(6, 0)] W = true)
    (g0 : HJ 8 0 (lv_args 0 [.ref m, .int lx4]) [] h (fun v h' => HJ 7 51 lv (v.toList ++ []) h' Q))
    : HJ 7 42 lv [] h Q := by
  refine hI_al (k := 0) rfl e0 rfl ?_ -- 42
  refine hM_gP (k := 0) M h16 hP0 hn0 (by decide) rfl rfl rfl rfl ?_ -- 43
  refine hI_il2 (k := 4) rfl e4 rfl ?_ -- 46
  refine hM_iv M (by decide) rfl rfl (by decide) (as := [.int lx4]) (r := []) rfl rfl (by decide +kernel) rfl (by decide +kernel) rfl rfl rfl rfl rfl ?_ -- 48
  exact g0 
theorem s_fe51 {a b c d e : Int} (M : MX 7 W ρ m A h0 h F V G) (e0 : m_lk lv 0 = some (.ref 16)) {lx1 : Int32} (e1 : m_lk lv 1 = some (.int lx1)) (lq1 : lx1.toInt = a) {lx2 : Int32} (e2 : m_lk lv 2 = some (.int lx2)) (lq2 : lx2.toInt = b) {lx3 : Int32} (e3 : m_lk lv 3 = some (.int lx3)) (lq3 : lx3.toInt = c) {lx4 : Int32} (e4 : m_lk lv 4 = some (.int lx4)) (lq4 : lx4.toInt = d) {lx5 : Int32} (e5 : m_lk lv 5 = some (.int lx5)) (lq5 : lx5.toInt = e) (h16 : ρ 16 = 6) (hP0 : h_r h0 16 0 = m) (hn0 : d_no [(6, 0)] W = true)
    (g0 : HJ 8 0 (lv_args 0 [.ref m, .int lx5]) [] h (fun v h' => HJ 7 60 lv (v.toList ++ []) h' Q))
    : HJ 7 51 lv [] h Q := by
  refine hI_al (k := 0) rfl e0 rfl ?_ -- 51
  refine hM_gP (k := 0) M h16 hP0 hn0 (by decide) rfl rfl rfl rfl ?_ -- 52
  refine hI_il2 (k := 5) rfl e5 rfl ?_ -- 55
  refine hM_iv M (by decide) rfl rfl (by decide) (as := [.int lx5]) (r := []) rfl rfl (by decide +kernel) rfl (by decide +kernel) rfl rfl rfl rfl rfl ?_ -- 57
  exact g0 
theorem s_fe60 (M : MX 7 W ρ m A h0 h F V G) (e0 : m_lk lv 0 = some (.ref 16)) (h16 : ρ 16 = 6) (hP0 : h_r h0 16 0 = m) (hn0 : d_no [(6, 0)] W = true)
    (g0 : ∀ x1 : Int32, x1.toInt = F 2 → 0 ≤ F 2 → F 2 ≤ 600 → Q (some (.int x1)) h)
    : HJ 7 60 lv [] h Q := by
  refine hI_al (k := 0) rfl e0 rfl ?_ -- 60
  refine hM_gP (k := 0) M h16 hP0 hn0 (by decide) rfl rfl rfl rfl ?_ -- 61
  refine hM_gi M (by decide) rfl rfl rfl (k := 2) (c := 6) (lo := 0) (hi := 600) rfl rfl rfl rfl rfl (fun x1 q1 a1 b1 => ?_) -- 64
  refine hI_ri rfl rfl ?_ -- 67
  exact g0 x1 q1 a1 b1
def w_fd : List (Nat × Nat) := [(13, 1001), (7, 2)]
theorem c_feed {u : Nat} {xa xb xc xd xe : Int32} (M : MX 7 W ρ m A h0 h F V G) (hw : d_sub w_fd W = true) (h16 : ρ 16 = 6) (hP0 : h_r h0 16 0 = m) (hn0 : d_no [(6, 0)] W = true) (q : F 2 = (u : Int)) (g : ∀ (x : Int32) (h' : MH) (F' : Nat → Int) (V' : Nat → Nat → Int), MX 7 W ρ m A h0 h' F' V' G → (x.toInt = -1 ∧ 581 ≤ u ∧ F' = F ∧ V' = V) ∨ (x.toInt = ((u + 20 : Nat) : Int) ∧ u ≤ 580 ∧ V' 0 = f_20 (V 0) u xa xb xc xd xe ∧ F' 2 = ((u + 20 : Nat) : Int) ∧ ∀ K, K ≠ 2 → F' K = F K) → Q (some (.int x)) h') : HJ 7 0 (lv_args 0 [.ref 16, .int xa, .int xb, .int xc, .int xd, .int xe]) [] h Q := by
  refine s_fe0 M rfl rfl rfl rfl rfl rfl rfl rfl rfl rfl rfl h16 hP0 hn0 (fun a1 b1 c13 => ?_) (fun x5 q5 a1 b1 c13 => ?_)
  · refine c_app M hw q (by omega) (fun h3 F3 V3 M3 v3 s3 o3 => s_fe26 M3 rfl rfl rfl rfl rfl rfl rfl rfl rfl rfl rfl h16 hP0 hn0 ?_)
    refine c_app M3 hw s3 (by omega) (fun h4 F4 V4 M4 v4 s4 o4 => s_fe34 M4 rfl rfl rfl rfl rfl rfl rfl rfl rfl rfl rfl h16 hP0 hn0 ?_)
    refine c_app M4 hw s4 (by omega) (fun h5 F5 V5 M5 v5 s5 o5 => s_fe42 M5 rfl rfl rfl rfl rfl rfl rfl rfl rfl rfl rfl h16 hP0 hn0 ?_)
    refine c_app M5 hw s5 (by omega) (fun h6 F6 V6 M6 v6 s6 o6 => s_fe51 M6 rfl rfl rfl rfl rfl rfl rfl rfl rfl rfl rfl h16 hP0 hn0 ?_)
    refine c_app M6 hw s6 (by omega) (fun h7 F7 V7 M7 v7 s7 o7 => s_fe60 M7 rfl h16 hP0 hn0 (fun x1 q1 _ _ => g x1 h7 F7 V7 M7 (Or.inr ⟨?_, by omega, ?_, ?_, fun K k2 => ?_⟩)))
    · exact q1.trans s7
    · rw [v7, v6, v5, v4, v3]
      rfl
    · exact s7
    · rw [o7 K k2, o6 K k2, o5 K k2, o4 K k2, o3 K k2]
  · exact g x5 h F V M (Or.inl ⟨q5, by omega, rfl, rfl⟩)
theorem s_en0 {n : Int} (M : MX 7 W ρ m A h0 h F V G) (e0 : m_lk lv 0 = some (.ref 16)) {lx1 : Int32} (e1 : m_lk lv 1 = some (.int lx1)) (lq1 : lx1.toInt = n) (h16 : ρ 16 = 6) (hP0 : h_r h0 16 0 = m) (hn0 : d_no [(6, 0)] W = true)(hw : d_sub [(7, 2)] W = true)
    (g0 : ∀ x1 : Int32, x1.toInt = (-1) → n < 0 → Q (some (.int x1)) h)
    (g1 : ∀ h3 : MH, ∀ F3 : Nat → Int, F3 = m_u F 2 (n) → MX 7 W ρ m A h0 h3 F3 V G → n ≥ 0 → 0 ≤ F 2 → F 2 ≤ 600 → n ≤ F 2 → Q (some (.int lx1)) h3)
    (g2 : ∀ x4 : Int32, x4.toInt = (-1) → n ≥ 0 → 0 ≤ F 2 → F 2 ≤ 600 → n > F 2 → Q (some (.int x4)) h)
    : HJ 9 0 lv [] h Q := by
  refine hI_il (k := 1) rfl e1 rfl ?_ -- 0
  refine hM_zlt (off := 14) (t := 15) rfl lq1 (by decide) rfl (fun c1 => ?_) (fun c1 => ?_) -- 1
  · refine hM_ic (n := (-1)) rfl (by decide) rfl (fun x1 q1 => ?_) -- 15
    refine hI_ri rfl rfl ?_ -- 16
    exact g0 x1 q1 c1
  · refine hI_il (k := 1) rfl e1 rfl ?_ -- 4
    refine hI_al (k := 0) rfl e0 rfl ?_ -- 5
    refine hM_gP (k := 0) M h16 hP0 hn0 (by decide) rfl rfl rfl rfl ?_ -- 6
    refine hM_gi M (by decide) rfl rfl rfl (k := 2) (c := 6) (lo := 0) (hi := 600) rfl rfl rfl rfl rfl (fun x2 q2 a2 b2 => ?_) -- 9
    refine hM_cle (off := 5) (t := 17) rfl lq1 q2 (by decide) rfl (fun c12 => ?_) (fun c12 => ?_) -- 12
    · refine hI_al (k := 0) rfl e0 rfl ?_ -- 17
      refine hM_gP (k := 0) M h16 hP0 hn0 (by decide) rfl rfl rfl rfl ?_ -- 18
      refine hI_il (k := 1) rfl e1 rfl ?_ -- 21
      refine hM_pi M (by decide) ok_7 rfl rfl (k := 2) (c := 6) (lo := 0) (hi := 600) rfl rfl ⟨by decide, by decide +kernel, rfl⟩ rfl (d_subm hw (by decide +kernel)) lq1 (by omega) (by omega) rfl (fun h3 F3 f3 M3 => ?_) -- 22
      refine hI_il (k := 1) rfl e1 rfl ?_ -- 25
      refine hI_ri rfl rfl ?_ -- 26
      exact g1 h3 F3 f3 M3 c1 a2 b2 c12
    · refine hM_ic (n := (-1)) rfl (by decide) rfl (fun x4 q4 => ?_) -- 15
      refine hI_ri rfl rfl ?_ -- 16
      exact g2 x4 q4 c1 a2 b2 c12
theorem s_me0 {n : Int} (M : MX 49 W ρ m A h0 h F V G) (e0 : m_lk lv 0 = some (.ref m)) {lx1 : Int32} (e1 : m_lk lv 1 = some (.int lx1)) (lq1 : lx1.toInt = n) (hw : d_sub [(49, 0)] W = true)
    (g0 : ∀ h2 : MH, ∀ F2 : Nat → Int, F2 = m_u F 0 (0) → ∀ x3 : Int32, x3.toInt = 0 → ∀ x5 : Int32, x5.toInt = V 2 (0 : Int).toNat → MX 49 W ρ m A h0 h2 F2 V G → 0 ≤ V 2 (0 : Int).toNat → V 2 (0 : Int).toNat ≤ 600 → HJ 186 0 (lv_args 0 [.int lx1, .int x3, .int x5]) [] h2 (fun v h' => HJ 185 16 lv (v.toList ++ []) h' Q))
    : HJ 185 0 lv [] h Q := by
  refine hI_al (k := 0) rfl e0 rfl ?_ -- 0
  refine hM_ic (n := 0) rfl (by decide) rfl (fun x1 q1 => ?_) -- 1
  refine hM_pi M (by decide) ok_49 rfl rfl (k := 0) (c := 9) (lo := (-2147483648)) (hi := 2147483647) rfl rfl ⟨by decide, by decide +kernel, rfl⟩ rfl (d_subm hw (by decide +kernel)) q1 (by omega) (by omega) rfl (fun h2 F2 f2 M2 => ?_) -- 2
  refine hI_il (k := 1) rfl e1 rfl ?_ -- 5
  refine hM_ic (n := 0) rfl (by decide) rfl (fun x3 q3 => ?_) -- 6
  refine hI_al (k := 0) rfl e0 rfl ?_ -- 7
  refine hM_ga M2 (by decide) rfl rfl (k := 2) (c := 9) rfl rfl rfl (by decide +kernel) rfl ?_ -- 8
  refine hM_ic (n := 0) rfl (by decide) rfl (fun x4 q4 => ?_) -- 11
  refine hM_ia M2 (by decide) (K := 2) (R2 := 51) (L := 4) (H := 4) (lo := 0) (hi := 600) rfl (by decide) rfl rfl (fun _ => rfl) rfl q4 (by omega) (by omega) rfl (fun x5 q5 a5 b5 => ?_) -- 12
  refine hM_is0 (as := [.int lx1, .int x3, .int x5]) (r := []) rfl rfl (by decide +kernel) rfl rfl rfl rfl rfl ?_ -- 13
  exact g0 h2 F2 f2 x3 q3 x5 q5 M2 a5 b5
theorem s_me16 {n z : Int} (M : MX 49 W ρ m A h0 h F V G) (e0 : m_lk lv 0 = some (.ref m)) {lx1 : Int32} (e1 : m_lk lv 1 = some (.int lx1)) (lq1 : lx1.toInt = n) {sx0 : Int32} (sq0 : sx0.toInt = z) (z0 : z ≠ 0 → 0 ≤ n ∧ n ≤ 600)(hw : d_sub [(51, 1001)] W = true)
    (g0 : ∀ h2 : MH, ∀ V2 : Nat → Nat → Int, V2 = m_u V 2 (m_u (V 2) (0 : Int).toNat (n)) → MX 49 W ρ m A h0 h2 F V2 G → z ≠ 0 → Q (some (.int lx1)) h2)
    (g1 : ∀ x3 : Int32, x3.toInt = (-1) → z = 0 → Q (some (.int x3)) h)
    : HJ 185 16 lv [.int sx0] h Q := by
  refine hM_zne (off := 5) (t := 21) rfl sq0 (by decide) rfl (fun c16 => ?_) (fun c16 => ?_) -- 16
  · refine hI_al (k := 0) rfl e0 rfl ?_ -- 21
    refine hM_ga M (by decide) rfl rfl (k := 2) (c := 9) rfl rfl rfl (by decide +kernel) rfl ?_ -- 22
    refine hM_ic (n := 0) rfl (by decide) rfl (fun x1 q1 => ?_) -- 25
    refine hI_il (k := 1) rfl e1 rfl ?_ -- 26
    refine hM_is M (by decide) ok_49 (K := 2) (R2 := 51) (L := 4) (H := 4) (lo := 0) (hi := 600) rfl (by decide) rfl rfl rfl (fun _ => rfl) (d_subm hw (by decide +kernel)) rfl q1 lq1 (by omega) (by omega) (by omega) (by omega) rfl (fun h2 V2 f2 M2 => ?_) -- 27
    refine hI_il (k := 1) rfl e1 rfl ?_ -- 28
    refine hI_ri rfl rfl ?_ -- 29
    exact g0 h2 V2 f2 M2 c16
  · refine hM_ic (n := (-1)) rfl (by decide) rfl (fun x3 q3 => ?_) -- 19
    refine hI_ri rfl rfl ?_ -- 20
    exact g1 x3 q3 c16
theorem c_end9 {n : Int} {xn : Int32} (M : MX 7 W ρ m A h0 h F V G) (hw : d_sub [(7, 2)] W = true) (h16 : ρ 16 = 6) (hP0 : h_r h0 16 0 = m) (hn0 : d_no [(6, 0)] W = true) (qn : xn.toInt = n) (g : ∀ (x : Int32) (h' : MH) (F' : Nat → Int), MX 7 W ρ m A h0 h' F' V G → (x.toInt = -1 ∧ (n < 0 ∨ F 2 < n) ∧ F' = F) ∨ (x.toInt = n ∧ 0 ≤ n ∧ n ≤ F 2 ∧ F' 2 = n ∧ ∀ K, K ≠ 2 → F' K = F K) → Q (some (.int x)) h') : HJ 9 0 (lv_args 0 [.ref 16, .int xn]) [] h Q :=
  s_en0 M rfl rfl qn h16 hP0 hn0 hw (fun x1 q1 c1 => g x1 h F M (Or.inl ⟨q1, Or.inl c1, rfl⟩)) (fun h3 F3 f3 M3 c1 a2 b2 c12 => g xn h3 F3 M3 (Or.inr ⟨qn, by omega, by omega, by rw [f3, m_uE], fun K k2 => by rw [f3, m_uN _ _ _ _ k2]⟩)) (fun x4 q4 c1 a2 b2 c12 => g x4 h F M (Or.inl ⟨q4, Or.inr (by omega), rfl⟩))
theorem c_mend {n : Int} {xn : Int32} (M : MX 49 W ρ m A h0 h F V G) (hw : d_sub [(49, 0), (51, 1001)] W = true) (qn : xn.toInt = n) (g : ∀ (x : Int32) (h' : MH) (F' : Nat → Int) (V' : Nat → Nat → Int), MX 49 W ρ m A h0 h' F' V' G → (x.toInt = -1 ∧ (n < 0 ∨ V 2 0 < n) ∧ V' = V) ∨ (x.toInt = n ∧ 0 ≤ n ∧ n ≤ V 2 0 ∧ V' 2 0 = n ∧ (∀ j, j ≠ 0 → V' 2 j = V 2 j) ∧ ∀ K, K ≠ 2 → V' K = V K) → Q (some (.int x)) h') : HJ 185 0 (lv_args 0 [.ref m, .int xn]) [] h Q := by
  have bz : 0 ≤ V 2 0 ∧ V 2 0 ≤ 600 := M.vi (by decide) (K := 2) (R2 := 51) rfl (by decide) (rs2 := _) rfl (L := 4) (H := 4) (kd := 20) rfl (lo := 0) (hi := 600) 0 rfl (by decide)
  refine s_me0 M rfl rfl qn (d_subm hw (by decide +kernel)) (fun h2 F2 f2 x3 q3 x4 q4 M2 _ _ => c_in M2 qn q3 q4 (fun z hz => ?_))
  have hz : (z.toInt = 1 ∧ 0 ≤ n ∧ n ≤ V 2 0) ∨ (z.toInt = 0 ∧ (n < 0 ∨ V 2 0 < n)) := hz
  refine s_me16 (z := z.toInt) M2 rfl rfl qn rfl (fun c => by omega) (d_subm hw (by decide +kernel)) (fun h5 V5 f5 M5 c => ?_) (fun x5 q5 c => g x5 h2 F2 V M2 (Or.inl ⟨q5, by omega, rfl⟩))
  have f5 : V5 = m_u V 2 (m_u (V 2) 0 n) := f5
  refine g xn h5 F2 V5 M5 (Or.inr ⟨qn, by omega, by omega, ?_, fun j hj => ?_, fun K k2 => ?_⟩)
  · rw [f5, m_uE, m_uE]
  · rw [f5, m_uE, m_uN _ _ _ _ hj]
  · rw [f5, m_uN _ _ _ _ k2]
end
