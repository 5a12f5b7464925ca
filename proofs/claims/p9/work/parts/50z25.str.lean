-- NAMES TOLD
section
variable {i pc pc' : Nat} {lv : List (Nat × Value)} {st : List Value} {h : MH} {Q : Option Value → MH → Prop}
theorem hM_ivS {idx nest j o : Nat} {as r st0 : List Value} (a : m_at i pc = some (.invokevirtual idx, 3)) (hm : m_ml i idx = some (nest, j)) (hok : k_ok 1 i j = true) (hcl : (m_m j).2.1.cls = "java/lang/String") (hna : m_na j = as.length) (hst : st0 = as.reverse ++ (.ref o :: r)) (hc : Nat.ble (m_cat r) 8 = true) (hca : Nat.ble (m_cat (.ref o :: as)) (m_lc j) = true) (k40 : (h_k h o).1 = 40) (hp : pc + 3 = pc') (g : HJ j 0 (lv_args 0 (.ref o :: as)) [] h (fun v h' => HJ i pc' lv (v.toList ++ r) h' Q)) : HJ i pc lv st0 h Q := by
  subst hp hst
  obtain ⟨⟨k1, k2, k3, k4⟩, k5⟩ := of_decide_eq_true hok
  have e1 : (as.reverse ++ Value.ref o :: r).drop (m_na j) = .ref o :: r := by
    rw [hna, ← List.length_reverse]
    exact List.drop_left
  have e2 : (as.reverse ++ Value.ref o :: r).take (m_na j) = as.reverse := by
    rw [hna, ← List.length_reverse]
    exact List.take_left
  refine HJ.call (j := j) (as := .ref o :: as) (rr := r) (pc' := pc + 3) ((m_stx a (Or.inl rfl)).trans ?_) (Nat.le_of_ble_eq_true hca) g
  show e_call 1 i idx pc lv _ h = _
  unfold e_call
  rw [hm]
  dsimp only
  rw [if_neg k1, if_neg k2, if_neg k3, if_neg k4, if_pos k5, if_neg (by decide), e1, e2]
  dsimp only
  rw [if_pos, List.reverse_reverse]
  refine ⟨by rw [hna, List.length_append, List.length_reverse, List.length_cons]; omega, Nat.le_of_ble_eq_true hc, ?_⟩
  rw [if_pos hcl]
  exact k40
theorem hI_gs1 {idx : Nat} (a : m_at i pc = some (.getstatic idx, 3)) (hs : m_sf i idx = some 1) (hp : pc + 3 = pc') (g : HJ i pc' lv (.int 1 :: st) h Q) : HJ i pc lv st h Q := by
  subst hp
  refine HJ.ex a (Or.inl rfl) ?_ g
  show e_gets i idx pc lv st h = _
  unfold e_gets
  rw [hs]
  rfl
theorem hI_gs3 {idx : Nat} (a : m_at i pc = some (.getstatic idx, 3)) (hs : m_sf i idx = some 3) (hp : pc + 3 = pc') (g : HJ i pc' lv (.ref 15 :: st) h Q) : HJ i pc lv st h Q := by
  subst hp
  refine HJ.ex a (Or.inl rfl) ?_ g
  show e_gets i idx pc lv st h = _
  unfold e_gets
  rw [hs]
  rfl
theorem hI_i2c {x : Int32} (a : m_at i pc = some (.i2c, 1)) (hp : pc + 1 = pc') (g : HJ i pc' lv (.int (x.toUInt32 % 65536).toInt32 :: st) h Q) : HJ i pc lv (.int x :: st) h Q := by
  subst hp
  exact HJ.ex a (Or.inl rfl) rfl g
end
theorem i_2c (x : Int32) (h0 : 0 ≤ x.toInt) (h1 : x.toInt ≤ 255) : (x.toUInt32 % 65536).toInt32 = x := by
  have e2 : x.toInt = x.toBitVec.toInt := rfl
  have h4 := BitVec.toInt_eq_toNat_cond x.toBitVec
  have h5 := x.toBitVec.isLt
  have h3 : x.toBitVec.toNat < 65536 := by split at h4 <;> omega
  have h6 : x.toUInt32.toNat = x.toBitVec.toNat := rfl
  have h7 : x.toUInt32 % 65536 = x.toUInt32 := by
    apply UInt32.toNat_inj.mp
    rw [UInt32.toNat_mod, h6]
    exact Nat.mod_eq_of_lt h3
  rw [h7]
  rfl
-- a name as it stands: its bytes
section
variable {h : MH} {Q : Option Value → MH → Prop} {o v : Nat} {l : List Int}
theorem c_cod (k40 : (h_k h o).1 = 40) (c0 : h_i h o 1 = 0) (g : Q (some (.int 0)) h) : HJ 22 0 (lv_args 0 [.ref o]) [] h Q := by
  refine hI_gs1 rfl rfl rfl ?_
  refine hI_if (c := .eq) (off := 10) (t := 13) rfl (by decide) rfl (fun c => absurd (show Int32.toInt 1 = 0 from c) (by decide)) (fun _ => ?_)
  refine hI_al (k := 0) rfl rfl rfl ?_
  refine hI_gi (c := 39) (k := 1) rfl rfl rfl k40 rfl ?_
  rw [c0]
  refine hI_go (pc' := 14) rfl (by decide) ?_
  exact hI_ri rfl (by decide) g
theorem c_lat (k40 : (h_k h o).1 = 40) (c0 : h_i h o 1 = 0) (g : Q (some (.int 1)) h) : HJ 24 0 (lv_args 0 [.ref o]) [] h Q := by
  refine hI_gs1 rfl rfl rfl ?_
  refine hI_if (c := .eq) (off := 14) (t := 17) rfl (by decide) rfl (fun c => absurd (show Int32.toInt 1 = 0 from c) (by decide)) (fun _ => ?_)
  refine hI_al (k := 0) rfl rfl rfl ?_
  refine hI_gi (c := 39) (k := 1) rfl rfl rfl k40 rfl ?_
  rw [c0]
  refine hI_if (c := .ne) (off := 7) (t := 17) rfl (by decide) rfl (fun c => absurd rfl c) (fun _ => ?_)
  refine hI_ic (n := 1) rfl rfl ?_
  refine hI_go (pc' := 18) rfl (by decide) ?_
  exact hI_ri rfl (by decide) g
theorem i_sh0 (x : Int32) : x >>> ((0 : Int32) &&& 31) = x := by
  rw [show ((0 : Int32) &&& 31) = 0 by decide]
  apply Int32.toBitVec_inj.mp
  show x.toBitVec.sshiftRight ((0 : Int32).toBitVec.smod 32).toNat = x.toBitVec
  rw [show ((0 : Int32).toBitVec.smod 32).toNat = 0 by decide, BitVec.sshiftRight_zero]
theorem c_sln (N : nm_ok h o v l) (g : ∀ x : Int32, x.toInt = (l.length : Int) → Q (some (.int x)) h) : HJ 21 0 (lv_args 0 [.ref o]) [] h Q := by
  obtain ⟨n1, n2, n3, n4, n5, -⟩ := N
  refine hI_al (k := 0) rfl rfl rfl ?_
  refine hI_gr (c := 39) (k := 0) rfl rfl rfl n1 rfl ?_
  rw [n2]
  refine hI_len rfl (by rw [n4]; show 20 ≤ 21 ∧ 21 < 34; decide) rfl ?_
  rw [n4]
  refine hI_al (k := 0) rfl rfl rfl ?_
  refine hM_ivS (o := o) (as := []) (r := [.int (Int32.ofNat l.length)]) rfl rfl (by decide +kernel) rfl rfl rfl rfl rfl n1 rfl ?_
  refine c_cod n1 n3 ?_
  refine hI_ishr rfl rfl ?_
  rw [i_sh0]
  refine hI_ri rfl rfl (g _ ?_)
  rw [Int32.toInt_ofNat_of_lt (by omega)]
theorem c_chk {x y : Int32} {r : Nat} (h0 : 0 ≤ x.toInt) (h1 : x.toInt < y.toInt) (g : Q (some (.int x)) h) : HJ 27 0 (lv_args 0 [.int x, .int y, .ref r]) [] h Q := by
  refine hI_il (k := 0) rfl rfl rfl ?_
  refine hM_zlt (off := 8) (t := 9) rfl rfl (by decide) rfl (fun c => by omega) (fun _ => ?_)
  refine hI_il (k := 0) rfl rfl rfl ?_
  refine hI_il (k := 1) rfl rfl rfl ?_
  refine hM_clt (off := 10) (t := 16) rfl rfl rfl (by decide) rfl (fun _ => ?_) (fun c => by omega)
  refine hI_il (k := 0) rfl rfl rfl ?_
  exact hI_ri rfl rfl g
theorem c_cka {x y : Int32} (h0 : 0 ≤ x.toInt) (h1 : x.toInt < y.toInt) (g : Q none h) : HJ 26 0 (lv_args 0 [.int x, .int y]) [] h Q := by
  refine hI_il (k := 0) rfl rfl rfl ?_
  refine hI_il (k := 1) rfl rfl rfl ?_
  refine hI_gs3 rfl rfl rfl ?_
  refine hM_is0 (as := [.int x, .int y, .ref 15]) (r := []) rfl rfl (by decide +kernel) rfl rfl rfl rfl rfl ?_
  refine c_chk h0 h1 ?_
  refine hI_pop rfl rfl rfl ?_
  exact hI_rv rfl rfl g
theorem c_cat {x : Int32} {j : Nat} (N : nm_ok h o v l) (qx : x.toInt = (j : Int)) (jl : j < l.length) (g : ∀ y : Int32, y.toInt = l.getD j 0 → Q (some (.int y)) h) : HJ 23 0 (lv_args 0 [.ref o, .int x]) [] h Q := by
  obtain ⟨n1, n2, n3, n4, n5, n6⟩ := N
  obtain ⟨b0, b1, b2⟩ := n6 j jl
  have eL : (Int32.ofNat l.length).toInt = (l.length : Int) := by
    rw [Int32.toInt_ofNat_of_lt (by omega)]
  have hj : x.toInt.toNat = j := by omega
  refine hI_al (k := 0) rfl rfl rfl ?_
  refine hM_ivS (o := o) (as := []) (r := []) rfl rfl (by decide +kernel) rfl rfl rfl rfl rfl n1 rfl ?_
  refine c_lat n1 n3 ?_
  refine hI_if (c := .eq) (off := 12) (t := 16) rfl (by decide) rfl (fun c => absurd (show Int32.toInt 1 = 0 from c) (by decide)) (fun _ => ?_)
  refine hI_al (k := 0) rfl rfl rfl ?_
  refine hI_gr (c := 39) (k := 0) rfl rfl rfl n1 rfl ?_
  rw [n2]
  refine hI_il (k := 1) rfl rfl rfl ?_
  refine hM_is0 (as := [.ref v, .int x]) (r := []) rfl rfl (by decide +kernel) rfl rfl rfl rfl rfl ?_
  refine hI_il (k := 1) rfl rfl rfl ?_
  refine hI_al (k := 0) rfl rfl rfl ?_
  refine hI_len rfl (by rw [n4]; show 20 ≤ 21 ∧ 21 < 34; decide) rfl ?_
  rw [n4]
  refine hM_is0 (as := [.int x, .int (Int32.ofNat l.length)]) (r := []) rfl rfl (by decide +kernel) rfl rfl rfl rfl rfl ?_
  refine c_cka (by omega) (by omega) ?_
  refine hI_al (k := 0) rfl rfl rfl ?_
  refine hI_il (k := 1) rfl rfl rfl ?_
  refine hI_ba rfl (by rw [n4]; exact Or.inl rfl) (by omega) (by rw [n4]; show x.toInt < (l.length : Int); omega) rfl ?_
  rw [hj]
  refine hM_sp (n := 255) rfl (by decide) rfl (fun w qw => ?_)
  refine hM_iand255 rfl b0 qw rfl (fun y qy => ?_)
  have qy2 : y.toInt = l.getD j 0 := by omega
  refine hI_i2c rfl rfl ?_
  rw [i_2c y (by omega) (by omega)]
  have rok : ∀ k : Nat, m_rt k = some .char → m_rok (m_rt k) y = true := fun k e => by
    rw [e]
    exact decide_eq_true (i_char y (by omega) (by omega))
  refine hI_ri rfl (rok 25 rfl) ?_
  exact hI_ri rfl (rok 23 rfl) (g y qy2)
end
section
variable {lv : List (Nat × Value)} {Q : Option Value → MH → Prop} {W : List (Nat × Nat)} {ρ : Nat → Nat} {m : Nat} {A : Nat → Nat} {h0 h : MH} {F : Nat → Int} {V : Nat → Nat → Int} {G : Nat → Nat → Int64}
theorem s_te0 (M : MX 106 W ρ m A h0 h F V G) (e0 : m_lk lv 0 = some (.ref m)) {nm : Nat} (e1 : m_lk lv 1 = some (.ref nm)) (hk_nm : (h_k h nm).1 = 40) 
    (g0 : HJ 21 0 (lv_args 0 [.ref nm]) [] h (fun v h' => HJ 20 4 lv (v.toList ++ []) h' Q))
    : HJ 20 0 lv [] h Q := by
  refine hI_al (k := 1) rfl e1 rfl ?_ -- 0
  refine hM_ivS (o := nm) (as := []) (r := []) rfl rfl (by decide +kernel) rfl rfl rfl rfl rfl hk_nm rfl ?_ -- 1
  exact g0 
theorem s_te4 {L : Int} (M : MX 106 W ρ m A h0 h F V G) (e0 : m_lk lv 0 = some (.ref m)) {nm : Nat} (e1 : m_lk lv 1 = some (.ref nm)) (hk_nm : (h_k h nm).1 = 40) {sx0 : Int32} (sq0 : sx0.toInt = L) 
    (g0 : ∀ x4 : Int32, x4.toInt = 0 → ∀ x6 : Int32, x6.toInt = 0 → ∀ lv7 : List (Nat × Value), m_lk lv7 0 = some (.ref m) → m_lk lv7 1 = some (.ref nm) → m_lk lv7 2 = some (.int x4) → m_lk lv7 3 = some (.int x6) → 0 ≤ F 3 → F 3 ≤ 600 → 0 ≤ F 2 → F 2 ≤ 600 → L ≠ (F 3) - (F 2) → HJ 20 24 lv7 [] h Q)
    (g1 : ∀ x8 : Int32, x8.toInt = 1 → ∀ x10 : Int32, x10.toInt = 0 → ∀ lv11 : List (Nat × Value), m_lk lv11 0 = some (.ref m) → m_lk lv11 1 = some (.ref nm) → m_lk lv11 2 = some (.int x8) → m_lk lv11 3 = some (.int x10) → 0 ≤ F 3 → F 3 ≤ 600 → 0 ≤ F 2 → F 2 ≤ 600 → L = (F 3) - (F 2) → HJ 20 24 lv11 [] h Q)
    : HJ 20 4 lv [.int sx0] h Q := by
  refine hI_al (k := 0) rfl e0 rfl ?_ -- 4
  refine hM_gi M (by decide) rfl rfl rfl (k := 3) (c := 4) (lo := 0) (hi := 600) rfl rfl rfl rfl rfl (fun x1 q1 a1 b1 => ?_) -- 5
  refine hI_al (k := 0) rfl e0 rfl ?_ -- 8
  refine hM_gi M (by decide) rfl rfl rfl (k := 2) (c := 4) (lo := 0) (hi := 600) rfl rfl rfl rfl rfl (fun x2 q2 a2 b2 => ?_) -- 9
  refine hM_sub rfl q1 q2 (by omega) (by omega) rfl (fun x3 q3 => ?_) -- 12
  refine hM_cne (off := 7) (t := 20) rfl sq0 q3 (by decide) rfl (fun c13 => ?_) (fun c13 => ?_) -- 13
  · refine hM_ic (n := 0) rfl (by decide) rfl (fun x4 q4 => ?_) -- 20
    refine hM_si (k := 2) rfl (by decide +kernel) rfl (fun lv5 e5_2 u5 => ?_) -- 21
    have e5_0 := u5 0 _ (by decide) (Or.inl rfl) e0
    have e5_1 := u5 1 _ (by decide) (Or.inl rfl) e1
    refine hM_ic (n := 0) rfl (by decide) rfl (fun x6 q6 => ?_) -- 22
    refine hM_si (k := 3) rfl (by decide +kernel) rfl (fun lv7 e7_3 u7 => ?_) -- 23
    have e7_0 := u7 0 _ (by decide) (Or.inl rfl) e5_0
    have e7_1 := u7 1 _ (by decide) (Or.inl rfl) e5_1
    have e7_2 := u7 2 _ (by decide) (Or.inl rfl) e5_2
    exact g0 x4 q4 x6 q6 lv7 e7_0 e7_1 e7_2 e7_3 a1 b1 a2 b2 c13
  · refine hM_ic (n := 1) rfl (by decide) rfl (fun x8 q8 => ?_) -- 16
    refine hI_go (pc' := 21) (off := 4) rfl (by decide) ?_ -- 17
    refine hM_si (k := 2) rfl (by decide +kernel) rfl (fun lv9 e9_2 u9 => ?_) -- 21
    have e9_0 := u9 0 _ (by decide) (Or.inl rfl) e0
    have e9_1 := u9 1 _ (by decide) (Or.inl rfl) e1
    refine hM_ic (n := 0) rfl (by decide) rfl (fun x10 q10 => ?_) -- 22
    refine hM_si (k := 3) rfl (by decide +kernel) rfl (fun lv11 e11_3 u11 => ?_) -- 23
    have e11_0 := u11 0 _ (by decide) (Or.inl rfl) e9_0
    have e11_1 := u11 1 _ (by decide) (Or.inl rfl) e9_1
    have e11_2 := u11 2 _ (by decide) (Or.inl rfl) e9_2
    exact g1 x8 q8 x10 q10 lv11 e11_0 e11_1 e11_2 e11_3 a1 b1 a2 b2 c13
theorem s_te24 {l i : Int} (M : MX 106 W ρ m A h0 h F V G) (e0 : m_lk lv 0 = some (.ref m)) {nm : Nat} (e1 : m_lk lv 1 = some (.ref nm)) (hk_nm : (h_k h nm).1 = 40) {lx2 : Int32} (e2 : m_lk lv 2 = some (.int lx2)) (lq2 : lx2.toInt = l) {lx3 : Int32} (e3 : m_lk lv 3 = some (.int lx3)) (lq3 : lx3.toInt = i) (l0 : 0 ≤ l) (l1 : l ≤ 1)
    (g0 : l = 0 → Q (some (.int lx2)) h)
    (g1 : l ≠ 0 → HJ 21 0 (lv_args 0 [.ref nm]) [] h (fun v h' => HJ 20 33 lv (v.toList ++ [.int lx3]) h' Q))
    : HJ 20 24 lv [] h Q := by
  refine hI_il (k := 2) rfl e2 rfl ?_ -- 24
  refine hM_zeq (off := 42) (t := 67) rfl lq2 (by decide) rfl (fun c25 => ?_) (fun c25 => ?_) -- 25
  · refine hI_il (k := 2) rfl e2 rfl ?_ -- 67
    refine hM_rb rfl rfl lq2 (by omega) (by omega) ?_ -- 68
    exact g0 c25
  · refine hI_il (k := 3) rfl e3 rfl ?_ -- 28
    refine hI_al (k := 1) rfl e1 rfl ?_ -- 29
    refine hM_ivS (o := nm) (as := []) (r := [.int lx3]) rfl rfl (by decide +kernel) rfl rfl rfl rfl rfl hk_nm rfl ?_ -- 30
    exact g1 c25
theorem s_te33 {l i L : Int} (M : MX 106 W ρ m A h0 h F V G) (e0 : m_lk lv 0 = some (.ref m)) {nm : Nat} (e1 : m_lk lv 1 = some (.ref nm)) (hk_nm : (h_k h nm).1 = 40) {lx2 : Int32} (e2 : m_lk lv 2 = some (.int lx2)) (lq2 : lx2.toInt = l) {lx3 : Int32} (e3 : m_lk lv 3 = some (.int lx3)) (lq3 : lx3.toInt = i) {sx0 : Int32} (sq0 : sx0.toInt = i) {sx1 : Int32} (sq1 : sx1.toInt = L) (l0 : 0 ≤ l) (l1 : l ≤ 1) (i0 : 0 ≤ i) (i1 : i < L → F 2 + i ≤ 599)
    (g0 : i ≥ L → Q (some (.int lx2)) h)
    (g1 : ∀ x3 : Int32, x3.toInt = V 0 ((F 2) + i).toNat → i < L → 0 ≤ F 2 → F 2 ≤ 600 → (-128) ≤ V 0 ((F 2) + i).toNat → V 0 ((F 2) + i).toNat ≤ 127 → HJ 23 0 (lv_args 0 [.ref nm, .int lx3]) [] h (fun v h' => HJ 20 52 lv (v.toList ++ [.int x3]) h' Q))
    : HJ 20 33 lv [.int sx1, .int sx0] h Q := by
  refine hM_cge (off := 34) (t := 67) rfl sq0 sq1 (by decide) rfl (fun c33 => ?_) (fun c33 => ?_) -- 33
  · refine hI_il (k := 2) rfl e2 rfl ?_ -- 67
    refine hM_rb rfl rfl lq2 (by omega) (by omega) ?_ -- 68
    exact g0 c33
  · refine hI_al (k := 0) rfl e0 rfl ?_ -- 36
    refine hM_ga M (by decide) rfl rfl (k := 0) (c := 4) rfl rfl rfl (by decide +kernel) rfl ?_ -- 37
    refine hI_al (k := 0) rfl e0 rfl ?_ -- 40
    refine hM_gi M (by decide) rfl rfl rfl (k := 2) (c := 4) (lo := 0) (hi := 600) rfl rfl rfl rfl rfl (fun x1 q1 a1 b1 => ?_) -- 41
    refine hI_il (k := 3) rfl e3 rfl ?_ -- 44
    refine hM_add rfl q1 lq3 (by omega) (by omega) rfl (fun x2 q2 => ?_) -- 45
    refine hM_ba M (by decide) (K := 0) (R2 := 13) (L := 600) (H := 600) (lo := (-128)) (hi := 127) rfl (by decide) rfl rfl (Or.inl rfl) (fun _ => rfl) rfl q2 (by omega) (by omega) rfl (fun x3 q3 a3 b3 => ?_) -- 46
    refine hI_al (k := 1) rfl e1 rfl ?_ -- 47
    refine hI_il (k := 3) rfl e3 rfl ?_ -- 48
    refine hM_ivS (o := nm) (as := [.int lx3]) (r := [.int x3]) rfl rfl (by decide +kernel) rfl rfl rfl rfl rfl hk_nm rfl ?_ -- 49
    exact g1 x3 q3 c33 a1 b1 a3 b3
theorem s_te52 {l i t c : Int} (M : MX 106 W ρ m A h0 h F V G) (e0 : m_lk lv 0 = some (.ref m)) {nm : Nat} (e1 : m_lk lv 1 = some (.ref nm)) (hk_nm : (h_k h nm).1 = 40) {lx2 : Int32} (e2 : m_lk lv 2 = some (.int lx2)) (lq2 : lx2.toInt = l) {lx3 : Int32} (e3 : m_lk lv 3 = some (.int lx3)) (lq3 : lx3.toInt = i) {sx0 : Int32} (sq0 : sx0.toInt = t) {sx1 : Int32} (sq1 : sx1.toInt = c) (i0 : 0 ≤ i) (i1 : i ≤ 600)
    (g0 : ∀ x1 : Int32, x1.toInt = 0 → ∀ x3 : Int32, x3.toInt = i + 1 → ∀ lv3 : List (Nat × Value), m_lk lv3 0 = some (.ref m) → m_lk lv3 1 = some (.ref nm) → m_lk lv3 2 = some (.int x1) → m_lk lv3 3 = some (.int x3) → t ≠ c → HJ 20 24 lv3 [] h Q)
    (g1 : ∀ x4 : Int32, x4.toInt = 1 → ∀ x6 : Int32, x6.toInt = i + 1 → ∀ lv6 : List (Nat × Value), m_lk lv6 0 = some (.ref m) → m_lk lv6 1 = some (.ref nm) → m_lk lv6 2 = some (.int x4) → m_lk lv6 3 = some (.int x6) → t = c → HJ 20 24 lv6 [] h Q)
    : HJ 20 52 lv [.int sx1, .int sx0] h Q := by
  refine hM_cne (off := 7) (t := 59) rfl sq0 sq1 (by decide) rfl (fun c52 => ?_) (fun c52 => ?_) -- 52
  · refine hM_ic (n := 0) rfl (by decide) rfl (fun x1 q1 => ?_) -- 59
    refine hM_si (k := 2) rfl (by decide +kernel) rfl (fun lv2 e2_2 u2 => ?_) -- 60
    have e2_0 := u2 0 _ (by decide) (Or.inl rfl) e0
    have e2_1 := u2 1 _ (by decide) (Or.inl rfl) e1
    have e2_3 := u2 3 _ (by decide) (Or.inl rfl) e3
    refine hM_inc (k := 3) (z := 1) rfl e2_3 lq3 (by decide) (by omega) (by omega) (by decide +kernel) rfl (fun lv3 x3 q3 e3_3 u3 => ?_) -- 61
    have e3_0 := u3 0 _ (by decide) (Or.inl rfl) e2_0
    have e3_1 := u3 1 _ (by decide) (Or.inl rfl) e2_1
    have e3_2 := u3 2 _ (by decide) (Or.inl rfl) e2_2
    refine hI_go (pc' := 24) (off := (-40)) rfl (by decide) ?_ -- 64
    exact g0 x1 q1 x3 q3 lv3 e3_0 e3_1 e3_2 e3_3 c52
  · refine hM_ic (n := 1) rfl (by decide) rfl (fun x4 q4 => ?_) -- 55
    refine hI_go (pc' := 60) (off := 4) rfl (by decide) ?_ -- 56
    refine hM_si (k := 2) rfl (by decide +kernel) rfl (fun lv5 e5_2 u5 => ?_) -- 60
    have e5_0 := u5 0 _ (by decide) (Or.inl rfl) e0
    have e5_1 := u5 1 _ (by decide) (Or.inl rfl) e1
    have e5_3 := u5 3 _ (by decide) (Or.inl rfl) e3
    refine hM_inc (k := 3) (z := 1) rfl e5_3 lq3 (by decide) (by omega) (by omega) (by decide +kernel) rfl (fun lv6 x6 q6 e6_3 u6 => ?_) -- 61
    have e6_0 := u6 0 _ (by decide) (Or.inl rfl) e5_0
    have e6_1 := u6 1 _ (by decide) (Or.inl rfl) e5_1
    have e6_2 := u6 2 _ (by decide) (Or.inl rfl) e5_2
    refine hI_go (pc' := 24) (off := (-40)) rfl (by decide) ?_ -- 64
    exact g1 x4 q4 x6 q6 lv6 e6_0 e6_1 e6_2 e6_3 c52
theorem l_te {s b o v : Nat} {l : List Int} (N : nm_ok h o v l) (M : MX 106 W ρ m A h0 h F V G) (q2 : F 2 = (s : Int)) (b6 : b ≤ 600) (eb : b = s + l.length) (g : ∀ z : Int32, (z.toInt = 1 ∧ rd_is (V 0) s b l) ∨ (z.toInt = 0 ∧ ¬ rd_is (V 0) s b l) → Q (some (.int z)) h) : ∀ (d i : Nat) (lv : List (Nat × Value)) (xl xi : Int32), i + d = l.length → xl.toInt = 1 → xi.toInt = (i : Int) → (∀ j, j < i → V 0 (s + j) = l.getD j 0) → m_lk lv 0 = some (.ref m) → m_lk lv 1 = some (.ref o) → m_lk lv 2 = some (.int xl) → m_lk lv 3 = some (.int xi) → HJ 20 24 lv [] h Q := by
  intro d
  induction d with
  | zero =>
    intro i lv xl xi hd ql qi hj e0 e1 e2 e3
    exact s_te24 M e0 e1 N.1 e2 ql e3 qi (by omega) (by omega) (fun c => by omega) (fun _ => c_sln N (fun y qy => s_te33 M e0 e1 N.1 e2 ql e3 qi qi qy (by omega) (by omega) (by omega) (fun c => by omega) (fun _ => g xl (Or.inl ⟨ql, rd_isT.mpr ⟨eb, fun j hj2 => hj j (by omega)⟩⟩)) (fun _ _ c _ _ _ _ => by omega)))
  | succ d ih =>
    intro i lv xl xi hd ql qi hj e0 e1 e2 e3
    have hS : (F 2 + (i : Int)).toNat = s + i := by omega
    refine s_te24 M e0 e1 N.1 e2 ql e3 qi (by omega) (by omega) (fun c => by omega) (fun _ => c_sln N (fun y qy => s_te33 M e0 e1 N.1 e2 ql e3 qi qi qy (by omega) (by omega) (by omega) (fun c => by omega) (fun c => by omega) (fun x3 q3 c _ _ _ _ => c_cat N qi (by omega) (fun w qw => s_te52 M e0 e1 N.1 e2 ql e3 qi q3 qw (by omega) (by omega) (fun x1 p1 x4 p4 lv3 d0 d1 d2 d3 cne => ?_) (fun x1 p1 x4 p4 lv3 d0 d1 d2 d3 ceq => ?_)))))
    · rw [hS] at cne
      exact s_te24 M d0 d1 N.1 d2 p1 d3 p4 (by omega) (by omega) (fun _ => g x1 (Or.inr ⟨p1, fun z => cne ((rd_isT.mp z).2 i (by omega))⟩)) (fun c => by omega)
    · rw [hS] at ceq
      exact ih (i + 1) lv3 x1 x4 (by omega) p1 (by omega) (fun j hj2 => by
        by_cases e : j = i
        · rw [e]; exact ceq
        · exact hj j (by omega)) d0 d1 d2 d3
theorem c_tells {s b o v : Nat} {l : List Int} (N : nm_ok h o v l) (M : MX 106 W ρ m A h0 h F V G) (q2 : F 2 = (s : Int)) (q3 : F 3 = (b : Int)) (sb : s ≤ b) (b6 : b ≤ 600) (g : ∀ z : Int32, (z.toInt = 1 ∧ rd_is (V 0) s b l) ∨ (z.toInt = 0 ∧ ¬ rd_is (V 0) s b l) → Q (some (.int z)) h) : HJ 20 0 (lv_args 0 [.ref m, .ref o]) [] h Q :=
  s_te0 M rfl rfl N.1 (c_sln N (fun y qy => s_te4 M rfl rfl N.1 qy (fun x4 q4 x6 q6 lv7 d0 d1 d2 d3 _ _ _ _ cne => s_te24 M d0 d1 N.1 d2 q4 d3 q6 (by omega) (by omega) (fun _ => g x4 (Or.inr ⟨q4, fun z => by have := (rd_isT.mp z).1; omega⟩)) (fun c => by omega)) (fun x4 q4 x6 q6 lv7 d0 d1 d2 d3 _ _ _ _ ceq => l_te N M q2 b6 (by omega) g l.length 0 lv7 x4 x6 (by omega) q4 q6 (fun j hj => absurd hj (Nat.not_lt_zero j)) d0 d1 d2 d3)))
-- all names, where they stand
theorem c_nameOf {k : Nat} {x : Int32} (hk : k < 6) (qx : x.toInt = (k : Int)) (g : Q (some (.ref (2 + k))) h) : HJ 19 0 (lv_args 0 [.int x]) [] h Q := by
  have ex : x = Int32.ofNat k := Int32.toInt_inj.mp (by
    rw [qx, Int32.toInt_ofNat_of_lt (by omega)])
  subst ex
  refine hI_il (k := 0) rfl rfl rfl ?_
  rcases (show k = 0 ∨ k = 1 ∨ k = 2 ∨ k = 3 ∨ k = 4 ∨ k = 5 by omega) with rfl | rfl | rfl | rfl | rfl | rfl
  · exact HJ.ex (pc' := 36) rfl (Or.inr rfl) rfl (HJ.ex (pc' := 38) rfl (Or.inl rfl) rfl (hI_ra rfl rfl g))
  · exact HJ.ex (pc' := 39) rfl (Or.inr rfl) rfl (HJ.ex (pc' := 41) rfl (Or.inl rfl) rfl (hI_ra rfl rfl g))
  · exact HJ.ex (pc' := 42) rfl (Or.inr rfl) rfl (HJ.ex (pc' := 44) rfl (Or.inl rfl) rfl (hI_ra rfl rfl g))
  · exact HJ.ex (pc' := 45) rfl (Or.inr rfl) rfl (HJ.ex (pc' := 47) rfl (Or.inl rfl) rfl (hI_ra rfl rfl g))
  · exact HJ.ex (pc' := 48) rfl (Or.inr rfl) rfl (HJ.ex (pc' := 50) rfl (Or.inl rfl) rfl (hI_ra rfl rfl g))
  · exact HJ.ex (pc' := 51) rfl (Or.inr rfl) rfl (HJ.ex (pc' := 53) rfl (Or.inl rfl) rfl (hI_ra rfl rfl g))
-- names stay, for what stands below 16 and is no made thing stays
theorem sb_fs {W : List (Nat × Nat)} {ρ : Nat → Nat} {h h' : MH} (hr : ∀ k, k < 6 → ρ (2 + k) = 2 ∧ ρ (8 + k) = 3) (hn : d_no [(2, 1001), (2, 1002), (3, 1001), (3, 1002)] W = true) (f : FS ρ W h h') (s : sb_ok h) : sb_ok h' := fun k hk => by
  obtain ⟨n1, n2, n3, n4, n5, n6⟩ := s k hk
  obtain ⟨r1, r2⟩ := hr k hk
  have e1 := f.2 (2 + k) (by omega)
  have e2 := f.2 (8 + k) (by omega)
  have w1 : ∀ j, ¬ t_W W (ρ (2 + k)) j ∨ j = 1002 := fun j => by
    rw [r1]
    exact d_noE hn (List.mem_of_getElem? (i := 0) rfl)
  have w2 : ∀ j, ¬ t_W W (ρ (8 + k)) j ∨ j = 1002 := fun j => by
    rw [r2]
    exact d_noE hn (List.mem_of_getElem? (i := 2) rfl)
  refine ⟨by rw [e1.1]; exact n1, ?_, ?_, by rw [e2.1]; exact n4, n5, fun i hi => ⟨?_, (n6 i hi).2⟩⟩
  · rw [(e1.2 0 ((w1 0).resolve_right (by decide))).2.2]
    exact n2
  · rw [(e1.2 1 ((w1 1).resolve_right (by decide))).1]
    exact n3
  · rw [(e2.2 i ((w2 i).resolve_right (by omega))).1]
    exact (n6 i hi).1
theorem tl_mk (hr : ∀ k, k < 6 → ρ (2 + k) = 2 ∧ ρ (8 + k) = 3) (hn : d_no [(2, 1001), (2, 1002), (3, 1001), (3, 1002)] W = true) (s0 : sb_ok h0) : tl_ok W ρ m A h0 V G := fun k s b h F xk lv Q M hk qk q2 q3 sb b6 g => by
  have N := sb_fs hr hn M.1.2.2 s0 k hk
  refine c_nameOf hk qk ?_
  show HJ 18 57 lv [.ref (2 + k), .ref m] h Q
  refine hM_iv M (by decide) rfl rfl (by decide) (as := [.ref (2 + k)]) (r := []) rfl rfl (by decide +kernel) rfl (by decide +kernel) rfl rfl rfl rfl rfl ?_
  exact c_tells N M q2 q3 sb b6 (fun z hz => g z hz)
end
