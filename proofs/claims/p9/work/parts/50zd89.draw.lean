-- WHAT IS DRAWN: done, told, and dropped again
theorem us_nn {x y : Int32} (qy : y.toInt = 16) : 0 ≤ (bc_us x y).toInt := by
  have ey : y = 16 := Int32.toInt_inj.mp qy
  subst ey
  show 0 ≤ ((x.toUInt32 >>> ((16 : Int32).toUInt32 &&& Int32.toUInt32 31)).toInt32).toInt
  have e : (16 : Int32).toUInt32 &&& Int32.toUInt32 31 = 16 := by decide
  rw [e]
  have b : (x.toUInt32 >>> 16).toNat < 65536 := by
    rw [UInt32.toNat_shiftRight]
    have := x.toUInt32.toNat_lt
    rw [Nat.shiftRight_eq_div_pow]
    show x.toUInt32.toNat / 2 ^ 16 < 65536
    omega
  show 0 ≤ ((x.toUInt32 >>> 16).toBitVec).toInt
  rw [BitVec.toInt_eq_toNat_of_lt (by show 2 * (x.toUInt32 >>> 16).toNat < 2 ^ 32; omega)]
  exact Int.natCast_nonneg _
section
variable {i pc pc' : Nat} {lv : List (Nat × Value)} {st : List Value} {h : MH} {Q : Option Value → MH → Prop}
theorem hX_ldc {idx : Nat} {x : Int32} (a : m_at i pc = some (.ldc idx, 2)) (hx : m_ic i idx = some x) (hp : pc + 2 = pc') (g : HJ i pc' lv (.int x :: st) h Q) : HJ i pc lv st h Q := by
  subst hp
  refine HJ.ex a (Or.inl rfl) ?_ g
  show e_ldc 2 i idx pc lv st h = _
  unfold e_ldc
  rw [hx]
  rfl
theorem hX_tsd {d lo hi : Int} {offs : Array Int} {len t : Nat} {x : Int32} (a : m_at i pc = some (.tableswitch d lo hi offs, len)) (b : x.toInt < lo ∨ hi < x.toInt) (ht : (pc : Int) + d = (t : Int)) (g : HJ i t lv st h Q) : HJ i pc lv (.int x :: st) h Q := by
  refine HJ.ex (pc' := t) a (Or.inr rfl) ?_ g
  show (if x.toInt < lo ∨ hi < x.toInt then m_tg pc d lv st h else (match offs[(x.toInt - lo).toNat]? with
      | some o => m_tg pc o lv st h
      | none => none)) = _
  rw [if_pos b]
  show m_tg pc d lv st h = _
  unfold m_tg
  rw [ht, if_pos (Int.natCast_nonneg t), Int.toNat_natCast]
end
def dw_c : Int32 := (m_ic 180 199).getD 0
section
variable {lv : List (Nat × Value)} {Q : Option Value → MH → Prop} {h0 h : MH} {H : Nat → Nat → Int}
theorem r_db0 {pa : Nat} {n : Int} (M : RX h0 h H) (e0 : m_lk lv 0 = some (.ref pa)) {lx1 : Int32} (e1 : m_lk lv 1 = some (.int lx1)) (lq1 : lx1.toInt = n)  (hk0 : (h_k h0 pa).1 = 4)
    (g0 : ∀ x1 : Int32, x1.toInt = H pa 13 → HJ 180 5 lv [.int x1, .ref pa] h Q)
    : HJ 180 0 lv [] h Q := by
  refine hI_al (k := 0) rfl e0 rfl ?_ -- 0
  refine hI_al (k := 0) rfl e0 rfl ?_ -- 1
  refine hR_gi (c := 3) (k := 13) M hk0 rfl rfl rfl rfl (fun x1 q1 => ?_) -- 2
  have gb1 : -2147483648 ≤ H pa 13 ∧ H pa 13 ≤ 2147483647 := by rw [← q1]; exact g_iT _
  exact g0 x1 q1
theorem k_db {pa : Nat} {n : Int} {xn : Int32} (M : RX h0 h H) (kp : (h_k h0 pa).1 = 4) (qn : xn.toInt = n) (n0 : 0 < n) (g : ∀ (x : Int32) (h' : MH) (H' : Nat → Nat → Int), 0 ≤ x.toInt → x.toInt < n → RX h0 h' H' → (∀ q, q ≠ pa → H' q = H q) → (∀ k, k ≠ 13 → H' pa k = H pa k) → Q (some (.int x)) h') : HJ 180 0 (lv_args 0 [.ref pa, .int xn]) [] h Q := by
  refine r_db0 M rfl rfl qn kp (fun x1 q1 => ?_)
  refine hX_ldc (x := dw_c) rfl (by decide +kernel) rfl ?_
  refine hM_mulw rfl rfl (fun x2 z2 q2 _ _ => ?_)
  refine hM_sp (n := 12345) rfl (by decide) rfl (fun x3 q3 => ?_)
  refine hM_addw rfl rfl (fun x4 z4 q4 _ _ => ?_)
  refine hR_pi (c := 3) (k := 13) M kp rfl rfl ⟨by decide, by decide +kernel, rfl⟩ q4 rfl (fun h1 H1 f1 M1 => ?_)
  refine hI_il (k := 1) rfl rfl rfl ?_
  refine hM_zle (off := 15) (t := 31) rfl qn (by decide) rfl (fun c => absurd c (by omega)) (fun _ => ?_)
  refine hI_al (k := 0) rfl rfl rfl ?_
  refine hR_gi (c := 3) (k := 13) M1 kp rfl rfl rfl rfl (fun x5 q5 => ?_)
  refine hM_bp (n := 16) rfl (by decide) rfl (fun x6 q6 => ?_)
  refine hX_us rfl rfl ?_
  refine hI_il (k := 1) rfl rfl rfl ?_
  refine hM_remx rfl rfl qn (us_nn q6) n0 rfl (fun w qw => ?_)
  refine hI_go (pc' := 32) (off := 4) rfl (by decide) ?_
  have w0 := Int.emod_nonneg (bc_us x5 x6).toInt (show n ≠ 0 by omega)
  have w1 := Int.emod_lt_of_pos (bc_us x5 x6).toInt n0
  exact hI_ri rfl rfl (g w h1 H1 (by omega) (by omega) M1 (fun q hq => by rw [f1, m_uN _ _ _ _ hq]) (fun k hk => by rw [f1, m_uE, m_uN _ _ _ _ hk]))
theorem k_da {pa : Nat} {S : PSt} {f : Nat → Int} {xw xb : Int32} (ok : pa_ok h pa) (I : cs_of h (z_i h) (h_r h pa 0) S) (ef : hp6 (z_i h (h_r h pa 7)) f) (hf : hp_in S f) (q0 : 0 ≤ xw.toInt) (q3 : xw.toInt ≤ 3) (g : ∀ x : Int32, Q (some (.int x)) h) : HJ 181 0 (lv_args 0 [.ref pa, .int xw, .int xb]) [] h Q := by
  have M := RX.start h
  have nd0 := ok.2.1
  have a7 := pa_ap ok (i := 7) (by decide) (by decide)
  refine hI_il (k := 1) rfl rfl rfl ?_
  have qs : xw.toInt = 0 ∨ xw.toInt = 1 ∨ xw.toInt = 2 ∨ xw.toInt = 3 := by omega
  rcases qs with c | c | c | c
  · refine hI_ts (t := 28) (o := 27) rfl c (by decide) (by decide) rfl (by decide) ?_
    refine hI_al (k := 0) rfl rfl rfl ?_
    refine HJ.call (j := 50) (as := [.ref pa]) (rr := []) (pc' := 32) (m_cR (kc := 3) rfl rfl (by decide +kernel) rfl rfl rfl ⟨rfl, by decide +kernel, by decide +kernel⟩ (by decide) ok.1.2.1 (by rw [M.2.1]; exact ok.1.1)) (by show 1 ≤ m_lc 50; decide +kernel) ?_
    exact k_hs (f := f) M ok.1.1 a7.1 ef (fun x _ => hI_ri rfl rfl (g x))
  · refine hI_ts (t := 33) (o := 32) rfl c (by decide) (by decide) rfl (by decide) ?_
    refine hI_al (k := 0) rfl rfl rfl ?_
    refine hR_gr (c := 3) (k := 0) M ok.1.1 rfl rfl rfl rfl ?_
    exact hR_gi (c := 2) (k := 6) M nd0.1.1 rfl rfl rfl rfl (fun x _ => hI_ri rfl rfl (g x))
  · refine hI_ts (t := 41) (o := 40) rfl c (by decide) (by decide) rfl (by decide) ?_
    refine hI_al (k := 0) rfl rfl rfl ?_
    refine hR_gr (c := 3) (k := 0) M ok.1.1 rfl rfl rfl rfl ?_
    refine hI_al (k := 0) rfl rfl rfl ?_
    refine hR_gr (c := 3) (k := 7) M ok.1.1 rfl rfl rfl rfl ?_
    refine HJ.call (j := 80) (as := [.ref (h_r h pa 0), .ref (h_r h pa 7)]) (rr := []) (pc' := 52) (m_cR (kc := 2) rfl rfl (by decide +kernel) rfl rfl rfl ⟨rfl, by decide +kernel, by decide +kernel⟩ (by decide) nd0.1.2.1 (by rw [M.2.1]; exact nd0.1.1)) (by show 2 ≤ m_lc 80; decide +kernel) ?_
    exact k_lkey M (nl_nd nd0 I.1) I a7.1 ef hf (fun x _ => hI_ri rfl rfl (g x))
  · refine hX_tsd (t := 53) rfl (Or.inr (by omega)) (by decide) ?_
    refine hI_al (k := 0) rfl rfl rfl ?_
    refine hR_gr (c := 3) (k := 0) M ok.1.1 rfl rfl rfl rfl ?_
    refine hR_gi (c := 2) (k := 5) M nd0.1.1 rfl rfl rfl rfl (fun x1 _ => ?_)
    refine hI_il (k := 2) rfl rfl rfl ?_
    exact hI_sub rfl rfl (hI_ri rfl rfl (g _))
theorem r_dw0 {pa : Nat} {v s k q : Int} (M : RX h0 h H) (e0 : m_lk lv 0 = some (.ref pa)) {lx1 : Int32} (e1 : m_lk lv 1 = some (.int lx1)) (lq1 : lx1.toInt = v) {lx2 : Int32} (e2 : m_lk lv 2 = some (.int lx2)) (lq2 : lx2.toInt = s) {lx3 : Int32} (e3 : m_lk lv 3 = some (.int lx3)) (lq3 : lx3.toInt = k) {lx4 : Int32} (e4 : m_lk lv 4 = some (.int lx4)) (lq4 : lx4.toInt = q)  (hk0 : (h_k h0 pa).1 = 4) (hk1 : (h_k h0 (h_r h0 pa 0)).1 = 3) (hs0 : 16 ≤ pa)
    (g0 : ∀ x1 : Int32, x1.toInt = H (h_r h0 pa 0) 5 → ∀ x3 : Int32, x3.toInt = H pa 12 → ∀ h6 : MH, ∀ H6 : Nat → Nat → Int, H6 = m_u H (h_r h0 pa 0) (m_u (H (h_r h0 pa 0)) 6 (0)) → ∀ h7 : MH, ∀ H7 : Nat → Nat → Int, H7 = m_u H6 pa (m_u (H6 pa) 13 (s)) → ∀ lv4 : List (Nat × Value), RX h0 h7 H7 → m_lk lv4 0 = some (.ref pa) → m_lk lv4 3 = some (.int lx3) → m_lk lv4 4 = some (.int lx4) → m_lk lv4 5 = some (.int x1) → m_lk lv4 6 = some (.int x3) → HJ 58 0 (lv_args 0 [.ref pa, .int lx1, .ref (h_r h0 pa 7)]) [] h7 (fun v h' => HJ 179 37 lv4 (v.toList ++ []) h' Q))
    : HJ 179 0 lv [] h Q := by
  refine hI_al (k := 0) rfl e0 rfl ?_ -- 0
  refine hR_gr (c := 3) (k := 0) M hk0 rfl rfl rfl rfl ?_ -- 1
  refine hR_gi (c := 2) (k := 5) M hk1 rfl rfl rfl rfl (fun x1 q1 => ?_) -- 4
  have gb1 : -2147483648 ≤ H (h_r h0 pa 0) 5 ∧ H (h_r h0 pa 0) 5 ≤ 2147483647 := by rw [← q1]; exact g_iT _
  refine hM_si2 (k := 5) rfl (by decide +kernel) rfl (fun lv2 e2_5 u2 => ?_) -- 7
  have e2_0 := u2 0 _ (by decide) (Or.inl rfl) e0
  have e2_1 := u2 1 _ (by decide) (Or.inl rfl) e1
  have e2_2 := u2 2 _ (by decide) (Or.inl rfl) e2
  have e2_3 := u2 3 _ (by decide) (Or.inl rfl) e3
  have e2_4 := u2 4 _ (by decide) (Or.inl rfl) e4
  refine hI_al (k := 0) rfl e2_0 rfl ?_ -- 9
  refine hR_gi (c := 3) (k := 12) M hk0 rfl rfl rfl rfl (fun x3 q3 => ?_) -- 10
  have gb3 : -2147483648 ≤ H pa 12 ∧ H pa 12 ≤ 2147483647 := by rw [← q3]; exact g_iT _
  refine hM_si2 (k := 6) rfl (by decide +kernel) rfl (fun lv4 e4_6 u4 => ?_) -- 13
  have e4_0 := u4 0 _ (by decide) (Or.inl rfl) e2_0
  have e4_1 := u4 1 _ (by decide) (Or.inl rfl) e2_1
  have e4_2 := u4 2 _ (by decide) (Or.inl rfl) e2_2
  have e4_3 := u4 3 _ (by decide) (Or.inl rfl) e2_3
  have e4_4 := u4 4 _ (by decide) (Or.inl rfl) e2_4
  have e4_5 := u4 5 _ (by decide) (Or.inl rfl) e2_5
  refine hI_al (k := 0) rfl e4_0 rfl ?_ -- 15
  refine hR_gr (c := 3) (k := 0) M hk0 rfl rfl rfl rfl ?_ -- 16
  refine hM_ic (n := 0) rfl (by decide) rfl (fun x5 q5 => ?_) -- 19
  refine hR_pi (c := 2) (k := 6) M hk1 rfl rfl ⟨by decide, by decide +kernel, rfl⟩ q5 rfl (fun h6 H6 f6 M6 => ?_) -- 20
  refine hI_al (k := 0) rfl e4_0 rfl ?_ -- 23
  refine hI_il (k := 2) rfl e4_2 rfl ?_ -- 24
  refine hR_pi (c := 3) (k := 13) M6 hk0 rfl rfl ⟨by decide, by decide +kernel, rfl⟩ lq2 rfl (fun h7 H7 f7 M7 => ?_) -- 25
  refine hI_al (k := 0) rfl e4_0 rfl ?_ -- 28
  refine hI_il (k := 1) rfl e4_1 rfl ?_ -- 29
  refine hI_al (k := 0) rfl e4_0 rfl ?_ -- 30
  refine hR_gr (c := 3) (k := 7) M7 hk0 rfl rfl rfl rfl ?_ -- 31
  refine HJ.call (j := 58) (as := [.ref pa, .int lx1, .ref (h_r h0 pa 7)]) (rr := []) (pc' := 37) (m_cR (kc := 3) rfl rfl (by decide +kernel) rfl rfl rfl ⟨rfl, by decide +kernel, by decide +kernel⟩ (by decide) hs0 (by rw [M7.2.1]; exact hk0)) (by show 3 ≤ m_lc 58; decide +kernel) ?_ -- 34
  exact g0 x1 q1 x3 q3 h6 H6 f6 h7 H7 f7 lv4 M7 e4_0 e4_3 e4_4 e4_5 e4_6
theorem r_dw37 {pa : Nat} {k q n t : Int} (M : RX h0 h H) (e0 : m_lk lv 0 = some (.ref pa)) {lx3 : Int32} (e3 : m_lk lv 3 = some (.int lx3)) (lq3 : lx3.toInt = k) {lx4 : Int32} (e4 : m_lk lv 4 = some (.int lx4)) (lq4 : lx4.toInt = q) {lx5 : Int32} (e5 : m_lk lv 5 = some (.int lx5)) (lq5 : lx5.toInt = n) {lx6 : Int32} (e6 : m_lk lv 6 = some (.int lx6)) (lq6 : lx6.toInt = t) 
    (g0 : ∀ x1 : Int32, x1.toInt = 0 → ∀ lv2 : List (Nat × Value), m_lk lv2 0 = some (.ref pa) → m_lk lv2 3 = some (.int lx3) → m_lk lv2 4 = some (.int lx4) → m_lk lv2 5 = some (.int lx5) → m_lk lv2 6 = some (.int lx6) → m_lk lv2 7 = some (.int x1) → HJ 179 40 lv2 [] h Q)
    : HJ 179 37 lv [] h Q := by
  refine hM_ic (n := 0) rfl (by decide) rfl (fun x1 q1 => ?_) -- 37
  refine hM_si2 (k := 7) rfl (by decide +kernel) rfl (fun lv2 e2_7 u2 => ?_) -- 38
  have e2_0 := u2 0 _ (by decide) (Or.inl rfl) e0
  have e2_3 := u2 3 _ (by decide) (Or.inl rfl) e3
  have e2_4 := u2 4 _ (by decide) (Or.inl rfl) e4
  have e2_5 := u2 5 _ (by decide) (Or.inl rfl) e5
  have e2_6 := u2 6 _ (by decide) (Or.inl rfl) e6
  exact g0 x1 q1 lv2 e2_0 e2_3 e2_4 e2_5 e2_6 e2_7
theorem r_dw40 {pa : Nat} {k q n t i : Int} (M : RX h0 h H) (e0 : m_lk lv 0 = some (.ref pa)) {lx3 : Int32} (e3 : m_lk lv 3 = some (.int lx3)) (lq3 : lx3.toInt = k) {lx4 : Int32} (e4 : m_lk lv 4 = some (.int lx4)) (lq4 : lx4.toInt = q) {lx5 : Int32} (e5 : m_lk lv 5 = some (.int lx5)) (lq5 : lx5.toInt = n) {lx6 : Int32} (e6 : m_lk lv 6 = some (.int lx6)) (lq6 : lx6.toInt = t) {lx7 : Int32} (e7 : m_lk lv 7 = some (.int lx7)) (lq7 : lx7.toInt = i)  (hs0 : 16 ≤ pa) (hk0 : (h_k h0 pa).1 = 4)
    (g0 : i ≥ k → HJ 181 0 (lv_args 0 [.ref pa, .int lx4, .int lx5]) [] h (fun v h' => HJ 179 122 lv (v.toList ++ []) h' Q))
    (g1 : ∀ x1 : Int32, x1.toInt = 3 → i < k → HJ 180 0 (lv_args 0 [.ref pa, .int x1]) [] h (fun v h' => HJ 179 51 lv (v.toList ++ []) h' Q))
    : HJ 179 40 lv [] h Q := by
  refine hI_il2 (k := 7) rfl e7 rfl ?_ -- 40
  refine hI_il (k := 3) rfl e3 rfl ?_ -- 42
  refine hM_cge (off := 71) (t := 114) rfl lq7 lq3 (by decide) rfl (fun c43 => ?_) (fun c43 => ?_) -- 43
  · refine hI_al (k := 0) rfl e0 rfl ?_ -- 114
    refine hI_il2 (k := 4) rfl e4 rfl ?_ -- 115
    refine hI_il2 (k := 5) rfl e5 rfl ?_ -- 117
    refine HJ.call (j := 181) (as := [.ref pa, .int lx4, .int lx5]) (rr := []) (pc' := 122) (m_cR (kc := 3) rfl rfl (by decide +kernel) rfl rfl rfl ⟨rfl, by decide +kernel, by decide +kernel⟩ (by decide) hs0 (by rw [M.2.1]; exact hk0)) (by show 3 ≤ m_lc 181; decide +kernel) ?_ -- 119
    exact g0 c43
  · refine hI_al (k := 0) rfl e0 rfl ?_ -- 46
    refine hM_ic (n := 3) rfl (by decide) rfl (fun x1 q1 => ?_) -- 47
    refine HJ.call (j := 180) (as := [.ref pa, .int x1]) (rr := []) (pc' := 51) (m_cR (kc := 3) rfl rfl (by decide +kernel) rfl rfl rfl ⟨rfl, by decide +kernel, by decide +kernel⟩ (by decide) hs0 (by rw [M.2.1]; exact hk0)) (by show 2 ≤ m_lc 180; decide +kernel) ?_ -- 48
    exact g1 x1 q1 c43
theorem r_dw51 {pa : Nat} {k q n t i z : Int} (M : RX h0 h H) (e0 : m_lk lv 0 = some (.ref pa)) {lx3 : Int32} (e3 : m_lk lv 3 = some (.int lx3)) (lq3 : lx3.toInt = k) {lx4 : Int32} (e4 : m_lk lv 4 = some (.int lx4)) (lq4 : lx4.toInt = q) {lx5 : Int32} (e5 : m_lk lv 5 = some (.int lx5)) (lq5 : lx5.toInt = n) {lx6 : Int32} (e6 : m_lk lv 6 = some (.int lx6)) (lq6 : lx6.toInt = t) {lx7 : Int32} (e7 : m_lk lv 7 = some (.int lx7)) (lq7 : lx7.toInt = i) {sx0 : Int32} (sq0 : sx0.toInt = z)  (hs0 : 16 ≤ pa) (hk0 : (h_k h0 pa).1 = 4)
    (g0 : ∀ lv2 : List (Nat × Value), m_lk lv2 0 = some (.ref pa) → m_lk lv2 3 = some (.int lx3) → m_lk lv2 4 = some (.int lx4) → m_lk lv2 5 = some (.int lx5) → m_lk lv2 6 = some (.int lx6) → m_lk lv2 7 = some (.int lx7) → z ≠ 0 → HJ 50 0 (lv_args 0 [.ref pa]) [] h (fun v h' => HJ 179 92 lv2 (v.toList ++ []) h' Q))
    (g1 : z = 0 → HJ 50 0 (lv_args 0 [.ref pa]) [] h (fun v h' => HJ 179 58 lv (v.toList ++ []) h' Q))
    : HJ 179 51 lv [.int sx0] h Q := by
  refine hM_zne (off := 14) (t := 65) rfl sq0 (by decide) rfl (fun c51 => ?_) (fun c51 => ?_) -- 51
  · refine hM_ic (n := 0) rfl (by decide) rfl (fun x1 q1 => ?_) -- 65
    refine hM_si2 (k := 8) rfl (by decide +kernel) rfl (fun lv2 e2_8 u2 => ?_) -- 66
    have e2_0 := u2 0 _ (by decide) (Or.inl rfl) e0
    have e2_3 := u2 3 _ (by decide) (Or.inl rfl) e3
    have e2_4 := u2 4 _ (by decide) (Or.inl rfl) e4
    have e2_5 := u2 5 _ (by decide) (Or.inl rfl) e5
    have e2_6 := u2 6 _ (by decide) (Or.inl rfl) e6
    have e2_7 := u2 7 _ (by decide) (Or.inl rfl) e7
    refine hI_il2 (k := 8) rfl e2_8 rfl ?_ -- 68
    refine hM_zeq (off := 18) (t := 88) rfl q1 (by decide) rfl (fun c70 => ?_) (fun c70 => ?_) -- 70
    · refine hI_al (k := 0) rfl e2_0 rfl ?_ -- 88
      refine HJ.call (j := 50) (as := [.ref pa]) (rr := []) (pc' := 92) (m_cR (kc := 3) rfl rfl (by decide +kernel) rfl rfl rfl ⟨rfl, by decide +kernel, by decide +kernel⟩ (by decide) hs0 (by rw [M.2.1]; exact hk0)) (by show 1 ≤ m_lc 50; decide +kernel) ?_ -- 89
      exact g0 lv2 e2_0 e2_3 e2_4 e2_5 e2_6 e2_7 c51
    · exfalso; omega
  · refine hI_al (k := 0) rfl e0 rfl ?_ -- 54
    refine HJ.call (j := 50) (as := [.ref pa]) (rr := []) (pc' := 58) (m_cR (kc := 3) rfl rfl (by decide +kernel) rfl rfl rfl ⟨rfl, by decide +kernel, by decide +kernel⟩ (by decide) hs0 (by rw [M.2.1]; exact hk0)) (by show 1 ≤ m_lc 50; decide +kernel) ?_ -- 55
    exact g1 c51
theorem r_dw58 {pa : Nat} {k q n t i z : Int} (M : RX h0 h H) (e0 : m_lk lv 0 = some (.ref pa)) {lx3 : Int32} (e3 : m_lk lv 3 = some (.int lx3)) (lq3 : lx3.toInt = k) {lx4 : Int32} (e4 : m_lk lv 4 = some (.int lx4)) (lq4 : lx4.toInt = q) {lx5 : Int32} (e5 : m_lk lv 5 = some (.int lx5)) (lq5 : lx5.toInt = n) {lx6 : Int32} (e6 : m_lk lv 6 = some (.int lx6)) (lq6 : lx6.toInt = t) {lx7 : Int32} (e7 : m_lk lv 7 = some (.int lx7)) (lq7 : lx7.toInt = i) {sx0 : Int32} (sq0 : sx0.toInt = z)  (hs0 : 16 ≤ pa) (hk0 : (h_k h0 pa).1 = 4) (hs1 : 16 ≤ h_r h0 pa 0) (hk1 : (h_k h0 (h_r h0 pa 0)).1 = 3)
    (g0 : ∀ lv2 : List (Nat × Value), m_lk lv2 0 = some (.ref pa) → m_lk lv2 3 = some (.int lx3) → m_lk lv2 4 = some (.int lx4) → m_lk lv2 5 = some (.int lx5) → m_lk lv2 6 = some (.int lx6) → m_lk lv2 7 = some (.int lx7) → z ≤ 0 → HJ 50 0 (lv_args 0 [.ref pa]) [] h (fun v h' => HJ 179 92 lv2 (v.toList ++ []) h' Q))
    (g1 : ∀ lv4 : List (Nat × Value), m_lk lv4 0 = some (.ref pa) → m_lk lv4 3 = some (.int lx3) → m_lk lv4 4 = some (.int lx4) → m_lk lv4 5 = some (.int lx5) → m_lk lv4 6 = some (.int lx6) → m_lk lv4 7 = some (.int lx7) → z > 0 → HJ 71 0 (lv_args 0 [.ref (h_r h0 pa 0), .ref (h_r h0 pa 7)]) [] h (fun v h' => HJ 179 84 lv4 (v.toList ++ []) h' Q))
    : HJ 179 58 lv [.int sx0] h Q := by
  refine hM_zle (off := 7) (t := 65) rfl sq0 (by decide) rfl (fun c58 => ?_) (fun c58 => ?_) -- 58
  · refine hM_ic (n := 0) rfl (by decide) rfl (fun x1 q1 => ?_) -- 65
    refine hM_si2 (k := 8) rfl (by decide +kernel) rfl (fun lv2 e2_8 u2 => ?_) -- 66
    have e2_0 := u2 0 _ (by decide) (Or.inl rfl) e0
    have e2_3 := u2 3 _ (by decide) (Or.inl rfl) e3
    have e2_4 := u2 4 _ (by decide) (Or.inl rfl) e4
    have e2_5 := u2 5 _ (by decide) (Or.inl rfl) e5
    have e2_6 := u2 6 _ (by decide) (Or.inl rfl) e6
    have e2_7 := u2 7 _ (by decide) (Or.inl rfl) e7
    refine hI_il2 (k := 8) rfl e2_8 rfl ?_ -- 68
    refine hM_zeq (off := 18) (t := 88) rfl q1 (by decide) rfl (fun c70 => ?_) (fun c70 => ?_) -- 70
    · refine hI_al (k := 0) rfl e2_0 rfl ?_ -- 88
      refine HJ.call (j := 50) (as := [.ref pa]) (rr := []) (pc' := 92) (m_cR (kc := 3) rfl rfl (by decide +kernel) rfl rfl rfl ⟨rfl, by decide +kernel, by decide +kernel⟩ (by decide) hs0 (by rw [M.2.1]; exact hk0)) (by show 1 ≤ m_lc 50; decide +kernel) ?_ -- 89
      exact g0 lv2 e2_0 e2_3 e2_4 e2_5 e2_6 e2_7 c58
    · exfalso; omega
  · refine hM_ic (n := 1) rfl (by decide) rfl (fun x3 q3 => ?_) -- 61
    refine hI_go (pc' := 66) (off := 4) rfl (by decide) ?_ -- 62
    refine hM_si2 (k := 8) rfl (by decide +kernel) rfl (fun lv4 e4_8 u4 => ?_) -- 66
    have e4_0 := u4 0 _ (by decide) (Or.inl rfl) e0
    have e4_3 := u4 3 _ (by decide) (Or.inl rfl) e3
    have e4_4 := u4 4 _ (by decide) (Or.inl rfl) e4
    have e4_5 := u4 5 _ (by decide) (Or.inl rfl) e5
    have e4_6 := u4 6 _ (by decide) (Or.inl rfl) e6
    have e4_7 := u4 7 _ (by decide) (Or.inl rfl) e7
    refine hI_il2 (k := 8) rfl e4_8 rfl ?_ -- 68
    refine hM_zeq (off := 18) (t := 88) rfl q3 (by decide) rfl (fun c70 => ?_) (fun c70 => ?_) -- 70
    · exfalso; omega
    · refine hI_al (k := 0) rfl e4_0 rfl ?_ -- 73
      refine hR_gr (c := 3) (k := 0) M hk0 rfl rfl rfl rfl ?_ -- 74
      refine hI_al (k := 0) rfl e4_0 rfl ?_ -- 77
      refine hR_gr (c := 3) (k := 7) M hk0 rfl rfl rfl rfl ?_ -- 78
      refine HJ.call (j := 71) (as := [.ref (h_r h0 pa 0), .ref (h_r h0 pa 7)]) (rr := []) (pc' := 84) (m_cR (kc := 2) rfl rfl (by decide +kernel) rfl rfl rfl ⟨rfl, by decide +kernel, by decide +kernel⟩ (by decide) hs1 (by rw [M.2.1]; exact hk1)) (by show 2 ≤ m_lc 71; decide +kernel) ?_ -- 81
      exact g1 lv4 e4_0 e4_3 e4_4 e4_5 e4_6 e4_7 c58
theorem r_dw84 {pa : Nat} {k q n t i z : Int} (M : RX h0 h H) (e0 : m_lk lv 0 = some (.ref pa)) {lx3 : Int32} (e3 : m_lk lv 3 = some (.int lx3)) (lq3 : lx3.toInt = k) {lx4 : Int32} (e4 : m_lk lv 4 = some (.int lx4)) (lq4 : lx4.toInt = q) {lx5 : Int32} (e5 : m_lk lv 5 = some (.int lx5)) (lq5 : lx5.toInt = n) {lx6 : Int32} (e6 : m_lk lv 6 = some (.int lx6)) (lq6 : lx6.toInt = t) {lx7 : Int32} (e7 : m_lk lv 7 = some (.int lx7)) (lq7 : lx7.toInt = i) {sx0 : Int32} (sq0 : sx0.toInt = z) (pi0 : 0 ≤ i) (pi1 : i ≤ 30)
    (g0 : ∀ x1 : Int32, x1.toInt = i + 1 → ∀ lv1 : List (Nat × Value), m_lk lv1 0 = some (.ref pa) → m_lk lv1 3 = some (.int lx3) → m_lk lv1 4 = some (.int lx4) → m_lk lv1 5 = some (.int lx5) → m_lk lv1 6 = some (.int lx6) → m_lk lv1 7 = some (.int x1) → HJ 179 40 lv1 [] h Q)
    : HJ 179 84 lv [.int sx0] h Q := by
  refine hI_pop rfl rfl rfl ?_ -- 84
  refine hI_go (pc' := 108) (off := 23) rfl (by decide) ?_ -- 85
  refine hM_inc (k := 7) (z := 1) rfl e7 lq7 (by decide) (by omega) (by omega) (by decide +kernel) rfl (fun lv1 x1 q1 e1_7 u1 => ?_) -- 108
  have e1_0 := u1 0 _ (by decide) (Or.inl rfl) e0
  have e1_3 := u1 3 _ (by decide) (Or.inl rfl) e3
  have e1_4 := u1 4 _ (by decide) (Or.inl rfl) e4
  have e1_5 := u1 5 _ (by decide) (Or.inl rfl) e5
  have e1_6 := u1 6 _ (by decide) (Or.inl rfl) e6
  refine hI_go (pc' := 40) (off := (-71)) rfl (by decide) ?_ -- 111
  exact g0 x1 q1 lv1 e1_0 e1_3 e1_4 e1_5 e1_6 e1_7
theorem r_dw92 {pa : Nat} {k q n t i z : Int} (M : RX h0 h H) (e0 : m_lk lv 0 = some (.ref pa)) {lx3 : Int32} (e3 : m_lk lv 3 = some (.int lx3)) (lq3 : lx3.toInt = k) {lx4 : Int32} (e4 : m_lk lv 4 = some (.int lx4)) (lq4 : lx4.toInt = q) {lx5 : Int32} (e5 : m_lk lv 5 = some (.int lx5)) (lq5 : lx5.toInt = n) {lx6 : Int32} (e6 : m_lk lv 6 = some (.int lx6)) (lq6 : lx6.toInt = t) {lx7 : Int32} (e7 : m_lk lv 7 = some (.int lx7)) (lq7 : lx7.toInt = i) {sx0 : Int32} (sq0 : sx0.toInt = z) (pi0 : 0 ≤ i) (pi1 : i ≤ 30) (hs0 : 16 ≤ pa) (hk0 : (h_k h0 pa).1 = 4)
    (g0 : ∀ x2 : Int32, x2.toInt = i + 1 → ∀ lv2 : List (Nat × Value), m_lk lv2 0 = some (.ref pa) → m_lk lv2 3 = some (.int lx3) → m_lk lv2 4 = some (.int lx4) → m_lk lv2 5 = some (.int lx5) → m_lk lv2 6 = some (.int lx6) → m_lk lv2 7 = some (.int x2) → z ≥ 63 → HJ 179 40 lv2 [] h Q)
    (g1 : ∀ x3 : Int32, x3.toInt = 100 → z < 63 → HJ 180 0 (lv_args 0 [.ref pa, .int x3]) [] h (fun v h' => HJ 179 104 lv (v.toList ++ [.ref pa]) h' Q))
    : HJ 179 92 lv [.int sx0] h Q := by
  refine hM_bp (n := 63) rfl (by decide) rfl (fun x1 q1 => ?_) -- 92
  refine hM_cge (off := 14) (t := 108) rfl sq0 q1 (by decide) rfl (fun c94 => ?_) (fun c94 => ?_) -- 94
  · refine hM_inc (k := 7) (z := 1) rfl e7 lq7 (by decide) (by omega) (by omega) (by decide +kernel) rfl (fun lv2 x2 q2 e2_7 u2 => ?_) -- 108
    have e2_0 := u2 0 _ (by decide) (Or.inl rfl) e0
    have e2_3 := u2 3 _ (by decide) (Or.inl rfl) e3
    have e2_4 := u2 4 _ (by decide) (Or.inl rfl) e4
    have e2_5 := u2 5 _ (by decide) (Or.inl rfl) e5
    have e2_6 := u2 6 _ (by decide) (Or.inl rfl) e6
    refine hI_go (pc' := 40) (off := (-71)) rfl (by decide) ?_ -- 111
    exact g0 x2 q2 lv2 e2_0 e2_3 e2_4 e2_5 e2_6 e2_7 c94
  · refine hI_al (k := 0) rfl e0 rfl ?_ -- 97
    refine hI_al (k := 0) rfl e0 rfl ?_ -- 98
    refine hM_bp (n := 100) rfl (by decide) rfl (fun x3 q3 => ?_) -- 99
    refine HJ.call (j := 180) (as := [.ref pa, .int x3]) (rr := [.ref pa]) (pc' := 104) (m_cR (kc := 3) rfl rfl (by decide +kernel) rfl rfl rfl ⟨rfl, by decide +kernel, by decide +kernel⟩ (by decide) hs0 (by rw [M.2.1]; exact hk0)) (by show 2 ≤ m_lc 180; decide +kernel) ?_ -- 101
    exact g1 x3 q3 c94
theorem r_dw104 {pa : Nat} {k q n t i z : Int} (M : RX h0 h H) (e0 : m_lk lv 0 = some (.ref pa)) {lx3 : Int32} (e3 : m_lk lv 3 = some (.int lx3)) (lq3 : lx3.toInt = k) {lx4 : Int32} (e4 : m_lk lv 4 = some (.int lx4)) (lq4 : lx4.toInt = q) {lx5 : Int32} (e5 : m_lk lv 5 = some (.int lx5)) (lq5 : lx5.toInt = n) {lx6 : Int32} (e6 : m_lk lv 6 = some (.int lx6)) (lq6 : lx6.toInt = t) {lx7 : Int32} (e7 : m_lk lv 7 = some (.int lx7)) (lq7 : lx7.toInt = i) {sx1 : Int32} (sq1 : sx1.toInt = z)  (hs0 : 16 ≤ pa) (hk0 : (h_k h0 pa).1 = 4)
    (g0 : HJ 59 0 (lv_args 0 [.ref pa, .int sx1]) [] h (fun v h' => HJ 179 107 lv (v.toList ++ []) h' Q))
    : HJ 179 104 lv [.int sx1, .ref pa] h Q := by
  refine HJ.call (j := 59) (as := [.ref pa, .int sx1]) (rr := []) (pc' := 107) (m_cR (kc := 3) rfl rfl (by decide +kernel) rfl rfl rfl ⟨rfl, by decide +kernel, by decide +kernel⟩ (by decide) hs0 (by rw [M.2.1]; exact hk0)) (by show 2 ≤ m_lc 59; decide +kernel) ?_ -- 104
  exact g0 
theorem r_dw107 {pa : Nat} {k q n t i z : Int} (M : RX h0 h H) (e0 : m_lk lv 0 = some (.ref pa)) {lx3 : Int32} (e3 : m_lk lv 3 = some (.int lx3)) (lq3 : lx3.toInt = k) {lx4 : Int32} (e4 : m_lk lv 4 = some (.int lx4)) (lq4 : lx4.toInt = q) {lx5 : Int32} (e5 : m_lk lv 5 = some (.int lx5)) (lq5 : lx5.toInt = n) {lx6 : Int32} (e6 : m_lk lv 6 = some (.int lx6)) (lq6 : lx6.toInt = t) {lx7 : Int32} (e7 : m_lk lv 7 = some (.int lx7)) (lq7 : lx7.toInt = i) {sx0 : Int32} (sq0 : sx0.toInt = z) (pi0 : 0 ≤ i) (pi1 : i ≤ 30)
    (g0 : ∀ x1 : Int32, x1.toInt = i + 1 → ∀ lv1 : List (Nat × Value), m_lk lv1 0 = some (.ref pa) → m_lk lv1 3 = some (.int lx3) → m_lk lv1 4 = some (.int lx4) → m_lk lv1 5 = some (.int lx5) → m_lk lv1 6 = some (.int lx6) → m_lk lv1 7 = some (.int x1) → HJ 179 40 lv1 [] h Q)
    : HJ 179 107 lv [.int sx0] h Q := by
  refine hI_pop rfl rfl rfl ?_ -- 107
  refine hM_inc (k := 7) (z := 1) rfl e7 lq7 (by decide) (by omega) (by omega) (by decide +kernel) rfl (fun lv1 x1 q1 e1_7 u1 => ?_) -- 108
  have e1_0 := u1 0 _ (by decide) (Or.inl rfl) e0
  have e1_3 := u1 3 _ (by decide) (Or.inl rfl) e3
  have e1_4 := u1 4 _ (by decide) (Or.inl rfl) e4
  have e1_5 := u1 5 _ (by decide) (Or.inl rfl) e5
  have e1_6 := u1 6 _ (by decide) (Or.inl rfl) e6
  refine hI_go (pc' := 40) (off := (-71)) rfl (by decide) ?_ -- 111
  exact g0 x1 q1 lv1 e1_0 e1_3 e1_4 e1_5 e1_6 e1_7
theorem r_dw122 {pa : Nat} {n t z : Int} (M : RX h0 h H) (e0 : m_lk lv 0 = some (.ref pa)) {lx5 : Int32} (e5 : m_lk lv 5 = some (.int lx5)) (lq5 : lx5.toInt = n) {lx6 : Int32} (e6 : m_lk lv 6 = some (.int lx6)) (lq6 : lx6.toInt = t) {sx0 : Int32} (sq0 : sx0.toInt = z)  (hk0 : (h_k h0 pa).1 = 4) (hs0 : 16 ≤ h_r h0 pa 0) (hk1 : (h_k h0 (h_r h0 pa 0)).1 = 3)
    (g0 : ∀ lv1 : List (Nat × Value), m_lk lv1 0 = some (.ref pa) → m_lk lv1 5 = some (.int lx5) → m_lk lv1 6 = some (.int lx6) → m_lk lv1 7 = some (.int sx0) → HJ 46 0 (lv_args 0 [.ref (h_r h0 pa 0), .int lx5]) [] h (fun v h' => HJ 179 133 lv1 (v.toList ++ []) h' Q))
    : HJ 179 122 lv [.int sx0] h Q := by
  refine hM_si2 (k := 7) rfl (by decide +kernel) rfl (fun lv1 e1_7 u1 => ?_) -- 122
  have e1_0 := u1 0 _ (by decide) (Or.inl rfl) e0
  have e1_5 := u1 5 _ (by decide) (Or.inl rfl) e5
  have e1_6 := u1 6 _ (by decide) (Or.inl rfl) e6
  refine hI_al (k := 0) rfl e1_0 rfl ?_ -- 124
  refine hR_gr (c := 3) (k := 0) M hk0 rfl rfl rfl rfl ?_ -- 125
  refine hI_il2 (k := 5) rfl e1_5 rfl ?_ -- 128
  refine HJ.call (j := 46) (as := [.ref (h_r h0 pa 0), .int lx5]) (rr := []) (pc' := 133) (m_cR (kc := 2) rfl rfl (by decide +kernel) rfl rfl rfl ⟨rfl, by decide +kernel, by decide +kernel⟩ (by decide) hs0 (by rw [M.2.1]; exact hk1)) (by show 2 ≤ m_lc 46; decide +kernel) ?_ -- 130
  exact g0 lv1 e1_0 e1_5 e1_6 e1_7
theorem r_dw133 {pa : Nat} {t z : Int} (M : RX h0 h H) (e0 : m_lk lv 0 = some (.ref pa)) {lx6 : Int32} (e6 : m_lk lv 6 = some (.int lx6)) (lq6 : lx6.toInt = t) {lx7 : Int32} (e7 : m_lk lv 7 = some (.int lx7)) (lq7 : lx7.toInt = z)  (hk0 : (h_k h0 pa).1 = 4)
    (g0 : ∀ h1 : MH, ∀ H1 : Nat → Nat → Int, H1 = m_u H pa (m_u (H pa) 12 (t)) → RX h0 h1 H1 → Q (some (.int lx7)) h1)
    : HJ 179 133 lv [] h Q := by
  refine hI_al (k := 0) rfl e0 rfl ?_ -- 133
  refine hI_il2 (k := 6) rfl e6 rfl ?_ -- 134
  refine hR_pi (c := 3) (k := 12) M hk0 rfl rfl ⟨by decide, by decide +kernel, rfl⟩ lq6 rfl (fun h1 H1 f1 M1 => ?_) -- 136
  refine hI_il2 (k := 7) rfl e7 rfl ?_ -- 139
  refine hI_ri rfl rfl ?_ -- 141
  exact g0 h1 H1 f1 M1
def dw_I (h : MH) (pa : Nat) (Y : RYt) (i : Nat) (h' : MH) : Prop := nl_ok h' (h_r h pa 0) ∧ FX (h_r h pa 0) (py_Y h pa) h h' ∧ (∃ S f, cs_of h' (z_i h') (h_r h pa 0) S ∧ hp6 (z_i h' (h_r h pa 7)) f ∧ ps_sh S ∧ hp_in S f ∧ ps_ex (ry_s Y) S ∧ ps_n S ≤ ps_n (ry_s Y) + 7 * i) ∧ (ry_t Y ≤ z_i h' pa 12 ∧ z_i h' pa 12 ≤ ry_t Y + (i : Int)) ∧ ∀ q, q ≠ 12 → q ≠ 13 → z_i h' pa q = z_i h pa q
theorem dw_up {hh : MH} {pa i : Nat} {Y : RYt} (I : dw_I hh pa Y i h) : dw_I hh pa Y (i + 1) h := by
  obtain ⟨o, F, ⟨S, f, S1, S2, S3, S4, S5, S6⟩, T, Z⟩ := I
  exact ⟨o, F, ⟨S, f, S1, S2, S3, S4, S5, by omega⟩, ⟨T.1, by omega⟩, Z⟩
theorem dw_pa {hh h2 : MH} {H2 : Nat → Nat → Int} {pa i : Nat} {Y : RYt} (ok : pa_ok hh pa) (I : dw_I hh pa Y i h) (M : RX h h2 H2) (o2 : ∀ q, q ≠ pa → H2 q = z_i h q) (p2 : ∀ k, k ≠ 13 → H2 pa k = z_i h pa k) : dw_I hh pa Y i h2 := by
  obtain ⟨o, F, ⟨S, f, S1, S2, S3, S4, S5, S6⟩, T, Z⟩ := I
  obtain ⟨ok', re, rw_⟩ := pa_FX ok o F
  have pn := pa_ne ok' (i := 7) (by decide)
  have pn11 := (pa_ne ok' (i := 11) (by decide)).1
  have nn := pn.2.2.2.1
  rw [re 0] at nn
  have w7 : pa_w h pa 7 = h_r hh pa 7 := re 7
  have w11 : pa_w h pa 11 = h_r h (h_r hh pa 0) 0 := by
    show h_r h (h_r h pa 0) 0 = _
    rw [re 0]
  rw [w11] at pn11
  have pn7 := pn.1
  rw [w7] at pn7
  have rr : h_r h2 = h_r h := M.2.2.1.1
  refine ⟨nl_RX o M (by rw [o2 _ (Ne.symm nn)]), F.trans2 (FX.ofRX (Y := fun q => q = pa) M (by rw [o2 _ (Ne.symm nn)]) (fun q hq j => by rw [o2 q (fun z => hq (Or.inr (Or.inr (Or.inr z))))])) (fun q _ z => Or.inl (Or.inl z)), ⟨S, f, cs_mv S1 (by rw [M.zi, o2 _ (Ne.symm nn)]) (by rw [M.zi, o2 _ (Ne.symm nn)]) (fun j _ => by rw [rr, M.zi, o2 _ (Ne.symm pn11)]), fun k hk => by rw [M.zi, o2 _ (Ne.symm pn7)]; exact S2 k hk, S3, S4, S5, S6⟩, ?_, fun q q12 q13 => by rw [M.zi, p2 q q13]; exact Z q q12 q13⟩
  rw [M.zi, p2 12 (by decide)]
  exact T
theorem l_dw {hh : MH} {pa : Nat} {Y : RYt} {k q n t : Int} {xk xq xn xt : Int32} (ok : pa_ok hh pa) (cap : ps_n (ry_s Y) + 378 ≤ 16000) (t0 : 0 ≤ ry_t Y) (t1 : ry_t Y ≤ 96) (qk : xk.toInt = k) (k30 : k ≤ 30) (qq : xq.toInt = q) (qn : xn.toInt = n) (qt : xt.toInt = t) (g : ∀ (h : MH) (lv : List (Nat × Value)) (i : Nat), dw_I hh pa Y i h → i ≤ 30 → m_lk lv 0 = some (.ref pa) → m_lk lv 5 = some (.int xn) → m_lk lv 6 = some (.int xt) → HJ 181 0 (lv_args 0 [.ref pa, .int xq, .int xn]) [] h (fun v h' => HJ 179 122 lv (v.toList ++ []) h' Q)) : ∀ (d i : Nat) (h : MH) (lv : List (Nat × Value)) (xi : Int32), (k - (i : Int)).toNat ≤ d → i ≤ 30 → xi.toInt = (i : Int) → dw_I hh pa Y i h → m_lk lv 0 = some (.ref pa) → m_lk lv 3 = some (.int xk) → m_lk lv 4 = some (.int xq) → m_lk lv 5 = some (.int xn) → m_lk lv 6 = some (.int xt) → m_lk lv 7 = some (.int xi) → HJ 179 40 lv [] h Q := by
  intro d
  induction d with
  | zero =>
    intro i h lv xi hd i30 qi I e0 e3 e4 e5 e6 e7
    obtain ⟨ok', re, rw_⟩ := pa_FX ok I.1 I.2.1
    exact r_dw40 (RX.start h) e0 e3 qk e4 qq e5 qn e6 qt e7 qi ok'.1.2.1 ok'.1.1 (fun _ => g h lv i I i30 e0 e5 e6) (fun _ _ c => absurd c (by omega))
  | succ d ih =>
    intro i h lv xi hd i30 qi I e0 e3 e4 e5 e6 e7
    obtain ⟨ok', re, rw_⟩ := pa_FX ok I.1 I.2.1
    refine r_dw40 (RX.start h) e0 e3 qk e4 qq e5 qn e6 qt e7 qi ok'.1.2.1 ok'.1.1 (fun _ => g h lv i I i30 e0 e5 e6) (fun x1 q1 ck => ?_)
    refine k_db (n := 3) (RX.start h) ok'.1.1 q1 (by decide) (fun x2 h2 H2 _ _ M2 o2 p2 => ?_)
    have I2 := dw_pa ok I M2 o2 p2
    show HJ 179 51 lv [.int x2] h2 Q
    obtain ⟨o, F, ⟨S, f, S1, S2, S3, S4, S5, S6⟩, T, Z⟩ := id I2
    obtain ⟨ok2, re2, rw2⟩ := pa_FX ok o F
    have a7 := pa_ap ok2 (i := 7) (by decide) (by decide)
    have a9 := pa_ap ok2 (i := 9) (by decide) (by decide)
    have l9 := (ok2.2.2.2.2.2.2.1 9 (by decide)).2.2.2.2
    have d97 := ok2.2.2.2.2.2.2.2 9 7 (by decide) (by decide) (by decide)
    have w63 := p_wsL (f := f) 6
    have e64 : (2 : Nat) ^ 6 = 64 := by decide
    rw [e64] at w63
    have nxt : ∀ (h3 : MH) (lv3 : List (Nat × Value)) (x3 : Int32), dw_I hh pa Y (i + 1) h3 → x3.toInt = (i : Int) + 1 → m_lk lv3 0 = some (.ref pa) → m_lk lv3 3 = some (.int xk) → m_lk lv3 4 = some (.int xq) → m_lk lv3 5 = some (.int xn) → m_lk lv3 6 = some (.int xt) → m_lk lv3 7 = some (.int x3) → HJ 179 40 lv3 [] h3 Q := fun h3 lv3 x3 I3 q3 c0 c3 c4 c5 c6 c7 => ih (i + 1) h3 lv3 x3 (by omega) (by omega) (by omega) I3 c0 c3 c4 c5 c6 c7
    have at92 : ∀ (lv3 : List (Nat × Value)), m_lk lv3 0 = some (.ref pa) → m_lk lv3 3 = some (.int xk) → m_lk lv3 4 = some (.int xq) → m_lk lv3 5 = some (.int xn) → m_lk lv3 6 = some (.int xt) → m_lk lv3 7 = some (.int xi) → HJ 50 0 (lv_args 0 [.ref pa]) [] h2 (fun v h' => HJ 179 92 lv3 (v.toList ++ []) h' Q) := fun lv3 c0 c3 c4 c5 c6 c7 => by
      refine k_hs (f := f) (RX.start h2) ok2.1.1 a7.1 (by rw [re2 7]; exact S2) (fun xz qz => ?_)
      show HJ 179 92 lv3 [.int xz] h2 Q
      refine r_dw92 (RX.start h2) c0 c3 qk c4 qq c5 qn c6 qt c7 qi qz (by omega) (by omega) ok2.1.2.1 ok2.1.1 (fun x3 q3 lv4 b0 b3 b4 b5 b6 b7 _ => nxt h2 lv4 x3 (dw_up I2) q3 b0 b3 b4 b5 b6 b7) (fun x3 q3 _ => ?_)
      refine k_db (n := 100) (RX.start h2) ok2.1.1 q3 (by decide) (fun x4 h4 H4 y0 y1 M4 o4 p4 => ?_)
      have I4 := dw_pa ok I2 M4 o4 p4
      show HJ 179 104 lv3 [.int x4, .ref pa] h4 Q
      obtain ⟨o4', F4, ⟨U, u, U1, U2, U3, U4, U5, U6⟩, T4, Z4⟩ := id I4
      obtain ⟨ok4, re4, rw4⟩ := pa_FX ok o4' F4
      refine r_dw104 (RX.start h4) c0 c3 qk c4 qq c5 qn c6 qt c7 qi rfl ok4.1.2.1 ok4.1.1 ?_
      refine k_put (tt := z_i h4 pa 12) (S := U) (f := u) ok4 (by rw [re4 0]; exact U1) (by rw [re4 7]; exact U2) U3 U4 (by omega) rfl (by omega) (by omega) rfl y0 (by omega) (fun x5 h5 R => ?_)
      show HJ 179 107 lv3 [.int x5] h5 Q
      refine r_dw107 (RX.start h5) c0 c3 qk c4 qq c5 qn c6 qt c7 qi rfl (by omega) (by omega) (fun x6 q6 lv6 b0 b3 b4 b5 b6 b7 => nxt h5 lv6 x6 ?_ q6 b0 b3 b4 b5 b6 b7)
      rcases R with ⟨-, -, eh⟩ | ⟨-, nw, R1, R2, R3, R4, R5, R6⟩
      · rw [eh]
        exact dw_up I4
      · rw [re4 0] at R1 R4 R5
        rw [re4 7] at R2
        obtain ⟨u1, u2, u3, u4⟩ := pm_puI (t := z_i h4 pa 12) (k := x4.toInt) U3 U4 nw
        exact ⟨R4, F4.trans2 R5 (fun q _ z => Or.inl (py_FX ok o4' F4 z)), ⟨_, _, R1, R2, u1, u2, ps_exT U5 u3, by omega⟩, ⟨by omega, by omega⟩, fun q q12 q13 => (R6 q q12).trans (Z4 q q12 q13)⟩
    refine r_dw51 (RX.start h2) e0 e3 qk e4 qq e5 qn e6 qt e7 qi rfl ok2.1.2.1 ok2.1.1 (fun lv3 c0 c3 c4 c5 c6 c7 _ => at92 lv3 c0 c3 c4 c5 c6 c7) (fun _ => ?_)
    refine k_hs (f := f) (RX.start h2) ok2.1.1 a7.1 (by rw [re2 7]; exact S2) (fun xz qz => ?_)
    show HJ 179 58 lv [.int xz] h2 Q
    refine r_dw58 (RX.start h2) e0 e3 qk e4 qq e5 qn e6 qt e7 qi qz ok2.1.2.1 ok2.1.1 ok2.2.1.1.2.1 ok2.2.1.1.1 (fun lv3 c0 c3 c4 c5 c6 c7 _ => at92 lv3 c0 c3 c4 c5 c6 c7) (fun lv4 b0 b3 b4 b5 b6 b7 _ => ?_)
    refine k_take (S := S) (f := f) ok2.2.1 a7 a9 l9 d97 (by rw [re2 0]; exact S1) (by rw [re2 7]; exact S2) S3 S4 (by omega) (by omega) (fun x7 h7 c7 o7 S7 E7 F7 => ?_)
    rw [re2 0] at o7 S7 F7
    rw [re2 7] at E7
    have K : ps_sh (pm_tk (S, f)).1 ∧ hp_in (pm_tk (S, f)).1 (pm_tk (S, f)).2 ∧ ps_ex S (pm_tk (S, f)).1 ∧ ps_n (pm_tk (S, f)).1 ≤ ps_n S + 6 := by
      by_cases e : pm_le S f 6 = -1
      · have e2 : pm_tk (S, f) = (S, f) := by
          unfold pm_tk
          rw [if_pos e]
        rw [e2]
        exact ⟨S3, S4, ps_ex0, Nat.le_add_right _ _⟩
      · obtain ⟨k1, k2, k3, k4, -⟩ := pm_tkI S3 S4 (by omega) e
        exact ⟨k1, k2, k3, k4⟩
    have F7' : FX (h_r hh pa 0) (py_Y hh pa) h2 h7 := by
      refine F7.mono (fun q hq => ?_)
      rcases hq with z | z
      · rw [re2 7] at z
        exact Or.inr (Or.inr ⟨7, by decide, z⟩)
      · rw [(F.2.2 _ ok.2.1.1.2.2).2.1 2 (by omega)] at z
        exact Or.inr (Or.inr ⟨9, by decide, z⟩)
    have pn := pa_ne ok (i := 7) (by decide)
    have Z7 : ∀ q, z_i h7 pa q = z_i h2 pa q := fun q => by
      refine ((F7.2.2 pa (ok2.1.2.2)).2.2 (fun z => ?_)).1 q
      rcases z with z | z | z | z | z
      · exact pn.2.2.2.1 z
      · have := o.2.1.1
        rw [← z, ok2.1.1] at this
        omega
      · have := o.2.2.1.1
        rw [← z, ok2.1.1] at this
        omega
      · have := a7.1.1
        rw [show pa_w h2 pa 7 = h_r h2 pa 7 from rfl, ← z, ok2.1.1] at this
        omega
      · have := a9.1.1
        rw [show pa_w h2 pa 9 = h_r h2 (h_r h2 pa 0) 2 from rfl, re2 0, ← z, ok2.1.1] at this
        omega
    show HJ 179 84 lv4 [.int x7] h7 Q
    refine r_dw84 (RX.start h7) b0 b3 qk b4 qq b5 qn b6 qt b7 qi rfl (by omega) (by omega) (fun x8 q8 lv8 d0 d3 d4 d5 d6 d7 => nxt h7 lv8 x8 ?_ q8 d0 d3 d4 d5 d6 d7)
    exact ⟨o7, F.trans F7', ⟨_, _, S7, E7, K.1, K.2.1, ps_exT S5 K.2.2.1, by have := K.2.2.2; omega⟩, ⟨by rw [Z7]; exact T.1, by rw [Z7]; omega⟩, fun q q12 q13 => (Z7 q).trans (Z q q12 q13)⟩
theorem k_draw {pa : Nat} {Y : RYt} {l v : Int} {xv xs xk xq : Int32} (ok : pa_ok h pa) (I : cs_of h (z_i h) (h_r h pa 0) (ps_le (ry_s Y) l)) (P : pr_of h pa Y) (sh : ps_sh (ry_s Y)) (hs : ∀ u : Nat, u < ry_v Y → hp_in (ry_s Y) (ry_h Y u)) (cap : ps_n (ry_s Y) + 378 ≤ 16000) (et : z_i h pa 12 = ry_t Y) (t0 : 0 ≤ ry_t Y) (t1 : ry_t Y ≤ 96) (qv : xv.toInt = v) (v0 : 0 ≤ v) (v1 : v < (ry_v Y : Int)) (k30 : xk.toInt ≤ 30) (q0 : 0 ≤ xq.toInt) (q3 : xq.toInt ≤ 3) (g : ∀ (x : Int32) (h' : MH), pa_ok h' pa → cs_of h' (z_i h') (h_r h pa 0) (ps_le (ry_s Y) 0) → FW (h_r h pa 0) (py_Y h pa) h h' → (∀ q, q ≠ 13 → z_i h' pa q = z_i h pa q) → (∀ j, j < ps_n (ry_s Y) → h_l h' (h_r h' (h_r h pa 0) 1) j = h_l h (h_r h (h_r h pa 0) 1) j) → Q (some (.int x)) h') : HJ 179 0 (lv_args 0 [.ref pa, .int xv, .int xs, .int xk, .int xq]) [] h Q := by
  have M := RX.start h
  have nd0 := ok.2.1
  have pn := pa_ne ok (i := 7) (by decide)
  have a7 := pa_ap ok (i := 7) (by decide) (by decide)
  have n7 := nl_ap nd0 a7.1.1 a7.2.2
  have e11 : z_i h pa 11 + 1 = (ry_v Y : Int) := P.1.1
  have v41 := P.1.2.2
  have w11 : pa_w h pa 11 = h_r h (h_r h pa 0) 0 := rfl
  have pc11 := (pa_ne ok (i := 11) (by decide))
  rw [w11] at pc11
  refine r_dw0 M rfl rfl qv rfl rfl rfl rfl rfl rfl ok.1.1 nd0.1.1 ok.1.2.1 (fun x1 q1 x3 q3 h6 H6 f6 h7 H7 f7 lv4 M7 a0 a3 a4 a5 a6 => ?_)
  have q1' : x1.toInt = (ps_n (ry_s Y) : Int) := q1.trans I.1
  have q3' : x3.toInt = ry_t Y := q3.trans et
  have o7 : ∀ q, q ≠ h_r h pa 0 → q ≠ pa → H7 q = z_i h q := fun q h1 h2 => by
    rw [f7, m_uN _ _ _ _ h2, f6, m_uN _ _ _ _ h1]
    rfl
  have p7 : ∀ k, k ≠ 13 → H7 pa k = z_i h pa k := fun k hk => by
    rw [f7, m_uE, m_uN _ _ _ _ hk, f6, m_uN _ _ _ _ pn.2.2.2.1]
    rfl
  have m7 : H7 (h_r h pa 0) = m_u (z_i h (h_r h pa 0)) 6 0 := by
    rw [f7, m_uN _ _ _ _ (Ne.symm pn.2.2.2.1), f6, m_uE]
    rfl
  refine k_load (v := v) M7 ok qv v0 (by rw [p7 11 (by decide)]; omega) (by rw [p7 11 (by decide)]; omega) a7.1 (fun h8 H8 M8 f8 => ?_)
  show HJ 179 37 lv4 [] h8 Q
  have o8 : ∀ q, q ≠ h_r h pa 7 → H8 q = H7 q := fun q hq => by rw [f8, m_uN _ _ _ _ hq]
  have n8 : H8 (h_r h pa 0) = m_u (z_i h (h_r h pa 0)) 6 0 := (o8 _ (Ne.symm n7.1)).trans m7
  have rr8 : h_r h8 = h_r h := M8.2.2.1.1
  have en5 : H8 (h_r h pa 0) 5 = z_i h (h_r h pa 0) 5 := by rw [n8, m_uN _ _ _ _ (by decide)]
  have en6 : H8 (h_r h pa 0) 6 = 0 := by rw [n8, m_uE]
  have I0 : dw_I h pa Y 0 h8 := by
    refine ⟨nl_RX nd0 M8 en5, FX.ofRX M8 en5 (fun q hq j => ?_), ⟨ps_le (ry_s Y) 0, ry_h Y v, ?_, fun k hk => ?_, sh, ?_, ps_exL, by show ps_n (ry_s Y) ≤ _; omega⟩, ?_, fun q q12 q13 => by rw [M8.zi, o8 _ pn.1, p7 q q13]⟩
    · rw [o8 q (fun z => hq (Or.inr (Or.inr (Or.inr (Or.inr (Or.inr ⟨7, by decide, z⟩)))))), o7 q (fun z => hq (Or.inl z)) (fun z => hq (Or.inr (Or.inr (Or.inr (Or.inl z)))))]
    · refine cs_drop I ps_exL (by rw [M8.zi, en5]; exact I.1) (by rw [M8.zi, en6]) (fun j => ?_)
      rw [rr8, M8.zi, o8 _ (Ne.symm n7.2.1), o7 _ (fun z => pc11.2.1 z.symm) (fun z => pc11.1 z.symm)]
    · rw [M8.zi, f8, m_uE, if_pos hk, ry_hv v0]
      have wn := pa_ne ok (i := 18 + v.toNat) (by omega)
      rw [o7 _ (Ne.symm wn.2.1) (Ne.symm wn.1)]
      exact (P.2 v.toNat (by omega)).1 k hk
    · rw [ry_hv v0]
      exact hs v.toNat (by omega)
    · rw [M8.zi, o8 _ pn.1, p7 12 (by decide)]
      exact ⟨by omega, by omega⟩
  refine r_dw37 M8 a0 a3 rfl a4 rfl a5 q1' a6 q3' (fun x9 q9 lv9 b0 b3 b4 b5 b6 b7 => ?_)
  refine l_dw ok cap t0 t1 rfl k30 rfl q1' q3' (fun h10 lv10 i10 I10 i30 c0 c5 c6 => ?_) 30 0 h8 lv9 x9 (by omega) (by decide) q9 I0 b0 b3 b4 b5 b6 b7
  obtain ⟨o, F, ⟨S, f, S1, S2, S3, S4, S5, S6⟩, T, Z⟩ := I10
  obtain ⟨ok', re, rw_⟩ := pa_FX ok o F
  refine k_da (S := S) (f := f) ok' (by rw [re 0]; exact S1) (by rw [re 7]; exact S2) S4 q0 (by assumption) (fun x => ?_)
  show HJ 179 122 lv10 [.int x] h10 Q
  refine r_dw122 (RX.start h10) c0 c5 q1' c6 q3' rfl ok'.1.1 (by rw [re 0]; exact o.1.2.1) (by rw [re 0]; exact o.1.1) (fun lv11 d0 d5 d6 d7 => ?_)
  rw [re 0]
  have m10 : z_i h10 (h_r h pa 0) 5 = (ps_n S : Int) := S1.1
  have ns : ps_n (ry_s Y) ≤ ps_n S := S5.1
  refine k_drop (m := z_i h10 (h_r h pa 0) 5) (RX.start h10) o.1.1 rfl (by omega) q1' (fun h12 H12 M12 o12 n12 => ?_)
  have n125 : H12 (h_r h pa 0) 5 = (ps_n (ry_s Y) : Int) := by
    rw [n12, m_uN _ _ _ _ (by decide), m_uE, m10]
    by_cases c : (ps_n (ry_s Y) : Int) < (ps_n S : Int)
    · rw [if_pos c, if_neg (by omega)]
    · rw [if_neg c]
      omega
  have n126 : H12 (h_r h pa 0) 6 = 0 := by rw [n12, m_uE]
  show HJ 179 133 lv11 [] h12 Q
  refine r_dw133 M12 d0 d6 q3' d7 rfl ok'.1.1 (fun h13 H13 f13 M13 => ?_)
  have e9n : H13 (h_r h pa 0) = H12 (h_r h pa 0) := by rw [f13, m_uN _ _ _ _ (Ne.symm pn.2.2.2.1)]
  have e9o : ∀ q, q ≠ pa → q ≠ h_r h pa 0 → H13 q = z_i h10 q := fun q h1 h2 => by
    rw [f13, m_uN _ _ _ _ h1, o12 q h2]
    rfl
  have o9 : nl_ok h13 (h_r h pa 0) := nl_RXm o M13 (by rw [e9n, n125]; omega) (by rw [e9n, n125, m10]; omega)
  obtain ⟨ok9, rr9, -⟩ := pa_RX ok' M13 (by rw [re 0]; exact o9)
  have nc : h_r h10 (h_r h pa 0) 0 ≠ h_r h pa 0 := fun y => by
    have := o.2.1.1
    rw [y, o.1.1] at this
    omega
  have pc : h_r h10 (h_r h pa 0) 0 ≠ pa := fun y => by
    have := o.2.1.1
    rw [y, ok'.1.1] at this
    omega
  refine g x h13 ok9 (cs_drop S1 S5 (by rw [M13.zi, e9n, n125]) (by rw [M13.zi, e9n, n126]) (fun j => by rw [rr9, M13.zi, e9o _ pc nc])) ((FW.ofFX F).trans2 (FW.ofRX (Y := fun q => q = pa) M13 (fun q hq j => by rw [e9o q (fun y => hq (Or.inr (Or.inr (Or.inr y)))) (fun y => hq (Or.inl y))])) (fun q _ y => Or.inl (Or.inl y))) (fun q q13 => ?_) (fun j hj => by rw [M13.2.2.1.2, M13.2.2.1.1]; exact F.2.1.2.2.1 j (by rw [I.1]; show (j : Int) < (ps_n (ry_s Y) : Int); omega))
  by_cases e : q = 12
  · rw [e, M13.zi, f13, m_uE, m_uE]
    exact et.symm
  · rw [M13.zi, f13, m_uE, m_uN _ _ _ _ e, o12 pa pn.2.2.2.1]
    exact Z q e q13
end
