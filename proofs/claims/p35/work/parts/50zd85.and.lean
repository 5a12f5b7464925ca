section
-- WHAT A FURTHER ACT WOULD MAKE: done, told, and dropped again
theorem cs_drop {h0 h1 : MH} {H H1 : Nat → Nat → Int} {nd : Nat} {S X : PSt} (I : cs_of h0 H nd X) (E : ps_ex S X) (h5 : H1 nd 5 = (ps_n S : Int)) (h6 : H1 nd 6 = 0) (old : ∀ j, H1 (h_r h1 nd 0) j = H (h_r h0 nd 0) j) : cs_of h1 H1 nd (ps_le S 0) := by
  obtain ⟨-, -, -, i4, i5⟩ := I
  refine ⟨h5, h6, ⟨Int.le_refl _, Int.natCast_nonneg _⟩, Nat.le_trans E.1 i4, fun v hv => ?_⟩
  have hv : v < ps_n S := hv
  obtain ⟨j1, j2, j3, j4, j5, j6⟩ := i5 v (Nat.lt_of_lt_of_le hv E.1)
  obtain ⟨e1, e2, e3, e4⟩ := E.2 v hv
  rw [e1] at j4 j5 j6
  rw [e2] at j1 j2
  rw [e3] at j1 j3
  refine ⟨by rw [old]; exact j1, j2, j3, by rw [old]; exact j4, j5, fun r hr => ?_⟩
  have hr : (r : Int) < ps_k S v := hr
  rw [old]
  have := j6 r hr
  rw [e4 r (by omega)] at this
  exact this
theorem ps_exL {S : PSt} {l : Int} : ps_ex S (ps_le S l) := ⟨Nat.le_refl _, fun _ _ => ⟨rfl, rfl, rfl, fun _ _ => rfl⟩⟩
-- in place, all but some addresses
theorem FW.ofRX {nd : Nat} {Y : Nat → Prop} {h0 h : MH} {H : Nat → Nat → Int} (M : RX h0 h H) (e : ∀ a, ¬ (a = nd ∨ a = h_r h0 nd 0 ∨ a = h_r h0 nd 1 ∨ Y a) → ∀ j, H a j = z_i h0 a j) : FW nd Y h0 h := by
  obtain ⟨m1, m2, ⟨m3, m4⟩, m5⟩ := M
  have n : h_n h = h_n h0 := congrArg Prod.fst m1
  refine ⟨by omega, fun k _ => Or.inl (by rw [m3]), fun a _ => ⟨by rw [m2], fun k _ => by rw [m3], fun hn => ⟨fun j => (m5 a j).trans (e a hn j), fun j => by rw [m4]⟩⟩⟩
theorem nl_RXm {h0 h : MH} {H : Nat → Nat → Int} {nd : Nat} (ok : nl_ok h0 nd) (M : RX h0 h H) (e0 : 0 ≤ H nd 5) (e1 : H nd 5 ≤ z_i h0 nd 5) : nl_ok h nd := by
  obtain ⟨a, b, c, d, e, f⟩ := ok
  have n : h_n h = h_n h0 := congrArg Prod.fst M.1
  have z : z_i h nd 5 = H nd 5 := M.zi nd 5
  unfold nl_ok
  rw [M.2.1, M.2.2.1.1, n, z]
  exact ⟨a, b, c, d, ⟨e0, by omega⟩, f⟩
theorem pa_RX {h0 h : MH} {H : Nat → Nat → Int} {pa : Nat} (ok : pa_ok h0 pa) (M : RX h0 h H) (o : nl_ok h (h_r h0 pa 0)) : pa_ok h pa ∧ h_r h = h_r h0 ∧ ∀ i, pa_w h pa i = pa_w h0 pa i := by
  have rr : h_r h = h_r h0 := M.2.2.1.1
  have n : h_n h = h_n h0 := congrArg Prod.fst M.1
  have ww : ∀ i, pa_w h pa i = pa_w h0 pa i := fun i => by
    unfold pa_w
    rw [rr]
  refine ⟨?_, rr, ww⟩
  obtain ⟨a, -, t, r, li, fr, b, c⟩ := ok
  unfold pa_ok
  rw [rr, M.2.1, n]
  refine ⟨a, o, t, r, li, fr, fun i hi => ?_, fun i j hi hj hn => ?_⟩
  · rw [ww i]
    exact b i hi
  · rw [ww i, ww j]
    exact c i j hi hj hn
def wm_q (Y : RYt) (w v a b f x : Int) : Prop := (ry_do Y w v a b = none ∧ x = -1) ∨ ∃ X, ry_do Y w v a b = some X ∧ x = (if f = 0 then (ps_n X.1 : Int) - (ps_n (ry_s Y) : Int) else ps_l X.1)
-- the books of versions stay under what an act changes
theorem pr_FX {h h' : MH} {pa : Nat} {Y : RYt} (ok : pa_ok h pa) (o' : nl_ok h' (h_r h pa 0)) (F : FX (h_r h pa 0) (py_Y h pa) h h') (z11 : z_i h' pa 11 = z_i h pa 11) (P : pr_of h pa Y) : pr_of h' pa Y := by
  obtain ⟨⟨p1, p2, p3⟩, p4⟩ := P
  obtain ⟨-, re, rw_⟩ := pa_FX ok o' F
  refine ⟨⟨by rw [z11]; exact p1, p2, p3⟩, fun v hv => ?_⟩
  obtain ⟨q1, q2⟩ := p4 v hv
  refine ⟨fun k hk => ?_, ?_⟩
  · rw [rw_ (18 + v) (by omega) (by omega), py_kp ok F (by omega) (by omega)]
    exact q1 k hk
  · rw [re 3]
    have := py_kp ok F (i := 12) (by decide) (by decide) v
    exact this.trans q2
section
variable {lv : List (Nat × Value)} {Q : Option Value → MH → Prop} {h0 h : MH} {H : Nat → Nat → Int}
theorem r_wm0 {pa : Nat} {w v a b f : Int} (M : RX h0 h H) (e0 : m_lk lv 0 = some (.ref pa)) {lx1 : Int32} (e1 : m_lk lv 1 = some (.int lx1)) (lq1 : lx1.toInt = w) {lx2 : Int32} (e2 : m_lk lv 2 = some (.int lx2)) (lq2 : lx2.toInt = v) {lx3 : Int32} (e3 : m_lk lv 3 = some (.int lx3)) (lq3 : lx3.toInt = a) {lx4 : Int32} (e4 : m_lk lv 4 = some (.int lx4)) (lq4 : lx4.toInt = b) {lx5 : Int32} (e5 : m_lk lv 5 = some (.int lx5)) (lq5 : lx5.toInt = f)  (hk0 : (h_k h0 pa).1 = 4) (hk1 : (h_k h0 (h_r h0 pa 0)).1 = 3) (hs0 : 16 ≤ pa)
    (g0 : ∀ x1 : Int32, x1.toInt = H (h_r h0 pa 0) 5 → ∀ x3 : Int32, x3.toInt = H pa 12 → ∀ h6 : MH, ∀ H6 : Nat → Nat → Int, H6 = m_u H (h_r h0 pa 0) (m_u (H (h_r h0 pa 0)) 6 (0)) → ∀ lv4 : List (Nat × Value), RX h0 h6 H6 → m_lk lv4 0 = some (.ref pa) → m_lk lv4 1 = some (.int lx1) → m_lk lv4 2 = some (.int lx2) → m_lk lv4 3 = some (.int lx3) → m_lk lv4 4 = some (.int lx4) → m_lk lv4 5 = some (.int lx5) → m_lk lv4 6 = some (.int x1) → m_lk lv4 7 = some (.int x3) → HJ 56 0 (lv_args 0 [.ref pa, .int lx1, .int lx2, .int lx3, .int lx4]) [] h6 (fun v h' => HJ 169 32 lv4 (v.toList ++ []) h' Q))
    : HJ 169 0 lv [] h Q := by
  refine hI_al (k := 0) rfl e0 rfl ?_ -- 0
  refine hR_gr (c := 3) (k := 0) M hk0 rfl rfl rfl rfl ?_ -- 1
  refine hR_gi (c := 2) (k := 5) M hk1 rfl rfl rfl rfl (fun x1 q1 => ?_) -- 4
  have gb1 : -2147483648 ≤ H (h_r h0 pa 0) 5 ∧ H (h_r h0 pa 0) 5 ≤ 2147483647 := by rw [← q1]; exact g_iT _
  refine hM_si2 (k := 6) rfl (by decide +kernel) rfl (fun lv2 e2_6 u2 => ?_) -- 7
  have e2_0 := u2 0 _ (by decide) (Or.inl rfl) e0
  have e2_1 := u2 1 _ (by decide) (Or.inl rfl) e1
  have e2_2 := u2 2 _ (by decide) (Or.inl rfl) e2
  have e2_3 := u2 3 _ (by decide) (Or.inl rfl) e3
  have e2_4 := u2 4 _ (by decide) (Or.inl rfl) e4
  have e2_5 := u2 5 _ (by decide) (Or.inl rfl) e5
  refine hI_al (k := 0) rfl e2_0 rfl ?_ -- 9
  refine hR_gi (c := 3) (k := 12) M hk0 rfl rfl rfl rfl (fun x3 q3 => ?_) -- 10
  have gb3 : -2147483648 ≤ H pa 12 ∧ H pa 12 ≤ 2147483647 := by rw [← q3]; exact g_iT _
  refine hM_si2 (k := 7) rfl (by decide +kernel) rfl (fun lv4 e4_7 u4 => ?_) -- 13
  have e4_0 := u4 0 _ (by decide) (Or.inl rfl) e2_0
  have e4_1 := u4 1 _ (by decide) (Or.inl rfl) e2_1
  have e4_2 := u4 2 _ (by decide) (Or.inl rfl) e2_2
  have e4_3 := u4 3 _ (by decide) (Or.inl rfl) e2_3
  have e4_4 := u4 4 _ (by decide) (Or.inl rfl) e2_4
  have e4_5 := u4 5 _ (by decide) (Or.inl rfl) e2_5
  have e4_6 := u4 6 _ (by decide) (Or.inl rfl) e2_6
  refine hI_al (k := 0) rfl e4_0 rfl ?_ -- 15
  refine hR_gr (c := 3) (k := 0) M hk0 rfl rfl rfl rfl ?_ -- 16
  refine hM_ic (n := 0) rfl (by decide) rfl (fun x5 q5 => ?_) -- 19
  refine hR_pi (c := 2) (k := 6) M hk1 rfl rfl ⟨by decide, by decide +kernel, rfl⟩ q5 rfl (fun h6 H6 f6 M6 => ?_) -- 20
  refine hI_al (k := 0) rfl e4_0 rfl ?_ -- 23
  refine hI_il (k := 1) rfl e4_1 rfl ?_ -- 24
  refine hI_il (k := 2) rfl e4_2 rfl ?_ -- 25
  refine hI_il (k := 3) rfl e4_3 rfl ?_ -- 26
  refine hI_il2 (k := 4) rfl e4_4 rfl ?_ -- 27
  refine HJ.call (j := 56) (as := [.ref pa, .int lx1, .int lx2, .int lx3, .int lx4]) (rr := []) (pc' := 32) (m_cR (kc := 3) rfl rfl (by decide +kernel) rfl rfl rfl ⟨rfl, by decide +kernel, by decide +kernel⟩ (by decide) hs0 (by rw [M6.2.1]; exact hk0)) (by show 5 ≤ m_lc 56; decide +kernel) ?_ -- 29
  exact g0 x1 q1 x3 q3 h6 H6 f6 lv4 M6 e4_0 e4_1 e4_2 e4_3 e4_4 e4_5 e4_6 e4_7
theorem r_wm32 {pa : Nat} {w v a b f n t z : Int} (M : RX h0 h H) (e0 : m_lk lv 0 = some (.ref pa)) {lx1 : Int32} (e1 : m_lk lv 1 = some (.int lx1)) (lq1 : lx1.toInt = w) {lx2 : Int32} (e2 : m_lk lv 2 = some (.int lx2)) (lq2 : lx2.toInt = v) {lx3 : Int32} (e3 : m_lk lv 3 = some (.int lx3)) (lq3 : lx3.toInt = a) {lx4 : Int32} (e4 : m_lk lv 4 = some (.int lx4)) (lq4 : lx4.toInt = b) {lx5 : Int32} (e5 : m_lk lv 5 = some (.int lx5)) (lq5 : lx5.toInt = f) {lx6 : Int32} (e6 : m_lk lv 6 = some (.int lx6)) (lq6 : lx6.toInt = n) {lx7 : Int32} (e7 : m_lk lv 7 = some (.int lx7)) (lq7 : lx7.toInt = t) {sx0 : Int32} (sq0 : sx0.toInt = z) (pn0 : 0 ≤ n) (pn1 : n ≤ 16000) (pm0 : 0 ≤ H (h_r h0 pa 0) 5) (pm1 : H (h_r h0 pa 0) 5 ≤ 16000) (hk0 : (h_k h0 pa).1 = 4) (hk1 : (h_k h0 (h_r h0 pa 0)).1 = 3) (hs0 : 16 ≤ h_r h0 pa 0)
    (g0 : ∀ x3 : Int32, x3.toInt = (H (h_r h0 pa 0) 5) - n → ∀ lv4 : List (Nat × Value), m_lk lv4 0 = some (.ref pa) → m_lk lv4 1 = some (.int lx1) → m_lk lv4 2 = some (.int lx2) → m_lk lv4 3 = some (.int lx3) → m_lk lv4 4 = some (.int lx4) → m_lk lv4 5 = some (.int lx5) → m_lk lv4 6 = some (.int lx6) → m_lk lv4 7 = some (.int lx7) → m_lk lv4 8 = some (.int sx0) → m_lk lv4 9 = some (.int x3) → f = 0 → HJ 46 0 (lv_args 0 [.ref (h_r h0 pa 0), .int lx6]) [] h (fun v h' => HJ 169 70 lv4 (v.toList ++ []) h' Q))
    (g1 : ∀ x5 : Int32, x5.toInt = H (h_r h0 pa 0) 6 → ∀ lv6 : List (Nat × Value), m_lk lv6 0 = some (.ref pa) → m_lk lv6 1 = some (.int lx1) → m_lk lv6 2 = some (.int lx2) → m_lk lv6 3 = some (.int lx3) → m_lk lv6 4 = some (.int lx4) → m_lk lv6 5 = some (.int lx5) → m_lk lv6 6 = some (.int lx6) → m_lk lv6 7 = some (.int lx7) → m_lk lv6 8 = some (.int sx0) → m_lk lv6 9 = some (.int x5) → f ≠ 0 → HJ 46 0 (lv_args 0 [.ref (h_r h0 pa 0), .int lx6]) [] h (fun v h' => HJ 169 70 lv6 (v.toList ++ []) h' Q))
    : HJ 169 32 lv [.int sx0] h Q := by
  refine hM_si2 (k := 8) rfl (by decide +kernel) rfl (fun lv1 e1_8 u1 => ?_) -- 32
  have e1_0 := u1 0 _ (by decide) (Or.inl rfl) e0
  have e1_1 := u1 1 _ (by decide) (Or.inl rfl) e1
  have e1_2 := u1 2 _ (by decide) (Or.inl rfl) e2
  have e1_3 := u1 3 _ (by decide) (Or.inl rfl) e3
  have e1_4 := u1 4 _ (by decide) (Or.inl rfl) e4
  have e1_5 := u1 5 _ (by decide) (Or.inl rfl) e5
  have e1_6 := u1 6 _ (by decide) (Or.inl rfl) e6
  have e1_7 := u1 7 _ (by decide) (Or.inl rfl) e7
  refine hI_il2 (k := 5) rfl e1_5 rfl ?_ -- 34
  refine hM_zeq (off := 13) (t := 49) rfl lq5 (by decide) rfl (fun c36 => ?_) (fun c36 => ?_) -- 36
  · refine hI_al (k := 0) rfl e1_0 rfl ?_ -- 49
    refine hR_gr (c := 3) (k := 0) M hk0 rfl rfl rfl rfl ?_ -- 50
    refine hR_gi (c := 2) (k := 5) M hk1 rfl rfl rfl rfl (fun x2 q2 => ?_) -- 53
    have gb2 : -2147483648 ≤ H (h_r h0 pa 0) 5 ∧ H (h_r h0 pa 0) 5 ≤ 2147483647 := by rw [← q2]; exact g_iT _
    refine hI_il2 (k := 6) rfl e1_6 rfl ?_ -- 56
    refine hM_sub rfl q2 lq6 (by omega) (by omega) rfl (fun x3 q3 => ?_) -- 58
    refine hM_si2 (k := 9) rfl (by decide +kernel) rfl (fun lv4 e4_9 u4 => ?_) -- 59
    have e4_0 := u4 0 _ (by decide) (Or.inl rfl) e1_0
    have e4_1 := u4 1 _ (by decide) (Or.inl rfl) e1_1
    have e4_2 := u4 2 _ (by decide) (Or.inl rfl) e1_2
    have e4_3 := u4 3 _ (by decide) (Or.inl rfl) e1_3
    have e4_4 := u4 4 _ (by decide) (Or.inl rfl) e1_4
    have e4_5 := u4 5 _ (by decide) (Or.inl rfl) e1_5
    have e4_6 := u4 6 _ (by decide) (Or.inl rfl) e1_6
    have e4_7 := u4 7 _ (by decide) (Or.inl rfl) e1_7
    have e4_8 := u4 8 _ (by decide) (Or.inl rfl) e1_8
    refine hI_al (k := 0) rfl e4_0 rfl ?_ -- 61
    refine hR_gr (c := 3) (k := 0) M hk0 rfl rfl rfl rfl ?_ -- 62
    refine hI_il2 (k := 6) rfl e4_6 rfl ?_ -- 65
    refine HJ.call (j := 46) (as := [.ref (h_r h0 pa 0), .int lx6]) (rr := []) (pc' := 70) (m_cR (kc := 2) rfl rfl (by decide +kernel) rfl rfl rfl ⟨rfl, by decide +kernel, by decide +kernel⟩ (by decide) hs0 (by rw [M.2.1]; exact hk1)) (by show 2 ≤ m_lc 46; decide +kernel) ?_ -- 67
    exact g0 x3 q3 lv4 e4_0 e4_1 e4_2 e4_3 e4_4 e4_5 e4_6 e4_7 e4_8 e4_9 c36
  · refine hI_al (k := 0) rfl e1_0 rfl ?_ -- 39
    refine hR_gr (c := 3) (k := 0) M hk0 rfl rfl rfl rfl ?_ -- 40
    refine hR_gi (c := 2) (k := 6) M hk1 rfl rfl rfl rfl (fun x5 q5 => ?_) -- 43
    have gb5 : -2147483648 ≤ H (h_r h0 pa 0) 6 ∧ H (h_r h0 pa 0) 6 ≤ 2147483647 := by rw [← q5]; exact g_iT _
    refine hI_go (pc' := 59) (off := 13) rfl (by decide) ?_ -- 46
    refine hM_si2 (k := 9) rfl (by decide +kernel) rfl (fun lv6 e6_9 u6 => ?_) -- 59
    have e6_0 := u6 0 _ (by decide) (Or.inl rfl) e1_0
    have e6_1 := u6 1 _ (by decide) (Or.inl rfl) e1_1
    have e6_2 := u6 2 _ (by decide) (Or.inl rfl) e1_2
    have e6_3 := u6 3 _ (by decide) (Or.inl rfl) e1_3
    have e6_4 := u6 4 _ (by decide) (Or.inl rfl) e1_4
    have e6_5 := u6 5 _ (by decide) (Or.inl rfl) e1_5
    have e6_6 := u6 6 _ (by decide) (Or.inl rfl) e1_6
    have e6_7 := u6 7 _ (by decide) (Or.inl rfl) e1_7
    have e6_8 := u6 8 _ (by decide) (Or.inl rfl) e1_8
    refine hI_al (k := 0) rfl e6_0 rfl ?_ -- 61
    refine hR_gr (c := 3) (k := 0) M hk0 rfl rfl rfl rfl ?_ -- 62
    refine hI_il2 (k := 6) rfl e6_6 rfl ?_ -- 65
    refine HJ.call (j := 46) (as := [.ref (h_r h0 pa 0), .int lx6]) (rr := []) (pc' := 70) (m_cR (kc := 2) rfl rfl (by decide +kernel) rfl rfl rfl ⟨rfl, by decide +kernel, by decide +kernel⟩ (by decide) hs0 (by rw [M.2.1]; exact hk1)) (by show 2 ≤ m_lc 46; decide +kernel) ?_ -- 67
    exact g1 x5 q5 lv6 e6_0 e6_1 e6_2 e6_3 e6_4 e6_5 e6_6 e6_7 e6_8 e6_9 c36
theorem r_wm70 {pa : Nat} {t z u : Int} (M : RX h0 h H) (e0 : m_lk lv 0 = some (.ref pa)) {lx7 : Int32} (e7 : m_lk lv 7 = some (.int lx7)) (lq7 : lx7.toInt = t) {lx8 : Int32} (e8 : m_lk lv 8 = some (.int lx8)) (lq8 : lx8.toInt = z) {lx9 : Int32} (e9 : m_lk lv 9 = some (.int lx9)) (lq9 : lx9.toInt = u)  (hk0 : (h_k h0 pa).1 = 4)
    (g0 : ∀ h1 : MH, ∀ H1 : Nat → Nat → Int, H1 = m_u H pa (m_u (H pa) 12 (t)) → ∀ x2 : Int32, x2.toInt = (-1) → RX h0 h1 H1 → z = 0 → Q (some (.int x2)) h1)
    (g1 : ∀ h1 : MH, ∀ H1 : Nat → Nat → Int, H1 = m_u H pa (m_u (H pa) 12 (t)) → RX h0 h1 H1 → z ≠ 0 → Q (some (.int lx9)) h1)
    : HJ 169 70 lv [] h Q := by
  refine hI_al (k := 0) rfl e0 rfl ?_ -- 70
  refine hI_il2 (k := 7) rfl e7 rfl ?_ -- 71
  refine hR_pi (c := 3) (k := 12) M hk0 rfl rfl ⟨by decide, by decide +kernel, rfl⟩ lq7 rfl (fun h1 H1 f1 M1 => ?_) -- 73
  refine hI_il2 (k := 8) rfl e8 rfl ?_ -- 76
  refine hM_zeq (off := 8) (t := 86) rfl lq8 (by decide) rfl (fun c78 => ?_) (fun c78 => ?_) -- 78
  · refine hM_ic (n := (-1)) rfl (by decide) rfl (fun x2 q2 => ?_) -- 86
    refine hI_ri rfl rfl ?_ -- 87
    exact g0 h1 H1 f1 x2 q2 M1 c78
  · refine hI_il2 (k := 9) rfl e9 rfl ?_ -- 81
    refine hI_go (pc' := 87) (off := 4) rfl (by decide) ?_ -- 83
    refine hI_ri rfl rfl ?_ -- 87
    exact g1 h1 H1 f1 M1 c78
theorem k_would {pa : Nat} {Y : RYt} {l w v a b f : Int} {xw xv xa xb xf : Int32} (ok : pa_ok h pa) (I : cs_of h (z_i h) (h_r h pa 0) (ps_le (ry_s Y) l)) (P : pr_of h pa Y) (sh : ps_sh (ry_s Y)) (hs : ∀ u : Nat, u < ry_v Y → hp_in (ry_s Y) (ry_h Y u)) (cap : ps_n (ry_s Y) + 378 ≤ 16000) (et : z_i h pa 12 = ry_t Y) (t0 : 0 ≤ ry_t Y) (t1 : ry_t Y ≤ 126) (w0 : 0 ≤ w) (w5 : w ≤ 5) (av : av_1 w a b) (qw : xw.toInt = w) (qv : xv.toInt = v) (qa : xa.toInt = a) (qb : xb.toInt = b) (qf : xf.toInt = f) (g : ∀ (x : Int32) (h' : MH), wm_q (ry_z Y) w v a b f x.toInt → pa_ok h' pa → cs_of h' (z_i h') (h_r h pa 0) (ps_le (ry_s Y) 0) → FW (h_r h pa 0) (py_Y h pa) h h' → (∀ q, z_i h' pa q = z_i h pa q) → (∀ j, j < ps_n (ry_s Y) → h_l h' (h_r h' (h_r h pa 0) 1) j = h_l h (h_r h (h_r h pa 0) 1) j) → Q (some (.int x)) h') : HJ 169 0 (lv_args 0 [.ref pa, .int xw, .int xv, .int xa, .int xb, .int xf]) [] h Q := by
  have M := RX.start h
  have pn := pa_ne ok (i := 7) (by decide)
  have nd0 := ok.2.1
  refine r_wm0 M rfl rfl qw rfl qv rfl qa rfl qb rfl qf ok.1.1 nd0.1.1 ok.1.2.1 (fun x1 q1 x3 q3 h6 H6 f6 lv4 M6 a0 a1 a2 a3 a4 a5 a6 a7 => ?_)
  have eo : ∀ q, q ≠ h_r h pa 0 → H6 q = z_i h q := fun q hq => by
    rw [f6, m_uN _ _ _ _ hq]
    rfl
  have en5 : H6 (h_r h pa 0) 5 = z_i h (h_r h pa 0) 5 := by
    rw [f6, m_uE, m_uN _ _ _ _ (by decide)]
    rfl
  have en6 : H6 (h_r h pa 0) 6 = 0 := by rw [f6, m_uE, m_uE]
  have o6 : nl_ok h6 (h_r h pa 0) := nl_RX nd0 M6 en5
  obtain ⟨ok6, rr6, ww6⟩ := pa_RX ok M6 o6
  have F6 : FX (h_r h pa 0) (py_Y h pa) h h6 := FX.ofRX M6 en5 (fun q hq j => by rw [eo q (fun z => hq (Or.inl z))])
  have nc : h_r h (h_r h pa 0) 0 ≠ h_r h pa 0 := fun z => by
    have := nd0.2.1.1
    rw [z, nd0.1.1] at this
    omega
  have e0 : h_r h6 pa 0 = h_r h pa 0 := by rw [rr6]
  have I6 : cs_of h6 (z_i h6) (h_r h6 pa 0) (ps_le (ry_s (ry_z Y)) 0) := by
    rw [e0]
    exact cs_drop I ps_exL (by rw [M6.zi, en5]; exact I.1) (by rw [M6.zi, en6]) (fun j => by rw [rr6, M6.zi, eo _ nc])
  have P6 : pr_of h6 pa (ry_z Y) := pr_FX ok o6 F6 (by rw [M6.zi, eo _ pn.2.2.2.1]) P
  refine k_perform (Y := ry_z Y) ok6 I6 P6 sh hs cap (by rw [M6.zi, eo _ pn.2.2.2.1]; exact et) t0 t1 w0 w5 av qw qv qa qb (fun z h7 R o7 F7 p7 => ?_)
  obtain ⟨ok7, re7, -⟩ := pa_FX ok6 o7 F7
  have e7 : h_r h7 pa 0 = h_r h pa 0 := (re7 0).trans e0
  rw [e0] at R o7 F7
  have K : ∃ X, cs_of h7 (z_i h7) (h_r h pa 0) X ∧ ps_ex (ry_s Y) X ∧ ((z.toInt = 0 ∧ ry_do (ry_z Y) w v a b = none) ∨ (z.toInt = 1 ∧ ∃ X', ry_do (ry_z Y) w v a b = some X' ∧ X'.1 = X)) := by
    rcases R with ⟨r1, r2, r3, -⟩ | ⟨r1, X, r2, r3, -, -⟩
    · exact ⟨_, r3, ⟨Nat.le_refl _, fun _ _ => ⟨rfl, rfl, rfl, fun _ _ => rfl⟩⟩, Or.inl ⟨r1, r2⟩⟩
    · exact ⟨X.1, r3, (ry_doI (Y := ry_z Y) sh hs r2).2.1.1, Or.inr ⟨r1, X, r2, rfl⟩⟩
  obtain ⟨X, IX, EX, A⟩ := K
  have m7 : z_i h7 (h_r h pa 0) 5 = (ps_n X : Int) := IX.1
  have l7 : z_i h7 (h_r h pa 0) 6 = ps_l X := IX.2.1
  have n16 : ps_n X ≤ 16000 := IX.2.2.2.1
  have ns : ps_n (ry_s Y) ≤ ps_n X := EX.1
  have q1' : x1.toInt = (ps_n (ry_s Y) : Int) := q1.trans I.1
  have q3' : x3.toInt = ry_t Y := q3.trans et
  have M7 := RX.start h7
  show HJ 169 32 lv4 [.int z] h7 Q
  have endd : ∀ (u : Int32) (lv : List (Nat × Value)), wm_q (ry_z Y) w v a b f (if z.toInt = 0 then -1 else u.toInt) → m_lk lv 0 = some (.ref pa) → m_lk lv 7 = some (.int x3) → m_lk lv 8 = some (.int z) → m_lk lv 9 = some (.int u) → HJ 46 0 (lv_args 0 [.ref (h_r h7 pa 0), .int x1]) [] h7 (fun v h' => HJ 169 70 lv (v.toList ++ []) h' Q) := fun u lv hu b0 b7 b8 b9 => by
    rw [e7]
    refine k_drop (m := z_i h7 (h_r h pa 0) 5) M7 o7.1.1 rfl (by omega) q1' (fun h8 H8 M8 o8 n8 => ?_)
    have n85 : H8 (h_r h pa 0) 5 = (ps_n (ry_s Y) : Int) := by
      rw [n8, m_uN _ _ _ _ (by decide), m_uE, m7]
      by_cases c : (ps_n (ry_s Y) : Int) < (ps_n X : Int)
      · rw [if_pos c, if_neg (by omega)]
      · rw [if_neg c]
        omega
    have n86 : H8 (h_r h pa 0) 6 = 0 := by rw [n8, m_uE]
    show HJ 169 70 lv [] h8 Q
    have fin : ∀ (x : Int32) (h9 : MH) (H9 : Nat → Nat → Int), H9 = m_u H8 pa (m_u (H8 pa) 12 (ry_t Y)) → RX h7 h9 H9 → wm_q (ry_z Y) w v a b f x.toInt → Q (some (.int x)) h9 := fun x h9 H9 f9 M9 hx => by
      have e9n : H9 (h_r h pa 0) = H8 (h_r h pa 0) := by rw [f9, m_uN _ _ _ _ (Ne.symm pn.2.2.2.1)]
      have e9o : ∀ q, q ≠ pa → q ≠ h_r h pa 0 → H9 q = z_i h7 q := fun q h1 h2 => by
        rw [f9, m_uN _ _ _ _ h1, o8 q h2]
        rfl
      have o9 : nl_ok h9 (h_r h pa 0) := nl_RXm o7 M9 (by rw [e9n, n85]; omega) (by rw [e9n, n85, m7]; omega)
      obtain ⟨ok9, rr9, -⟩ := pa_RX ok7 M9 (by rw [e7]; exact o9)
      have nc7 : h_r h7 (h_r h pa 0) 0 ≠ h_r h pa 0 := fun y => by
        have := o7.2.1.1
        rw [y, o7.1.1] at this
        omega
      have pc7 : h_r h7 (h_r h pa 0) 0 ≠ pa := fun y => by
        have := o7.2.1.1
        rw [y, ok7.1.1] at this
        omega
      refine g x h9 hx ok9 (cs_drop IX EX (by rw [M9.zi, e9n, n85]) (by rw [M9.zi, e9n, n86]) (fun j => by rw [rr9, M9.zi, e9o _ pc7 nc7])) (((FW.ofFX F6).trans2 (FW.ofFX F7) (fun q _ y => Or.inl ?_)).trans2 (FW.ofRX (Y := fun q => q = pa) M9 (fun q hq j => by rw [e9o q (fun y => hq (Or.inr (Or.inr (Or.inr y)))) (fun y => hq (Or.inl y))])) (fun q _ y => Or.inl (Or.inl y))) (fun q => ?_) (fun j hj => ?_)
      · unfold py_Y at y ⊢
        simp only [rr6, ww6] at y
        exact y
      · by_cases e : q = 12
        · rw [e, M9.zi, f9, m_uE, m_uE]
          exact et.symm
        · rw [M9.zi, f9, m_uE, m_uN _ _ _ _ e, o8 pa pn.2.2.2.1]
          exact (p7 q e).trans (by rw [M6.zi, eo _ pn.2.2.2.1])
      · rw [M9.2.2.1.2, M9.2.2.1.1, F7.2.1.2.2.1 j (by rw [M6.zi, en5, I.1]; show (j : Int) < (ps_n (ry_s Y) : Int); omega), M6.2.2.1.2, M6.2.2.1.1]
    refine r_wm70 M8 b0 b7 q3' b8 rfl b9 rfl ok7.1.1 (fun h9 H9 f9 x2 q2 M9 c => ?_) (fun h9 H9 f9 M9 c => ?_)
    · rw [if_pos c] at hu
      exact fin x2 h9 H9 f9 M9 (by rw [q2]; exact hu)
    · rw [if_neg c] at hu
      exact fin u h9 H9 f9 M9 hu
  refine r_wm32 M7 a0 a1 qw a2 qv a3 qa a4 qb a5 qf a6 q1' a7 q3' rfl (by omega) (by omega) (by rw [e7]; show 0 ≤ z_i h7 (h_r h pa 0) 5; omega) (by rw [e7]; show z_i h7 (h_r h pa 0) 5 ≤ 16000; omega) ok7.1.1 (by rw [e7]; exact o7.1.1) (by rw [e7]; exact o7.1.2.1) (fun u qu lv b0 _ _ _ _ _ _ b7 b8 b9 cf => endd u lv ?_ b0 b7 b8 b9) (fun u qu lv b0 _ _ _ _ _ _ b7 b8 b9 cf => endd u lv ?_ b0 b7 b8 b9)
  · rw [e7] at qu
    have qu : u.toInt = z_i h7 (h_r h pa 0) 5 - (ps_n (ry_s Y) : Int) := qu
    rcases A with ⟨z0, dn⟩ | ⟨z1, X', dn, eX⟩
    · rw [if_pos z0]
      exact Or.inl ⟨dn, rfl⟩
    · rw [if_neg (by omega)]
      refine Or.inr ⟨X', dn, ?_⟩
      rw [if_pos cf, eX, qu, m7]
      rfl
  · rw [e7] at qu
    have qu : u.toInt = z_i h7 (h_r h pa 0) 6 := qu
    rcases A with ⟨z0, dn⟩ | ⟨z1, X', dn, eX⟩
    · rw [if_pos z0]
      exact Or.inl ⟨dn, rfl⟩
    · rw [if_neg (by omega)]
      refine Or.inr ⟨X', dn, ?_⟩
      rw [if_neg cf, eX, qu, l7]
end
end
section
-- A FOLD, MADE AND DROPPED AGAIN
def fd_run (Y : RYt) (S : PSt) (t : Nat → Int) : Nat → PSt × (Nat → Int)
  | 0 => (S, ry_h Y (t 0))
  | i + 1 => if ry_is Y (t (i + 1)) = true ∧ p_ws (fd_run Y S t i).2 6 + p_ws (ry_h Y (t (i + 1))) 6 ≤ 63 then pm_md (fd_run Y S t i).1 (fd_run Y S t i).2 (ry_h Y (t (i + 1))) else fd_run Y S t i
theorem fd_I {Y : RYt} {S : PSt} {t : Nat → Int} (sh : ps_sh S) (hs : ∀ u : Nat, u < ry_v Y → hp_in S (ry_h Y u)) (t0 : 0 ≤ t 0 ∧ t 0 < (ry_v Y : Int)) : ∀ i, ps_sh (fd_run Y S t i).1 ∧ hp_in (fd_run Y S t i).1 (fd_run Y S t i).2 ∧ ps_ex S (fd_run Y S t i).1 ∧ ps_n (fd_run Y S t i).1 ≤ ps_n S + 6 * i
  | 0 => ⟨sh, by
    show hp_in S (ry_h Y (t 0))
    rw [ry_hv t0.1]
    exact hs _ (by omega), ps_ex0, Nat.le_refl _⟩
  | i + 1 => by
    obtain ⟨k1, k2, k3, k4⟩ := fd_I sh hs t0 i
    rw [fd_run]
    split
    · next c =>
      obtain ⟨v0, v1⟩ := ry_isV c.1
      have hv : hp_in (fd_run Y S t i).1 (ry_h Y (t (i + 1))) := by
        rw [ry_hv v0]
        exact hp_inE k3 (hs _ (by omega))
      obtain ⟨m1, m2, m3, m4, -⟩ := pm_mdI k1 k2 hv c.2
      exact ⟨m1, m2, ps_exT k3 m3, by omega⟩
    · exact ⟨k1, k2, k3, by omega⟩
def tb_ok (h : MH) (pa r : Nat) : Prop := ((h_k h r).1 = 20 ∧ 16 ≤ r ∧ r < 16 + h_n h ∧ 5 ≤ (h_k h r).2 ∧ (h_k h r).2 ≤ 1000000) ∧ ∀ i, i < 59 → r ≠ pa_w h pa i
-- what an act may change is the same places, later
theorem py_FX {h h' : MH} {pa a : Nat} {Y : Nat → Prop} (ok : pa_ok h pa) (o' : nl_ok h' (h_r h pa 0)) (F : FX (h_r h pa 0) Y h h') (z : py_Y h' pa a) : py_Y h pa a := by
  obtain ⟨-, re, rw_⟩ := pa_FX ok o' F
  have e4 : h_r h' (h_r h pa 0) 4 = h_r h (h_r h pa 0) 4 := (F.2.2 _ ok.2.1.1.2.2).2.1 4 (by omega)
  rcases z with z | z | ⟨i, hi, z⟩
  · exact Or.inl z
  · rw [re, e4] at z
    exact Or.inr (Or.inl z)
  · rw [rw_ i (by omega) (by omega)] at z
    exact Or.inr (Or.inr ⟨i, hi, z⟩)
theorem tb_kp {h h' : MH} {pa r : Nat} (ok : pa_ok h pa) (tb : tb_ok h pa r) (F : FX (h_r h pa 0) (py_Y h pa) h h') (j : Nat) : z_i h' r j = z_i h r j := by
  obtain ⟨⟨k1, k2, k3, -⟩, k5⟩ := tb
  have n := ok.2.1
  refine ((F.2.2 r k3).2.2 (fun z => ?_)).1 j
  rcases z with z | z | z | z | z | ⟨i, hi, z⟩
  · rw [z, n.1.1] at k1
    omega
  · exact k5 11 (by decide) z
  · rw [z, n.2.2.1.1] at k1
    omega
  · rw [z, ok.1.1] at k1
    omega
  · rw [z, ok.2.2.1.1] at k1
    omega
  · exact k5 i (by omega) z
theorem tb_FX {h h' : MH} {pa r : Nat} (ok : pa_ok h pa) (o' : nl_ok h' (h_r h pa 0)) (tb : tb_ok h pa r) (F : FX (h_r h pa 0) (py_Y h pa) h h') : tb_ok h' pa r := by
  obtain ⟨⟨k1, k2, k3, k4, k6⟩, k5⟩ := tb
  obtain ⟨ok', re, rw_⟩ := pa_FX ok o' F
  have kk := (F.2.2 r k3).1
  have N := F.1
  refine ⟨⟨by rw [kk]; exact k1, k2, by omega, by rw [kk]; exact k4, by rw [kk]; exact k6⟩, fun i hi => ?_⟩
  by_cases e : i = 11
  · subst e
    have w : pa_w h' pa 11 = h_r h' (h_r h pa 0) 0 := by
      show h_r h' (h_r h' pa 0) 0 = _
      rw [re]
    rw [w]
    rcases F.2.1.1 0 (by decide) with z | z
    · rw [z]
      exact k5 11 hi
    · omega
  · rw [rw_ i hi e]
    exact k5 i hi
def fm_I (h : MH) (pa : Nat) (Y : RYt) (S : PSt) (t : Nat → Int) (i : Nat) (h' : MH) : Prop := nl_ok h' (h_r h pa 0) ∧ FX (h_r h pa 0) (py_Y h pa) h h' ∧ cs_of h' (z_i h') (h_r h pa 0) (fd_run Y S t i).1 ∧ hp6 (z_i h' (h_r h pa 7)) (fd_run Y S t i).2 ∧ ∀ q, z_i h' pa q = z_i h pa q
section
variable {lv : List (Nat × Value)} {Q : Option Value → MH → Prop} {h0 h : MH} {H : Nat → Nat → Int}
theorem r_fm0 {pa : Nat} {m : Int} (M : RX h0 h H) (e0 : m_lk lv 0 = some (.ref pa)) {lx1 : Int32} (e1 : m_lk lv 1 = some (.int lx1)) (lq1 : lx1.toInt = m)  (hk0 : (h_k h0 pa).1 = 4) (hk1 : (h_k h0 (h_r h0 pa 0)).1 = 3) (ha0 : (h_k h0 (h_r h0 pa 9)).1 = 20) (hl0 : 5 ≤ ((h_k h0 (h_r h0 pa 9)).2 : Int)) (hs0 : 16 ≤ pa)
    (g0 : ∀ x1 : Int32, x1.toInt = H (h_r h0 pa 0) 5 → ∀ x4 : Int32, x4.toInt = H (h_r h0 pa 9) (0 : Int).toNat → ∀ lv2 : List (Nat × Value), m_lk lv2 0 = some (.ref pa) → m_lk lv2 1 = some (.int lx1) → m_lk lv2 2 = some (.int x1) → HJ 58 0 (lv_args 0 [.ref pa, .int x4, .ref (h_r h0 pa 7)]) [] h (fun v h' => HJ 173 22 lv2 (v.toList ++ []) h' Q))
    : HJ 173 0 lv [] h Q := by
  refine hI_al (k := 0) rfl e0 rfl ?_ -- 0
  refine hR_gr (c := 3) (k := 0) M hk0 rfl rfl rfl rfl ?_ -- 1
  refine hR_gi (c := 2) (k := 5) M hk1 rfl rfl rfl rfl (fun x1 q1 => ?_) -- 4
  have gb1 : -2147483648 ≤ H (h_r h0 pa 0) 5 ∧ H (h_r h0 pa 0) 5 ≤ 2147483647 := by rw [← q1]; exact g_iT _
  refine hM_si (k := 2) rfl (by decide +kernel) rfl (fun lv2 e2_2 u2 => ?_) -- 7
  have e2_0 := u2 0 _ (by decide) (Or.inl rfl) e0
  have e2_1 := u2 1 _ (by decide) (Or.inl rfl) e1
  refine hI_al (k := 0) rfl e2_0 rfl ?_ -- 8
  refine hI_al (k := 0) rfl e2_0 rfl ?_ -- 9
  refine hR_gr (c := 3) (k := 9) M hk0 rfl rfl rfl rfl ?_ -- 10
  refine hM_ic (n := 0) rfl (by decide) rfl (fun x3 q3 => ?_) -- 13
  refine hR_ia M ha0 q3 (by omega) (by omega) rfl rfl (fun x4 q4 => ?_) -- 14
  have gb4 : -2147483648 ≤ H (h_r h0 pa 9) (0 : Int).toNat ∧ H (h_r h0 pa 9) (0 : Int).toNat ≤ 2147483647 := by rw [← q4]; exact g_iT _
  refine hI_al (k := 0) rfl e2_0 rfl ?_ -- 15
  refine hR_gr (c := 3) (k := 7) M hk0 rfl rfl rfl rfl ?_ -- 16
  refine HJ.call (j := 58) (as := [.ref pa, .int x4, .ref (h_r h0 pa 7)]) (rr := []) (pc' := 22) (m_cR (kc := 3) rfl rfl (by decide +kernel) rfl rfl rfl ⟨rfl, by decide +kernel, by decide +kernel⟩ (by decide) hs0 (by rw [M.2.1]; exact hk0)) (by show 3 ≤ m_lc 58; decide +kernel) ?_ -- 19
  exact g0 x1 q1 x4 q4 lv2 e2_0 e2_1 e2_2
theorem r_fm22 {pa : Nat} {m n : Int} (M : RX h0 h H) (e0 : m_lk lv 0 = some (.ref pa)) {lx1 : Int32} (e1 : m_lk lv 1 = some (.int lx1)) (lq1 : lx1.toInt = m) {lx2 : Int32} (e2 : m_lk lv 2 = some (.int lx2)) (lq2 : lx2.toInt = n) 
    (g0 : ∀ x1 : Int32, x1.toInt = 1 → ∀ lv2 : List (Nat × Value), m_lk lv2 0 = some (.ref pa) → m_lk lv2 1 = some (.int lx1) → m_lk lv2 2 = some (.int lx2) → m_lk lv2 3 = some (.int x1) → HJ 173 24 lv2 [] h Q)
    : HJ 173 22 lv [] h Q := by
  refine hM_ic (n := 1) rfl (by decide) rfl (fun x1 q1 => ?_) -- 22
  refine hM_si (k := 3) rfl (by decide +kernel) rfl (fun lv2 e2_3 u2 => ?_) -- 23
  have e2_0 := u2 0 _ (by decide) (Or.inl rfl) e0
  have e2_1 := u2 1 _ (by decide) (Or.inl rfl) e1
  have e2_2 := u2 2 _ (by decide) (Or.inl rfl) e2
  exact g0 x1 q1 lv2 e2_0 e2_1 e2_2 e2_3
theorem r_fm24 {pa : Nat} {m n i : Int} (M : RX h0 h H) (e0 : m_lk lv 0 = some (.ref pa)) {lx1 : Int32} (e1 : m_lk lv 1 = some (.int lx1)) (lq1 : lx1.toInt = m) {lx2 : Int32} (e2 : m_lk lv 2 = some (.int lx2)) (lq2 : lx2.toInt = n) {lx3 : Int32} (e3 : m_lk lv 3 = some (.int lx3)) (lq3 : lx3.toInt = i) (pi0 : 0 ≤ i) (pm5 : m ≤ 5) (hk0 : (h_k h0 pa).1 = 4) (ha0 : (h_k h0 (h_r h0 pa 9)).1 = 20) (hl0 : 5 ≤ ((h_k h0 (h_r h0 pa 9)).2 : Int)) (hs0 : 16 ≤ pa)
    (g0 : i ≥ m → HJ 173 46 lv [] h Q)
    (g1 : ∀ x1 : Int32, x1.toInt = H (h_r h0 pa 9) (i).toNat → i < m → HJ 70 0 (lv_args 0 [.ref pa, .int x1]) [] h (fun v h' => HJ 173 39 lv (v.toList ++ []) h' Q))
    : HJ 173 24 lv [] h Q := by
  refine hI_il (k := 3) rfl e3 rfl ?_ -- 24
  refine hI_il (k := 1) rfl e1 rfl ?_ -- 25
  refine hM_cge (off := 20) (t := 46) rfl lq3 lq1 (by decide) rfl (fun c26 => ?_) (fun c26 => ?_) -- 26
  · exact g0 c26
  · refine hI_al (k := 0) rfl e0 rfl ?_ -- 29
    refine hI_al (k := 0) rfl e0 rfl ?_ -- 30
    refine hR_gr (c := 3) (k := 9) M hk0 rfl rfl rfl rfl ?_ -- 31
    refine hI_il (k := 3) rfl e3 rfl ?_ -- 34
    refine hR_ia M ha0 lq3 (by omega) (by omega) rfl rfl (fun x1 q1 => ?_) -- 35
    have gb1 : -2147483648 ≤ H (h_r h0 pa 9) (i).toNat ∧ H (h_r h0 pa 9) (i).toNat ≤ 2147483647 := by rw [← q1]; exact g_iT _
    refine HJ.call (j := 70) (as := [.ref pa, .int x1]) (rr := []) (pc' := 39) (m_cR (kc := 3) rfl rfl (by decide +kernel) rfl rfl rfl ⟨rfl, by decide +kernel, by decide +kernel⟩ (by decide) hs0 (by rw [M.2.1]; exact hk0)) (by show 2 ≤ m_lc 70; decide +kernel) ?_ -- 36
    exact g1 x1 q1 c26
theorem r_fm39 {pa : Nat} {m n i z : Int} (M : RX h0 h H) (e0 : m_lk lv 0 = some (.ref pa)) {lx1 : Int32} (e1 : m_lk lv 1 = some (.int lx1)) (lq1 : lx1.toInt = m) {lx2 : Int32} (e2 : m_lk lv 2 = some (.int lx2)) (lq2 : lx2.toInt = n) {lx3 : Int32} (e3 : m_lk lv 3 = some (.int lx3)) (lq3 : lx3.toInt = i) {sx0 : Int32} (sq0 : sx0.toInt = z) (pi0 : 0 ≤ i) (pi5 : i ≤ 4)
    (g0 : ∀ x1 : Int32, x1.toInt = i + 1 → ∀ lv1 : List (Nat × Value), m_lk lv1 0 = some (.ref pa) → m_lk lv1 1 = some (.int lx1) → m_lk lv1 2 = some (.int lx2) → m_lk lv1 3 = some (.int x1) → HJ 173 24 lv1 [] h Q)
    : HJ 173 39 lv [.int sx0] h Q := by
  refine hI_pop rfl rfl rfl ?_ -- 39
  refine hM_inc (k := 3) (z := 1) rfl e3 lq3 (by decide) (by omega) (by omega) (by decide +kernel) rfl (fun lv1 x1 q1 e1_3 u1 => ?_) -- 40
  have e1_0 := u1 0 _ (by decide) (Or.inl rfl) e0
  have e1_1 := u1 1 _ (by decide) (Or.inl rfl) e1
  have e1_2 := u1 2 _ (by decide) (Or.inl rfl) e2
  refine hI_go (pc' := 24) (off := (-19)) rfl (by decide) ?_ -- 43
  exact g0 x1 q1 lv1 e1_0 e1_1 e1_2 e1_3
theorem r_fm46 {pa : Nat} {n : Int} (M : RX h0 h H) (e0 : m_lk lv 0 = some (.ref pa)) {lx2 : Int32} (e2 : m_lk lv 2 = some (.int lx2)) (lq2 : lx2.toInt = n)  (hk0 : (h_k h0 pa).1 = 4) (hk1 : (h_k h0 (h_r h0 pa 0)).1 = 3) (hs0 : 16 ≤ h_r h0 pa 0)
    (g0 : ∀ x1 : Int32, x1.toInt = H (h_r h0 pa 0) 5 → ∀ lv2 : List (Nat × Value), m_lk lv2 0 = some (.ref pa) → m_lk lv2 2 = some (.int lx2) → m_lk lv2 3 = some (.int x1) → HJ 71 0 (lv_args 0 [.ref (h_r h0 pa 0), .ref (h_r h0 pa 7)]) [] h (fun v h' => HJ 173 65 lv2 (v.toList ++ []) h' Q))
    : HJ 173 46 lv [] h Q := by
  refine hI_al (k := 0) rfl e0 rfl ?_ -- 46
  refine hR_gr (c := 3) (k := 0) M hk0 rfl rfl rfl rfl ?_ -- 47
  refine hR_gi (c := 2) (k := 5) M hk1 rfl rfl rfl rfl (fun x1 q1 => ?_) -- 50
  have gb1 : -2147483648 ≤ H (h_r h0 pa 0) 5 ∧ H (h_r h0 pa 0) 5 ≤ 2147483647 := by rw [← q1]; exact g_iT _
  refine hM_si (k := 3) rfl (by decide +kernel) rfl (fun lv2 e2_3 u2 => ?_) -- 53
  have e2_0 := u2 0 _ (by decide) (Or.inl rfl) e0
  have e2_2 := u2 2 _ (by decide) (Or.inl rfl) e2
  refine hI_al (k := 0) rfl e2_0 rfl ?_ -- 54
  refine hR_gr (c := 3) (k := 0) M hk0 rfl rfl rfl rfl ?_ -- 55
  refine hI_al (k := 0) rfl e2_0 rfl ?_ -- 58
  refine hR_gr (c := 3) (k := 7) M hk0 rfl rfl rfl rfl ?_ -- 59
  refine HJ.call (j := 71) (as := [.ref (h_r h0 pa 0), .ref (h_r h0 pa 7)]) (rr := []) (pc' := 65) (m_cR (kc := 2) rfl rfl (by decide +kernel) rfl rfl rfl ⟨rfl, by decide +kernel, by decide +kernel⟩ (by decide) hs0 (by rw [M.2.1]; exact hk1)) (by show 2 ≤ m_lc 71; decide +kernel) ?_ -- 62
  exact g0 x1 q1 lv2 e2_0 e2_2 e2_3
theorem r_fm65 {pa : Nat} {n b z : Int} (M : RX h0 h H) (e0 : m_lk lv 0 = some (.ref pa)) {lx2 : Int32} (e2 : m_lk lv 2 = some (.int lx2)) (lq2 : lx2.toInt = n) {lx3 : Int32} (e3 : m_lk lv 3 = some (.int lx3)) (lq3 : lx3.toInt = b) {sx0 : Int32} (sq0 : sx0.toInt = z) (pb0 : 0 ≤ b) (pb1 : b ≤ 16000) (pm0 : 0 ≤ H (h_r h0 pa 0) 5) (pm1 : H (h_r h0 pa 0) 5 ≤ 16000) (hk0 : (h_k h0 pa).1 = 4) (hk1 : (h_k h0 (h_r h0 pa 0)).1 = 3) (hs0 : 16 ≤ h_r h0 pa 0)
    (g0 : ∀ x2 : Int32, x2.toInt = (H (h_r h0 pa 0) 5) - b → ∀ lv3 : List (Nat × Value), m_lk lv3 0 = some (.ref pa) → m_lk lv3 2 = some (.int lx2) → m_lk lv3 3 = some (.int lx3) → m_lk lv3 4 = some (.int x2) → HJ 46 0 (lv_args 0 [.ref (h_r h0 pa 0), .int lx2]) [] h (fun v h' => HJ 173 85 lv3 (v.toList ++ []) h' Q))
    : HJ 173 65 lv [.int sx0] h Q := by
  refine hI_pop rfl rfl rfl ?_ -- 65
  refine hI_al (k := 0) rfl e0 rfl ?_ -- 66
  refine hR_gr (c := 3) (k := 0) M hk0 rfl rfl rfl rfl ?_ -- 67
  refine hR_gi (c := 2) (k := 5) M hk1 rfl rfl rfl rfl (fun x1 q1 => ?_) -- 70
  have gb1 : -2147483648 ≤ H (h_r h0 pa 0) 5 ∧ H (h_r h0 pa 0) 5 ≤ 2147483647 := by rw [← q1]; exact g_iT _
  refine hI_il (k := 3) rfl e3 rfl ?_ -- 73
  refine hM_sub rfl q1 lq3 (by omega) (by omega) rfl (fun x2 q2 => ?_) -- 74
  refine hM_si2 (k := 4) rfl (by decide +kernel) rfl (fun lv3 e3_4 u3 => ?_) -- 75
  have e3_0 := u3 0 _ (by decide) (Or.inl rfl) e0
  have e3_2 := u3 2 _ (by decide) (Or.inl rfl) e2
  have e3_3 := u3 3 _ (by decide) (Or.inl rfl) e3
  refine hI_al (k := 0) rfl e3_0 rfl ?_ -- 77
  refine hR_gr (c := 3) (k := 0) M hk0 rfl rfl rfl rfl ?_ -- 78
  refine hI_il (k := 2) rfl e3_2 rfl ?_ -- 81
  refine HJ.call (j := 46) (as := [.ref (h_r h0 pa 0), .int lx2]) (rr := []) (pc' := 85) (m_cR (kc := 2) rfl rfl (by decide +kernel) rfl rfl rfl ⟨rfl, by decide +kernel, by decide +kernel⟩ (by decide) hs0 (by rw [M.2.1]; exact hk1)) (by show 2 ≤ m_lc 46; decide +kernel) ?_ -- 82
  exact g0 x2 q2 lv3 e3_0 e3_2 e3_3 e3_4
theorem r_fm85 {u : Int} (M : RX h0 h H) {lx4 : Int32} (e4 : m_lk lv 4 = some (.int lx4)) (lq4 : lx4.toInt = u) 
    (g0 : Q (some (.int lx4)) h)
    : HJ 173 85 lv [] h Q := by
  refine hI_il2 (k := 4) rfl e4 rfl ?_ -- 85
  refine hI_ri rfl rfl ?_ -- 87
  exact g0 
theorem l_fm {hh : MH} {pa m : Nat} {Y : RYt} {S : PSt} {xm xn : Int32} {n : Int} (ok : pa_ok hh pa) (P : pr_of hh pa Y) (sh : ps_sh S) (hs : ∀ u : Nat, u < ry_v Y → hp_in S (ry_h Y u)) (cap : ps_n S + 36 ≤ 16000) (tb : tb_ok hh pa (h_r hh pa 9)) (t0 : 0 ≤ z_i hh (h_r hh pa 9) 0 ∧ z_i hh (h_r hh pa 9) 0 < (ry_v Y : Int)) (qm : xm.toInt = (m : Int)) (m5 : m ≤ 5) (qn : xn.toInt = n) (g : ∀ (h : MH) (lv : List (Nat × Value)), fm_I hh pa Y S (z_i hh (h_r hh pa 9)) (m - 1) h → m_lk lv 0 = some (.ref pa) → m_lk lv 2 = some (.int xn) → HJ 173 46 lv [] h Q) : ∀ (d i : Nat) (h : MH) (lv : List (Nat × Value)) (xi : Int32), i + 1 + d = m → xi.toInt = (i : Int) + 1 → fm_I hh pa Y S (z_i hh (h_r hh pa 9)) i h → m_lk lv 0 = some (.ref pa) → m_lk lv 1 = some (.int xm) → m_lk lv 2 = some (.int xn) → m_lk lv 3 = some (.int xi) → HJ 173 24 lv [] h Q := by
  intro d
  induction d with
  | zero =>
    intro i h lv xi hd qi I e0 e1 e2 e3
    obtain ⟨o, F, I1, I2, I3⟩ := id I
    obtain ⟨ok', re, -⟩ := pa_FX ok o F
    have tb' := tb_FX ok o tb F
    rw [← re 9] at tb'
    refine r_fm24 (RX.start h) e0 e1 qm e2 qn e3 qi (by omega) (by omega) ok'.1.1 tb'.1.1 (by have := tb'.1.2.2.2.1; omega) ok'.1.2.1 (fun _ => g h lv ?_ e0 e2) (fun _ _ c => absurd c (by omega))
    rw [show m - 1 = i by omega]
    exact I
  | succ d ih =>
    intro i h lv xi hd qi I e0 e1 e2 e3
    obtain ⟨o, F, I1, I2, I3⟩ := id I
    obtain ⟨ok', re, rw_⟩ := pa_FX ok o F
    have tb' := tb_FX ok o tb F
    rw [← re 9] at tb'
    have pr' := pr_FX ok o F (I3 11) P
    obtain ⟨k1, k2, k3, k4⟩ := fd_I sh hs t0 i
    refine r_fm24 (RX.start h) e0 e1 qm e2 qn e3 qi (by omega) (by omega) ok'.1.1 tb'.1.1 (by have := tb'.1.2.2.2.1; omega) ok'.1.2.1 (fun c => absurd c (by omega)) (fun xv qv c => ?_)
    have qv : xv.toInt = z_i hh (h_r hh pa 9) (i + 1) := by
      rw [re 9, show ((i : Int) + 1).toNat = i + 1 by omega] at qv
      exact qv.trans (tb_kp ok tb F (i + 1))
    refine k_meldW (Y := Y) ok' (by rw [re 0]; exact I1) pr' (by rw [re 7]; exact I2) k1 k2 (fun u hu => hp_inE k3 (hs u hu)) (by omega) qv (fun x h2 R => ?_)
    show HJ 173 39 lv [.int x] h2 Q
    refine r_fm39 (RX.start h2) e0 e1 qm e2 qn e3 qi rfl (by omega) (by omega) (fun x1 q1 lv1 a0 a1 a2 a3 => ?_)
    refine ih (i + 1) h2 lv1 x1 (by omega) (by omega) ?_ a0 a1 a2 a3
    rcases R with ⟨-, c2, eh⟩ | ⟨-, c2, R1, R2, R3, R4, R5⟩
    · subst eh
      refine ⟨o, F, ?_, ?_, I3⟩
      · rw [fd_run, if_neg c2]
        exact I1
      · rw [fd_run, if_neg c2]
        exact I2
    · rw [re 0] at R1 R3 R4
      rw [re 7] at R2
      refine ⟨R3, F.trans2 R4 (fun q _ z => Or.inl (py_FX ok o F z)), ?_, ?_, fun q => (R5 q).trans (I3 q)⟩
      · rw [fd_run, if_pos c2]
        exact R1
      · rw [fd_run, if_pos c2]
        exact R2
theorem k_fm {pa m : Nat} {Y : RYt} {l : Int} {xm : Int32} (ok : pa_ok h pa) (I : cs_of h (z_i h) (h_r h pa 0) (ps_le (ry_s Y) l)) (P : pr_of h pa Y) (sh : ps_sh (ry_s Y)) (hs : ∀ u : Nat, u < ry_v Y → hp_in (ry_s Y) (ry_h Y u)) (cap : ps_n (ry_s Y) + 378 ≤ 16000) (tb : tb_ok h pa (h_r h pa 9)) (t0 : 0 ≤ z_i h (h_r h pa 9) 0 ∧ z_i h (h_r h pa 9) 0 < (ry_v Y : Int)) (qm : xm.toInt = (m : Int)) (m1 : 1 ≤ m) (m5 : m ≤ 5) (g : ∀ (x : Int32) (h' : MH), x.toInt = (ps_n (pm_tk (fd_run Y (ps_le (ry_s Y) l) (z_i h (h_r h pa 9)) (m - 1))).1 : Int) - (ps_n (fd_run Y (ps_le (ry_s Y) l) (z_i h (h_r h pa 9)) (m - 1)).1 : Int) → pa_ok h' pa → cs_of h' (z_i h') (h_r h pa 0) (ps_le (ry_s Y) 0) → FW (h_r h pa 0) (py_Y h pa) h h' → (∀ q, z_i h' pa q = z_i h pa q) → (∀ j, j < ps_n (ry_s Y) → h_l h' (h_r h' (h_r h pa 0) 1) j = h_l h (h_r h (h_r h pa 0) 1) j) → Q (some (.int x)) h') : HJ 173 0 (lv_args 0 [.ref pa, .int xm]) [] h Q := by
  have M := RX.start h
  have nd0 := ok.2.1
  have pn := pa_ne ok (i := 7) (by decide)
  have sh' : ps_sh (ps_le (ry_s Y) l) := sh
  have hs' : ∀ u : Nat, u < ry_v Y → hp_in (ps_le (ry_s Y) l) (ry_h Y u) := hs
  have a7 := pa_ap ok (i := 7) (by decide) (by decide)
  have a9 := pa_ap ok (i := 9) (by decide) (by decide)
  refine r_fm0 M rfl rfl qm ok.1.1 nd0.1.1 tb.1.1 (by have := tb.1.2.2.2.1; omega) ok.1.2.1 (fun x1 q1 x4 q4 lv2 a0 a1 a2 => ?_)
  have q1' : x1.toInt = (ps_n (ry_s Y) : Int) := q1.trans I.1
  have P1 : (h_i h pa 11).toInt + 1 = (ry_v Y : Int) := P.1.1
  have v41 := P.1.2.2
  have t0' : 0 ≤ (h_i h (h_r h pa 9) 0).toInt ∧ (h_i h (h_r h pa 9) 0).toInt < (ry_v Y : Int) := t0
  refine k_load (v := z_i h (h_r h pa 9) 0) M ok q4 t0.1 (by show (h_i h (h_r h pa 9) 0).toInt ≤ (h_i h pa 11).toInt; omega) (by show (h_i h pa 11).toInt ≤ 40; omega) a7.1 (fun h3 H3 M3 f3 => ?_)
  have o3q : ∀ q, q ≠ h_r h pa 7 → H3 q = z_i h q := fun q hq => by
    rw [f3, m_uN _ _ _ _ hq]
    rfl
  have n7 := nl_ap nd0 a7.1.1 a7.2.2
  have o3 : nl_ok h3 (h_r h pa 0) := nl_RX nd0 M3 (by rw [o3q _ (Ne.symm n7.1)])
  have F3 : FX (h_r h pa 0) (py_Y h pa) h h3 := FX.ofRX M3 (by rw [o3q _ (Ne.symm n7.1)]) (fun q hq j => by rw [o3q q (fun z => hq (Or.inr (Or.inr (Or.inr (Or.inr (Or.inr ⟨7, by decide, z⟩))))))])
  have rr3 : h_r h3 = h_r h := M3.2.2.1.1
  have I0 : fm_I h pa Y (ps_le (ry_s Y) l) (z_i h (h_r h pa 9)) 0 h3 := by
    refine ⟨o3, F3, cs_mv I (by rw [M3.zi, o3q _ (Ne.symm n7.1)]) (by rw [M3.zi, o3q _ (Ne.symm n7.1)]) (fun j _ => by rw [rr3, M3.zi, o3q _ (Ne.symm n7.2.1)]), fun k hk => ?_, fun q => by rw [M3.zi, o3q _ pn.1]⟩
    rw [M3.zi, f3, m_uE, if_pos hk]
    show z_i h (pa_w h pa (18 + (z_i h (h_r h pa 9) 0).toNat)) k = ry_h Y (z_i h (h_r h pa 9) 0) k
    rw [ry_hv t0.1]
    exact (P.2 (z_i h (h_r h pa 9) 0).toNat (by omega)).1 k hk
  show HJ 173 22 lv2 [] h3 Q
  refine r_fm22 M3 a0 a1 qm a2 q1' (fun x5 q5 lv5 b0 b1 b2 b3 => ?_)
  refine l_fm (m := m) ok P sh' hs' (by show ps_n (ry_s Y) + 36 ≤ 16000; omega) tb t0 qm m5 q1' (fun h4 lv4 I4 c0 c2 => ?_) (m - 1) 0 h3 lv5 x5 (by omega) (by omega) I0 b0 b1 b2 b3
  obtain ⟨o4, F4, S4, E4, Z4⟩ := I4
  obtain ⟨ok4, re4, rw4⟩ := pa_FX ok o4 F4
  obtain ⟨k1, k2, k3, k4⟩ := fd_I sh' hs' t0 (m - 1)
  generalize fd_run Y (ps_le (ry_s Y) l) (z_i h (h_r h pa 9)) (m - 1) = X at *
  have k4 : ps_n X.1 ≤ ps_n (ry_s Y) + 6 * (m - 1) := k4
  have k3 : ps_ex (ry_s Y) X.1 := k3
  refine r_fm46 (RX.start h4) c0 c2 q1' ok4.1.1 (by rw [re4 0]; exact o4.1.1) (by rw [re4 0]; exact o4.1.2.1) (fun x6 q6 lv6 d0 d2 d3 => ?_)
  have a74 := pa_ap ok4 (i := 7) (by decide) (by decide)
  have a94 := pa_ap ok4 (i := 9) (by decide) (by decide)
  have d97 := ok4.2.2.2.2.2.2.2 9 7 (by decide) (by decide) (by decide)
  have l94 := (ok4.2.2.2.2.2.2.1 9 (by decide)).2.2.2.2
  have w63 := p_wsL (f := X.2) 6
  refine k_take (S := X.1) (f := X.2) ok4.2.1 a74 a94 l94 d97 (by rw [re4 0]; exact S4) (by rw [re4 7]; exact E4) k1 k2 (by omega) (by omega) (fun x7 h7 c7 o7 S7 E7 F7 => ?_)
  rw [re4 0] at o7 S7 F7
  have K : ps_ex X.1 (pm_tk (X.1, X.2)).1 := by
    by_cases e : pm_le X.1 X.2 6 = -1
    · unfold pm_tk
      rw [if_pos e]
      exact ps_ex0
    · exact (pm_tkI k1 k2 (by omega) e).2.2.1
  have F7' : FX (h_r h pa 0) (py_Y h pa) h4 h7 := by
    refine F7.mono (fun q hq => ?_)
    rcases hq with z | z
    · rw [re4 7] at z
      exact Or.inr (Or.inr ⟨7, by decide, z⟩)
    · rw [(F4.2.2 _ nd0.1.2.2).2.1 2 (by omega)] at z
      exact Or.inr (Or.inr ⟨9, by decide, z⟩)
  have FF : FX (h_r h pa 0) (py_Y h pa) h h7 := F4.trans F7'
  obtain ⟨ok7, re7, rw7⟩ := pa_FX ok o7 FF
  have m7 : z_i h7 (h_r h pa 0) 5 = (ps_n (pm_tk (X.1, X.2)).1 : Int) := S7.1
  have n16 : ps_n (pm_tk (X.1, X.2)).1 ≤ 16000 := S7.2.2.2.1
  have m4 : x6.toInt = (ps_n X.1 : Int) := by
    rw [re4 0] at q6
    exact q6.trans S4.1
  have n4 : ps_n X.1 ≤ 16000 := S4.2.2.2.1
  have Z7 : ∀ q, z_i h7 pa q = z_i h pa q := fun q => by
    rw [← Z4 q]
    refine ((F7.2.2 pa (ok4.1.2.2)).2.2 (fun z => ?_)).1 q
    rcases z with z | z | z | z | z
    · exact pn.2.2.2.1 z
    · have := o4.2.1.1
      rw [← z, ok4.1.1] at this
      omega
    · have := o4.2.2.1.1
      rw [← z, ok4.1.1] at this
      omega
    · have := a74.1.1
      rw [show pa_w h4 pa 7 = h_r h4 pa 7 from rfl, ← z, ok4.1.1] at this
      omega
    · have := a94.1.1
      rw [show pa_w h4 pa 9 = h_r h4 (h_r h4 pa 0) 2 from rfl, re4 0, ← z, ok4.1.1] at this
      omega
  show HJ 173 65 lv6 [.int x7] h7 Q
  refine r_fm65 (RX.start h7) d0 d2 q1' d3 m4 rfl (by omega) (by omega) (by rw [re7 0]; show 0 ≤ z_i h7 (h_r h pa 0) 5; omega) (by rw [re7 0]; show z_i h7 (h_r h pa 0) 5 ≤ 16000; omega) ok7.1.1 (by rw [re7 0]; exact o7.1.1) (by rw [re7 0]; exact o7.1.2.1) (fun x8 q8 lv8 e0 e2 e3 e4 => ?_)
  rw [re7 0] at q8 ⊢
  have q8 : x8.toInt = z_i h7 (h_r h pa 0) 5 - (ps_n X.1 : Int) := q8
  refine k_drop (m := z_i h7 (h_r h pa 0) 5) (RX.start h7) o7.1.1 rfl (by omega) q1' (fun h9 H9 M9 o9 n9 => ?_)
  have EX : ps_ex (ry_s Y) (pm_tk (X.1, X.2)).1 := ps_exT k3 K
  have ns : ps_n (ry_s Y) ≤ ps_n (pm_tk (X.1, X.2)).1 := EX.1
  have n95 : H9 (h_r h pa 0) 5 = (ps_n (ry_s Y) : Int) := by
    rw [n9, m_uN _ _ _ _ (by decide), m_uE, m7]
    by_cases c : (ps_n (ry_s Y) : Int) < (ps_n (pm_tk (X.1, X.2)).1 : Int)
    · rw [if_pos c, if_neg (by omega)]
    · rw [if_neg c]
      omega
  have n96 : H9 (h_r h pa 0) 6 = 0 := by rw [n9, m_uE]
  have nc7 : h_r h7 (h_r h pa 0) 0 ≠ h_r h pa 0 := fun y => by
    have := o7.2.1.1
    rw [y, o7.1.1] at this
    omega
  have e9 : ∀ q, q ≠ h_r h pa 0 → H9 q = z_i h7 q := fun q hq => by
    rw [o9 q hq]
    rfl
  have oo9 : nl_ok h9 (h_r h pa 0) := nl_RXm o7 M9 (by rw [n95]; omega) (by rw [n95, m7]; omega)
  obtain ⟨ok9, rr9, -⟩ := pa_RX ok7 M9 (by rw [re7 0]; exact oo9)
  show HJ 173 85 lv8 [] h9 Q
  refine r_fm85 M9 e4 rfl (g x8 h9 (by rw [q8, m7]) ok9 (cs_drop S7 EX (by rw [M9.zi, n95]) (by rw [M9.zi, n96]) (fun j => by rw [rr9, M9.zi, e9 _ nc7])) ((FW.ofFX FF).trans2 (FW.ofRX (Y := fun _ => False) M9 (fun q hq j => by rw [e9 q (fun y => hq (Or.inl y))])) (fun q _ y => y.elim)) (fun q => ?_) (fun j hj => by rw [M9.2.2.1.2, M9.2.2.1.1]; exact FF.2.1.2.2.1 j (by rw [I.1]; show (j : Int) < (ps_n (ry_s Y) : Int); omega)))
  rw [M9.zi, e9 _ pn.2.2.2.1]
  exact Z7 q
end
end
section
-- THE NEXT ORDER OF A FOLD: the same things, other places
def nt_R (m : Nat) (f f' : Nat → Int) : Prop := (∀ P : Int → Prop, (∀ k, k < m → P (f k)) → ∀ k, k < m → P (f' k)) ∧ ∀ k, m ≤ k → f' k = f k
theorem nt_R0 {m : Nat} {f : Nat → Int} : nt_R m f f := ⟨fun _ h => h, fun _ _ => rfl⟩
theorem nt_RT {m : Nat} {f g e : Nat → Int} (a : nt_R m f g) (b : nt_R m g e) : nt_R m f e := ⟨fun P h => b.1 P (a.1 P h), fun k hk => (b.2 k hk).trans (a.2 k hk)⟩
theorem nt_Rs {m i j : Nat} {f : Nat → Int} (hi : i < m) (hj : j < m) : nt_R m f (m_u (m_u f i (f j)) j (f i)) := by
  refine ⟨fun P h k hk => ?_, fun k hk => by rw [m_uN _ _ _ _ (by omega), m_uN _ _ _ _ (by omega)]⟩
  by_cases ej : k = j
  · rw [ej, m_uE]
    exact h i hi
  · rw [m_uN _ _ _ _ ej]
    by_cases ei : k = i
    · rw [ei, m_uE]
      exact h j hj
    · rw [m_uN _ _ _ _ ei]
      exact h k hk
def tr_ok (h : MH) (pa : Nat) : Prop := (h_k h pa).1 = 4 ∧ 16 ≤ pa ∧ (h_k h (h_r h pa 9)).1 = 20 ∧ (5 : Int) ≤ ((h_k h (h_r h pa 9)).2 : Int) ∧ 16 ≤ h_r h pa 9
section
variable {lv : List (Nat × Value)} {Q : Option Value → MH → Prop} {h0 h : MH} {H : Nat → Nat → Int}
theorem r_sw0 {pa : Nat} {i j : Int} (M : RX h0 h H) (e0 : m_lk lv 0 = some (.ref pa)) {lx1 : Int32} (e1 : m_lk lv 1 = some (.int lx1)) (lq1 : lx1.toInt = i) {lx2 : Int32} (e2 : m_lk lv 2 = some (.int lx2)) (lq2 : lx2.toInt = j) (pi0 : 0 ≤ i) (pi4 : i ≤ 4) (pj0 : 0 ≤ j) (pj4 : j ≤ 4) (hk0 : (h_k h0 pa).1 = 4) (ha0 : (h_k h0 (h_r h0 pa 9)).1 = 20) (hl0 : 5 ≤ ((h_k h0 (h_r h0 pa 9)).2 : Int)) (hs0 : 16 ≤ h_r h0 pa 9)
    (g0 : ∀ h4 : MH, ∀ H4 : Nat → Nat → Int, H4 = m_u H (h_r h0 pa 9) (m_u (H (h_r h0 pa 9)) (i).toNat (H (h_r h0 pa 9) (j).toNat)) → ∀ h5 : MH, ∀ H5 : Nat → Nat → Int, H5 = m_u H4 (h_r h0 pa 9) (m_u (H4 (h_r h0 pa 9)) (j).toNat (H (h_r h0 pa 9) (i).toNat)) → ∀ lv2 : List (Nat × Value), RX h0 h5 H5 → Q none h5)
    : HJ 175 0 lv [] h Q := by
  refine hI_al (k := 0) rfl e0 rfl ?_ -- 0
  refine hR_gr (c := 3) (k := 9) M hk0 rfl rfl rfl rfl ?_ -- 1
  refine hI_il (k := 1) rfl e1 rfl ?_ -- 4
  refine hR_ia M ha0 lq1 (by omega) (by omega) rfl rfl (fun x1 q1 => ?_) -- 5
  have gb1 : -2147483648 ≤ H (h_r h0 pa 9) (i).toNat ∧ H (h_r h0 pa 9) (i).toNat ≤ 2147483647 := by rw [← q1]; exact g_iT _
  refine hM_si (k := 3) rfl (by decide +kernel) rfl (fun lv2 e2_3 u2 => ?_) -- 6
  have e2_0 := u2 0 _ (by decide) (Or.inl rfl) e0
  have e2_1 := u2 1 _ (by decide) (Or.inl rfl) e1
  have e2_2 := u2 2 _ (by decide) (Or.inl rfl) e2
  refine hI_al (k := 0) rfl e2_0 rfl ?_ -- 7
  refine hR_gr (c := 3) (k := 9) M hk0 rfl rfl rfl rfl ?_ -- 8
  refine hI_il (k := 1) rfl e2_1 rfl ?_ -- 11
  refine hI_al (k := 0) rfl e2_0 rfl ?_ -- 12
  refine hR_gr (c := 3) (k := 9) M hk0 rfl rfl rfl rfl ?_ -- 13
  refine hI_il (k := 2) rfl e2_2 rfl ?_ -- 16
  refine hR_ia M ha0 lq2 (by omega) (by omega) rfl rfl (fun x3 q3 => ?_) -- 17
  have gb3 : -2147483648 ≤ H (h_r h0 pa 9) (j).toNat ∧ H (h_r h0 pa 9) (j).toNat ≤ 2147483647 := by rw [← q3]; exact g_iT _
  refine hR_is M hs0 ha0 lq1 q3 (by omega) (by omega) rfl rfl (fun h4 H4 f4 M4 => ?_) -- 18
  refine hI_al (k := 0) rfl e2_0 rfl ?_ -- 19
  refine hR_gr (c := 3) (k := 9) M4 hk0 rfl rfl rfl rfl ?_ -- 20
  refine hI_il (k := 2) rfl e2_2 rfl ?_ -- 23
  refine hI_il (k := 3) rfl e2_3 rfl ?_ -- 24
  refine hR_is M4 hs0 ha0 lq2 q1 (by omega) (by omega) rfl rfl (fun h5 H5 f5 M5 => ?_) -- 25
  refine hI_rv rfl rfl ?_
  exact g0 h4 H4 f4 h5 H5 f5 lv2 M5
theorem r_nt0 {pa : Nat} {m : Int} (M : RX h0 h H) (e0 : m_lk lv 0 = some (.ref pa)) {lx1 : Int32} (e1 : m_lk lv 1 = some (.int lx1)) (lq1 : lx1.toInt = m) (m2 : 2 ≤ m) (m5 : m ≤ 5)
    (g0 : ∀ x2 : Int32, x2.toInt = m - 2 → ∀ lv3 : List (Nat × Value), m_lk lv3 0 = some (.ref pa) → m_lk lv3 1 = some (.int lx1) → m_lk lv3 2 = some (.int x2) → HJ 174 4 lv3 [] h Q)
    : HJ 174 0 lv [] h Q := by
  refine hI_il (k := 1) rfl e1 rfl ?_ -- 0
  refine hM_ic (n := 2) rfl (by decide) rfl (fun x1 q1 => ?_) -- 1
  refine hM_sub rfl lq1 q1 (by omega) (by omega) rfl (fun x2 q2 => ?_) -- 2
  refine hM_si (k := 2) rfl (by decide +kernel) rfl (fun lv3 e3_2 u3 => ?_) -- 3
  have e3_0 := u3 0 _ (by decide) (Or.inl rfl) e0
  have e3_1 := u3 1 _ (by decide) (Or.inl rfl) e1
  exact g0 x2 q2 lv3 e3_0 e3_1 e3_2
theorem r_nt4 {pa : Nat} {m a : Int} (M : RX h0 h H) (e0 : m_lk lv 0 = some (.ref pa)) {lx1 : Int32} (e1 : m_lk lv 1 = some (.int lx1)) (lq1 : lx1.toInt = m) {lx2 : Int32} (e2 : m_lk lv 2 = some (.int lx2)) (lq2 : lx2.toInt = a) (m2 : 2 ≤ m) (m5 : m ≤ 5) (pa0 : -1 ≤ a) (pa3 : a ≤ m - 2) (hk0 : (h_k h0 pa).1 = 4) (ha0 : (h_k h0 (h_r h0 pa 9)).1 = 20) (hl0 : 5 ≤ ((h_k h0 (h_r h0 pa 9)).2 : Int))
    (g0 : a < 0 → HJ 174 31 lv [] h Q)
    (g1 : a ≥ 0 → H (h_r h0 pa 9) (a).toNat ≤ H (h_r h0 pa 9) (a + 1).toNat → HJ 174 31 lv [] h Q)
    (g2 : ∀ x5 : Int32, x5.toInt = a + (-1) → ∀ lv5 : List (Nat × Value), m_lk lv5 0 = some (.ref pa) → m_lk lv5 1 = some (.int lx1) → m_lk lv5 2 = some (.int x5) → a ≥ 0 → H (h_r h0 pa 9) (a).toNat > H (h_r h0 pa 9) (a + 1).toNat → HJ 174 4 lv5 [] h Q)
    : HJ 174 4 lv [] h Q := by
  refine hI_il (k := 2) rfl e2 rfl ?_ -- 4
  refine hM_zlt (off := 26) (t := 31) rfl lq2 (by decide) rfl (fun c5 => ?_) (fun c5 => ?_) -- 5
  · exact g0 c5
  · refine hI_al (k := 0) rfl e0 rfl ?_ -- 8
    refine hR_gr (c := 3) (k := 9) M hk0 rfl rfl rfl rfl ?_ -- 9
    refine hI_il (k := 2) rfl e2 rfl ?_ -- 12
    refine hR_ia M ha0 lq2 (by omega) (by omega) rfl rfl (fun x1 q1 => ?_) -- 13
    have gb1 : -2147483648 ≤ H (h_r h0 pa 9) (a).toNat ∧ H (h_r h0 pa 9) (a).toNat ≤ 2147483647 := by rw [← q1]; exact g_iT _
    refine hI_al (k := 0) rfl e0 rfl ?_ -- 14
    refine hR_gr (c := 3) (k := 9) M hk0 rfl rfl rfl rfl ?_ -- 15
    refine hI_il (k := 2) rfl e2 rfl ?_ -- 18
    refine hM_ic (n := 1) rfl (by decide) rfl (fun x2 q2 => ?_) -- 19
    refine hM_add rfl lq2 q2 (by omega) (by omega) rfl (fun x3 q3 => ?_) -- 20
    refine hR_ia M ha0 q3 (by omega) (by omega) rfl rfl (fun x4 q4 => ?_) -- 21
    have gb4 : -2147483648 ≤ H (h_r h0 pa 9) (a + 1).toNat ∧ H (h_r h0 pa 9) (a + 1).toNat ≤ 2147483647 := by rw [← q4]; exact g_iT _
    refine hM_cle (off := 9) (t := 31) rfl q1 q4 (by decide) rfl (fun c22 => ?_) (fun c22 => ?_) -- 22
    · exact g1 c5 c22
    · refine hM_inc (k := 2) (z := (-1)) rfl e2 lq2 (by decide) (by omega) (by omega) (by decide +kernel) rfl (fun lv5 x5 q5 e5_2 u5 => ?_) -- 25
      have e5_0 := u5 0 _ (by decide) (Or.inl rfl) e0
      have e5_1 := u5 1 _ (by decide) (Or.inl rfl) e1
      refine hI_go (pc' := 4) (off := (-24)) rfl (by decide) ?_ -- 28
      exact g2 x5 q5 lv5 e5_0 e5_1 e5_2 c5 c22
theorem r_nt31 {pa : Nat} {m a : Int} (M : RX h0 h H) (e0 : m_lk lv 0 = some (.ref pa)) {lx1 : Int32} (e1 : m_lk lv 1 = some (.int lx1)) (lq1 : lx1.toInt = m) {lx2 : Int32} (e2 : m_lk lv 2 = some (.int lx2)) (lq2 : lx2.toInt = a) (m2 : 2 ≤ m) (m5 : m ≤ 5) (pa0 : -1 ≤ a) (pa3 : a ≤ m - 2)
    (g0 : ∀ x2 : Int32, x2.toInt = m - 1 → ∀ lv3 : List (Nat × Value), m_lk lv3 0 = some (.ref pa) → m_lk lv3 1 = some (.int lx1) → m_lk lv3 2 = some (.int lx2) → m_lk lv3 3 = some (.int x2) → a ≥ 0 → HJ 174 41 lv3 [] h Q)
    (g1 : ∀ x4 : Int32, x4.toInt = 0 → a < 0 → Q (some (.int x4)) h)
    : HJ 174 31 lv [] h Q := by
  refine hI_il (k := 2) rfl e2 rfl ?_ -- 31
  refine hM_zge (off := 5) (t := 37) rfl lq2 (by decide) rfl (fun c32 => ?_) (fun c32 => ?_) -- 32
  · refine hI_il (k := 1) rfl e1 rfl ?_ -- 37
    refine hM_ic (n := 1) rfl (by decide) rfl (fun x1 q1 => ?_) -- 38
    refine hM_sub rfl lq1 q1 (by omega) (by omega) rfl (fun x2 q2 => ?_) -- 39
    refine hM_si (k := 3) rfl (by decide +kernel) rfl (fun lv3 e3_3 u3 => ?_) -- 40
    have e3_0 := u3 0 _ (by decide) (Or.inl rfl) e0
    have e3_1 := u3 1 _ (by decide) (Or.inl rfl) e1
    have e3_2 := u3 2 _ (by decide) (Or.inl rfl) e2
    exact g0 x2 q2 lv3 e3_0 e3_1 e3_2 e3_3 c32
  · refine hM_ic (n := 0) rfl (by decide) rfl (fun x4 q4 => ?_) -- 35
    refine hM_rb rfl rfl q4 (by omega) (by omega) ?_ -- 36
    exact g1 x4 q4 c32
theorem r_nt41 {pa : Nat} {m a w : Int} (M : RX h0 h H) (e0 : m_lk lv 0 = some (.ref pa)) {lx1 : Int32} (e1 : m_lk lv 1 = some (.int lx1)) (lq1 : lx1.toInt = m) {lx2 : Int32} (e2 : m_lk lv 2 = some (.int lx2)) (lq2 : lx2.toInt = a) {lx3 : Int32} (e3 : m_lk lv 3 = some (.int lx3)) (lq3 : lx3.toInt = w) (m2 : 2 ≤ m) (m5 : m ≤ 5) (pa00 : 0 ≤ a) (pa3 : a ≤ m - 2) (pw0 : a + 1 ≤ w) (pw1 : w ≤ m - 1) (hk0 : (h_k h0 pa).1 = 4) (ha0 : (h_k h0 (h_r h0 pa 9)).1 = 20) (hl0 : 5 ≤ ((h_k h0 (h_r h0 pa 9)).2 : Int))
    (g0 : w ≤ a + 1 → HJ 174 69 lv [] h Q)
    (g1 : w > a + 1 → H (h_r h0 pa 9) (w).toNat ≥ H (h_r h0 pa 9) (a).toNat → HJ 174 69 lv [] h Q)
    (g2 : ∀ x5 : Int32, x5.toInt = w + (-1) → ∀ lv5 : List (Nat × Value), m_lk lv5 0 = some (.ref pa) → m_lk lv5 1 = some (.int lx1) → m_lk lv5 2 = some (.int lx2) → m_lk lv5 3 = some (.int x5) → w > a + 1 → H (h_r h0 pa 9) (w).toNat < H (h_r h0 pa 9) (a).toNat → HJ 174 41 lv5 [] h Q)
    : HJ 174 41 lv [] h Q := by
  refine hI_il (k := 3) rfl e3 rfl ?_ -- 41
  refine hI_il (k := 2) rfl e2 rfl ?_ -- 42
  refine hM_ic (n := 1) rfl (by decide) rfl (fun x1 q1 => ?_) -- 43
  refine hM_add rfl lq2 q1 (by omega) (by omega) rfl (fun x2 q2 => ?_) -- 44
  refine hM_cle (off := 24) (t := 69) rfl lq3 q2 (by decide) rfl (fun c45 => ?_) (fun c45 => ?_) -- 45
  · exact g0 c45
  · refine hI_al (k := 0) rfl e0 rfl ?_ -- 48
    refine hR_gr (c := 3) (k := 9) M hk0 rfl rfl rfl rfl ?_ -- 49
    refine hI_il (k := 3) rfl e3 rfl ?_ -- 52
    refine hR_ia M ha0 lq3 (by omega) (by omega) rfl rfl (fun x3 q3 => ?_) -- 53
    have gb3 : -2147483648 ≤ H (h_r h0 pa 9) (w).toNat ∧ H (h_r h0 pa 9) (w).toNat ≤ 2147483647 := by rw [← q3]; exact g_iT _
    refine hI_al (k := 0) rfl e0 rfl ?_ -- 54
    refine hR_gr (c := 3) (k := 9) M hk0 rfl rfl rfl rfl ?_ -- 55
    refine hI_il (k := 2) rfl e2 rfl ?_ -- 58
    refine hR_ia M ha0 lq2 (by omega) (by omega) rfl rfl (fun x4 q4 => ?_) -- 59
    have gb4 : -2147483648 ≤ H (h_r h0 pa 9) (a).toNat ∧ H (h_r h0 pa 9) (a).toNat ≤ 2147483647 := by rw [← q4]; exact g_iT _
    refine hM_cge (off := 9) (t := 69) rfl q3 q4 (by decide) rfl (fun c60 => ?_) (fun c60 => ?_) -- 60
    · exact g1 c45 c60
    · refine hM_inc (k := 3) (z := (-1)) rfl e3 lq3 (by decide) (by omega) (by omega) (by decide +kernel) rfl (fun lv5 x5 q5 e5_3 u5 => ?_) -- 63
      have e5_0 := u5 0 _ (by decide) (Or.inl rfl) e0
      have e5_1 := u5 1 _ (by decide) (Or.inl rfl) e1
      have e5_2 := u5 2 _ (by decide) (Or.inl rfl) e2
      refine hI_go (pc' := 41) (off := (-25)) rfl (by decide) ?_ -- 66
      exact g2 x5 q5 lv5 e5_0 e5_1 e5_2 e5_3 c45 c60
theorem r_nt69 {pa : Nat} {m a w : Int} (M : RX h0 h H) (e0 : m_lk lv 0 = some (.ref pa)) {lx1 : Int32} (e1 : m_lk lv 1 = some (.int lx1)) (lq1 : lx1.toInt = m) {lx2 : Int32} (e2 : m_lk lv 2 = some (.int lx2)) (lq2 : lx2.toInt = a) {lx3 : Int32} (e3 : m_lk lv 3 = some (.int lx3)) (lq3 : lx3.toInt = w)  (hs0 : 16 ≤ pa) (hk0 : (h_k h0 pa).1 = 4)
    (g0 : HJ 175 0 (lv_args 0 [.ref pa, .int lx2, .int lx3]) [] h (fun v h' => HJ 174 75 lv (v.toList ++ []) h' Q))
    : HJ 174 69 lv [] h Q := by
  refine hI_al (k := 0) rfl e0 rfl ?_ -- 69
  refine hI_il (k := 2) rfl e2 rfl ?_ -- 70
  refine hI_il (k := 3) rfl e3 rfl ?_ -- 71
  refine HJ.call (j := 175) (as := [.ref pa, .int lx2, .int lx3]) (rr := []) (pc' := 75) (m_cR (kc := 3) rfl rfl (by decide +kernel) rfl rfl rfl ⟨rfl, by decide +kernel, by decide +kernel⟩ (by decide) hs0 (by rw [M.2.1]; exact hk0)) (by show 3 ≤ m_lc 175; decide +kernel) ?_ -- 72
  exact g0 
theorem r_nt75 {pa : Nat} {m a : Int} (M : RX h0 h H) (e0 : m_lk lv 0 = some (.ref pa)) {lx1 : Int32} (e1 : m_lk lv 1 = some (.int lx1)) (lq1 : lx1.toInt = m) {lx2 : Int32} (e2 : m_lk lv 2 = some (.int lx2)) (lq2 : lx2.toInt = a) (m2 : 2 ≤ m) (m5 : m ≤ 5) (pa00 : 0 ≤ a) (pa3 : a ≤ m - 2)
    (g0 : ∀ x2 : Int32, x2.toInt = a + 1 → ∀ x5 : Int32, x5.toInt = m - 1 → ∀ lv6 : List (Nat × Value), m_lk lv6 0 = some (.ref pa) → m_lk lv6 1 = some (.int lx1) → m_lk lv6 2 = some (.int lx2) → m_lk lv6 4 = some (.int x2) → m_lk lv6 5 = some (.int x5) → HJ 174 85 lv6 [] h Q)
    : HJ 174 75 lv [] h Q := by
  refine hI_il (k := 2) rfl e2 rfl ?_ -- 75
  refine hM_ic (n := 1) rfl (by decide) rfl (fun x1 q1 => ?_) -- 76
  refine hM_add rfl lq2 q1 (by omega) (by omega) rfl (fun x2 q2 => ?_) -- 77
  refine hM_si2 (k := 4) rfl (by decide +kernel) rfl (fun lv3 e3_4 u3 => ?_) -- 78
  have e3_0 := u3 0 _ (by decide) (Or.inl rfl) e0
  have e3_1 := u3 1 _ (by decide) (Or.inl rfl) e1
  have e3_2 := u3 2 _ (by decide) (Or.inl rfl) e2
  refine hI_il (k := 1) rfl e3_1 rfl ?_ -- 80
  refine hM_ic (n := 1) rfl (by decide) rfl (fun x4 q4 => ?_) -- 81
  refine hM_sub rfl lq1 q4 (by omega) (by omega) rfl (fun x5 q5 => ?_) -- 82
  refine hM_si2 (k := 5) rfl (by decide +kernel) rfl (fun lv6 e6_5 u6 => ?_) -- 83
  have e6_0 := u6 0 _ (by decide) (Or.inl rfl) e3_0
  have e6_1 := u6 1 _ (by decide) (Or.inl rfl) e3_1
  have e6_2 := u6 2 _ (by decide) (Or.inl rfl) e3_2
  have e6_4 := u6 4 _ (by decide) (Or.inl rfl) e3_4
  exact g0 x2 q2 x5 q5 lv6 e6_0 e6_1 e6_2 e6_4 e6_5
theorem r_nt85 {pa : Nat} {m b c : Int} (M : RX h0 h H) (e0 : m_lk lv 0 = some (.ref pa)) {lx1 : Int32} (e1 : m_lk lv 1 = some (.int lx1)) (lq1 : lx1.toInt = m) {lx4 : Int32} (e4 : m_lk lv 4 = some (.int lx4)) (lq4 : lx4.toInt = b) {lx5 : Int32} (e5 : m_lk lv 5 = some (.int lx5)) (lq5 : lx5.toInt = c)  (hs0 : 16 ≤ pa) (hk0 : (h_k h0 pa).1 = 4)
    (g0 : ∀ x1 : Int32, x1.toInt = 1 → b ≥ c → Q (some (.int x1)) h)
    (g1 : b < c → HJ 175 0 (lv_args 0 [.ref pa, .int lx4, .int lx5]) [] h (fun v h' => HJ 174 100 lv (v.toList ++ []) h' Q))
    : HJ 174 85 lv [] h Q := by
  refine hI_il2 (k := 4) rfl e4 rfl ?_ -- 85
  refine hI_il2 (k := 5) rfl e5 rfl ?_ -- 87
  refine hM_cge (off := 20) (t := 109) rfl lq4 lq5 (by decide) rfl (fun c89 => ?_) (fun c89 => ?_) -- 89
  · refine hM_ic (n := 1) rfl (by decide) rfl (fun x1 q1 => ?_) -- 109
    refine hM_rb rfl rfl q1 (by omega) (by omega) ?_ -- 110
    exact g0 x1 q1 c89
  · refine hI_al (k := 0) rfl e0 rfl ?_ -- 92
    refine hI_il2 (k := 4) rfl e4 rfl ?_ -- 93
    refine hI_il2 (k := 5) rfl e5 rfl ?_ -- 95
    refine HJ.call (j := 175) (as := [.ref pa, .int lx4, .int lx5]) (rr := []) (pc' := 100) (m_cR (kc := 3) rfl rfl (by decide +kernel) rfl rfl rfl ⟨rfl, by decide +kernel, by decide +kernel⟩ (by decide) hs0 (by rw [M.2.1]; exact hk0)) (by show 3 ≤ m_lc 175; decide +kernel) ?_ -- 97
    exact g1 c89
theorem r_nt100 {pa : Nat} {m b c : Int} (M : RX h0 h H) (e0 : m_lk lv 0 = some (.ref pa)) {lx1 : Int32} (e1 : m_lk lv 1 = some (.int lx1)) (lq1 : lx1.toInt = m) {lx4 : Int32} (e4 : m_lk lv 4 = some (.int lx4)) (lq4 : lx4.toInt = b) {lx5 : Int32} (e5 : m_lk lv 5 = some (.int lx5)) (lq5 : lx5.toInt = c) (pb0 : 0 ≤ b) (pb4 : b ≤ 4) (pc0 : 0 ≤ c) (pc4 : c ≤ 4)
    (g0 : ∀ x1 : Int32, x1.toInt = b + 1 → ∀ x2 : Int32, x2.toInt = c + (-1) → ∀ lv2 : List (Nat × Value), m_lk lv2 0 = some (.ref pa) → m_lk lv2 1 = some (.int lx1) → m_lk lv2 4 = some (.int x1) → m_lk lv2 5 = some (.int x2) → HJ 174 85 lv2 [] h Q)
    : HJ 174 100 lv [] h Q := by
  refine hM_inc (k := 4) (z := 1) rfl e4 lq4 (by decide) (by omega) (by omega) (by decide +kernel) rfl (fun lv1 x1 q1 e1_4 u1 => ?_) -- 100
  have e1_0 := u1 0 _ (by decide) (Or.inl rfl) e0
  have e1_1 := u1 1 _ (by decide) (Or.inl rfl) e1
  have e1_5 := u1 5 _ (by decide) (Or.inl rfl) e5
  refine hM_inc (k := 5) (z := (-1)) rfl e1_5 lq5 (by decide) (by omega) (by omega) (by decide +kernel) rfl (fun lv2 x2 q2 e2_5 u2 => ?_) -- 103
  have e2_0 := u2 0 _ (by decide) (Or.inl rfl) e1_0
  have e2_1 := u2 1 _ (by decide) (Or.inl rfl) e1_1
  have e2_4 := u2 4 _ (by decide) (Or.inl rfl) e1_4
  refine hI_go (pc' := 85) (off := (-21)) rfl (by decide) ?_ -- 106
  exact g0 x1 q1 x2 q2 lv2 e2_0 e2_1 e2_4 e2_5
theorem k_sw {pa m : Nat} {i j : Int} {xi xj : Int32} (M : RX h0 h H) (tr : tr_ok h0 pa) (m5 : m ≤ 5) (qi : xi.toInt = i) (qj : xj.toInt = j) (i0 : 0 ≤ i) (i1 : i < (m : Int)) (j0 : 0 ≤ j) (j1 : j < (m : Int)) (g : ∀ (h' : MH) (H' : Nat → Nat → Int), RX h0 h' H' → (∀ q, q ≠ h_r h0 pa 9 → H' q = H q) → nt_R m (H (h_r h0 pa 9)) (H' (h_r h0 pa 9)) → Q none h') : HJ 175 0 (lv_args 0 [.ref pa, .int xi, .int xj]) [] h Q := by
  obtain ⟨t1, t2, t3, t4, t5⟩ := tr
  refine r_sw0 M rfl rfl qi rfl qj i0 (by omega) j0 (by omega) t1 t3 t4 t5 (fun h4 H4 f4 h5 H5 f5 _ M5 => g h5 H5 M5 (fun q hq => ?_) ?_)
  · rw [f5, m_uN _ _ _ _ hq, f4, m_uN _ _ _ _ hq]
  · rw [f5, m_uE, f4, m_uE]
    exact nt_Rs (by omega) (by omega)
def nt_Q (h0 : MH) (H : Nat → Nat → Int) (pa m : Nat) (Q : Option Value → MH → Prop) : Prop := ∀ (x : Int32) (h' : MH) (H' : Nat → Nat → Int), x.toInt = 0 ∨ x.toInt = 1 → RX h0 h' H' → (∀ q, q ≠ h_r h0 pa 9 → H' q = H q) → nt_R m (H (h_r h0 pa 9)) (H' (h_r h0 pa 9)) → Q (some (.int x)) h'
theorem l_nt85 {pa m : Nat} {xm : Int32} (tr : tr_ok h0 pa) (m5 : m ≤ 5) (qm : xm.toInt = (m : Int)) (g : nt_Q h0 H pa m Q) : ∀ (d : Nat) (h : MH) (H1 : Nat → Nat → Int) (lv : List (Nat × Value)) (xb xc : Int32) (b c : Int), (c - b).toNat ≤ d → RX h0 h H1 → (∀ q, q ≠ h_r h0 pa 9 → H1 q = H q) → nt_R m (H (h_r h0 pa 9)) (H1 (h_r h0 pa 9)) → xb.toInt = b → xc.toInt = c → 0 ≤ b → b ≤ (m : Int) → c < (m : Int) → m_lk lv 0 = some (.ref pa) → m_lk lv 1 = some (.int xm) → m_lk lv 4 = some (.int xb) → m_lk lv 5 = some (.int xc) → HJ 174 85 lv [] h Q := by
  intro d
  induction d with
  | zero =>
    intro h H1 lv xb xc b c hd M o r qb qc b0 bm cm e0 e1 e4 e5
    exact r_nt85 M e0 e1 qm e4 qb e5 qc tr.2.1 tr.1 (fun x q _ => g x h H1 (Or.inr q) M o r) (fun z => absurd z (by omega))
  | succ d ih =>
    intro h H1 lv xb xc b c hd M o r qb qc b0 bm cm e0 e1 e4 e5
    refine r_nt85 M e0 e1 qm e4 qb e5 qc tr.2.1 tr.1 (fun x q _ => g x h H1 (Or.inr q) M o r) (fun z => ?_)
    refine k_sw (m := m) M tr m5 qb qc b0 (by omega) (by omega) cm (fun h2 H2 M2 o2 r2 => ?_)
    show HJ 174 100 lv [] h2 Q
    refine r_nt100 M2 e0 e1 qm e4 qb e5 qc b0 (by omega) (by omega) (by omega) (fun x1 q1 x2 q2 lv2 a0 a1 a4 a5 => ?_)
    exact ih h2 H2 lv2 x1 x2 (b + 1) (c + (-1)) (by omega) M2 (fun q hq => (o2 q hq).trans (o q hq)) (nt_RT r r2) q1 q2 (by omega) (by omega) (by omega) a0 a1 a4 a5
theorem l_nt41 {pa m : Nat} {xm xa : Int32} {a : Int} (M : RX h0 h H) (tr : tr_ok h0 pa) (m2 : 2 ≤ m) (m5 : m ≤ 5) (qm : xm.toInt = (m : Int)) (qa : xa.toInt = a) (a0 : 0 ≤ a) (a1 : a ≤ (m : Int) - 2) (g : nt_Q h0 H pa m Q) : ∀ (d : Nat) (lv : List (Nat × Value)) (xw : Int32) (w : Int), (w - a).toNat ≤ d → xw.toInt = w → a + 1 ≤ w → w ≤ (m : Int) - 1 → m_lk lv 0 = some (.ref pa) → m_lk lv 1 = some (.int xm) → m_lk lv 2 = some (.int xa) → m_lk lv 3 = some (.int xw) → HJ 174 41 lv [] h Q := by
  have go : ∀ (lv : List (Nat × Value)) (xw : Int32) (w : Int), xw.toInt = w → a + 1 ≤ w → w ≤ (m : Int) - 1 → m_lk lv 0 = some (.ref pa) → m_lk lv 1 = some (.int xm) → m_lk lv 2 = some (.int xa) → m_lk lv 3 = some (.int xw) → HJ 174 69 lv [] h Q := fun lv xw w qw w0 w1 e0 e1 e2 e3 => by
    refine r_nt69 M e0 e1 qm e2 qa e3 qw tr.2.1 tr.1 ?_
    refine k_sw (m := m) M tr m5 qa qw a0 (by omega) (by omega) (by omega) (fun h2 H2 M2 o2 r2 => ?_)
    show HJ 174 75 lv [] h2 Q
    refine r_nt75 M2 e0 e1 qm e2 qa (by omega) (by omega) a0 a1 (fun x2 q2 x5 q5 lv6 b0 b1 _ b4 b5 => ?_)
    exact l_nt85 tr m5 qm g 5 h2 H2 lv6 x2 x5 (a + 1) ((m : Int) - 1) (by omega) M2 o2 r2 q2 q5 (by omega) (by omega) (by omega) b0 b1 b4 b5
  intro d
  induction d with
  | zero => intro lv xw w hd qw w0 w1 e0 e1 e2 e3; omega
  | succ d ih =>
    intro lv xw w hd qw w0 w1 e0 e1 e2 e3
    exact r_nt41 M e0 e1 qm e2 qa e3 qw (by omega) (by omega) a0 a1 w0 w1 tr.1 tr.2.2.1 tr.2.2.2.1 (fun _ => go lv xw w qw w0 w1 e0 e1 e2 e3) (fun _ _ => go lv xw w qw w0 w1 e0 e1 e2 e3) (fun x5 q5 lv5 b0 b1 b2 b3 c _ => ih lv5 x5 (w + (-1)) (by omega) q5 (by omega) (by omega) b0 b1 b2 b3)
theorem l_nt4 {pa m : Nat} {xm : Int32} (M : RX h0 h H) (tr : tr_ok h0 pa) (m2 : 2 ≤ m) (m5 : m ≤ 5) (qm : xm.toInt = (m : Int)) (g : nt_Q h0 H pa m Q) : ∀ (d : Nat) (lv : List (Nat × Value)) (xa : Int32) (a : Int), (a + 1).toNat ≤ d → xa.toInt = a → -1 ≤ a → a ≤ (m : Int) - 2 → m_lk lv 0 = some (.ref pa) → m_lk lv 1 = some (.int xm) → m_lk lv 2 = some (.int xa) → HJ 174 4 lv [] h Q := by
  have go : ∀ (lv : List (Nat × Value)) (xa : Int32) (a : Int), xa.toInt = a → -1 ≤ a → a ≤ (m : Int) - 2 → m_lk lv 0 = some (.ref pa) → m_lk lv 1 = some (.int xm) → m_lk lv 2 = some (.int xa) → HJ 174 31 lv [] h Q := fun lv xa a qa a0 a1 e0 e1 e2 => by
    refine r_nt31 M e0 e1 qm e2 qa (by omega) (by omega) a0 a1 (fun x2 q2 lv3 b0 b1 b2 b3 c => ?_) (fun x q _ => g x h H (Or.inl q) M (fun _ _ => rfl) nt_R0)
    exact l_nt41 M tr m2 m5 qm qa c a1 g 6 lv3 x2 ((m : Int) - 1) (by omega) q2 (by omega) (by omega) b0 b1 b2 b3
  intro d
  induction d with
  | zero =>
    intro lv xa a hd qa a0 a1 e0 e1 e2
    exact r_nt4 M e0 e1 qm e2 qa (by omega) (by omega) a0 a1 tr.1 tr.2.2.1 tr.2.2.2.1 (fun _ => go lv xa a qa a0 a1 e0 e1 e2) (fun c => absurd c (by omega)) (fun _ _ _ _ _ _ c => absurd c (by omega))
  | succ d ih =>
    intro lv xa a hd qa a0 a1 e0 e1 e2
    exact r_nt4 M e0 e1 qm e2 qa (by omega) (by omega) a0 a1 tr.1 tr.2.2.1 tr.2.2.2.1 (fun _ => go lv xa a qa a0 a1 e0 e1 e2) (fun _ _ => go lv xa a qa a0 a1 e0 e1 e2) (fun x5 q5 lv5 b0 b1 b2 c _ => ih lv5 x5 (a + (-1)) (by omega) q5 (by omega) (by omega) b0 b1 b2)
theorem k_nt {pa m : Nat} {xm : Int32} (M : RX h0 h H) (tr : tr_ok h0 pa) (m2 : 2 ≤ m) (m5 : m ≤ 5) (qm : xm.toInt = (m : Int)) (g : nt_Q h0 H pa m Q) : HJ 174 0 (lv_args 0 [.ref pa, .int xm]) [] h Q :=
  r_nt0 M rfl rfl qm (by omega) (by omega) (fun x2 q2 lv3 b0 b1 b2 => l_nt4 M tr m2 m5 qm g 5 lv3 x2 ((m : Int) - 2) (by omega) q2 (by omega) (by omega) b0 b1 b2)
end
end
section
-- THE BEST FOLD: all orders tried, all left as it was but the orders' rows
theorem pw_FW {h h' : MH} {pa : Nat} {Y : Nat → Prop} (ok : pa_ok h pa) (F : FW (h_r h pa 0) Y h h') : (∀ k, h_r h' pa k = h_r h pa k) ∧ h_r h' (h_r h pa 0) 4 = h_r h (h_r h pa 0) 4 ∧ ∀ i, i < 59 → i ≠ 11 → pa_w h' pa i = pa_w h pa i := by
  have nod := (pa_ne ok (i := 0) (by decide)).2.2.2
  obtain ⟨a, n, t, r, li, fr, b, c⟩ := ok
  have e0 : ∀ k, h_r h' pa k = h_r h pa k := fun k => (F.2.2 pa a.2.2).2.1 k (fun z => nod.1 z.1)
  have tn : h_r h (h_r h pa 0) 4 ≠ h_r h pa 0 := fun z => by
    have := t.1
    rw [z, n.1.1] at this
    omega
  have rn : h_r h pa 2 ≠ h_r h pa 0 := fun z => by
    have := r.1
    rw [z, n.1.1] at this
    omega
  have ln : h_r h pa 1 ≠ h_r h pa 0 := fun z => by
    have := li.1
    rw [z, n.1.1] at this
    omega
  have e4 : h_r h' (h_r h pa 0) 4 = h_r h (h_r h pa 0) 4 := (F.2.2 _ n.1.2.2).2.1 4 (by omega)
  have eR : ∀ {x : Nat} (k : Nat), x < 16 + h_n h → x ≠ h_r h pa 0 → h_r h' x k = h_r h x k := fun {x} k hx hn => (F.2.2 x hx).2.1 k (fun z => hn z.1)
  refine ⟨e0, e4, fun i hi h11 => ?_⟩
  unfold pa_w
  simp only [e0, e4, if_neg h11]
  rw [(F.2.2 _ n.1.2.2).2.1 2 (by omega), (F.2.2 _ n.1.2.2).2.1 3 (by omega), eR _ t.2.2 tn, eR _ li.2.2 ln, eR _ r.2.2.2 rn]
theorem py_FW {h h' : MH} {pa a : Nat} {Y : Nat → Prop} (ok : pa_ok h pa) (F : FW (h_r h pa 0) Y h h') (z : py_Y h' pa a) : py_Y h pa a := by
  obtain ⟨re, e4, rw_⟩ := pw_FW ok F
  rcases z with z | z | ⟨i, hi, z⟩
  · exact Or.inl z
  · rw [re, e4] at z
    exact Or.inr (Or.inl z)
  · rw [rw_ i (by omega) (by omega)] at z
    exact Or.inr (Or.inr ⟨i, hi, z⟩)
-- a row apart from all that an act may change
theorem ap_FW {h h' : MH} {pa r : Nat} (ok : pa_ok h pa) (k1 : (h_k h r).1 = 20) (k3 : r < 16 + h_n h) (k5 : r ≠ pa_w h pa 11 ∧ ∀ i, i < 11 → r ≠ pa_w h pa i) (F : FW (h_r h pa 0) (py_Y h pa) h h') (j : Nat) : z_i h' r j = z_i h r j := by
  have n := ok.2.1
  refine ((F.2.2 r k3).2.2 (fun z => ?_)).1 j
  rcases z with z | z | z | z | z | ⟨i, hi, z⟩
  · rw [z, n.1.1] at k1
    omega
  · exact k5.1 z
  · rw [z, n.2.2.1.1] at k1
    omega
  · rw [z, ok.1.1] at k1
    omega
  · rw [z, ok.2.2.1.1] at k1
    omega
  · exact k5.2 i hi z
theorem tb_FW {h h' : MH} {pa r : Nat} {Y : Nat → Prop} (ok : pa_ok h pa) (tb : tb_ok h pa r) (F : FW (h_r h pa 0) Y h h') : tb_ok h' pa r := by
  obtain ⟨⟨k1, k2, k3, k4, k6⟩, k5⟩ := tb
  obtain ⟨re, -, rw_⟩ := pw_FW ok F
  have kk := (F.2.2 r k3).1
  have N := F.1
  refine ⟨⟨by rw [kk]; exact k1, k2, by omega, by rw [kk]; exact k4, by rw [kk]; exact k6⟩, fun i hi => ?_⟩
  by_cases e : i = 11
  · subst e
    have w : pa_w h' pa 11 = h_r h' (h_r h pa 0) 0 := by
      show h_r h' (h_r h' pa 0) 0 = _
      rw [re]
    rw [w]
    rcases F.2.1 0 (by decide) with z | z
    · rw [z]
      exact k5 11 hi
    · omega
  · rw [rw_ i hi e]
    exact k5 i hi
theorem pr_FW {h h' : MH} {pa : Nat} {Y : RYt} (ok : pa_ok h pa) (F : FW (h_r h pa 0) (py_Y h pa) h h') (z11 : z_i h' pa 11 = z_i h pa 11) (P : pr_of h pa Y) : pr_of h' pa Y := by
  obtain ⟨⟨p1, p2, p3⟩, p4⟩ := P
  obtain ⟨re, -, rw_⟩ := pw_FW ok F
  have b := ok.2.2.2.2.2.2.1
  have c := ok.2.2.2.2.2.2.2
  have kp : ∀ i, i < 59 → 12 ≤ i → ∀ j, z_i h' (pa_w h pa i) j = z_i h (pa_w h pa i) j := fun i hi h12 j => ap_FW ok (b i hi).1 (b i hi).2.2.1 ⟨c i 11 hi (by decide) (by omega), fun q hq => c i q hi (by omega) (by omega)⟩ F j
  refine ⟨⟨by rw [z11]; exact p1, p2, p3⟩, fun v hv => ?_⟩
  obtain ⟨q1, q2⟩ := p4 v hv
  refine ⟨fun k hk => ?_, ?_⟩
  · rw [rw_ (18 + v) (by omega) (by omega), kp _ (by omega) (by omega)]
    exact q1 k hk
  · rw [re 3]
    exact (kp 12 (by decide) (by decide) v).trans q2
def bf_Y (h : MH) (pa a : Nat) : Prop := py_Y h pa a ∨ a = h_r h pa 9 ∨ a = h_r h pa 10
def hk_ (h : MH) (pa n : Nat) (h1 : MH) : Prop := ∀ j, j < n → h_l h1 (h_r h1 (h_r h pa 0) 1) j = h_l h (h_r h (h_r h pa 0) 1) j
def bf_I (h : MH) (pa m : Nat) (Y : RYt) (h1 : MH) : Prop := (pa_ok h1 pa ∧ ∀ k, h_r h1 pa k = h_r h pa k) ∧ (FW (h_r h pa 0) (bf_Y h pa) h h1 ∧ hk_ h pa (ps_n (ry_s Y)) h1) ∧ (∃ l, cs_of h1 (z_i h1) (h_r h pa 0) (ps_le (ry_s Y) l)) ∧ pr_of h1 pa Y ∧ (∀ q, z_i h1 pa q = z_i h pa q) ∧ (tb_ok h1 pa (h_r h pa 9) ∧ tb_ok h1 pa (h_r h pa 10)) ∧ ∀ k, k < m → 0 ≤ z_i h1 (h_r h pa 9) k ∧ z_i h1 (h_r h pa 9) k < (ry_v Y : Int)
theorem tb_ne {h : MH} {pa r : Nat} (ok : pa_ok h pa) (tb : tb_ok h pa r) : r ≠ pa ∧ r ≠ h_r h pa 0 ∧ r ≠ h_r h (h_r h pa 0) 0 := by
  obtain ⟨⟨k1, -⟩, k5⟩ := tb
  refine ⟨fun z => ?_, fun z => ?_, k5 11 (by decide)⟩
  · rw [z, ok.1.1] at k1
    omega
  · rw [z, ok.2.1.1.1] at k1
    omega
theorem bf_RX {h h1 h2 : MH} {H : Nat → Nat → Int} {pa m m' : Nat} {Y : RYt} (B : bf_I h pa m Y h1) (M : RX h1 h2 H) (o : ∀ q, q ≠ h_r h pa 9 → q ≠ h_r h pa 10 → H q = z_i h1 q) (T' : ∀ k, k < m' → 0 ≤ H (h_r h pa 9) k ∧ H (h_r h pa 9) k < (ry_v Y : Int)) : bf_I h pa m' Y h2 := by
  obtain ⟨⟨ok, re⟩, ⟨F, K⟩, ⟨l, I⟩, P, Z, ⟨t9, t10⟩, T⟩ := B
  obtain ⟨a1, a2, a3⟩ := tb_ne ok t9
  obtain ⟨b1, b2, b3⟩ := tb_ne ok t10
  rw [re 0] at a2 a3 b2 b3
  have rr : h_r h2 = h_r h1 := M.2.2.1.1
  have nn : h_n h2 = h_n h1 := congrArg Prod.fst M.1
  have on : H (h_r h pa 0) = z_i h1 (h_r h pa 0) := o _ (Ne.symm a2) (Ne.symm b2)
  obtain ⟨ok2, -, ww⟩ := pa_RX ok M (nl_RX ok.2.1 M (by rw [re 0, on]))
  have zr : ∀ i, i < 59 → ∀ j, z_i h2 (pa_w h1 pa i) j = z_i h1 (pa_w h1 pa i) j := fun i hi j => by rw [M.zi, o _ (Ne.symm (t9.2 i hi)) (Ne.symm (t10.2 i hi))]
  have tb2 : ∀ {r}, tb_ok h1 pa r → tb_ok h2 pa r := fun {r} t => by
    unfold tb_ok
    rw [M.2.1, nn]
    exact ⟨t.1, fun i hi => by rw [ww i]; exact t.2 i hi⟩
  refine ⟨⟨ok2, fun k => by rw [rr]; exact re k⟩, ⟨F.trans2 (FW.ofRX (Y := fun a => a = h_r h pa 9 ∨ a = h_r h pa 10) M (fun a ha j => by rw [o a (fun z => ha (Or.inr (Or.inr (Or.inr (Or.inl z))))) (fun z => ha (Or.inr (Or.inr (Or.inr (Or.inr z)))))])) (fun q _ y => Or.inl (Or.inr y)), fun j hj => by rw [M.2.2.1.2, M.2.2.1.1]; exact K j hj⟩, ⟨l, cs_mv I (by rw [M.zi, on]) (by rw [M.zi, on]) (fun j _ => by rw [rr, M.zi, o _ (Ne.symm a3) (Ne.symm b3)])⟩, ?_, fun q => by rw [M.zi, o _ (Ne.symm a1) (Ne.symm b1)]; exact Z q, ⟨tb2 t9, tb2 t10⟩, fun k hk => by rw [M.zi]; exact T' k hk⟩
  obtain ⟨⟨p1, p2, p3⟩, p4⟩ := P
  refine ⟨⟨by rw [M.zi, o _ (Ne.symm a1) (Ne.symm b1)]; exact p1, p2, p3⟩, fun v hv => ?_⟩
  obtain ⟨q1, q2⟩ := p4 v hv
  refine ⟨fun k hk => by rw [ww, zr _ (by omega)]; exact q1 k hk, ?_⟩
  rw [rr]
  exact (zr 12 (by decide) v).trans q2
theorem bf_FW {h h1 h2 : MH} {pa m : Nat} {Y : RYt} (ok0 : pa_ok h pa) (B : bf_I h pa m Y h1) (ok2 : pa_ok h2 pa) (I2 : cs_of h2 (z_i h2) (h_r h1 pa 0) (ps_le (ry_s Y) 0)) (F2 : FW (h_r h1 pa 0) (py_Y h1 pa) h1 h2) (Z2 : ∀ q, z_i h2 pa q = z_i h1 pa q) (K2 : hk_ h1 pa (ps_n (ry_s Y)) h2) : bf_I h pa m Y h2 := by
  obtain ⟨⟨ok, re⟩, ⟨F, K⟩, -, P, Z, ⟨t9, t10⟩, T⟩ := B
  obtain ⟨re2, -, -⟩ := pw_FW ok F2
  have ap : ∀ j, z_i h2 (h_r h pa 9) j = z_i h1 (h_r h pa 9) j := fun j => ap_FW ok t9.1.1 t9.1.2.2.1 ⟨t9.2 11 (by decide), fun i hi => t9.2 i (by omega)⟩ F2 j
  refine ⟨⟨ok2, fun k => (re2 k).trans (re k)⟩, ⟨?_, fun j hj => ?_⟩, ⟨0, by rw [re 0] at I2; exact I2⟩, pr_FW ok F2 (Z2 11) P, fun q => (Z2 q).trans (Z q), ⟨tb_FW ok t9 F2, tb_FW ok t10 F2⟩, fun k hk => by rw [ap]; exact T k hk⟩
  · have F2' := F2
    rw [re 0] at F2'
    exact F.trans2 F2' (fun q _ y => Or.inl (Or.inl (py_FW ok0 F y)))
  · have k2 := K2 j hj
    rw [re 0] at k2
    exact k2.trans (K j hj)
section
variable {lv : List (Nat × Value)} {Q : Option Value → MH → Prop} {h0 h : MH} {H : Nat → Nat → Int}
theorem hR_cp5 {i pc pc' idx nest o to : Nat} {xs xd xn : Int32} (M : RX h0 h H) (ko : (h_k h0 o).1 = 20) (kt : (h_k h0 to).1 = 20) (o16 : 16 ≤ o) (t16 : 16 ≤ to) (lo : 5 ≤ (h_k h0 o).2) (lt : 5 ≤ (h_k h0 to).2) (qs : xs.toInt = 0) (qd : xd.toInt = 0) (qn : xn.toInt = 5) (a : m_at i pc = some (.invokestatic idx, 3)) (hm : m_ml i idx = some (nest, 901)) (hc : 1 ≤ m_fr i ∧ 0 + 18 ≤ m_lo i) (hp : pc + 3 = pc') (g : ∀ (h' : MH) (H' : Nat → Nat → Int), RX h0 h' H' → H' = m_u H to (fun j => if j < 5 then H o j else H to j) → HJ i pc' lv [] h' Q) : HJ i pc lv [.int xn, .int xd, .ref to, .int xs, .ref o] h Q := by
  have es : xs.toNatClampNeg = 0 := by show xs.toInt.toNat = 0; omega
  have ed : xd.toNatClampNeg = 0 := by show xd.toInt.toNat = 0; omega
  have en : xn.toNatClampNeg = 5 := by show xn.toInt.toNat = 5; omega
  have z0 : (0 : Int32).toInt = 0 := rfl
  refine hI_cp (h' := h_cpi h o to 0 0 5) (st := []) a hm ⟨o16, t16, fun z => ?_, fun z => ?_, fun z => ?_, by rw [es, en, M.2.1]; omega, by rw [ed, en, M.2.1]; omega, hc.1, hc.2, by decide⟩ (Or.inl ⟨by rw [M.2.1]; exact ko, by rw [M.2.1]; exact kt, by rw [es, ed, en]⟩) hp (g _ _ ⟨M.1, M.2.1, M.2.2.1, fun b j => ?_⟩ rfl)
  · have := Int32.lt_iff_toInt_lt.mp z
    omega
  · have := Int32.lt_iff_toInt_lt.mp z
    omega
  · have := Int32.lt_iff_toInt_lt.mp z
    omega
  · rw [s_cpI]
    by_cases e : b = to
    · subst e
      rw [m_uE]
      by_cases f : j < 5
      · rw [if_pos ⟨rfl, by omega, by omega⟩, if_pos f, M.2.2.2]
        simp
      · rw [if_neg (fun z => f (by omega)), if_neg f, M.2.2.2]
    · rw [if_neg (fun z => e z.1), m_uN _ _ _ _ e, M.2.2.2]
theorem r_bf0 {pa : Nat} {m : Int} (M : RX h0 h H) (e0 : m_lk lv 0 = some (.ref pa)) {lx1 : Int64} (e1 : m_lk lv 1 = some (.long lx1)) {lx3 : Int32} (e3 : m_lk lv 3 = some (.int lx3)) (lq3 : lx3.toInt = m) 
    (g0 : ∀ x1 : Int32, x1.toInt = 0 → ∀ x3 : Int32, x3.toInt = 0 → ∀ lv4 : List (Nat × Value), m_lk lv4 0 = some (.ref pa) → m_lk lv4 1 = some (.long lx1) → m_lk lv4 3 = some (.int lx3) → m_lk lv4 4 = some (.int x1) → m_lk lv4 5 = some (.int x3) → HJ 172 6 lv4 [] h Q)
    : HJ 172 0 lv [] h Q := by
  refine hM_ic (n := 0) rfl (by decide) rfl (fun x1 q1 => ?_) -- 0
  refine hM_si2 (k := 4) rfl (by decide +kernel) rfl (fun lv2 e2_4 u2 => ?_) -- 1
  have e2_0 := u2 0 _ (by decide) (Or.inl rfl) e0
  have e2_1 := u2 1 _ (by decide) (Or.inr (by decide)) e1
  have e2_3 := u2 3 _ (by decide) (Or.inl rfl) e3
  refine hM_ic (n := 0) rfl (by decide) rfl (fun x3 q3 => ?_) -- 3
  refine hM_si2 (k := 5) rfl (by decide +kernel) rfl (fun lv4 e4_5 u4 => ?_) -- 4
  have e4_0 := u4 0 _ (by decide) (Or.inl rfl) e2_0
  have e4_1 := u4 1 _ (by decide) (Or.inr (by decide)) e2_1
  have e4_3 := u4 3 _ (by decide) (Or.inl rfl) e2_3
  have e4_4 := u4 4 _ (by decide) (Or.inl rfl) e2_4
  exact g0 x1 q1 x3 q3 lv4 e4_0 e4_1 e4_3 e4_4 e4_5
theorem r_bf6 {pa : Nat} {m f v : Int} (M : RX h0 h H) (e0 : m_lk lv 0 = some (.ref pa)) {lx1 : Int64} (e1 : m_lk lv 1 = some (.long lx1)) {lx3 : Int32} (e3 : m_lk lv 3 = some (.int lx3)) (lq3 : lx3.toInt = m) {lx4 : Int32} (e4 : m_lk lv 4 = some (.int lx4)) (lq4 : lx4.toInt = f) {lx5 : Int32} (e5 : m_lk lv 5 = some (.int lx5)) (lq5 : lx5.toInt = v)  (hk0 : (h_k h0 pa).1 = 4)
    (g0 : v > H pa 11 → HJ 172 51 lv [] h Q)
    (g1 : v ≤ H pa 11 → f ≥ 5 → HJ 172 51 lv [] h Q)
    (g2 : v ≤ H pa 11 → f < 5 → HJ 52 0 (lv_args 0 [.int lx5]) [] h (fun v h' => HJ 172 27 lv (v.toList ++ [.long lx1]) h' Q))
    : HJ 172 6 lv [] h Q := by
  refine hI_il2 (k := 5) rfl e5 rfl ?_ -- 6
  refine hI_al (k := 0) rfl e0 rfl ?_ -- 8
  refine hR_gi (c := 3) (k := 11) M hk0 rfl rfl rfl rfl (fun x1 q1 => ?_) -- 9
  have gb1 : -2147483648 ≤ H pa 11 ∧ H pa 11 ≤ 2147483647 := by rw [← q1]; exact g_iT _
  refine hM_cgt (off := 39) (t := 51) rfl lq5 q1 (by decide) rfl (fun c12 => ?_) (fun c12 => ?_) -- 12
  · exact g0 c12
  · refine hI_il2 (k := 4) rfl e4 rfl ?_ -- 15
    refine hM_ic (n := 5) rfl (by decide) rfl (fun x2 q2 => ?_) -- 17
    refine hM_cge (off := 33) (t := 51) rfl lq4 q2 (by decide) rfl (fun c18 => ?_) (fun c18 => ?_) -- 18
    · exact g1 c12 c18
    · refine hI_ll (k := 1) rfl e1 rfl ?_ -- 21
      refine hI_il2 (k := 5) rfl e5 rfl ?_ -- 22
      refine hM_is0 (as := [.int lx5]) (r := [.long lx1]) rfl rfl (by decide +kernel) rfl rfl rfl rfl rfl ?_ -- 24
      exact g2 c12 c18
theorem r_bf27 {pa : Nat} {m f v : Int} (M : RX h0 h H) (e0 : m_lk lv 0 = some (.ref pa)) {lx1 : Int64} (e1 : m_lk lv 1 = some (.long lx1)) {lx3 : Int32} (e3 : m_lk lv 3 = some (.int lx3)) (lq3 : lx3.toInt = m) {lx4 : Int32} (e4 : m_lk lv 4 = some (.int lx4)) (lq4 : lx4.toInt = f) {lx5 : Int32} (e5 : m_lk lv 5 = some (.int lx5)) (lq5 : lx5.toInt = v) {sx0 : Int64} {sx1 : Int64} (pf0 : 0 ≤ f) (pf4 : f ≤ 4) (hk0 : (h_k h0 pa).1 = 4) (ha0 : (h_k h0 (h_r h0 pa 9)).1 = 20) (hl0 : 5 ≤ ((h_k h0 (h_r h0 pa 9)).2 : Int)) (hs0 : 16 ≤ h_r h0 pa 9)
    (g0 : (lg_cmp (sx0 &&& sx1) (Int64.ofNat (0 : Fin 2).val)).toInt = 0 → HJ 172 45 lv [] h Q)
    (g1 : ∀ h2 : MH, ∀ H2 : Nat → Nat → Int, H2 = m_u H (h_r h0 pa 9) (m_u (H (h_r h0 pa 9)) (f).toNat (v)) → ∀ x3 : Int32, x3.toInt = f + 1 → ∀ lv3 : List (Nat × Value), RX h0 h2 H2 → m_lk lv3 0 = some (.ref pa) → m_lk lv3 1 = some (.long lx1) → m_lk lv3 3 = some (.int lx3) → m_lk lv3 4 = some (.int x3) → m_lk lv3 5 = some (.int lx5) → (lg_cmp (sx0 &&& sx1) (Int64.ofNat (0 : Fin 2).val)).toInt ≠ 0 → HJ 172 45 lv3 [] h2 Q)
    : HJ 172 27 lv [.long sx1, .long sx0] h Q := by
  refine hI_land rfl rfl ?_ -- 27
  refine hI_lc (n := 0) rfl rfl ?_ -- 28
  refine hM_lcmp rfl rfl (fun x1 q1 => ?_) -- 29
  refine hM_zeq (off := 15) (t := 45) rfl q1 (by decide) rfl (fun c30 => ?_) (fun c30 => ?_) -- 30
  · exact g0 c30
  · refine hI_al (k := 0) rfl e0 rfl ?_ -- 33
    refine hR_gr (c := 3) (k := 9) M hk0 rfl rfl rfl rfl ?_ -- 34
    refine hI_il2 (k := 4) rfl e4 rfl ?_ -- 37
    refine hI_il2 (k := 5) rfl e5 rfl ?_ -- 39
    refine hR_is M hs0 ha0 lq4 lq5 (by omega) (by omega) rfl rfl (fun h2 H2 f2 M2 => ?_) -- 41
    refine hM_inc (k := 4) (z := 1) rfl e4 lq4 (by decide) (by omega) (by omega) (by decide +kernel) rfl (fun lv3 x3 q3 e3_4 u3 => ?_) -- 42
    have e3_0 := u3 0 _ (by decide) (Or.inl rfl) e0
    have e3_1 := u3 1 _ (by decide) (Or.inr (by decide)) e1
    have e3_3 := u3 3 _ (by decide) (Or.inl rfl) e3
    have e3_5 := u3 5 _ (by decide) (Or.inl rfl) e5
    exact g1 h2 H2 f2 x3 q3 lv3 M2 e3_0 e3_1 e3_3 e3_4 e3_5 c30
theorem r_bf45 {pa : Nat} {m f v : Int} (M : RX h0 h H) (e0 : m_lk lv 0 = some (.ref pa)) {lx1 : Int64} (e1 : m_lk lv 1 = some (.long lx1)) {lx3 : Int32} (e3 : m_lk lv 3 = some (.int lx3)) (lq3 : lx3.toInt = m) {lx4 : Int32} (e4 : m_lk lv 4 = some (.int lx4)) (lq4 : lx4.toInt = f) {lx5 : Int32} (e5 : m_lk lv 5 = some (.int lx5)) (lq5 : lx5.toInt = v) (pv0 : 0 ≤ v) (pv1 : v ≤ 40)
    (g0 : ∀ x1 : Int32, x1.toInt = v + 1 → ∀ lv1 : List (Nat × Value), m_lk lv1 0 = some (.ref pa) → m_lk lv1 1 = some (.long lx1) → m_lk lv1 3 = some (.int lx3) → m_lk lv1 4 = some (.int lx4) → m_lk lv1 5 = some (.int x1) → HJ 172 6 lv1 [] h Q)
    : HJ 172 45 lv [] h Q := by
  refine hM_inc (k := 5) (z := 1) rfl e5 lq5 (by decide) (by omega) (by omega) (by decide +kernel) rfl (fun lv1 x1 q1 e1_5 u1 => ?_) -- 45
  have e1_0 := u1 0 _ (by decide) (Or.inl rfl) e0
  have e1_1 := u1 1 _ (by decide) (Or.inr (by decide)) e1
  have e1_3 := u1 3 _ (by decide) (Or.inl rfl) e3
  have e1_4 := u1 4 _ (by decide) (Or.inl rfl) e4
  refine hI_go (pc' := 6) (off := (-42)) rfl (by decide) ?_ -- 48
  exact g0 x1 q1 lv1 e1_0 e1_1 e1_3 e1_4 e1_5
theorem r_bf51 {pa : Nat} {m f : Int} (M : RX h0 h H) (e0 : m_lk lv 0 = some (.ref pa)) {lx1 : Int64} (e1 : m_lk lv 1 = some (.long lx1)) {lx3 : Int32} (e3 : m_lk lv 3 = some (.int lx3)) (lq3 : lx3.toInt = m) {lx4 : Int32} (e4 : m_lk lv 4 = some (.int lx4)) (lq4 : lx4.toInt = f) 
    (g0 : ∀ x1 : Int32, x1.toInt = (-1) → ∀ x3 : Int32, x3.toInt = 0 → ∀ x5 : Int32, x5.toInt = 0 → ∀ lv6 : List (Nat × Value), m_lk lv6 0 = some (.ref pa) → m_lk lv6 1 = some (.long lx1) → m_lk lv6 3 = some (.int lx3) → m_lk lv6 4 = some (.int lx4) → m_lk lv6 5 = some (.int x1) → m_lk lv6 6 = some (.int x3) → m_lk lv6 7 = some (.int x5) → f ≠ m → HJ 172 70 lv6 [] h Q)
    (g1 : ∀ x1 : Int32, x1.toInt = (-1) → ∀ x7 : Int32, x7.toInt = 1 → ∀ x9 : Int32, x9.toInt = 0 → ∀ lv10 : List (Nat × Value), m_lk lv10 0 = some (.ref pa) → m_lk lv10 1 = some (.long lx1) → m_lk lv10 3 = some (.int lx3) → m_lk lv10 4 = some (.int lx4) → m_lk lv10 5 = some (.int x1) → m_lk lv10 6 = some (.int x7) → m_lk lv10 7 = some (.int x9) → f = m → HJ 172 70 lv10 [] h Q)
    : HJ 172 51 lv [] h Q := by
  refine hM_ic (n := (-1)) rfl (by decide) rfl (fun x1 q1 => ?_) -- 51
  refine hM_si2 (k := 5) rfl (by decide +kernel) rfl (fun lv2 e2_5 u2 => ?_) -- 52
  have e2_0 := u2 0 _ (by decide) (Or.inl rfl) e0
  have e2_1 := u2 1 _ (by decide) (Or.inr (by decide)) e1
  have e2_3 := u2 3 _ (by decide) (Or.inl rfl) e3
  have e2_4 := u2 4 _ (by decide) (Or.inl rfl) e4
  refine hI_il2 (k := 4) rfl e2_4 rfl ?_ -- 54
  refine hI_il (k := 3) rfl e2_3 rfl ?_ -- 56
  refine hM_cne (off := 7) (t := 64) rfl lq4 lq3 (by decide) rfl (fun c57 => ?_) (fun c57 => ?_) -- 57
  · refine hM_ic (n := 0) rfl (by decide) rfl (fun x3 q3 => ?_) -- 64
    refine hM_si2 (k := 6) rfl (by decide +kernel) rfl (fun lv4 e4_6 u4 => ?_) -- 65
    have e4_0 := u4 0 _ (by decide) (Or.inl rfl) e2_0
    have e4_1 := u4 1 _ (by decide) (Or.inr (by decide)) e2_1
    have e4_3 := u4 3 _ (by decide) (Or.inl rfl) e2_3
    have e4_4 := u4 4 _ (by decide) (Or.inl rfl) e2_4
    have e4_5 := u4 5 _ (by decide) (Or.inl rfl) e2_5
    refine hM_ic (n := 0) rfl (by decide) rfl (fun x5 q5 => ?_) -- 67
    refine hM_si2 (k := 7) rfl (by decide +kernel) rfl (fun lv6 e6_7 u6 => ?_) -- 68
    have e6_0 := u6 0 _ (by decide) (Or.inl rfl) e4_0
    have e6_1 := u6 1 _ (by decide) (Or.inr (by decide)) e4_1
    have e6_3 := u6 3 _ (by decide) (Or.inl rfl) e4_3
    have e6_4 := u6 4 _ (by decide) (Or.inl rfl) e4_4
    have e6_5 := u6 5 _ (by decide) (Or.inl rfl) e4_5
    have e6_6 := u6 6 _ (by decide) (Or.inl rfl) e4_6
    exact g0 x1 q1 x3 q3 x5 q5 lv6 e6_0 e6_1 e6_3 e6_4 e6_5 e6_6 e6_7 c57
  · refine hM_ic (n := 1) rfl (by decide) rfl (fun x7 q7 => ?_) -- 60
    refine hI_go (pc' := 65) (off := 4) rfl (by decide) ?_ -- 61
    refine hM_si2 (k := 6) rfl (by decide +kernel) rfl (fun lv8 e8_6 u8 => ?_) -- 65
    have e8_0 := u8 0 _ (by decide) (Or.inl rfl) e2_0
    have e8_1 := u8 1 _ (by decide) (Or.inr (by decide)) e2_1
    have e8_3 := u8 3 _ (by decide) (Or.inl rfl) e2_3
    have e8_4 := u8 4 _ (by decide) (Or.inl rfl) e2_4
    have e8_5 := u8 5 _ (by decide) (Or.inl rfl) e2_5
    refine hM_ic (n := 0) rfl (by decide) rfl (fun x9 q9 => ?_) -- 67
    refine hM_si2 (k := 7) rfl (by decide +kernel) rfl (fun lv10 e10_7 u10 => ?_) -- 68
    have e10_0 := u10 0 _ (by decide) (Or.inl rfl) e8_0
    have e10_1 := u10 1 _ (by decide) (Or.inr (by decide)) e8_1
    have e10_3 := u10 3 _ (by decide) (Or.inl rfl) e8_3
    have e10_4 := u10 4 _ (by decide) (Or.inl rfl) e8_4
    have e10_5 := u10 5 _ (by decide) (Or.inl rfl) e8_5
    have e10_6 := u10 6 _ (by decide) (Or.inl rfl) e8_6
    exact g1 x1 q1 x7 q7 x9 q9 lv10 e10_0 e10_1 e10_3 e10_4 e10_5 e10_6 e10_7 c57
theorem r_bf70 {pa : Nat} {m f e o i : Int} (M : RX h0 h H) (e0 : m_lk lv 0 = some (.ref pa)) {lx1 : Int64} (e1 : m_lk lv 1 = some (.long lx1)) {lx3 : Int32} (e3 : m_lk lv 3 = some (.int lx3)) (lq3 : lx3.toInt = m) {lx4 : Int32} (e4 : m_lk lv 4 = some (.int lx4)) (lq4 : lx4.toInt = f) {lx5 : Int32} (e5 : m_lk lv 5 = some (.int lx5)) (lq5 : lx5.toInt = e) {lx6 : Int32} (e6 : m_lk lv 6 = some (.int lx6)) (lq6 : lx6.toInt = o) {lx7 : Int32} (e7 : m_lk lv 7 = some (.int lx7)) (lq7 : lx7.toInt = i)  (hs0 : 16 ≤ pa) (hk0 : (h_k h0 pa).1 = 4)
    (g0 : o = 0 → Q (some (.int lx5)) h)
    (g1 : o ≠ 0 → i ≥ 120 → Q (some (.int lx5)) h)
    (g2 : o ≠ 0 → i < 120 → HJ 173 0 (lv_args 0 [.ref pa, .int lx4]) [] h (fun v h' => HJ 172 88 lv (v.toList ++ []) h' Q))
    : HJ 172 70 lv [] h Q := by
  refine hI_il2 (k := 6) rfl e6 rfl ?_ -- 70
  refine hM_zeq (off := 63) (t := 135) rfl lq6 (by decide) rfl (fun c72 => ?_) (fun c72 => ?_) -- 72
  · refine hI_il2 (k := 5) rfl e5 rfl ?_ -- 135
    refine hI_ri rfl rfl ?_ -- 137
    exact g0 c72
  · refine hI_il2 (k := 7) rfl e7 rfl ?_ -- 75
    refine hM_bp (n := 120) rfl (by decide) rfl (fun x1 q1 => ?_) -- 77
    refine hM_cge (off := 56) (t := 135) rfl lq7 q1 (by decide) rfl (fun c79 => ?_) (fun c79 => ?_) -- 79
    · refine hI_il2 (k := 5) rfl e5 rfl ?_ -- 135
      refine hI_ri rfl rfl ?_ -- 137
      exact g1 c72 c79
    · refine hI_al (k := 0) rfl e0 rfl ?_ -- 82
      refine hI_il2 (k := 4) rfl e4 rfl ?_ -- 83
      refine HJ.call (j := 173) (as := [.ref pa, .int lx4]) (rr := []) (pc' := 88) (m_cR (kc := 3) rfl rfl (by decide +kernel) rfl rfl rfl ⟨rfl, by decide +kernel, by decide +kernel⟩ (by decide) hs0 (by rw [M.2.1]; exact hk0)) (by show 2 ≤ m_lc 173; decide +kernel) ?_ -- 85
      exact g2 c72 c79
theorem r_bf88 {pa : Nat} {m f e o i y : Int} (M : RX h0 h H) (e0 : m_lk lv 0 = some (.ref pa)) {lx1 : Int64} (e1 : m_lk lv 1 = some (.long lx1)) {lx3 : Int32} (e3 : m_lk lv 3 = some (.int lx3)) (lq3 : lx3.toInt = m) {lx4 : Int32} (e4 : m_lk lv 4 = some (.int lx4)) (lq4 : lx4.toInt = f) {lx5 : Int32} (e5 : m_lk lv 5 = some (.int lx5)) (lq5 : lx5.toInt = e) {lx6 : Int32} (e6 : m_lk lv 6 = some (.int lx6)) (lq6 : lx6.toInt = o) {lx7 : Int32} (e7 : m_lk lv 7 = some (.int lx7)) (lq7 : lx7.toInt = i) {sx0 : Int32} (sq0 : sx0.toInt = y) 
    (g0 : ∀ lv3 : List (Nat × Value), m_lk lv3 0 = some (.ref pa) → m_lk lv3 1 = some (.long lx1) → m_lk lv3 3 = some (.int lx3) → m_lk lv3 4 = some (.int lx4) → m_lk lv3 5 = some (.int sx0) → m_lk lv3 6 = some (.int lx6) → m_lk lv3 7 = some (.int lx7) → m_lk lv3 8 = some (.int sx0) → e = (-1) → HJ 172 107 lv3 [] h Q)
    (g1 : ∀ lv1 : List (Nat × Value), m_lk lv1 0 = some (.ref pa) → m_lk lv1 1 = some (.long lx1) → m_lk lv1 3 = some (.int lx3) → m_lk lv1 4 = some (.int lx4) → m_lk lv1 5 = some (.int lx5) → m_lk lv1 6 = some (.int lx6) → m_lk lv1 7 = some (.int lx7) → m_lk lv1 8 = some (.int sx0) → e ≠ (-1) → y ≥ e → HJ 172 121 lv1 [] h Q)
    (g2 : ∀ lv4 : List (Nat × Value), m_lk lv4 0 = some (.ref pa) → m_lk lv4 1 = some (.long lx1) → m_lk lv4 3 = some (.int lx3) → m_lk lv4 4 = some (.int lx4) → m_lk lv4 5 = some (.int sx0) → m_lk lv4 6 = some (.int lx6) → m_lk lv4 7 = some (.int lx7) → m_lk lv4 8 = some (.int sx0) → e ≠ (-1) → y < e → HJ 172 107 lv4 [] h Q)
    : HJ 172 88 lv [.int sx0] h Q := by
  refine hM_si2 (k := 8) rfl (by decide +kernel) rfl (fun lv1 e1_8 u1 => ?_) -- 88
  have e1_0 := u1 0 _ (by decide) (Or.inl rfl) e0
  have e1_1 := u1 1 _ (by decide) (Or.inr (by decide)) e1
  have e1_3 := u1 3 _ (by decide) (Or.inl rfl) e3
  have e1_4 := u1 4 _ (by decide) (Or.inl rfl) e4
  have e1_5 := u1 5 _ (by decide) (Or.inl rfl) e5
  have e1_6 := u1 6 _ (by decide) (Or.inl rfl) e6
  have e1_7 := u1 7 _ (by decide) (Or.inl rfl) e7
  refine hI_il2 (k := 5) rfl e1_5 rfl ?_ -- 90
  refine hM_ic (n := (-1)) rfl (by decide) rfl (fun x2 q2 => ?_) -- 92
  refine hM_ceq (off := 10) (t := 103) rfl lq5 q2 (by decide) rfl (fun c93 => ?_) (fun c93 => ?_) -- 93
  · refine hI_il2 (k := 8) rfl e1_8 rfl ?_ -- 103
    refine hM_si2 (k := 5) rfl (by decide +kernel) rfl (fun lv3 e3_5 u3 => ?_) -- 105
    have e3_0 := u3 0 _ (by decide) (Or.inl rfl) e1_0
    have e3_1 := u3 1 _ (by decide) (Or.inr (by decide)) e1_1
    have e3_3 := u3 3 _ (by decide) (Or.inl rfl) e1_3
    have e3_4 := u3 4 _ (by decide) (Or.inl rfl) e1_4
    have e3_6 := u3 6 _ (by decide) (Or.inl rfl) e1_6
    have e3_7 := u3 7 _ (by decide) (Or.inl rfl) e1_7
    have e3_8 := u3 8 _ (by decide) (Or.inl rfl) e1_8
    exact g0 lv3 e3_0 e3_1 e3_3 e3_4 e3_5 e3_6 e3_7 e3_8 c93
  · refine hI_il2 (k := 8) rfl e1_8 rfl ?_ -- 96
    refine hI_il2 (k := 5) rfl e1_5 rfl ?_ -- 98
    refine hM_cge (off := 21) (t := 121) rfl sq0 lq5 (by decide) rfl (fun c100 => ?_) (fun c100 => ?_) -- 100
    · exact g1 lv1 e1_0 e1_1 e1_3 e1_4 e1_5 e1_6 e1_7 e1_8 c93 c100
    · refine hI_il2 (k := 8) rfl e1_8 rfl ?_ -- 103
      refine hM_si2 (k := 5) rfl (by decide +kernel) rfl (fun lv4 e4_5 u4 => ?_) -- 105
      have e4_0 := u4 0 _ (by decide) (Or.inl rfl) e1_0
      have e4_1 := u4 1 _ (by decide) (Or.inr (by decide)) e1_1
      have e4_3 := u4 3 _ (by decide) (Or.inl rfl) e1_3
      have e4_4 := u4 4 _ (by decide) (Or.inl rfl) e1_4
      have e4_6 := u4 6 _ (by decide) (Or.inl rfl) e1_6
      have e4_7 := u4 7 _ (by decide) (Or.inl rfl) e1_7
      have e4_8 := u4 8 _ (by decide) (Or.inl rfl) e1_8
      exact g2 lv4 e4_0 e4_1 e4_3 e4_4 e4_5 e4_6 e4_7 e4_8 c93 c100
theorem r_bf121 {pa : Nat} {m f e o i : Int} (M : RX h0 h H) (e0 : m_lk lv 0 = some (.ref pa)) {lx1 : Int64} (e1 : m_lk lv 1 = some (.long lx1)) {lx3 : Int32} (e3 : m_lk lv 3 = some (.int lx3)) (lq3 : lx3.toInt = m) {lx4 : Int32} (e4 : m_lk lv 4 = some (.int lx4)) (lq4 : lx4.toInt = f) {lx5 : Int32} (e5 : m_lk lv 5 = some (.int lx5)) (lq5 : lx5.toInt = e) {lx6 : Int32} (e6 : m_lk lv 6 = some (.int lx6)) (lq6 : lx6.toInt = o) {lx7 : Int32} (e7 : m_lk lv 7 = some (.int lx7)) (lq7 : lx7.toInt = i)  (hs0 : 16 ≤ pa) (hk0 : (h_k h0 pa).1 = 4)
    (g0 : HJ 174 0 (lv_args 0 [.ref pa, .int lx4]) [] h (fun v h' => HJ 172 127 lv (v.toList ++ []) h' Q))
    : HJ 172 121 lv [] h Q := by
  refine hI_al (k := 0) rfl e0 rfl ?_ -- 121
  refine hI_il2 (k := 4) rfl e4 rfl ?_ -- 122
  refine HJ.call (j := 174) (as := [.ref pa, .int lx4]) (rr := []) (pc' := 127) (m_cR (kc := 3) rfl rfl (by decide +kernel) rfl rfl rfl ⟨rfl, by decide +kernel, by decide +kernel⟩ (by decide) hs0 (by rw [M.2.1]; exact hk0)) (by show 2 ≤ m_lc 174; decide +kernel) ?_ -- 124
  exact g0 
theorem r_bf127 {pa : Nat} {m f e o i y : Int} (M : RX h0 h H) (e0 : m_lk lv 0 = some (.ref pa)) {lx1 : Int64} (e1 : m_lk lv 1 = some (.long lx1)) {lx3 : Int32} (e3 : m_lk lv 3 = some (.int lx3)) (lq3 : lx3.toInt = m) {lx4 : Int32} (e4 : m_lk lv 4 = some (.int lx4)) (lq4 : lx4.toInt = f) {lx5 : Int32} (e5 : m_lk lv 5 = some (.int lx5)) (lq5 : lx5.toInt = e) {lx6 : Int32} (e6 : m_lk lv 6 = some (.int lx6)) (lq6 : lx6.toInt = o) {lx7 : Int32} (e7 : m_lk lv 7 = some (.int lx7)) (lq7 : lx7.toInt = i) {sx0 : Int32} (sq0 : sx0.toInt = y) (qi0 : 0 ≤ i) (qi1 : i ≤ 119)
    (g0 : ∀ x2 : Int32, x2.toInt = i + 1 → ∀ lv2 : List (Nat × Value), m_lk lv2 0 = some (.ref pa) → m_lk lv2 1 = some (.long lx1) → m_lk lv2 3 = some (.int lx3) → m_lk lv2 4 = some (.int lx4) → m_lk lv2 5 = some (.int lx5) → m_lk lv2 6 = some (.int sx0) → m_lk lv2 7 = some (.int x2) → HJ 172 70 lv2 [] h Q)
    : HJ 172 127 lv [.int sx0] h Q := by
  refine hM_si2 (k := 6) rfl (by decide +kernel) rfl (fun lv1 e1_6 u1 => ?_) -- 127
  have e1_0 := u1 0 _ (by decide) (Or.inl rfl) e0
  have e1_1 := u1 1 _ (by decide) (Or.inr (by decide)) e1
  have e1_3 := u1 3 _ (by decide) (Or.inl rfl) e3
  have e1_4 := u1 4 _ (by decide) (Or.inl rfl) e4
  have e1_5 := u1 5 _ (by decide) (Or.inl rfl) e5
  have e1_7 := u1 7 _ (by decide) (Or.inl rfl) e7
  refine hM_inc (k := 7) (z := 1) rfl e1_7 lq7 (by decide) (by omega) (by omega) (by decide +kernel) rfl (fun lv2 x2 q2 e2_7 u2 => ?_) -- 129
  have e2_0 := u2 0 _ (by decide) (Or.inl rfl) e1_0
  have e2_1 := u2 1 _ (by decide) (Or.inr (by decide)) e1_1
  have e2_3 := u2 3 _ (by decide) (Or.inl rfl) e1_3
  have e2_4 := u2 4 _ (by decide) (Or.inl rfl) e1_4
  have e2_5 := u2 5 _ (by decide) (Or.inl rfl) e1_5
  have e2_6 := u2 6 _ (by decide) (Or.inl rfl) e1_6
  refine hI_go (pc' := 70) (off := (-62)) rfl (by decide) ?_ -- 132
  exact g0 x2 q2 lv2 e2_0 e2_1 e2_3 e2_4 e2_5 e2_6 e2_7
theorem l_bf70 {hh : MH} {pa m : Nat} {Y : RYt} {xl : Int64} {xm : Int32} (ok0 : pa_ok hh pa) (sh : ps_sh (ry_s Y)) (hs : ∀ u : Nat, u < ry_v Y → hp_in (ry_s Y) (ry_h Y u)) (cap : ps_n (ry_s Y) + 378 ≤ 16000) (ne : h_r hh pa 9 ≠ h_r hh pa 10) (m2 : 2 ≤ m) (m5 : m ≤ 5) (qm : xm.toInt = (m : Int)) (g : ∀ (x : Int32) (h' : MH), bf_I hh pa m Y h' → Q (some (.int x)) h') : ∀ (d : Nat) (h : MH) (lv : List (Nat × Value)) (xf xe xo xi : Int32) (i : Int), (120 - i).toNat ≤ d → bf_I hh pa m Y h → xf.toInt = (m : Int) → xi.toInt = i → 0 ≤ i → i ≤ 120 → m_lk lv 0 = some (.ref pa) → m_lk lv 1 = some (.long xl) → m_lk lv 3 = some (.int xm) → m_lk lv 4 = some (.int xf) → m_lk lv 5 = some (.int xe) → m_lk lv 6 = some (.int xo) → m_lk lv 7 = some (.int xi) → HJ 172 70 lv [] h Q := by
  intro d
  induction d with
  | zero =>
    intro h lv xf xe xo xi i hd B qf qi i0 i1 e0 e1 e3 e4 e5 e6 e7
    have ok := B.1.1
    exact r_bf70 (RX.start h) e0 e1 e3 qm e4 qf e5 rfl e6 rfl e7 qi ok.1.2.1 ok.1.1 (fun _ => g xe h B) (fun _ _ => g xe h B) (fun _ c => absurd c (by omega))
  | succ d ih =>
    intro h lv xf xe xo xi i hd B qf qi i0 i1 e0 e1 e3 e4 e5 e6 e7
    obtain ⟨⟨ok, re⟩, F, ⟨l, I⟩, P, Z, ⟨t9, t10⟩, T⟩ := id B
    refine r_bf70 (RX.start h) e0 e1 e3 qm e4 qf e5 rfl e6 rfl e7 qi ok.1.2.1 ok.1.1 (fun _ => g xe h B) (fun _ _ => g xe h B) (fun _ ci => ?_)
    refine k_fm (Y := Y) (m := m) ok (by rw [re 0]; exact I) P sh hs cap (by rw [re 9]; exact t9) (by rw [re 9]; exact T 0 (by omega)) qf (by omega) m5 (fun y h1 _ ok1 I1 F1 Z1 K1 => ?_)
    have B1 := bf_FW ok0 B ok1 I1 F1 Z1 K1
    show HJ 172 88 lv [.int y] h1 Q
    -- behind the best
    have on : ∀ (h2 : MH) (lv2 : List (Nat × Value)) (xe2 : Int32), bf_I hh pa m Y h2 → m_lk lv2 0 = some (.ref pa) → m_lk lv2 1 = some (.long xl) → m_lk lv2 3 = some (.int xm) → m_lk lv2 4 = some (.int xf) → m_lk lv2 5 = some (.int xe2) → m_lk lv2 6 = some (.int xo) → m_lk lv2 7 = some (.int xi) → HJ 172 121 lv2 [] h2 Q := fun h2 lv2 xe2 B2 a0 a1 a3 a4 a5 a6 a7 => by
      obtain ⟨⟨ok2, re2⟩, -, -, -, -, ⟨u9, u10⟩, T2⟩ := id B2
      refine r_bf121 (RX.start h2) a0 a1 a3 qm a4 qf a5 rfl a6 rfl a7 qi ok2.1.2.1 ok2.1.1 ?_
      refine k_nt (m := m) (RX.start h2) ⟨ok2.1.1, ok2.1.2.1, by rw [re2 9]; exact u9.1.1, by rw [re2 9]; have := u9.1.2.2.2.1; omega, by rw [re2 9]; exact u9.1.2.1⟩ m2 m5 qf (fun x h3 H3 _ M3 o3 r3 => ?_)
      rw [re2 9] at o3 r3
      have B3 := bf_RX (m' := m) B2 M3 (fun q q9 _ => o3 q q9) (fun k hk => r3.1 (fun z => 0 ≤ z ∧ z < (ry_v Y : Int)) T2 k hk)
      show HJ 172 127 lv2 [.int x] h3 Q
      refine r_bf127 (RX.start h3) a0 a1 a3 qm a4 qf a5 rfl a6 rfl a7 qi rfl i0 (by omega) (fun x2 q2 lv3 b0 b1 b3 b4 b5 b6 b7 => ?_)
      exact ih h3 lv3 xf xe2 x x2 (i + 1) (by omega) B3 qf q2 (by omega) (by omega) b0 b1 b3 b4 b5 b6 b7
    have cp : ∀ (lv2 : List (Nat × Value)), m_lk lv2 0 = some (.ref pa) → m_lk lv2 1 = some (.long xl) → m_lk lv2 3 = some (.int xm) → m_lk lv2 4 = some (.int xf) → m_lk lv2 5 = some (.int y) → m_lk lv2 6 = some (.int xo) → m_lk lv2 7 = some (.int xi) → HJ 172 107 lv2 [] h1 Q := fun lv2 a0 a1 a3 a4 a5 a6 a7 => by
      obtain ⟨⟨ok2, re2⟩, -, -, -, -, ⟨u9, u10⟩, T2⟩ := id B1
      refine hI_al (k := 0) rfl a0 rfl ?_
      refine hI_gr (c := 3) (k := 9) rfl rfl rfl ok2.1.1 rfl ?_
      refine hM_ic (n := 0) rfl (by decide) rfl (fun xs qs => ?_)
      refine hI_al (k := 0) rfl a0 rfl ?_
      refine hI_gr (c := 3) (k := 10) rfl rfl rfl ok2.1.1 rfl ?_
      refine hM_ic (n := 0) rfl (by decide) rfl (fun xd qd => ?_)
      refine hM_ic (n := 5) rfl (by decide) rfl (fun xn qn => ?_)
      rw [re2 9, re2 10]
      refine hR_cp5 (RX.start h1) u9.1.1 u10.1.1 u9.1.2.1 u10.1.2.1 u9.1.2.2.2.1 u10.1.2.2.2.1 qs qd qn rfl rfl ⟨by decide +kernel, by decide +kernel⟩ rfl (fun h2 H2 M2 f2 => ?_)
      refine on h2 lv2 y (bf_RX (m' := m) B1 M2 (fun q _ q10 => by rw [f2, m_uN _ _ _ _ q10]; rfl) (fun k hk => by rw [f2, m_uN _ _ _ _ ne]; exact T2 k hk)) a0 a1 a3 a4 a5 a6 a7
    exact r_bf88 (RX.start h1) e0 e1 e3 qm e4 qf e5 rfl e6 rfl e7 qi rfl (fun lv3 a0 a1 a3 a4 a5 a6 a7 _ _ => cp lv3 a0 a1 a3 a4 a5 a6 a7) (fun lv3 a0 a1 a3 a4 a5 a6 a7 _ _ _ => on h1 lv3 xe B1 a0 a1 a3 a4 a5 a6 a7) (fun lv3 a0 a1 a3 a4 a5 a6 a7 _ _ _ => cp lv3 a0 a1 a3 a4 a5 a6 a7)
theorem l_bf6 {hh : MH} {pa : Nat} {Y : RYt} {xl : Int64} {xm : Int32} {m : Int} (qm : xm.toInt = m) (g : ∀ (h : MH) (lv : List (Nat × Value)) (xf : Int32) (f : Nat), bf_I hh pa f Y h → f ≤ 5 → xf.toInt = (f : Int) → m_lk lv 0 = some (.ref pa) → m_lk lv 1 = some (.long xl) → m_lk lv 3 = some (.int xm) → m_lk lv 4 = some (.int xf) → HJ 172 51 lv [] h Q) : ∀ (d : Nat) (h : MH) (lv : List (Nat × Value)) (xf xv : Int32) (f : Nat) (v : Int), (41 - v).toNat ≤ d → bf_I hh pa f Y h → f ≤ 5 → xf.toInt = (f : Int) → xv.toInt = v → 0 ≤ v → v ≤ 41 → m_lk lv 0 = some (.ref pa) → m_lk lv 1 = some (.long xl) → m_lk lv 3 = some (.int xm) → m_lk lv 4 = some (.int xf) → m_lk lv 5 = some (.int xv) → HJ 172 6 lv [] h Q := by
  intro d
  induction d with
  | zero =>
    intro h lv xf xv f v hd B f5 qf qv v0 v41 e0 e1 e3 e4 e5
    have ok := B.1.1
    have s1 : (h_i h pa 11).toInt + 1 = (ry_v Y : Int) := B.2.2.2.1.1.1
    have s2 := B.2.2.2.1.1.2.2
    refine r_bf6 (RX.start h) e0 e1 e3 qm e4 qf e5 qv ok.1.1 (fun _ => g h lv xf f B f5 qf e0 e1 e3 e4) (fun _ _ => g h lv xf f B f5 qf e0 e1 e3 e4) (fun c _ => ?_)
    have c : v ≤ (h_i h pa 11).toInt := c
    omega
  | succ d ih =>
    intro h lv xf xv f v hd B f5 qf qv v0 v41 e0 e1 e3 e4 e5
    obtain ⟨⟨ok, re⟩, F, I, P, Z, ⟨t9, t10⟩, T⟩ := id B
    have s1 : (h_i h pa 11).toInt + 1 = (ry_v Y : Int) := P.1.1
    have s2 := P.1.2.2
    refine r_bf6 (RX.start h) e0 e1 e3 qm e4 qf e5 qv ok.1.1 (fun _ => g h lv xf f B f5 qf e0 e1 e3 e4) (fun _ _ => g h lv xf f B f5 qf e0 e1 e3 e4) (fun c1 c2 => ?_)
    have c1 : v ≤ (h_i h pa 11).toInt := c1
    refine k_bit (RX.start h) qv ?_
    show HJ 172 27 lv [.long (bt v), .long xl] h Q
    refine r_bf27 (RX.start h) e0 e1 e3 qm e4 qf e5 qv (by omega) (by omega) ok.1.1 (by rw [re 9]; exact t9.1.1) (by rw [re 9]; have := t9.1.2.2.2.1; omega) (by rw [re 9]; exact t9.1.2.1) (fun _ => ?_) (fun h2 H2 f2 x3 q3 lv3 M2 a0 a1 a3 a4 a5 _ => ?_)
    · refine r_bf45 (RX.start h) e0 e1 e3 qm e4 qf e5 qv v0 (by omega) (fun x1 q1 lv1 a0 a1 a3 a4 a5 => ?_)
      exact ih h lv1 xf x1 f (v + 1) (by omega) B f5 qf q1 (by omega) (by omega) a0 a1 a3 a4 a5
    · rw [re 9] at f2
      have B2 : bf_I hh pa (f + 1) Y h2 := bf_RX B M2 (fun q q9 _ => by rw [f2, m_uN _ _ _ _ q9]; rfl) (fun k hk => by
        rw [f2, m_uE]
        by_cases ek : k = ((f : Nat) : Int).toNat
        · rw [ek, m_uE]
          omega
        · rw [m_uN _ _ _ _ ek]
          exact T k (by omega))
      refine r_bf45 (RX.start h2) a0 a1 a3 qm a4 (q3.trans (by omega : (f : Int) + 1 = ((f + 1 : Nat) : Int))) a5 qv v0 (by omega) (fun x1 q1 lv1 b0 b1 b3 b4 b5 => ?_)
      exact ih h2 lv1 x3 x1 (f + 1) (v + 1) (by omega) B2 (by omega) (by omega) q1 (by omega) (by omega) b0 b1 b3 b4 b5
theorem k_bf {pa m : Nat} {Y : RYt} {l : Int} {xl : Int64} {xm : Int32} (ok : pa_ok h pa) (I : cs_of h (z_i h) (h_r h pa 0) (ps_le (ry_s Y) l)) (P : pr_of h pa Y) (sh : ps_sh (ry_s Y)) (hs : ∀ u : Nat, u < ry_v Y → hp_in (ry_s Y) (ry_h Y u)) (cap : ps_n (ry_s Y) + 378 ≤ 16000) (t9 : tb_ok h pa (h_r h pa 9)) (t10 : tb_ok h pa (h_r h pa 10)) (ne : h_r h pa 9 ≠ h_r h pa 10) (qm : xm.toInt = (m : Int)) (m2 : 2 ≤ m) (m5 : m ≤ 5) (g : ∀ (x : Int32) (h' : MH) (f : Nat), bf_I h pa f Y h' → Q (some (.int x)) h') : HJ 172 0 (lv_args 0 [.ref pa, .long xl, .int xm]) [] h Q := by
  have B0 : bf_I h pa 0 Y h := ⟨⟨ok, fun _ => rfl⟩, ⟨FW.ofFX FX.same, fun _ _ => rfl⟩, ⟨l, I⟩, P, fun _ => rfl, ⟨t9, t10⟩, fun k hk => absurd hk (Nat.not_lt_zero k)⟩
  refine r_bf0 (RX.start h) rfl rfl rfl qm (fun x1 q1 x3 q3 lv4 a0 a1 a3 a4 a5 => ?_)
  refine l_bf6 qm (fun h1 lv xf f B f5 qf b0 b1 b3 b4 => ?_) 41 h lv4 x1 x3 0 0 (by decide) B0 (by decide) q1 q3 (by decide) (by decide) a0 a1 a3 a4 a5
  refine r_bf51 (RX.start h1) b0 b1 b3 qm b4 qf (fun xe _ xo qo xi qi lv6 c0 c1 c3 c4 c5 c6 c7 _ => ?_) (fun xe _ xo _ xi qi lv6 c0 c1 c3 c4 c5 c6 c7 e => ?_)
  · exact r_bf70 (RX.start h1) c0 c1 c3 qm c4 qf c5 rfl c6 qo c7 qi B.1.1.1.2.1 B.1.1.1.1 (fun _ => g xe h1 f B) (fun c => absurd rfl c) (fun c => absurd rfl c)
  · have ef : f = m := by omega
    subst ef
    exact l_bf70 ok sh hs cap ne m2 m5 qm (fun x h' B' => g x h' f B') 120 h1 lv6 xf xe xo xi 0 (by decide) B qf qi (by decide) (by decide) c0 c1 c3 c4 c5 c6 c7
end
end
section
-- WHAT IS DRAWN: done, told, and dropped again
theorem us_nn {x y : Int32} (qy : y.toInt = 16) : 0 ≤ (bc_us x y).toInt := by
  have ey : y = 16 := Int32.toInt_inj.mp qy
  subst ey
  show 0 ≤ ((x.toUInt32 >>> ((16 : Int32).toUInt32 &&& Int32.toUInt32 31)).toInt32).toInt
  have e : (16 : Int32).toUInt32 &&& Int32.toUInt32 31 = 16 := by decide
  rw [e]
  have b : (x.toUInt32 >>> 16).toNat < 65536 := by
    rw [UInt32.toNat_shiftRight]
    have := x.toUInt32.toNat_lt
    rw [Nat.shiftRight_eq_div_pow]
    show x.toUInt32.toNat / 2 ^ 16 < 65536
    omega
  show 0 ≤ ((x.toUInt32 >>> 16).toBitVec).toInt
  rw [BitVec.toInt_eq_toNat_of_lt (by show 2 * (x.toUInt32 >>> 16).toNat < 2 ^ 32; omega)]
  exact Int.natCast_nonneg _
section
variable {i pc pc' : Nat} {lv : List (Nat × Value)} {st : List Value} {h : MH} {Q : Option Value → MH → Prop}
theorem hX_ldc {idx : Nat} {x : Int32} (a : m_at i pc = some (.ldc idx, 2)) (hx : m_ic i idx = some x) (hp : pc + 2 = pc') (g : HJ i pc' lv (.int x :: st) h Q) : HJ i pc lv st h Q := by
  subst hp
  refine HJ.ex a (Or.inl rfl) ?_ g
  show e_ldc 2 i idx pc lv st h = _
  unfold e_ldc
  rw [hx]
  rfl
theorem hX_tsd {d lo hi : Int} {offs : Array Int} {len t : Nat} {x : Int32} (a : m_at i pc = some (.tableswitch d lo hi offs, len)) (b : x.toInt < lo ∨ hi < x.toInt) (ht : (pc : Int) + d = (t : Int)) (g : HJ i t lv st h Q) : HJ i pc lv (.int x :: st) h Q := by
  refine HJ.ex (pc' := t) a (Or.inr rfl) ?_ g
  show (if x.toInt < lo ∨ hi < x.toInt then m_tg pc d lv st h else (match offs[(x.toInt - lo).toNat]? with
      | some o => m_tg pc o lv st h
      | none => none)) = _
  rw [if_pos b]
  show m_tg pc d lv st h = _
  unfold m_tg
  rw [ht, if_pos (Int.natCast_nonneg t), Int.toNat_natCast]
end
def dw_c : Int32 := (m_ic 180 199).getD 0
section
variable {lv : List (Nat × Value)} {Q : Option Value → MH → Prop} {h0 h : MH} {H : Nat → Nat → Int}
theorem r_db0 {pa : Nat} {n : Int} (M : RX h0 h H) (e0 : m_lk lv 0 = some (.ref pa)) {lx1 : Int32} (e1 : m_lk lv 1 = some (.int lx1)) (lq1 : lx1.toInt = n)  (hk0 : (h_k h0 pa).1 = 4)
    (g0 : ∀ x1 : Int32, x1.toInt = H pa 13 → HJ 180 5 lv [.int x1, .ref pa] h Q)
    : HJ 180 0 lv [] h Q := by
  refine hI_al (k := 0) rfl e0 rfl ?_ -- 0
  refine hI_al (k := 0) rfl e0 rfl ?_ -- 1
  refine hR_gi (c := 3) (k := 13) M hk0 rfl rfl rfl rfl (fun x1 q1 => ?_) -- 2
  have gb1 : -2147483648 ≤ H pa 13 ∧ H pa 13 ≤ 2147483647 := by rw [← q1]; exact g_iT _
  exact g0 x1 q1
theorem k_db {pa : Nat} {n : Int} {xn : Int32} (M : RX h0 h H) (kp : (h_k h0 pa).1 = 4) (qn : xn.toInt = n) (n0 : 0 < n) (g : ∀ (x : Int32) (h' : MH) (H' : Nat → Nat → Int), 0 ≤ x.toInt → x.toInt < n → RX h0 h' H' → (∀ q, q ≠ pa → H' q = H q) → (∀ k, k ≠ 13 → H' pa k = H pa k) → Q (some (.int x)) h') : HJ 180 0 (lv_args 0 [.ref pa, .int xn]) [] h Q := by
  refine r_db0 M rfl rfl qn kp (fun x1 q1 => ?_)
  refine hX_ldc (x := dw_c) rfl (by decide +kernel) rfl ?_
  refine hM_mulw rfl rfl (fun x2 z2 q2 _ _ => ?_)
  refine hM_sp (n := 12345) rfl (by decide) rfl (fun x3 q3 => ?_)
  refine hM_addw rfl rfl (fun x4 z4 q4 _ _ => ?_)
  refine hR_pi (c := 3) (k := 13) M kp rfl rfl ⟨by decide, by decide +kernel, rfl⟩ q4 rfl (fun h1 H1 f1 M1 => ?_)
  refine hI_il (k := 1) rfl rfl rfl ?_
  refine hM_zle (off := 15) (t := 31) rfl qn (by decide) rfl (fun c => absurd c (by omega)) (fun _ => ?_)
  refine hI_al (k := 0) rfl rfl rfl ?_
  refine hR_gi (c := 3) (k := 13) M1 kp rfl rfl rfl rfl (fun x5 q5 => ?_)
  refine hM_bp (n := 16) rfl (by decide) rfl (fun x6 q6 => ?_)
  refine hX_us rfl rfl ?_
  refine hI_il (k := 1) rfl rfl rfl ?_
  refine hM_remx rfl rfl qn (us_nn q6) n0 rfl (fun w qw => ?_)
  refine hI_go (pc' := 32) (off := 4) rfl (by decide) ?_
  have w0 := Int.emod_nonneg (bc_us x5 x6).toInt (show n ≠ 0 by omega)
  have w1 := Int.emod_lt_of_pos (bc_us x5 x6).toInt n0
  exact hI_ri rfl rfl (g w h1 H1 (by omega) (by omega) M1 (fun q hq => by rw [f1, m_uN _ _ _ _ hq]) (fun k hk => by rw [f1, m_uE, m_uN _ _ _ _ hk]))
theorem k_da {pa : Nat} {S : PSt} {f : Nat → Int} {xw xb : Int32} (ok : pa_ok h pa) (I : cs_of h (z_i h) (h_r h pa 0) S) (ef : hp6 (z_i h (h_r h pa 7)) f) (hf : hp_in S f) (q0 : 0 ≤ xw.toInt) (q3 : xw.toInt ≤ 3) (g : ∀ x : Int32, Q (some (.int x)) h) : HJ 181 0 (lv_args 0 [.ref pa, .int xw, .int xb]) [] h Q := by
  have M := RX.start h
  have nd0 := ok.2.1
  have a7 := pa_ap ok (i := 7) (by decide) (by decide)
  refine hI_il (k := 1) rfl rfl rfl ?_
  have qs : xw.toInt = 0 ∨ xw.toInt = 1 ∨ xw.toInt = 2 ∨ xw.toInt = 3 := by omega
  rcases qs with c | c | c | c
  · refine hI_ts (t := 28) (o := 27) rfl c (by decide) (by decide) rfl (by decide) ?_
    refine hI_al (k := 0) rfl rfl rfl ?_
    refine HJ.call (j := 50) (as := [.ref pa]) (rr := []) (pc' := 32) (m_cR (kc := 3) rfl rfl (by decide +kernel) rfl rfl rfl ⟨rfl, by decide +kernel, by decide +kernel⟩ (by decide) ok.1.2.1 (by rw [M.2.1]; exact ok.1.1)) (by show 1 ≤ m_lc 50; decide +kernel) ?_
    exact k_hs (f := f) M ok.1.1 a7.1 ef (fun x _ => hI_ri rfl rfl (g x))
  · refine hI_ts (t := 33) (o := 32) rfl c (by decide) (by decide) rfl (by decide) ?_
    refine hI_al (k := 0) rfl rfl rfl ?_
    refine hR_gr (c := 3) (k := 0) M ok.1.1 rfl rfl rfl rfl ?_
    exact hR_gi (c := 2) (k := 6) M nd0.1.1 rfl rfl rfl rfl (fun x _ => hI_ri rfl rfl (g x))
  · refine hI_ts (t := 41) (o := 40) rfl c (by decide) (by decide) rfl (by decide) ?_
    refine hI_al (k := 0) rfl rfl rfl ?_
    refine hR_gr (c := 3) (k := 0) M ok.1.1 rfl rfl rfl rfl ?_
    refine hI_al (k := 0) rfl rfl rfl ?_
    refine hR_gr (c := 3) (k := 7) M ok.1.1 rfl rfl rfl rfl ?_
    refine HJ.call (j := 80) (as := [.ref (h_r h pa 0), .ref (h_r h pa 7)]) (rr := []) (pc' := 52) (m_cR (kc := 2) rfl rfl (by decide +kernel) rfl rfl rfl ⟨rfl, by decide +kernel, by decide +kernel⟩ (by decide) nd0.1.2.1 (by rw [M.2.1]; exact nd0.1.1)) (by show 2 ≤ m_lc 80; decide +kernel) ?_
    exact k_lkey M (nl_nd nd0 I.1) I a7.1 ef hf (fun x _ => hI_ri rfl rfl (g x))
  · refine hX_tsd (t := 53) rfl (Or.inr (by omega)) (by decide) ?_
    refine hI_al (k := 0) rfl rfl rfl ?_
    refine hR_gr (c := 3) (k := 0) M ok.1.1 rfl rfl rfl rfl ?_
    refine hR_gi (c := 2) (k := 5) M nd0.1.1 rfl rfl rfl rfl (fun x1 _ => ?_)
    refine hI_il (k := 2) rfl rfl rfl ?_
    exact hI_sub rfl rfl (hI_ri rfl rfl (g _))
theorem r_dw0 {pa : Nat} {v s k q : Int} (M : RX h0 h H) (e0 : m_lk lv 0 = some (.ref pa)) {lx1 : Int32} (e1 : m_lk lv 1 = some (.int lx1)) (lq1 : lx1.toInt = v) {lx2 : Int32} (e2 : m_lk lv 2 = some (.int lx2)) (lq2 : lx2.toInt = s) {lx3 : Int32} (e3 : m_lk lv 3 = some (.int lx3)) (lq3 : lx3.toInt = k) {lx4 : Int32} (e4 : m_lk lv 4 = some (.int lx4)) (lq4 : lx4.toInt = q)  (hk0 : (h_k h0 pa).1 = 4) (hk1 : (h_k h0 (h_r h0 pa 0)).1 = 3) (hs0 : 16 ≤ pa)
    (g0 : ∀ x1 : Int32, x1.toInt = H (h_r h0 pa 0) 5 → ∀ x3 : Int32, x3.toInt = H pa 12 → ∀ h6 : MH, ∀ H6 : Nat → Nat → Int, H6 = m_u H (h_r h0 pa 0) (m_u (H (h_r h0 pa 0)) 6 (0)) → ∀ h7 : MH, ∀ H7 : Nat → Nat → Int, H7 = m_u H6 pa (m_u (H6 pa) 13 (s)) → ∀ lv4 : List (Nat × Value), RX h0 h7 H7 → m_lk lv4 0 = some (.ref pa) → m_lk lv4 3 = some (.int lx3) → m_lk lv4 4 = some (.int lx4) → m_lk lv4 5 = some (.int x1) → m_lk lv4 6 = some (.int x3) → HJ 58 0 (lv_args 0 [.ref pa, .int lx1, .ref (h_r h0 pa 7)]) [] h7 (fun v h' => HJ 179 37 lv4 (v.toList ++ []) h' Q))
    : HJ 179 0 lv [] h Q := by
  refine hI_al (k := 0) rfl e0 rfl ?_ -- 0
  refine hR_gr (c := 3) (k := 0) M hk0 rfl rfl rfl rfl ?_ -- 1
  refine hR_gi (c := 2) (k := 5) M hk1 rfl rfl rfl rfl (fun x1 q1 => ?_) -- 4
  have gb1 : -2147483648 ≤ H (h_r h0 pa 0) 5 ∧ H (h_r h0 pa 0) 5 ≤ 2147483647 := by rw [← q1]; exact g_iT _
  refine hM_si2 (k := 5) rfl (by decide +kernel) rfl (fun lv2 e2_5 u2 => ?_) -- 7
  have e2_0 := u2 0 _ (by decide) (Or.inl rfl) e0
  have e2_1 := u2 1 _ (by decide) (Or.inl rfl) e1
  have e2_2 := u2 2 _ (by decide) (Or.inl rfl) e2
  have e2_3 := u2 3 _ (by decide) (Or.inl rfl) e3
  have e2_4 := u2 4 _ (by decide) (Or.inl rfl) e4
  refine hI_al (k := 0) rfl e2_0 rfl ?_ -- 9
  refine hR_gi (c := 3) (k := 12) M hk0 rfl rfl rfl rfl (fun x3 q3 => ?_) -- 10
  have gb3 : -2147483648 ≤ H pa 12 ∧ H pa 12 ≤ 2147483647 := by rw [← q3]; exact g_iT _
  refine hM_si2 (k := 6) rfl (by decide +kernel) rfl (fun lv4 e4_6 u4 => ?_) -- 13
  have e4_0 := u4 0 _ (by decide) (Or.inl rfl) e2_0
  have e4_1 := u4 1 _ (by decide) (Or.inl rfl) e2_1
  have e4_2 := u4 2 _ (by decide) (Or.inl rfl) e2_2
  have e4_3 := u4 3 _ (by decide) (Or.inl rfl) e2_3
  have e4_4 := u4 4 _ (by decide) (Or.inl rfl) e2_4
  have e4_5 := u4 5 _ (by decide) (Or.inl rfl) e2_5
  refine hI_al (k := 0) rfl e4_0 rfl ?_ -- 15
  refine hR_gr (c := 3) (k := 0) M hk0 rfl rfl rfl rfl ?_ -- 16
  refine hM_ic (n := 0) rfl (by decide) rfl (fun x5 q5 => ?_) -- 19
  refine hR_pi (c := 2) (k := 6) M hk1 rfl rfl ⟨by decide, by decide +kernel, rfl⟩ q5 rfl (fun h6 H6 f6 M6 => ?_) -- 20
  refine hI_al (k := 0) rfl e4_0 rfl ?_ -- 23
  refine hI_il (k := 2) rfl e4_2 rfl ?_ -- 24
  refine hR_pi (c := 3) (k := 13) M6 hk0 rfl rfl ⟨by decide, by decide +kernel, rfl⟩ lq2 rfl (fun h7 H7 f7 M7 => ?_) -- 25
  refine hI_al (k := 0) rfl e4_0 rfl ?_ -- 28
  refine hI_il (k := 1) rfl e4_1 rfl ?_ -- 29
  refine hI_al (k := 0) rfl e4_0 rfl ?_ -- 30
  refine hR_gr (c := 3) (k := 7) M7 hk0 rfl rfl rfl rfl ?_ -- 31
  refine HJ.call (j := 58) (as := [.ref pa, .int lx1, .ref (h_r h0 pa 7)]) (rr := []) (pc' := 37) (m_cR (kc := 3) rfl rfl (by decide +kernel) rfl rfl rfl ⟨rfl, by decide +kernel, by decide +kernel⟩ (by decide) hs0 (by rw [M7.2.1]; exact hk0)) (by show 3 ≤ m_lc 58; decide +kernel) ?_ -- 34
  exact g0 x1 q1 x3 q3 h6 H6 f6 h7 H7 f7 lv4 M7 e4_0 e4_3 e4_4 e4_5 e4_6
theorem r_dw37 {pa : Nat} {k q n t : Int} (M : RX h0 h H) (e0 : m_lk lv 0 = some (.ref pa)) {lx3 : Int32} (e3 : m_lk lv 3 = some (.int lx3)) (lq3 : lx3.toInt = k) {lx4 : Int32} (e4 : m_lk lv 4 = some (.int lx4)) (lq4 : lx4.toInt = q) {lx5 : Int32} (e5 : m_lk lv 5 = some (.int lx5)) (lq5 : lx5.toInt = n) {lx6 : Int32} (e6 : m_lk lv 6 = some (.int lx6)) (lq6 : lx6.toInt = t) 
    (g0 : ∀ x1 : Int32, x1.toInt = 0 → ∀ lv2 : List (Nat × Value), m_lk lv2 0 = some (.ref pa) → m_lk lv2 3 = some (.int lx3) → m_lk lv2 4 = some (.int lx4) → m_lk lv2 5 = some (.int lx5) → m_lk lv2 6 = some (.int lx6) → m_lk lv2 7 = some (.int x1) → HJ 179 40 lv2 [] h Q)
    : HJ 179 37 lv [] h Q := by
  refine hM_ic (n := 0) rfl (by decide) rfl (fun x1 q1 => ?_) -- 37
  refine hM_si2 (k := 7) rfl (by decide +kernel) rfl (fun lv2 e2_7 u2 => ?_) -- 38
  have e2_0 := u2 0 _ (by decide) (Or.inl rfl) e0
  have e2_3 := u2 3 _ (by decide) (Or.inl rfl) e3
  have e2_4 := u2 4 _ (by decide) (Or.inl rfl) e4
  have e2_5 := u2 5 _ (by decide) (Or.inl rfl) e5
  have e2_6 := u2 6 _ (by decide) (Or.inl rfl) e6
  exact g0 x1 q1 lv2 e2_0 e2_3 e2_4 e2_5 e2_6 e2_7
theorem r_dw40 {pa : Nat} {k q n t i : Int} (M : RX h0 h H) (e0 : m_lk lv 0 = some (.ref pa)) {lx3 : Int32} (e3 : m_lk lv 3 = some (.int lx3)) (lq3 : lx3.toInt = k) {lx4 : Int32} (e4 : m_lk lv 4 = some (.int lx4)) (lq4 : lx4.toInt = q) {lx5 : Int32} (e5 : m_lk lv 5 = some (.int lx5)) (lq5 : lx5.toInt = n) {lx6 : Int32} (e6 : m_lk lv 6 = some (.int lx6)) (lq6 : lx6.toInt = t) {lx7 : Int32} (e7 : m_lk lv 7 = some (.int lx7)) (lq7 : lx7.toInt = i)  (hs0 : 16 ≤ pa) (hk0 : (h_k h0 pa).1 = 4)
    (g0 : i ≥ k → HJ 181 0 (lv_args 0 [.ref pa, .int lx4, .int lx5]) [] h (fun v h' => HJ 179 122 lv (v.toList ++ []) h' Q))
    (g1 : ∀ x1 : Int32, x1.toInt = 3 → i < k → HJ 180 0 (lv_args 0 [.ref pa, .int x1]) [] h (fun v h' => HJ 179 51 lv (v.toList ++ []) h' Q))
    : HJ 179 40 lv [] h Q := by
  refine hI_il2 (k := 7) rfl e7 rfl ?_ -- 40
  refine hI_il (k := 3) rfl e3 rfl ?_ -- 42
  refine hM_cge (off := 71) (t := 114) rfl lq7 lq3 (by decide) rfl (fun c43 => ?_) (fun c43 => ?_) -- 43
  · refine hI_al (k := 0) rfl e0 rfl ?_ -- 114
    refine hI_il2 (k := 4) rfl e4 rfl ?_ -- 115
    refine hI_il2 (k := 5) rfl e5 rfl ?_ -- 117
    refine HJ.call (j := 181) (as := [.ref pa, .int lx4, .int lx5]) (rr := []) (pc' := 122) (m_cR (kc := 3) rfl rfl (by decide +kernel) rfl rfl rfl ⟨rfl, by decide +kernel, by decide +kernel⟩ (by decide) hs0 (by rw [M.2.1]; exact hk0)) (by show 3 ≤ m_lc 181; decide +kernel) ?_ -- 119
    exact g0 c43
  · refine hI_al (k := 0) rfl e0 rfl ?_ -- 46
    refine hM_ic (n := 3) rfl (by decide) rfl (fun x1 q1 => ?_) -- 47
    refine HJ.call (j := 180) (as := [.ref pa, .int x1]) (rr := []) (pc' := 51) (m_cR (kc := 3) rfl rfl (by decide +kernel) rfl rfl rfl ⟨rfl, by decide +kernel, by decide +kernel⟩ (by decide) hs0 (by rw [M.2.1]; exact hk0)) (by show 2 ≤ m_lc 180; decide +kernel) ?_ -- 48
    exact g1 x1 q1 c43
theorem r_dw51 {pa : Nat} {k q n t i z : Int} (M : RX h0 h H) (e0 : m_lk lv 0 = some (.ref pa)) {lx3 : Int32} (e3 : m_lk lv 3 = some (.int lx3)) (lq3 : lx3.toInt = k) {lx4 : Int32} (e4 : m_lk lv 4 = some (.int lx4)) (lq4 : lx4.toInt = q) {lx5 : Int32} (e5 : m_lk lv 5 = some (.int lx5)) (lq5 : lx5.toInt = n) {lx6 : Int32} (e6 : m_lk lv 6 = some (.int lx6)) (lq6 : lx6.toInt = t) {lx7 : Int32} (e7 : m_lk lv 7 = some (.int lx7)) (lq7 : lx7.toInt = i) {sx0 : Int32} (sq0 : sx0.toInt = z)  (hs0 : 16 ≤ pa) (hk0 : (h_k h0 pa).1 = 4)
    (g0 : ∀ lv2 : List (Nat × Value), m_lk lv2 0 = some (.ref pa) → m_lk lv2 3 = some (.int lx3) → m_lk lv2 4 = some (.int lx4) → m_lk lv2 5 = some (.int lx5) → m_lk lv2 6 = some (.int lx6) → m_lk lv2 7 = some (.int lx7) → z ≠ 0 → HJ 50 0 (lv_args 0 [.ref pa]) [] h (fun v h' => HJ 179 92 lv2 (v.toList ++ []) h' Q))
    (g1 : z = 0 → HJ 50 0 (lv_args 0 [.ref pa]) [] h (fun v h' => HJ 179 58 lv (v.toList ++ []) h' Q))
    : HJ 179 51 lv [.int sx0] h Q := by
  refine hM_zne (off := 14) (t := 65) rfl sq0 (by decide) rfl (fun c51 => ?_) (fun c51 => ?_) -- 51
  · refine hM_ic (n := 0) rfl (by decide) rfl (fun x1 q1 => ?_) -- 65
    refine hM_si2 (k := 8) rfl (by decide +kernel) rfl (fun lv2 e2_8 u2 => ?_) -- 66
    have e2_0 := u2 0 _ (by decide) (Or.inl rfl) e0
    have e2_3 := u2 3 _ (by decide) (Or.inl rfl) e3
    have e2_4 := u2 4 _ (by decide) (Or.inl rfl) e4
    have e2_5 := u2 5 _ (by decide) (Or.inl rfl) e5
    have e2_6 := u2 6 _ (by decide) (Or.inl rfl) e6
    have e2_7 := u2 7 _ (by decide) (Or.inl rfl) e7
    refine hI_il2 (k := 8) rfl e2_8 rfl ?_ -- 68
    refine hM_zeq (off := 18) (t := 88) rfl q1 (by decide) rfl (fun c70 => ?_) (fun c70 => ?_) -- 70
    · refine hI_al (k := 0) rfl e2_0 rfl ?_ -- 88
      refine HJ.call (j := 50) (as := [.ref pa]) (rr := []) (pc' := 92) (m_cR (kc := 3) rfl rfl (by decide +kernel) rfl rfl rfl ⟨rfl, by decide +kernel, by decide +kernel⟩ (by decide) hs0 (by rw [M.2.1]; exact hk0)) (by show 1 ≤ m_lc 50; decide +kernel) ?_ -- 89
      exact g0 lv2 e2_0 e2_3 e2_4 e2_5 e2_6 e2_7 c51
    · exfalso; omega
  · refine hI_al (k := 0) rfl e0 rfl ?_ -- 54
    refine HJ.call (j := 50) (as := [.ref pa]) (rr := []) (pc' := 58) (m_cR (kc := 3) rfl rfl (by decide +kernel) rfl rfl rfl ⟨rfl, by decide +kernel, by decide +kernel⟩ (by decide) hs0 (by rw [M.2.1]; exact hk0)) (by show 1 ≤ m_lc 50; decide +kernel) ?_ -- 55
    exact g1 c51
theorem r_dw58 {pa : Nat} {k q n t i z : Int} (M : RX h0 h H) (e0 : m_lk lv 0 = some (.ref pa)) {lx3 : Int32} (e3 : m_lk lv 3 = some (.int lx3)) (lq3 : lx3.toInt = k) {lx4 : Int32} (e4 : m_lk lv 4 = some (.int lx4)) (lq4 : lx4.toInt = q) {lx5 : Int32} (e5 : m_lk lv 5 = some (.int lx5)) (lq5 : lx5.toInt = n) {lx6 : Int32} (e6 : m_lk lv 6 = some (.int lx6)) (lq6 : lx6.toInt = t) {lx7 : Int32} (e7 : m_lk lv 7 = some (.int lx7)) (lq7 : lx7.toInt = i) {sx0 : Int32} (sq0 : sx0.toInt = z)  (hs0 : 16 ≤ pa) (hk0 : (h_k h0 pa).1 = 4) (hs1 : 16 ≤ h_r h0 pa 0) (hk1 : (h_k h0 (h_r h0 pa 0)).1 = 3)
    (g0 : ∀ lv2 : List (Nat × Value), m_lk lv2 0 = some (.ref pa) → m_lk lv2 3 = some (.int lx3) → m_lk lv2 4 = some (.int lx4) → m_lk lv2 5 = some (.int lx5) → m_lk lv2 6 = some (.int lx6) → m_lk lv2 7 = some (.int lx7) → z ≤ 0 → HJ 50 0 (lv_args 0 [.ref pa]) [] h (fun v h' => HJ 179 92 lv2 (v.toList ++ []) h' Q))
    (g1 : ∀ lv4 : List (Nat × Value), m_lk lv4 0 = some (.ref pa) → m_lk lv4 3 = some (.int lx3) → m_lk lv4 4 = some (.int lx4) → m_lk lv4 5 = some (.int lx5) → m_lk lv4 6 = some (.int lx6) → m_lk lv4 7 = some (.int lx7) → z > 0 → HJ 71 0 (lv_args 0 [.ref (h_r h0 pa 0), .ref (h_r h0 pa 7)]) [] h (fun v h' => HJ 179 84 lv4 (v.toList ++ []) h' Q))
    : HJ 179 58 lv [.int sx0] h Q := by
  refine hM_zle (off := 7) (t := 65) rfl sq0 (by decide) rfl (fun c58 => ?_) (fun c58 => ?_) -- 58
  · refine hM_ic (n := 0) rfl (by decide) rfl (fun x1 q1 => ?_) -- 65
    refine hM_si2 (k := 8) rfl (by decide +kernel) rfl (fun lv2 e2_8 u2 => ?_) -- 66
    have e2_0 := u2 0 _ (by decide) (Or.inl rfl) e0
    have e2_3 := u2 3 _ (by decide) (Or.inl rfl) e3
    have e2_4 := u2 4 _ (by decide) (Or.inl rfl) e4
    have e2_5 := u2 5 _ (by decide) (Or.inl rfl) e5
    have e2_6 := u2 6 _ (by decide) (Or.inl rfl) e6
    have e2_7 := u2 7 _ (by decide) (Or.inl rfl) e7
    refine hI_il2 (k := 8) rfl e2_8 rfl ?_ -- 68
    refine hM_zeq (off := 18) (t := 88) rfl q1 (by decide) rfl (fun c70 => ?_) (fun c70 => ?_) -- 70
    · refine hI_al (k := 0) rfl e2_0 rfl ?_ -- 88
      refine HJ.call (j := 50) (as := [.ref pa]) (rr := []) (pc' := 92) (m_cR (kc := 3) rfl rfl (by decide +kernel) rfl rfl rfl ⟨rfl, by decide +kernel, by decide +kernel⟩ (by decide) hs0 (by rw [M.2.1]; exact hk0)) (by show 1 ≤ m_lc 50; decide +kernel) ?_ -- 89
      exact g0 lv2 e2_0 e2_3 e2_4 e2_5 e2_6 e2_7 c58
    · exfalso; omega
  · refine hM_ic (n := 1) rfl (by decide) rfl (fun x3 q3 => ?_) -- 61
    refine hI_go (pc' := 66) (off := 4) rfl (by decide) ?_ -- 62
    refine hM_si2 (k := 8) rfl (by decide +kernel) rfl (fun lv4 e4_8 u4 => ?_) -- 66
    have e4_0 := u4 0 _ (by decide) (Or.inl rfl) e0
    have e4_3 := u4 3 _ (by decide) (Or.inl rfl) e3
    have e4_4 := u4 4 _ (by decide) (Or.inl rfl) e4
    have e4_5 := u4 5 _ (by decide) (Or.inl rfl) e5
    have e4_6 := u4 6 _ (by decide) (Or.inl rfl) e6
    have e4_7 := u4 7 _ (by decide) (Or.inl rfl) e7
    refine hI_il2 (k := 8) rfl e4_8 rfl ?_ -- 68
    refine hM_zeq (off := 18) (t := 88) rfl q3 (by decide) rfl (fun c70 => ?_) (fun c70 => ?_) -- 70
    · exfalso; omega
    · refine hI_al (k := 0) rfl e4_0 rfl ?_ -- 73
      refine hR_gr (c := 3) (k := 0) M hk0 rfl rfl rfl rfl ?_ -- 74
      refine hI_al (k := 0) rfl e4_0 rfl ?_ -- 77
      refine hR_gr (c := 3) (k := 7) M hk0 rfl rfl rfl rfl ?_ -- 78
      refine HJ.call (j := 71) (as := [.ref (h_r h0 pa 0), .ref (h_r h0 pa 7)]) (rr := []) (pc' := 84) (m_cR (kc := 2) rfl rfl (by decide +kernel) rfl rfl rfl ⟨rfl, by decide +kernel, by decide +kernel⟩ (by decide) hs1 (by rw [M.2.1]; exact hk1)) (by show 2 ≤ m_lc 71; decide +kernel) ?_ -- 81
      exact g1 lv4 e4_0 e4_3 e4_4 e4_5 e4_6 e4_7 c58
theorem r_dw84 {pa : Nat} {k q n t i z : Int} (M : RX h0 h H) (e0 : m_lk lv 0 = some (.ref pa)) {lx3 : Int32} (e3 : m_lk lv 3 = some (.int lx3)) (lq3 : lx3.toInt = k) {lx4 : Int32} (e4 : m_lk lv 4 = some (.int lx4)) (lq4 : lx4.toInt = q) {lx5 : Int32} (e5 : m_lk lv 5 = some (.int lx5)) (lq5 : lx5.toInt = n) {lx6 : Int32} (e6 : m_lk lv 6 = some (.int lx6)) (lq6 : lx6.toInt = t) {lx7 : Int32} (e7 : m_lk lv 7 = some (.int lx7)) (lq7 : lx7.toInt = i) {sx0 : Int32} (sq0 : sx0.toInt = z) (pi0 : 0 ≤ i) (pi1 : i ≤ 30)
    (g0 : ∀ x1 : Int32, x1.toInt = i + 1 → ∀ lv1 : List (Nat × Value), m_lk lv1 0 = some (.ref pa) → m_lk lv1 3 = some (.int lx3) → m_lk lv1 4 = some (.int lx4) → m_lk lv1 5 = some (.int lx5) → m_lk lv1 6 = some (.int lx6) → m_lk lv1 7 = some (.int x1) → HJ 179 40 lv1 [] h Q)
    : HJ 179 84 lv [.int sx0] h Q := by
  refine hI_pop rfl rfl rfl ?_ -- 84
  refine hI_go (pc' := 108) (off := 23) rfl (by decide) ?_ -- 85
  refine hM_inc (k := 7) (z := 1) rfl e7 lq7 (by decide) (by omega) (by omega) (by decide +kernel) rfl (fun lv1 x1 q1 e1_7 u1 => ?_) -- 108
  have e1_0 := u1 0 _ (by decide) (Or.inl rfl) e0
  have e1_3 := u1 3 _ (by decide) (Or.inl rfl) e3
  have e1_4 := u1 4 _ (by decide) (Or.inl rfl) e4
  have e1_5 := u1 5 _ (by decide) (Or.inl rfl) e5
  have e1_6 := u1 6 _ (by decide) (Or.inl rfl) e6
  refine hI_go (pc' := 40) (off := (-71)) rfl (by decide) ?_ -- 111
  exact g0 x1 q1 lv1 e1_0 e1_3 e1_4 e1_5 e1_6 e1_7
theorem r_dw92 {pa : Nat} {k q n t i z : Int} (M : RX h0 h H) (e0 : m_lk lv 0 = some (.ref pa)) {lx3 : Int32} (e3 : m_lk lv 3 = some (.int lx3)) (lq3 : lx3.toInt = k) {lx4 : Int32} (e4 : m_lk lv 4 = some (.int lx4)) (lq4 : lx4.toInt = q) {lx5 : Int32} (e5 : m_lk lv 5 = some (.int lx5)) (lq5 : lx5.toInt = n) {lx6 : Int32} (e6 : m_lk lv 6 = some (.int lx6)) (lq6 : lx6.toInt = t) {lx7 : Int32} (e7 : m_lk lv 7 = some (.int lx7)) (lq7 : lx7.toInt = i) {sx0 : Int32} (sq0 : sx0.toInt = z) (pi0 : 0 ≤ i) (pi1 : i ≤ 30) (hs0 : 16 ≤ pa) (hk0 : (h_k h0 pa).1 = 4)
    (g0 : ∀ x2 : Int32, x2.toInt = i + 1 → ∀ lv2 : List (Nat × Value), m_lk lv2 0 = some (.ref pa) → m_lk lv2 3 = some (.int lx3) → m_lk lv2 4 = some (.int lx4) → m_lk lv2 5 = some (.int lx5) → m_lk lv2 6 = some (.int lx6) → m_lk lv2 7 = some (.int x2) → z ≥ 63 → HJ 179 40 lv2 [] h Q)
    (g1 : ∀ x3 : Int32, x3.toInt = 100 → z < 63 → HJ 180 0 (lv_args 0 [.ref pa, .int x3]) [] h (fun v h' => HJ 179 104 lv (v.toList ++ [.ref pa]) h' Q))
    : HJ 179 92 lv [.int sx0] h Q := by
  refine hM_bp (n := 63) rfl (by decide) rfl (fun x1 q1 => ?_) -- 92
  refine hM_cge (off := 14) (t := 108) rfl sq0 q1 (by decide) rfl (fun c94 => ?_) (fun c94 => ?_) -- 94
  · refine hM_inc (k := 7) (z := 1) rfl e7 lq7 (by decide) (by omega) (by omega) (by decide +kernel) rfl (fun lv2 x2 q2 e2_7 u2 => ?_) -- 108
    have e2_0 := u2 0 _ (by decide) (Or.inl rfl) e0
    have e2_3 := u2 3 _ (by decide) (Or.inl rfl) e3
    have e2_4 := u2 4 _ (by decide) (Or.inl rfl) e4
    have e2_5 := u2 5 _ (by decide) (Or.inl rfl) e5
    have e2_6 := u2 6 _ (by decide) (Or.inl rfl) e6
    refine hI_go (pc' := 40) (off := (-71)) rfl (by decide) ?_ -- 111
    exact g0 x2 q2 lv2 e2_0 e2_3 e2_4 e2_5 e2_6 e2_7 c94
  · refine hI_al (k := 0) rfl e0 rfl ?_ -- 97
    refine hI_al (k := 0) rfl e0 rfl ?_ -- 98
    refine hM_bp (n := 100) rfl (by decide) rfl (fun x3 q3 => ?_) -- 99
    refine HJ.call (j := 180) (as := [.ref pa, .int x3]) (rr := [.ref pa]) (pc' := 104) (m_cR (kc := 3) rfl rfl (by decide +kernel) rfl rfl rfl ⟨rfl, by decide +kernel, by decide +kernel⟩ (by decide) hs0 (by rw [M.2.1]; exact hk0)) (by show 2 ≤ m_lc 180; decide +kernel) ?_ -- 101
    exact g1 x3 q3 c94
theorem r_dw104 {pa : Nat} {k q n t i z : Int} (M : RX h0 h H) (e0 : m_lk lv 0 = some (.ref pa)) {lx3 : Int32} (e3 : m_lk lv 3 = some (.int lx3)) (lq3 : lx3.toInt = k) {lx4 : Int32} (e4 : m_lk lv 4 = some (.int lx4)) (lq4 : lx4.toInt = q) {lx5 : Int32} (e5 : m_lk lv 5 = some (.int lx5)) (lq5 : lx5.toInt = n) {lx6 : Int32} (e6 : m_lk lv 6 = some (.int lx6)) (lq6 : lx6.toInt = t) {lx7 : Int32} (e7 : m_lk lv 7 = some (.int lx7)) (lq7 : lx7.toInt = i) {sx1 : Int32} (sq1 : sx1.toInt = z)  (hs0 : 16 ≤ pa) (hk0 : (h_k h0 pa).1 = 4)
    (g0 : HJ 59 0 (lv_args 0 [.ref pa, .int sx1]) [] h (fun v h' => HJ 179 107 lv (v.toList ++ []) h' Q))
    : HJ 179 104 lv [.int sx1, .ref pa] h Q := by
  refine HJ.call (j := 59) (as := [.ref pa, .int sx1]) (rr := []) (pc' := 107) (m_cR (kc := 3) rfl rfl (by decide +kernel) rfl rfl rfl ⟨rfl, by decide +kernel, by decide +kernel⟩ (by decide) hs0 (by rw [M.2.1]; exact hk0)) (by show 2 ≤ m_lc 59; decide +kernel) ?_ -- 104
  exact g0 
theorem r_dw107 {pa : Nat} {k q n t i z : Int} (M : RX h0 h H) (e0 : m_lk lv 0 = some (.ref pa)) {lx3 : Int32} (e3 : m_lk lv 3 = some (.int lx3)) (lq3 : lx3.toInt = k) {lx4 : Int32} (e4 : m_lk lv 4 = some (.int lx4)) (lq4 : lx4.toInt = q) {lx5 : Int32} (e5 : m_lk lv 5 = some (.int lx5)) (lq5 : lx5.toInt = n) {lx6 : Int32} (e6 : m_lk lv 6 = some (.int lx6)) (lq6 : lx6.toInt = t) {lx7 : Int32} (e7 : m_lk lv 7 = some (.int lx7)) (lq7 : lx7.toInt = i) {sx0 : Int32} (sq0 : sx0.toInt = z) (pi0 : 0 ≤ i) (pi1 : i ≤ 30)
    (g0 : ∀ x1 : Int32, x1.toInt = i + 1 → ∀ lv1 : List (Nat × Value), m_lk lv1 0 = some (.ref pa) → m_lk lv1 3 = some (.int lx3) → m_lk lv1 4 = some (.int lx4) → m_lk lv1 5 = some (.int lx5) → m_lk lv1 6 = some (.int lx6) → m_lk lv1 7 = some (.int x1) → HJ 179 40 lv1 [] h Q)
    : HJ 179 107 lv [.int sx0] h Q := by
  refine hI_pop rfl rfl rfl ?_ -- 107
  refine hM_inc (k := 7) (z := 1) rfl e7 lq7 (by decide) (by omega) (by omega) (by decide +kernel) rfl (fun lv1 x1 q1 e1_7 u1 => ?_) -- 108
  have e1_0 := u1 0 _ (by decide) (Or.inl rfl) e0
  have e1_3 := u1 3 _ (by decide) (Or.inl rfl) e3
  have e1_4 := u1 4 _ (by decide) (Or.inl rfl) e4
  have e1_5 := u1 5 _ (by decide) (Or.inl rfl) e5
  have e1_6 := u1 6 _ (by decide) (Or.inl rfl) e6
  refine hI_go (pc' := 40) (off := (-71)) rfl (by decide) ?_ -- 111
  exact g0 x1 q1 lv1 e1_0 e1_3 e1_4 e1_5 e1_6 e1_7
theorem r_dw122 {pa : Nat} {n t z : Int} (M : RX h0 h H) (e0 : m_lk lv 0 = some (.ref pa)) {lx5 : Int32} (e5 : m_lk lv 5 = some (.int lx5)) (lq5 : lx5.toInt = n) {lx6 : Int32} (e6 : m_lk lv 6 = some (.int lx6)) (lq6 : lx6.toInt = t) {sx0 : Int32} (sq0 : sx0.toInt = z)  (hk0 : (h_k h0 pa).1 = 4) (hs0 : 16 ≤ h_r h0 pa 0) (hk1 : (h_k h0 (h_r h0 pa 0)).1 = 3)
    (g0 : ∀ lv1 : List (Nat × Value), m_lk lv1 0 = some (.ref pa) → m_lk lv1 5 = some (.int lx5) → m_lk lv1 6 = some (.int lx6) → m_lk lv1 7 = some (.int sx0) → HJ 46 0 (lv_args 0 [.ref (h_r h0 pa 0), .int lx5]) [] h (fun v h' => HJ 179 133 lv1 (v.toList ++ []) h' Q))
    : HJ 179 122 lv [.int sx0] h Q := by
  refine hM_si2 (k := 7) rfl (by decide +kernel) rfl (fun lv1 e1_7 u1 => ?_) -- 122
  have e1_0 := u1 0 _ (by decide) (Or.inl rfl) e0
  have e1_5 := u1 5 _ (by decide) (Or.inl rfl) e5
  have e1_6 := u1 6 _ (by decide) (Or.inl rfl) e6
  refine hI_al (k := 0) rfl e1_0 rfl ?_ -- 124
  refine hR_gr (c := 3) (k := 0) M hk0 rfl rfl rfl rfl ?_ -- 125
  refine hI_il2 (k := 5) rfl e1_5 rfl ?_ -- 128
  refine HJ.call (j := 46) (as := [.ref (h_r h0 pa 0), .int lx5]) (rr := []) (pc' := 133) (m_cR (kc := 2) rfl rfl (by decide +kernel) rfl rfl rfl ⟨rfl, by decide +kernel, by decide +kernel⟩ (by decide) hs0 (by rw [M.2.1]; exact hk1)) (by show 2 ≤ m_lc 46; decide +kernel) ?_ -- 130
  exact g0 lv1 e1_0 e1_5 e1_6 e1_7
theorem r_dw133 {pa : Nat} {t z : Int} (M : RX h0 h H) (e0 : m_lk lv 0 = some (.ref pa)) {lx6 : Int32} (e6 : m_lk lv 6 = some (.int lx6)) (lq6 : lx6.toInt = t) {lx7 : Int32} (e7 : m_lk lv 7 = some (.int lx7)) (lq7 : lx7.toInt = z)  (hk0 : (h_k h0 pa).1 = 4)
    (g0 : ∀ h1 : MH, ∀ H1 : Nat → Nat → Int, H1 = m_u H pa (m_u (H pa) 12 (t)) → RX h0 h1 H1 → Q (some (.int lx7)) h1)
    : HJ 179 133 lv [] h Q := by
  refine hI_al (k := 0) rfl e0 rfl ?_ -- 133
  refine hI_il2 (k := 6) rfl e6 rfl ?_ -- 134
  refine hR_pi (c := 3) (k := 12) M hk0 rfl rfl ⟨by decide, by decide +kernel, rfl⟩ lq6 rfl (fun h1 H1 f1 M1 => ?_) -- 136
  refine hI_il2 (k := 7) rfl e7 rfl ?_ -- 139
  refine hI_ri rfl rfl ?_ -- 141
  exact g0 h1 H1 f1 M1
def dw_I (h : MH) (pa : Nat) (Y : RYt) (i : Nat) (h' : MH) : Prop := nl_ok h' (h_r h pa 0) ∧ FX (h_r h pa 0) (py_Y h pa) h h' ∧ (∃ S f, cs_of h' (z_i h') (h_r h pa 0) S ∧ hp6 (z_i h' (h_r h pa 7)) f ∧ ps_sh S ∧ hp_in S f ∧ ps_ex (ry_s Y) S ∧ ps_n S ≤ ps_n (ry_s Y) + 7 * i) ∧ (ry_t Y ≤ z_i h' pa 12 ∧ z_i h' pa 12 ≤ ry_t Y + (i : Int)) ∧ ∀ q, q ≠ 12 → q ≠ 13 → z_i h' pa q = z_i h pa q
theorem dw_up {hh : MH} {pa i : Nat} {Y : RYt} (I : dw_I hh pa Y i h) : dw_I hh pa Y (i + 1) h := by
  obtain ⟨o, F, ⟨S, f, S1, S2, S3, S4, S5, S6⟩, T, Z⟩ := I
  exact ⟨o, F, ⟨S, f, S1, S2, S3, S4, S5, by omega⟩, ⟨T.1, by omega⟩, Z⟩
theorem dw_pa {hh h2 : MH} {H2 : Nat → Nat → Int} {pa i : Nat} {Y : RYt} (ok : pa_ok hh pa) (I : dw_I hh pa Y i h) (M : RX h h2 H2) (o2 : ∀ q, q ≠ pa → H2 q = z_i h q) (p2 : ∀ k, k ≠ 13 → H2 pa k = z_i h pa k) : dw_I hh pa Y i h2 := by
  obtain ⟨o, F, ⟨S, f, S1, S2, S3, S4, S5, S6⟩, T, Z⟩ := I
  obtain ⟨ok', re, rw_⟩ := pa_FX ok o F
  have pn := pa_ne ok' (i := 7) (by decide)
  have pn11 := (pa_ne ok' (i := 11) (by decide)).1
  have nn := pn.2.2.2.1
  rw [re 0] at nn
  have w7 : pa_w h pa 7 = h_r hh pa 7 := re 7
  have w11 : pa_w h pa 11 = h_r h (h_r hh pa 0) 0 := by
    show h_r h (h_r h pa 0) 0 = _
    rw [re 0]
  rw [w11] at pn11
  have pn7 := pn.1
  rw [w7] at pn7
  have rr : h_r h2 = h_r h := M.2.2.1.1
  refine ⟨nl_RX o M (by rw [o2 _ (Ne.symm nn)]), F.trans2 (FX.ofRX (Y := fun q => q = pa) M (by rw [o2 _ (Ne.symm nn)]) (fun q hq j => by rw [o2 q (fun z => hq (Or.inr (Or.inr (Or.inr z))))])) (fun q _ z => Or.inl (Or.inl z)), ⟨S, f, cs_mv S1 (by rw [M.zi, o2 _ (Ne.symm nn)]) (by rw [M.zi, o2 _ (Ne.symm nn)]) (fun j _ => by rw [rr, M.zi, o2 _ (Ne.symm pn11)]), fun k hk => by rw [M.zi, o2 _ (Ne.symm pn7)]; exact S2 k hk, S3, S4, S5, S6⟩, ?_, fun q q12 q13 => by rw [M.zi, p2 q q13]; exact Z q q12 q13⟩
  rw [M.zi, p2 12 (by decide)]
  exact T
theorem l_dw {hh : MH} {pa : Nat} {Y : RYt} {k q n t : Int} {xk xq xn xt : Int32} (ok : pa_ok hh pa) (cap : ps_n (ry_s Y) + 378 ≤ 16000) (t0 : 0 ≤ ry_t Y) (t1 : ry_t Y ≤ 96) (qk : xk.toInt = k) (k30 : k ≤ 30) (qq : xq.toInt = q) (qn : xn.toInt = n) (qt : xt.toInt = t) (g : ∀ (h : MH) (lv : List (Nat × Value)) (i : Nat), dw_I hh pa Y i h → i ≤ 30 → m_lk lv 0 = some (.ref pa) → m_lk lv 5 = some (.int xn) → m_lk lv 6 = some (.int xt) → HJ 181 0 (lv_args 0 [.ref pa, .int xq, .int xn]) [] h (fun v h' => HJ 179 122 lv (v.toList ++ []) h' Q)) : ∀ (d i : Nat) (h : MH) (lv : List (Nat × Value)) (xi : Int32), (k - (i : Int)).toNat ≤ d → i ≤ 30 → xi.toInt = (i : Int) → dw_I hh pa Y i h → m_lk lv 0 = some (.ref pa) → m_lk lv 3 = some (.int xk) → m_lk lv 4 = some (.int xq) → m_lk lv 5 = some (.int xn) → m_lk lv 6 = some (.int xt) → m_lk lv 7 = some (.int xi) → HJ 179 40 lv [] h Q := by
  intro d
  induction d with
  | zero =>
    intro i h lv xi hd i30 qi I e0 e3 e4 e5 e6 e7
    obtain ⟨ok', re, rw_⟩ := pa_FX ok I.1 I.2.1
    exact r_dw40 (RX.start h) e0 e3 qk e4 qq e5 qn e6 qt e7 qi ok'.1.2.1 ok'.1.1 (fun _ => g h lv i I i30 e0 e5 e6) (fun _ _ c => absurd c (by omega))
  | succ d ih =>
    intro i h lv xi hd i30 qi I e0 e3 e4 e5 e6 e7
    obtain ⟨ok', re, rw_⟩ := pa_FX ok I.1 I.2.1
    refine r_dw40 (RX.start h) e0 e3 qk e4 qq e5 qn e6 qt e7 qi ok'.1.2.1 ok'.1.1 (fun _ => g h lv i I i30 e0 e5 e6) (fun x1 q1 ck => ?_)
    refine k_db (n := 3) (RX.start h) ok'.1.1 q1 (by decide) (fun x2 h2 H2 _ _ M2 o2 p2 => ?_)
    have I2 := dw_pa ok I M2 o2 p2
    show HJ 179 51 lv [.int x2] h2 Q
    obtain ⟨o, F, ⟨S, f, S1, S2, S3, S4, S5, S6⟩, T, Z⟩ := id I2
    obtain ⟨ok2, re2, rw2⟩ := pa_FX ok o F
    have a7 := pa_ap ok2 (i := 7) (by decide) (by decide)
    have a9 := pa_ap ok2 (i := 9) (by decide) (by decide)
    have l9 := (ok2.2.2.2.2.2.2.1 9 (by decide)).2.2.2.2
    have d97 := ok2.2.2.2.2.2.2.2 9 7 (by decide) (by decide) (by decide)
    have w63 := p_wsL (f := f) 6
    have e64 : (2 : Nat) ^ 6 = 64 := by decide
    rw [e64] at w63
    have nxt : ∀ (h3 : MH) (lv3 : List (Nat × Value)) (x3 : Int32), dw_I hh pa Y (i + 1) h3 → x3.toInt = (i : Int) + 1 → m_lk lv3 0 = some (.ref pa) → m_lk lv3 3 = some (.int xk) → m_lk lv3 4 = some (.int xq) → m_lk lv3 5 = some (.int xn) → m_lk lv3 6 = some (.int xt) → m_lk lv3 7 = some (.int x3) → HJ 179 40 lv3 [] h3 Q := fun h3 lv3 x3 I3 q3 c0 c3 c4 c5 c6 c7 => ih (i + 1) h3 lv3 x3 (by omega) (by omega) (by omega) I3 c0 c3 c4 c5 c6 c7
    have at92 : ∀ (lv3 : List (Nat × Value)), m_lk lv3 0 = some (.ref pa) → m_lk lv3 3 = some (.int xk) → m_lk lv3 4 = some (.int xq) → m_lk lv3 5 = some (.int xn) → m_lk lv3 6 = some (.int xt) → m_lk lv3 7 = some (.int xi) → HJ 50 0 (lv_args 0 [.ref pa]) [] h2 (fun v h' => HJ 179 92 lv3 (v.toList ++ []) h' Q) := fun lv3 c0 c3 c4 c5 c6 c7 => by
      refine k_hs (f := f) (RX.start h2) ok2.1.1 a7.1 (by rw [re2 7]; exact S2) (fun xz qz => ?_)
      show HJ 179 92 lv3 [.int xz] h2 Q
      refine r_dw92 (RX.start h2) c0 c3 qk c4 qq c5 qn c6 qt c7 qi qz (by omega) (by omega) ok2.1.2.1 ok2.1.1 (fun x3 q3 lv4 b0 b3 b4 b5 b6 b7 _ => nxt h2 lv4 x3 (dw_up I2) q3 b0 b3 b4 b5 b6 b7) (fun x3 q3 _ => ?_)
      refine k_db (n := 100) (RX.start h2) ok2.1.1 q3 (by decide) (fun x4 h4 H4 y0 y1 M4 o4 p4 => ?_)
      have I4 := dw_pa ok I2 M4 o4 p4
      show HJ 179 104 lv3 [.int x4, .ref pa] h4 Q
      obtain ⟨o4', F4, ⟨U, u, U1, U2, U3, U4, U5, U6⟩, T4, Z4⟩ := id I4
      obtain ⟨ok4, re4, rw4⟩ := pa_FX ok o4' F4
      refine r_dw104 (RX.start h4) c0 c3 qk c4 qq c5 qn c6 qt c7 qi rfl ok4.1.2.1 ok4.1.1 ?_
      refine k_put (tt := z_i h4 pa 12) (S := U) (f := u) ok4 (by rw [re4 0]; exact U1) (by rw [re4 7]; exact U2) U3 U4 (by omega) rfl (by omega) (by omega) rfl y0 (by omega) (fun x5 h5 R => ?_)
      show HJ 179 107 lv3 [.int x5] h5 Q
      refine r_dw107 (RX.start h5) c0 c3 qk c4 qq c5 qn c6 qt c7 qi rfl (by omega) (by omega) (fun x6 q6 lv6 b0 b3 b4 b5 b6 b7 => nxt h5 lv6 x6 ?_ q6 b0 b3 b4 b5 b6 b7)
      rcases R with ⟨-, -, eh⟩ | ⟨-, nw, R1, R2, R3, R4, R5, R6⟩
      · rw [eh]
        exact dw_up I4
      · rw [re4 0] at R1 R4 R5
        rw [re4 7] at R2
        obtain ⟨u1, u2, u3, u4⟩ := pm_puI (t := z_i h4 pa 12) (k := x4.toInt) U3 U4 nw
        exact ⟨R4, F4.trans2 R5 (fun q _ z => Or.inl (py_FX ok o4' F4 z)), ⟨_, _, R1, R2, u1, u2, ps_exT U5 u3, by omega⟩, ⟨by omega, by omega⟩, fun q q12 q13 => (R6 q q12).trans (Z4 q q12 q13)⟩
    refine r_dw51 (RX.start h2) e0 e3 qk e4 qq e5 qn e6 qt e7 qi rfl ok2.1.2.1 ok2.1.1 (fun lv3 c0 c3 c4 c5 c6 c7 _ => at92 lv3 c0 c3 c4 c5 c6 c7) (fun _ => ?_)
    refine k_hs (f := f) (RX.start h2) ok2.1.1 a7.1 (by rw [re2 7]; exact S2) (fun xz qz => ?_)
    show HJ 179 58 lv [.int xz] h2 Q
    refine r_dw58 (RX.start h2) e0 e3 qk e4 qq e5 qn e6 qt e7 qi qz ok2.1.2.1 ok2.1.1 ok2.2.1.1.2.1 ok2.2.1.1.1 (fun lv3 c0 c3 c4 c5 c6 c7 _ => at92 lv3 c0 c3 c4 c5 c6 c7) (fun lv4 b0 b3 b4 b5 b6 b7 _ => ?_)
    refine k_take (S := S) (f := f) ok2.2.1 a7 a9 l9 d97 (by rw [re2 0]; exact S1) (by rw [re2 7]; exact S2) S3 S4 (by omega) (by omega) (fun x7 h7 c7 o7 S7 E7 F7 => ?_)
    rw [re2 0] at o7 S7 F7
    rw [re2 7] at E7
    have K : ps_sh (pm_tk (S, f)).1 ∧ hp_in (pm_tk (S, f)).1 (pm_tk (S, f)).2 ∧ ps_ex S (pm_tk (S, f)).1 ∧ ps_n (pm_tk (S, f)).1 ≤ ps_n S + 6 := by
      by_cases e : pm_le S f 6 = -1
      · have e2 : pm_tk (S, f) = (S, f) := by
          unfold pm_tk
          rw [if_pos e]
        rw [e2]
        exact ⟨S3, S4, ps_ex0, Nat.le_add_right _ _⟩
      · obtain ⟨k1, k2, k3, k4, -⟩ := pm_tkI S3 S4 (by omega) e
        exact ⟨k1, k2, k3, k4⟩
    have F7' : FX (h_r hh pa 0) (py_Y hh pa) h2 h7 := by
      refine F7.mono (fun q hq => ?_)
      rcases hq with z | z
      · rw [re2 7] at z
        exact Or.inr (Or.inr ⟨7, by decide, z⟩)
      · rw [(F.2.2 _ ok.2.1.1.2.2).2.1 2 (by omega)] at z
        exact Or.inr (Or.inr ⟨9, by decide, z⟩)
    have pn := pa_ne ok (i := 7) (by decide)
    have Z7 : ∀ q, z_i h7 pa q = z_i h2 pa q := fun q => by
      refine ((F7.2.2 pa (ok2.1.2.2)).2.2 (fun z => ?_)).1 q
      rcases z with z | z | z | z | z
      · exact pn.2.2.2.1 z
      · have := o.2.1.1
        rw [← z, ok2.1.1] at this
        omega
      · have := o.2.2.1.1
        rw [← z, ok2.1.1] at this
        omega
      · have := a7.1.1
        rw [show pa_w h2 pa 7 = h_r h2 pa 7 from rfl, ← z, ok2.1.1] at this
        omega
      · have := a9.1.1
        rw [show pa_w h2 pa 9 = h_r h2 (h_r h2 pa 0) 2 from rfl, re2 0, ← z, ok2.1.1] at this
        omega
    show HJ 179 84 lv4 [.int x7] h7 Q
    refine r_dw84 (RX.start h7) b0 b3 qk b4 qq b5 qn b6 qt b7 qi rfl (by omega) (by omega) (fun x8 q8 lv8 d0 d3 d4 d5 d6 d7 => nxt h7 lv8 x8 ?_ q8 d0 d3 d4 d5 d6 d7)
    exact ⟨o7, F.trans F7', ⟨_, _, S7, E7, K.1, K.2.1, ps_exT S5 K.2.2.1, by have := K.2.2.2; omega⟩, ⟨by rw [Z7]; exact T.1, by rw [Z7]; omega⟩, fun q q12 q13 => (Z7 q).trans (Z q q12 q13)⟩
theorem k_draw {pa : Nat} {Y : RYt} {l v : Int} {xv xs xk xq : Int32} (ok : pa_ok h pa) (I : cs_of h (z_i h) (h_r h pa 0) (ps_le (ry_s Y) l)) (P : pr_of h pa Y) (sh : ps_sh (ry_s Y)) (hs : ∀ u : Nat, u < ry_v Y → hp_in (ry_s Y) (ry_h Y u)) (cap : ps_n (ry_s Y) + 378 ≤ 16000) (et : z_i h pa 12 = ry_t Y) (t0 : 0 ≤ ry_t Y) (t1 : ry_t Y ≤ 96) (qv : xv.toInt = v) (v0 : 0 ≤ v) (v1 : v < (ry_v Y : Int)) (k30 : xk.toInt ≤ 30) (q0 : 0 ≤ xq.toInt) (q3 : xq.toInt ≤ 3) (g : ∀ (x : Int32) (h' : MH), pa_ok h' pa → cs_of h' (z_i h') (h_r h pa 0) (ps_le (ry_s Y) 0) → FW (h_r h pa 0) (py_Y h pa) h h' → (∀ q, q ≠ 13 → z_i h' pa q = z_i h pa q) → (∀ j, j < ps_n (ry_s Y) → h_l h' (h_r h' (h_r h pa 0) 1) j = h_l h (h_r h (h_r h pa 0) 1) j) → Q (some (.int x)) h') : HJ 179 0 (lv_args 0 [.ref pa, .int xv, .int xs, .int xk, .int xq]) [] h Q := by
  have M := RX.start h
  have nd0 := ok.2.1
  have pn := pa_ne ok (i := 7) (by decide)
  have a7 := pa_ap ok (i := 7) (by decide) (by decide)
  have n7 := nl_ap nd0 a7.1.1 a7.2.2
  have e11 : z_i h pa 11 + 1 = (ry_v Y : Int) := P.1.1
  have v41 := P.1.2.2
  have w11 : pa_w h pa 11 = h_r h (h_r h pa 0) 0 := rfl
  have pc11 := (pa_ne ok (i := 11) (by decide))
  rw [w11] at pc11
  refine r_dw0 M rfl rfl qv rfl rfl rfl rfl rfl rfl ok.1.1 nd0.1.1 ok.1.2.1 (fun x1 q1 x3 q3 h6 H6 f6 h7 H7 f7 lv4 M7 a0 a3 a4 a5 a6 => ?_)
  have q1' : x1.toInt = (ps_n (ry_s Y) : Int) := q1.trans I.1
  have q3' : x3.toInt = ry_t Y := q3.trans et
  have o7 : ∀ q, q ≠ h_r h pa 0 → q ≠ pa → H7 q = z_i h q := fun q h1 h2 => by
    rw [f7, m_uN _ _ _ _ h2, f6, m_uN _ _ _ _ h1]
    rfl
  have p7 : ∀ k, k ≠ 13 → H7 pa k = z_i h pa k := fun k hk => by
    rw [f7, m_uE, m_uN _ _ _ _ hk, f6, m_uN _ _ _ _ pn.2.2.2.1]
    rfl
  have m7 : H7 (h_r h pa 0) = m_u (z_i h (h_r h pa 0)) 6 0 := by
    rw [f7, m_uN _ _ _ _ (Ne.symm pn.2.2.2.1), f6, m_uE]
    rfl
  refine k_load (v := v) M7 ok qv v0 (by rw [p7 11 (by decide)]; omega) (by rw [p7 11 (by decide)]; omega) a7.1 (fun h8 H8 M8 f8 => ?_)
  show HJ 179 37 lv4 [] h8 Q
  have o8 : ∀ q, q ≠ h_r h pa 7 → H8 q = H7 q := fun q hq => by rw [f8, m_uN _ _ _ _ hq]
  have n8 : H8 (h_r h pa 0) = m_u (z_i h (h_r h pa 0)) 6 0 := (o8 _ (Ne.symm n7.1)).trans m7
  have rr8 : h_r h8 = h_r h := M8.2.2.1.1
  have en5 : H8 (h_r h pa 0) 5 = z_i h (h_r h pa 0) 5 := by rw [n8, m_uN _ _ _ _ (by decide)]
  have en6 : H8 (h_r h pa 0) 6 = 0 := by rw [n8, m_uE]
  have I0 : dw_I h pa Y 0 h8 := by
    refine ⟨nl_RX nd0 M8 en5, FX.ofRX M8 en5 (fun q hq j => ?_), ⟨ps_le (ry_s Y) 0, ry_h Y v, ?_, fun k hk => ?_, sh, ?_, ps_exL, by show ps_n (ry_s Y) ≤ _; omega⟩, ?_, fun q q12 q13 => by rw [M8.zi, o8 _ pn.1, p7 q q13]⟩
    · rw [o8 q (fun z => hq (Or.inr (Or.inr (Or.inr (Or.inr (Or.inr ⟨7, by decide, z⟩)))))), o7 q (fun z => hq (Or.inl z)) (fun z => hq (Or.inr (Or.inr (Or.inr (Or.inl z)))))]
    · refine cs_drop I ps_exL (by rw [M8.zi, en5]; exact I.1) (by rw [M8.zi, en6]) (fun j => ?_)
      rw [rr8, M8.zi, o8 _ (Ne.symm n7.2.1), o7 _ (fun z => pc11.2.1 z.symm) (fun z => pc11.1 z.symm)]
    · rw [M8.zi, f8, m_uE, if_pos hk, ry_hv v0]
      have wn := pa_ne ok (i := 18 + v.toNat) (by omega)
      rw [o7 _ (Ne.symm wn.2.1) (Ne.symm wn.1)]
      exact (P.2 v.toNat (by omega)).1 k hk
    · rw [ry_hv v0]
      exact hs v.toNat (by omega)
    · rw [M8.zi, o8 _ pn.1, p7 12 (by decide)]
      exact ⟨by omega, by omega⟩
  refine r_dw37 M8 a0 a3 rfl a4 rfl a5 q1' a6 q3' (fun x9 q9 lv9 b0 b3 b4 b5 b6 b7 => ?_)
  refine l_dw ok cap t0 t1 rfl k30 rfl q1' q3' (fun h10 lv10 i10 I10 i30 c0 c5 c6 => ?_) 30 0 h8 lv9 x9 (by omega) (by decide) q9 I0 b0 b3 b4 b5 b6 b7
  obtain ⟨o, F, ⟨S, f, S1, S2, S3, S4, S5, S6⟩, T, Z⟩ := I10
  obtain ⟨ok', re, rw_⟩ := pa_FX ok o F
  refine k_da (S := S) (f := f) ok' (by rw [re 0]; exact S1) (by rw [re 7]; exact S2) S4 q0 (by assumption) (fun x => ?_)
  show HJ 179 122 lv10 [.int x] h10 Q
  refine r_dw122 (RX.start h10) c0 c5 q1' c6 q3' rfl ok'.1.1 (by rw [re 0]; exact o.1.2.1) (by rw [re 0]; exact o.1.1) (fun lv11 d0 d5 d6 d7 => ?_)
  rw [re 0]
  have m10 : z_i h10 (h_r h pa 0) 5 = (ps_n S : Int) := S1.1
  have ns : ps_n (ry_s Y) ≤ ps_n S := S5.1
  refine k_drop (m := z_i h10 (h_r h pa 0) 5) (RX.start h10) o.1.1 rfl (by omega) q1' (fun h12 H12 M12 o12 n12 => ?_)
  have n125 : H12 (h_r h pa 0) 5 = (ps_n (ry_s Y) : Int) := by
    rw [n12, m_uN _ _ _ _ (by decide), m_uE, m10]
    by_cases c : (ps_n (ry_s Y) : Int) < (ps_n S : Int)
    · rw [if_pos c, if_neg (by omega)]
    · rw [if_neg c]
      omega
  have n126 : H12 (h_r h pa 0) 6 = 0 := by rw [n12, m_uE]
  show HJ 179 133 lv11 [] h12 Q
  refine r_dw133 M12 d0 d6 q3' d7 rfl ok'.1.1 (fun h13 H13 f13 M13 => ?_)
  have e9n : H13 (h_r h pa 0) = H12 (h_r h pa 0) := by rw [f13, m_uN _ _ _ _ (Ne.symm pn.2.2.2.1)]
  have e9o : ∀ q, q ≠ pa → q ≠ h_r h pa 0 → H13 q = z_i h10 q := fun q h1 h2 => by
    rw [f13, m_uN _ _ _ _ h1, o12 q h2]
    rfl
  have o9 : nl_ok h13 (h_r h pa 0) := nl_RXm o M13 (by rw [e9n, n125]; omega) (by rw [e9n, n125, m10]; omega)
  obtain ⟨ok9, rr9, -⟩ := pa_RX ok' M13 (by rw [re 0]; exact o9)
  have nc : h_r h10 (h_r h pa 0) 0 ≠ h_r h pa 0 := fun y => by
    have := o.2.1.1
    rw [y, o.1.1] at this
    omega
  have pc : h_r h10 (h_r h pa 0) 0 ≠ pa := fun y => by
    have := o.2.1.1
    rw [y, ok'.1.1] at this
    omega
  refine g x h13 ok9 (cs_drop S1 S5 (by rw [M13.zi, e9n, n125]) (by rw [M13.zi, e9n, n126]) (fun j => by rw [rr9, M13.zi, e9o _ pc nc])) ((FW.ofFX F).trans2 (FW.ofRX (Y := fun q => q = pa) M13 (fun q hq j => by rw [e9o q (fun y => hq (Or.inr (Or.inr (Or.inr y)))) (fun y => hq (Or.inl y))])) (fun q _ y => Or.inl (Or.inl y))) (fun q q13 => ?_) (fun j hj => by rw [M13.2.2.1.2, M13.2.2.1.1]; exact F.2.1.2.2.1 j (by rw [I.1]; show (j : Int) < (ps_n (ry_s Y) : Int); omega))
  by_cases e : q = 12
  · rw [e, M13.zi, f13, m_uE, m_uE]
    exact et.symm
  · rw [M13.zi, f13, m_uE, m_uN _ _ _ _ e, o12 pa pn.2.2.2.1]
    exact Z q e q13
end
end
