-- WHAT A FURTHER ACT WOULD MAKE: done, told, and dropped again
theorem cs_drop {h0 h1 : MH} {H H1 : Nat → Nat → Int} {nd : Nat} {S X : PSt} (I : cs_of h0 H nd X) (E : ps_ex S X) (h5 : H1 nd 5 = (ps_n S : Int)) (h6 : H1 nd 6 = 0) (old : ∀ j, H1 (h_r h1 nd 0) j = H (h_r h0 nd 0) j) : cs_of h1 H1 nd (ps_le S 0) := by
  obtain ⟨-, -, -, i4, i5⟩ := I
  refine ⟨h5, h6, ⟨Int.le_refl _, Int.natCast_nonneg _⟩, Nat.le_trans E.1 i4, fun v hv => ?_⟩
  have hv : v < ps_n S := hv
  obtain ⟨j1, j2, j3, j4, j5, j6⟩ := i5 v (Nat.lt_of_lt_of_le hv E.1)
  obtain ⟨e1, e2, e3, e4⟩ := E.2 v hv
  rw [e1] at j4 j5 j6
  rw [e2] at j1 j2
  rw [e3] at j1 j3
  refine ⟨by rw [old]; exact j1, j2, j3, by rw [old]; exact j4, j5, fun r hr => ?_⟩
  have hr : (r : Int) < ps_k S v := hr
  rw [old]
  have := j6 r hr
  rw [e4 r (by omega)] at this
  exact this
theorem ps_exL {S : PSt} {l : Int} : ps_ex S (ps_le S l) := ⟨Nat.le_refl _, fun _ _ => ⟨rfl, rfl, rfl, fun _ _ => rfl⟩⟩
-- in place, all but some addresses
theorem FW.ofRX {nd : Nat} {Y : Nat → Prop} {h0 h : MH} {H : Nat → Nat → Int} (M : RX h0 h H) (e : ∀ a, ¬ (a = nd ∨ a = h_r h0 nd 0 ∨ a = h_r h0 nd 1 ∨ Y a) → ∀ j, H a j = z_i h0 a j) : FW nd Y h0 h := by
  obtain ⟨m1, m2, ⟨m3, m4⟩, m5⟩ := M
  have n : h_n h = h_n h0 := congrArg Prod.fst m1
  refine ⟨by omega, fun k _ => Or.inl (by rw [m3]), fun a _ => ⟨by rw [m2], fun k _ => by rw [m3], fun hn => ⟨fun j => (m5 a j).trans (e a hn j), fun j => by rw [m4]⟩⟩⟩
theorem nl_RXm {h0 h : MH} {H : Nat → Nat → Int} {nd : Nat} (ok : nl_ok h0 nd) (M : RX h0 h H) (e0 : 0 ≤ H nd 5) (e1 : H nd 5 ≤ z_i h0 nd 5) : nl_ok h nd := by
  obtain ⟨a, b, c, d, e, f⟩ := ok
  have n : h_n h = h_n h0 := congrArg Prod.fst M.1
  have z : z_i h nd 5 = H nd 5 := M.zi nd 5
  unfold nl_ok
  rw [M.2.1, M.2.2.1.1, n, z]
  exact ⟨a, b, c, d, ⟨e0, by omega⟩, f⟩
theorem pa_RX {h0 h : MH} {H : Nat → Nat → Int} {pa : Nat} (ok : pa_ok h0 pa) (M : RX h0 h H) (o : nl_ok h (h_r h0 pa 0)) : pa_ok h pa ∧ h_r h = h_r h0 ∧ ∀ i, pa_w h pa i = pa_w h0 pa i := by
  have rr : h_r h = h_r h0 := M.2.2.1.1
  have n : h_n h = h_n h0 := congrArg Prod.fst M.1
  have ww : ∀ i, pa_w h pa i = pa_w h0 pa i := fun i => by
    unfold pa_w
    rw [rr]
  refine ⟨?_, rr, ww⟩
  obtain ⟨a, -, t, r, li, fr, b, c⟩ := ok
  unfold pa_ok
  rw [rr, M.2.1, n]
  refine ⟨a, o, t, r, li, fr, fun i hi => ?_, fun i j hi hj hn => ?_⟩
  · rw [ww i]
    exact b i hi
  · rw [ww i, ww j]
    exact c i j hi hj hn
def wm_q (Y : RYt) (w v a b f x : Int) : Prop := (ry_do Y w v a b = none ∧ x = -1) ∨ ∃ X, ry_do Y w v a b = some X ∧ x = (if f = 0 then (ps_n X.1 : Int) - (ps_n (ry_s Y) : Int) else ps_l X.1)
-- the books of versions stay under what an act changes
theorem pr_FX {h h' : MH} {pa : Nat} {Y : RYt} (ok : pa_ok h pa) (o' : nl_ok h' (h_r h pa 0)) (F : FX (h_r h pa 0) (py_Y h pa) h h') (z11 : z_i h' pa 11 = z_i h pa 11) (P : pr_of h pa Y) : pr_of h' pa Y := by
  obtain ⟨⟨p1, p2, p3⟩, p4⟩ := P
  obtain ⟨-, re, rw_⟩ := pa_FX ok o' F
  refine ⟨⟨by rw [z11]; exact p1, p2, p3⟩, fun v hv => ?_⟩
  obtain ⟨q1, q2⟩ := p4 v hv
  refine ⟨fun k hk => ?_, ?_⟩
  · rw [rw_ (18 + v) (by omega) (by omega), py_kp ok F (by omega) (by omega)]
    exact q1 k hk
  · rw [re 3]
    have := py_kp ok F (i := 12) (by decide) (by decide) v
    exact this.trans q2
section
variable {lv : List (Nat × Value)} {Q : Option Value → MH → Prop} {h0 h : MH} {H : Nat → Nat → Int}
theorem r_wm0 {pa : Nat} {w v a b f : Int} (M : RX h0 h H) (e0 : m_lk lv 0 = some (.ref pa)) {lx1 : Int32} (e1 : m_lk lv 1 = some (.int lx1)) (lq1 : lx1.toInt = w) {lx2 : Int32} (e2 : m_lk lv 2 = some (.int lx2)) (lq2 : lx2.toInt = v) {lx3 : Int32} (e3 : m_lk lv 3 = some (.int lx3)) (lq3 : lx3.toInt = a) {lx4 : Int32} (e4 : m_lk lv 4 = some (.int lx4)) (lq4 : lx4.toInt = b) {lx5 : Int32} (e5 : m_lk lv 5 = some (.int lx5)) (lq5 : lx5.toInt = f)  (hk0 : (h_k h0 pa).1 = 4) (hk1 : (h_k h0 (h_r h0 pa 0)).1 = 3) (hs0 : 16 ≤ pa)
    (g0 : ∀ x1 : Int32, x1.toInt = H (h_r h0 pa 0) 5 → ∀ x3 : Int32, x3.toInt = H pa 12 → ∀ h6 : MH, ∀ H6 : Nat → Nat → Int, H6 = m_u H (h_r h0 pa 0) (m_u (H (h_r h0 pa 0)) 6 (0)) → ∀ lv4 : List (Nat × Value), RX h0 h6 H6 → m_lk lv4 0 = some (.ref pa) → m_lk lv4 1 = some (.int lx1) → m_lk lv4 2 = some (.int lx2) → m_lk lv4 3 = some (.int lx3) → m_lk lv4 4 = some (.int lx4) → m_lk lv4 5 = some (.int lx5) → m_lk lv4 6 = some (.int x1) → m_lk lv4 7 = some (.int x3) → HJ 56 0 (lv_args 0 [.ref pa, .int lx1, .int lx2, .int lx3, .int lx4]) [] h6 (fun v h' => HJ 169 32 lv4 (v.toList ++ []) h' Q))
    : HJ 169 0 lv [] h Q := by
  refine hI_al (k := 0) rfl e0 rfl ?_ -- 0
  refine hR_gr (c := 3) (k := 0) M hk0 rfl rfl rfl rfl ?_ -- 1
  refine hR_gi (c := 2) (k := 5) M hk1 rfl rfl rfl rfl (fun x1 q1 => ?_) -- 4
  have gb1 : -2147483648 ≤ H (h_r h0 pa 0) 5 ∧ H (h_r h0 pa 0) 5 ≤ 2147483647 := by rw [← q1]; exact g_iT _
  refine hM_si2 (k := 6) rfl (by decide +kernel) rfl (fun lv2 e2_6 u2 => ?_) -- 7
  have e2_0 := u2 0 _ (by decide) (Or.inl rfl) e0
  have e2_1 := u2 1 _ (by decide) (Or.inl rfl) e1
  have e2_2 := u2 2 _ (by decide) (Or.inl rfl) e2
  have e2_3 := u2 3 _ (by decide) (Or.inl rfl) e3
  have e2_4 := u2 4 _ (by decide) (Or.inl rfl) e4
  have e2_5 := u2 5 _ (by decide) (Or.inl rfl) e5
  refine hI_al (k := 0) rfl e2_0 rfl ?_ -- 9
  refine hR_gi (c := 3) (k := 12) M hk0 rfl rfl rfl rfl (fun x3 q3 => ?_) -- 10
  have gb3 : -2147483648 ≤ H pa 12 ∧ H pa 12 ≤ 2147483647 := by rw [← q3]; exact g_iT _
  refine hM_si2 (k := 7) rfl (by decide +kernel) rfl (fun lv4 e4_7 u4 => ?_) -- 13
  have e4_0 := u4 0 _ (by decide) (Or.inl rfl) e2_0
  have e4_1 := u4 1 _ (by decide) (Or.inl rfl) e2_1
  have e4_2 := u4 2 _ (by decide) (Or.inl rfl) e2_2
  have e4_3 := u4 3 _ (by decide) (Or.inl rfl) e2_3
  have e4_4 := u4 4 _ (by decide) (Or.inl rfl) e2_4
  have e4_5 := u4 5 _ (by decide) (Or.inl rfl) e2_5
  have e4_6 := u4 6 _ (by decide) (Or.inl rfl) e2_6
  refine hI_al (k := 0) rfl e4_0 rfl ?_ -- 15
  refine hR_gr (c := 3) (k := 0) M hk0 rfl rfl rfl rfl ?_ -- 16
  refine hM_ic (n := 0) rfl (by decide) rfl (fun x5 q5 => ?_) -- 19
  refine hR_pi (c := 2) (k := 6) M hk1 rfl rfl ⟨by decide, by decide +kernel, rfl⟩ q5 rfl (fun h6 H6 f6 M6 => ?_) -- 20
  refine hI_al (k := 0) rfl e4_0 rfl ?_ -- 23
  refine hI_il (k := 1) rfl e4_1 rfl ?_ -- 24
  refine hI_il (k := 2) rfl e4_2 rfl ?_ -- 25
  refine hI_il (k := 3) rfl e4_3 rfl ?_ -- 26
  refine hI_il2 (k := 4) rfl e4_4 rfl ?_ -- 27
  refine HJ.call (j := 56) (as := [.ref pa, .int lx1, .int lx2, .int lx3, .int lx4]) (rr := []) (pc' := 32) (m_cR (kc := 3) rfl rfl (by decide +kernel) rfl rfl rfl ⟨rfl, by decide +kernel, by decide +kernel⟩ (by decide) hs0 (by rw [M6.2.1]; exact hk0)) (by show 5 ≤ m_lc 56; decide +kernel) ?_ -- 29
  exact g0 x1 q1 x3 q3 h6 H6 f6 lv4 M6 e4_0 e4_1 e4_2 e4_3 e4_4 e4_5 e4_6 e4_7
theorem r_wm32 {pa : Nat} {w v a b f n t z : Int} (M : RX h0 h H) (e0 : m_lk lv 0 = some (.ref pa)) {lx1 : Int32} (e1 : m_lk lv 1 = some (.int lx1)) (lq1 : lx1.toInt = w) {lx2 : Int32} (e2 : m_lk lv 2 = some (.int lx2)) (lq2 : lx2.toInt = v) {lx3 : Int32} (e3 : m_lk lv 3 = some (.int lx3)) (lq3 : lx3.toInt = a) {lx4 : Int32} (e4 : m_lk lv 4 = some (.int lx4)) (lq4 : lx4.toInt = b) {lx5 : Int32} (e5 : m_lk lv 5 = some (.int lx5)) (lq5 : lx5.toInt = f) {lx6 : Int32} (e6 : m_lk lv 6 = some (.int lx6)) (lq6 : lx6.toInt = n) {lx7 : Int32} (e7 : m_lk lv 7 = some (.int lx7)) (lq7 : lx7.toInt = t) {sx0 : Int32} (sq0 : sx0.toInt = z) (pn0 : 0 ≤ n) (pn1 : n ≤ 16000) (pm0 : 0 ≤ H (h_r h0 pa 0) 5) (pm1 : H (h_r h0 pa 0) 5 ≤ 16000) (hk0 : (h_k h0 pa).1 = 4) (hk1 : (h_k h0 (h_r h0 pa 0)).1 = 3) (hs0 : 16 ≤ h_r h0 pa 0)
    (g0 : ∀ x3 : Int32, x3.toInt = (H (h_r h0 pa 0) 5) - n → ∀ lv4 : List (Nat × Value), m_lk lv4 0 = some (.ref pa) → m_lk lv4 1 = some (.int lx1) → m_lk lv4 2 = some (.int lx2) → m_lk lv4 3 = some (.int lx3) → m_lk lv4 4 = some (.int lx4) → m_lk lv4 5 = some (.int lx5) → m_lk lv4 6 = some (.int lx6) → m_lk lv4 7 = some (.int lx7) → m_lk lv4 8 = some (.int sx0) → m_lk lv4 9 = some (.int x3) → f = 0 → HJ 46 0 (lv_args 0 [.ref (h_r h0 pa 0), .int lx6]) [] h (fun v h' => HJ 169 70 lv4 (v.toList ++ []) h' Q))
    (g1 : ∀ x5 : Int32, x5.toInt = H (h_r h0 pa 0) 6 → ∀ lv6 : List (Nat × Value), m_lk lv6 0 = some (.ref pa) → m_lk lv6 1 = some (.int lx1) → m_lk lv6 2 = some (.int lx2) → m_lk lv6 3 = some (.int lx3) → m_lk lv6 4 = some (.int lx4) → m_lk lv6 5 = some (.int lx5) → m_lk lv6 6 = some (.int lx6) → m_lk lv6 7 = some (.int lx7) → m_lk lv6 8 = some (.int sx0) → m_lk lv6 9 = some (.int x5) → f ≠ 0 → HJ 46 0 (lv_args 0 [.ref (h_r h0 pa 0), .int lx6]) [] h (fun v h' => HJ 169 70 lv6 (v.toList ++ []) h' Q))
    : HJ 169 32 lv [.int sx0] h Q := by
  refine hM_si2 (k := 8) rfl (by decide +kernel) rfl (fun lv1 e1_8 u1 => ?_) -- 32
  have e1_0 := u1 0 _ (by decide) (Or.inl rfl) e0
  have e1_1 := u1 1 _ (by decide) (Or.inl rfl) e1
  have e1_2 := u1 2 _ (by decide) (Or.inl rfl) e2
  have e1_3 := u1 3 _ (by decide) (Or.inl rfl) e3
  have e1_4 := u1 4 _ (by decide) (Or.inl rfl) e4
  have e1_5 := u1 5 _ (by decide) (Or.inl rfl) e5
  have e1_6 := u1 6 _ (by decide) (Or.inl rfl) e6
  have e1_7 := u1 7 _ (by decide) (Or.inl rfl) e7
  refine hI_il2 (k := 5) rfl e1_5 rfl ?_ -- 34
  refine hM_zeq (off := 13) (t := 49) rfl lq5 (by decide) rfl (fun c36 => ?_) (fun c36 => ?_) -- 36
  · refine hI_al (k := 0) rfl e1_0 rfl ?_ -- 49
    refine hR_gr (c := 3) (k := 0) M hk0 rfl rfl rfl rfl ?_ -- 50
    refine hR_gi (c := 2) (k := 5) M hk1 rfl rfl rfl rfl (fun x2 q2 => ?_) -- 53
    have gb2 : -2147483648 ≤ H (h_r h0 pa 0) 5 ∧ H (h_r h0 pa 0) 5 ≤ 2147483647 := by rw [← q2]; exact g_iT _
    refine hI_il2 (k := 6) rfl e1_6 rfl ?_ -- 56
    refine hM_sub rfl q2 lq6 (by omega) (by omega) rfl (fun x3 q3 => ?_) -- 58
    refine hM_si2 (k := 9) rfl (by decide +kernel) rfl (fun lv4 e4_9 u4 => ?_) -- 59
    have e4_0 := u4 0 _ (by decide) (Or.inl rfl) e1_0
    have e4_1 := u4 1 _ (by decide) (Or.inl rfl) e1_1
    have e4_2 := u4 2 _ (by decide) (Or.inl rfl) e1_2
    have e4_3 := u4 3 _ (by decide) (Or.inl rfl) e1_3
    have e4_4 := u4 4 _ (by decide) (Or.inl rfl) e1_4
    have e4_5 := u4 5 _ (by decide) (Or.inl rfl) e1_5
    have e4_6 := u4 6 _ (by decide) (Or.inl rfl) e1_6
    have e4_7 := u4 7 _ (by decide) (Or.inl rfl) e1_7
    have e4_8 := u4 8 _ (by decide) (Or.inl rfl) e1_8
    refine hI_al (k := 0) rfl e4_0 rfl ?_ -- 61
    refine hR_gr (c := 3) (k := 0) M hk0 rfl rfl rfl rfl ?_ -- 62
    refine hI_il2 (k := 6) rfl e4_6 rfl ?_ -- 65
    refine HJ.call (j := 46) (as := [.ref (h_r h0 pa 0), .int lx6]) (rr := []) (pc' := 70) (m_cR (kc := 2) rfl rfl (by decide +kernel) rfl rfl rfl ⟨rfl, by decide +kernel, by decide +kernel⟩ (by decide) hs0 (by rw [M.2.1]; exact hk1)) (by show 2 ≤ m_lc 46; decide +kernel) ?_ -- 67
    exact g0 x3 q3 lv4 e4_0 e4_1 e4_2 e4_3 e4_4 e4_5 e4_6 e4_7 e4_8 e4_9 c36
  · refine hI_al (k := 0) rfl e1_0 rfl ?_ -- 39
    refine hR_gr (c := 3) (k := 0) M hk0 rfl rfl rfl rfl ?_ -- 40
    refine hR_gi (c := 2) (k := 6) M hk1 rfl rfl rfl rfl (fun x5 q5 => ?_) -- 43
    have gb5 : -2147483648 ≤ H (h_r h0 pa 0) 6 ∧ H (h_r h0 pa 0) 6 ≤ 2147483647 := by rw [← q5]; exact g_iT _
    refine hI_go (pc' := 59) (off := 13) rfl (by decide) ?_ -- 46
    refine hM_si2 (k := 9) rfl (by decide +kernel) rfl (fun lv6 e6_9 u6 => ?_) -- 59
    have e6_0 := u6 0 _ (by decide) (Or.inl rfl) e1_0
    have e6_1 := u6 1 _ (by decide) (Or.inl rfl) e1_1
    have e6_2 := u6 2 _ (by decide) (Or.inl rfl) e1_2
    have e6_3 := u6 3 _ (by decide) (Or.inl rfl) e1_3
    have e6_4 := u6 4 _ (by decide) (Or.inl rfl) e1_4
    have e6_5 := u6 5 _ (by decide) (Or.inl rfl) e1_5
    have e6_6 := u6 6 _ (by decide) (Or.inl rfl) e1_6
    have e6_7 := u6 7 _ (by decide) (Or.inl rfl) e1_7
    have e6_8 := u6 8 _ (by decide) (Or.inl rfl) e1_8
    refine hI_al (k := 0) rfl e6_0 rfl ?_ -- 61
    refine hR_gr (c := 3) (k := 0) M hk0 rfl rfl rfl rfl ?_ -- 62
    refine hI_il2 (k := 6) rfl e6_6 rfl ?_ -- 65
    refine HJ.call (j := 46) (as := [.ref (h_r h0 pa 0), .int lx6]) (rr := []) (pc' := 70) (m_cR (kc := 2) rfl rfl (by decide +kernel) rfl rfl rfl ⟨rfl, by decide +kernel, by decide +kernel⟩ (by decide) hs0 (by rw [M.2.1]; exact hk1)) (by show 2 ≤ m_lc 46; decide +kernel) ?_ -- 67
    exact g1 x5 q5 lv6 e6_0 e6_1 e6_2 e6_3 e6_4 e6_5 e6_6 e6_7 e6_8 e6_9 c36
theorem r_wm70 {pa : Nat} {t z u : Int} (M : RX h0 h H) (e0 : m_lk lv 0 = some (.ref pa)) {lx7 : Int32} (e7 : m_lk lv 7 = some (.int lx7)) (lq7 : lx7.toInt = t) {lx8 : Int32} (e8 : m_lk lv 8 = some (.int lx8)) (lq8 : lx8.toInt = z) {lx9 : Int32} (e9 : m_lk lv 9 = some (.int lx9)) (lq9 : lx9.toInt = u)  (hk0 : (h_k h0 pa).1 = 4)
    (g0 : ∀ h1 : MH, ∀ H1 : Nat → Nat → Int, H1 = m_u H pa (m_u (H pa) 12 (t)) → ∀ x2 : Int32, x2.toInt = (-1) → RX h0 h1 H1 → z = 0 → Q (some (.int x2)) h1)
    (g1 : ∀ h1 : MH, ∀ H1 : Nat → Nat → Int, H1 = m_u H pa (m_u (H pa) 12 (t)) → RX h0 h1 H1 → z ≠ 0 → Q (some (.int lx9)) h1)
    : HJ 169 70 lv [] h Q := by
  refine hI_al (k := 0) rfl e0 rfl ?_ -- 70
  refine hI_il2 (k := 7) rfl e7 rfl ?_ -- 71
  refine hR_pi (c := 3) (k := 12) M hk0 rfl rfl ⟨by decide, by decide +kernel, rfl⟩ lq7 rfl (fun h1 H1 f1 M1 => ?_) -- 73
  refine hI_il2 (k := 8) rfl e8 rfl ?_ -- 76
  refine hM_zeq (off := 8) (t := 86) rfl lq8 (by decide) rfl (fun c78 => ?_) (fun c78 => ?_) -- 78
  · refine hM_ic (n := (-1)) rfl (by decide) rfl (fun x2 q2 => ?_) -- 86
    refine hI_ri rfl rfl ?_ -- 87
    exact g0 h1 H1 f1 x2 q2 M1 c78
  · refine hI_il2 (k := 9) rfl e9 rfl ?_ -- 81
    refine hI_go (pc' := 87) (off := 4) rfl (by decide) ?_ -- 83
    refine hI_ri rfl rfl ?_ -- 87
    exact g1 h1 H1 f1 M1 c78
theorem k_would {pa : Nat} {Y : RYt} {l w v a b f : Int} {xw xv xa xb xf : Int32} (ok : pa_ok h pa) (I : cs_of h (z_i h) (h_r h pa 0) (ps_le (ry_s Y) l)) (P : pr_of h pa Y) (sh : ps_sh (ry_s Y)) (hs : ∀ u : Nat, u < ry_v Y → hp_in (ry_s Y) (ry_h Y u)) (cap : ps_n (ry_s Y) + 378 ≤ 16000) (et : z_i h pa 12 = ry_t Y) (t0 : 0 ≤ ry_t Y) (t1 : ry_t Y ≤ 126) (w0 : 0 ≤ w) (w5 : w ≤ 5) (av : av_1 w a b) (qw : xw.toInt = w) (qv : xv.toInt = v) (qa : xa.toInt = a) (qb : xb.toInt = b) (qf : xf.toInt = f) (g : ∀ (x : Int32) (h' : MH), wm_q (ry_z Y) w v a b f x.toInt → pa_ok h' pa → cs_of h' (z_i h') (h_r h pa 0) (ps_le (ry_s Y) 0) → FW (h_r h pa 0) (py_Y h pa) h h' → (∀ q, z_i h' pa q = z_i h pa q) → (∀ j, j < ps_n (ry_s Y) → h_l h' (h_r h' (h_r h pa 0) 1) j = h_l h (h_r h (h_r h pa 0) 1) j) → Q (some (.int x)) h') : HJ 169 0 (lv_args 0 [.ref pa, .int xw, .int xv, .int xa, .int xb, .int xf]) [] h Q := by
  have M := RX.start h
  have pn := pa_ne ok (i := 7) (by decide)
  have nd0 := ok.2.1
  refine r_wm0 M rfl rfl qw rfl qv rfl qa rfl qb rfl qf ok.1.1 nd0.1.1 ok.1.2.1 (fun x1 q1 x3 q3 h6 H6 f6 lv4 M6 a0 a1 a2 a3 a4 a5 a6 a7 => ?_)
  have eo : ∀ q, q ≠ h_r h pa 0 → H6 q = z_i h q := fun q hq => by
    rw [f6, m_uN _ _ _ _ hq]
    rfl
  have en5 : H6 (h_r h pa 0) 5 = z_i h (h_r h pa 0) 5 := by
    rw [f6, m_uE, m_uN _ _ _ _ (by decide)]
    rfl
  have en6 : H6 (h_r h pa 0) 6 = 0 := by rw [f6, m_uE, m_uE]
  have o6 : nl_ok h6 (h_r h pa 0) := nl_RX nd0 M6 en5
  obtain ⟨ok6, rr6, ww6⟩ := pa_RX ok M6 o6
  have F6 : FX (h_r h pa 0) (py_Y h pa) h h6 := FX.ofRX M6 en5 (fun q hq j => by rw [eo q (fun z => hq (Or.inl z))])
  have nc : h_r h (h_r h pa 0) 0 ≠ h_r h pa 0 := fun z => by
    have := nd0.2.1.1
    rw [z, nd0.1.1] at this
    omega
  have e0 : h_r h6 pa 0 = h_r h pa 0 := by rw [rr6]
  have I6 : cs_of h6 (z_i h6) (h_r h6 pa 0) (ps_le (ry_s (ry_z Y)) 0) := by
    rw [e0]
    exact cs_drop I ps_exL (by rw [M6.zi, en5]; exact I.1) (by rw [M6.zi, en6]) (fun j => by rw [rr6, M6.zi, eo _ nc])
  have P6 : pr_of h6 pa (ry_z Y) := pr_FX ok o6 F6 (by rw [M6.zi, eo _ pn.2.2.2.1]) P
  refine k_perform (Y := ry_z Y) ok6 I6 P6 sh hs cap (by rw [M6.zi, eo _ pn.2.2.2.1]; exact et) t0 t1 w0 w5 av qw qv qa qb (fun z h7 R o7 F7 p7 => ?_)
  obtain ⟨ok7, re7, -⟩ := pa_FX ok6 o7 F7
  have e7 : h_r h7 pa 0 = h_r h pa 0 := (re7 0).trans e0
  rw [e0] at R o7 F7
  have K : ∃ X, cs_of h7 (z_i h7) (h_r h pa 0) X ∧ ps_ex (ry_s Y) X ∧ ((z.toInt = 0 ∧ ry_do (ry_z Y) w v a b = none) ∨ (z.toInt = 1 ∧ ∃ X', ry_do (ry_z Y) w v a b = some X' ∧ X'.1 = X)) := by
    rcases R with ⟨r1, r2, r3, -⟩ | ⟨r1, X, r2, r3, -, -⟩
    · exact ⟨_, r3, ⟨Nat.le_refl _, fun _ _ => ⟨rfl, rfl, rfl, fun _ _ => rfl⟩⟩, Or.inl ⟨r1, r2⟩⟩
    · exact ⟨X.1, r3, (ry_doI (Y := ry_z Y) sh hs r2).2.1.1, Or.inr ⟨r1, X, r2, rfl⟩⟩
  obtain ⟨X, IX, EX, A⟩ := K
  have m7 : z_i h7 (h_r h pa 0) 5 = (ps_n X : Int) := IX.1
  have l7 : z_i h7 (h_r h pa 0) 6 = ps_l X := IX.2.1
  have n16 : ps_n X ≤ 16000 := IX.2.2.2.1
  have ns : ps_n (ry_s Y) ≤ ps_n X := EX.1
  have q1' : x1.toInt = (ps_n (ry_s Y) : Int) := q1.trans I.1
  have q3' : x3.toInt = ry_t Y := q3.trans et
  have M7 := RX.start h7
  show HJ 169 32 lv4 [.int z] h7 Q
  have endd : ∀ (u : Int32) (lv : List (Nat × Value)), wm_q (ry_z Y) w v a b f (if z.toInt = 0 then -1 else u.toInt) → m_lk lv 0 = some (.ref pa) → m_lk lv 7 = some (.int x3) → m_lk lv 8 = some (.int z) → m_lk lv 9 = some (.int u) → HJ 46 0 (lv_args 0 [.ref (h_r h7 pa 0), .int x1]) [] h7 (fun v h' => HJ 169 70 lv (v.toList ++ []) h' Q) := fun u lv hu b0 b7 b8 b9 => by
    rw [e7]
    refine k_drop (m := z_i h7 (h_r h pa 0) 5) M7 o7.1.1 rfl (by omega) q1' (fun h8 H8 M8 o8 n8 => ?_)
    have n85 : H8 (h_r h pa 0) 5 = (ps_n (ry_s Y) : Int) := by
      rw [n8, m_uN _ _ _ _ (by decide), m_uE, m7]
      by_cases c : (ps_n (ry_s Y) : Int) < (ps_n X : Int)
      · rw [if_pos c, if_neg (by omega)]
      · rw [if_neg c]
        omega
    have n86 : H8 (h_r h pa 0) 6 = 0 := by rw [n8, m_uE]
    show HJ 169 70 lv [] h8 Q
    have fin : ∀ (x : Int32) (h9 : MH) (H9 : Nat → Nat → Int), H9 = m_u H8 pa (m_u (H8 pa) 12 (ry_t Y)) → RX h7 h9 H9 → wm_q (ry_z Y) w v a b f x.toInt → Q (some (.int x)) h9 := fun x h9 H9 f9 M9 hx => by
      have e9n : H9 (h_r h pa 0) = H8 (h_r h pa 0) := by rw [f9, m_uN _ _ _ _ (Ne.symm pn.2.2.2.1)]
      have e9o : ∀ q, q ≠ pa → q ≠ h_r h pa 0 → H9 q = z_i h7 q := fun q h1 h2 => by
        rw [f9, m_uN _ _ _ _ h1, o8 q h2]
        rfl
      have o9 : nl_ok h9 (h_r h pa 0) := nl_RXm o7 M9 (by rw [e9n, n85]; omega) (by rw [e9n, n85, m7]; omega)
      obtain ⟨ok9, rr9, -⟩ := pa_RX ok7 M9 (by rw [e7]; exact o9)
      have nc7 : h_r h7 (h_r h pa 0) 0 ≠ h_r h pa 0 := fun y => by
        have := o7.2.1.1
        rw [y, o7.1.1] at this
        omega
      have pc7 : h_r h7 (h_r h pa 0) 0 ≠ pa := fun y => by
        have := o7.2.1.1
        rw [y, ok7.1.1] at this
        omega
      refine g x h9 hx ok9 (cs_drop IX EX (by rw [M9.zi, e9n, n85]) (by rw [M9.zi, e9n, n86]) (fun j => by rw [rr9, M9.zi, e9o _ pc7 nc7])) (((FW.ofFX F6).trans2 (FW.ofFX F7) (fun q _ y => Or.inl ?_)).trans2 (FW.ofRX (Y := fun q => q = pa) M9 (fun q hq j => by rw [e9o q (fun y => hq (Or.inr (Or.inr (Or.inr y)))) (fun y => hq (Or.inl y))])) (fun q _ y => Or.inl (Or.inl y))) (fun q => ?_) (fun j hj => ?_)
      · unfold py_Y at y ⊢
        simp only [rr6, ww6] at y
        exact y
      · by_cases e : q = 12
        · rw [e, M9.zi, f9, m_uE, m_uE]
          exact et.symm
        · rw [M9.zi, f9, m_uE, m_uN _ _ _ _ e, o8 pa pn.2.2.2.1]
          exact (p7 q e).trans (by rw [M6.zi, eo _ pn.2.2.2.1])
      · rw [M9.2.2.1.2, M9.2.2.1.1, F7.2.1.2.2.1 j (by rw [M6.zi, en5, I.1]; show (j : Int) < (ps_n (ry_s Y) : Int); omega), M6.2.2.1.2, M6.2.2.1.1]
    refine r_wm70 M8 b0 b7 q3' b8 rfl b9 rfl ok7.1.1 (fun h9 H9 f9 x2 q2 M9 c => ?_) (fun h9 H9 f9 M9 c => ?_)
    · rw [if_pos c] at hu
      exact fin x2 h9 H9 f9 M9 (by rw [q2]; exact hu)
    · rw [if_neg c] at hu
      exact fin u h9 H9 f9 M9 hu
  refine r_wm32 M7 a0 a1 qw a2 qv a3 qa a4 qb a5 qf a6 q1' a7 q3' rfl (by omega) (by omega) (by rw [e7]; show 0 ≤ z_i h7 (h_r h pa 0) 5; omega) (by rw [e7]; show z_i h7 (h_r h pa 0) 5 ≤ 16000; omega) ok7.1.1 (by rw [e7]; exact o7.1.1) (by rw [e7]; exact o7.1.2.1) (fun u qu lv b0 _ _ _ _ _ _ b7 b8 b9 cf => endd u lv ?_ b0 b7 b8 b9) (fun u qu lv b0 _ _ _ _ _ _ b7 b8 b9 cf => endd u lv ?_ b0 b7 b8 b9)
  · rw [e7] at qu
    have qu : u.toInt = z_i h7 (h_r h pa 0) 5 - (ps_n (ry_s Y) : Int) := qu
    rcases A with ⟨z0, dn⟩ | ⟨z1, X', dn, eX⟩
    · rw [if_pos z0]
      exact Or.inl ⟨dn, rfl⟩
    · rw [if_neg (by omega)]
      refine Or.inr ⟨X', dn, ?_⟩
      rw [if_pos cf, eX, qu, m7]
      rfl
  · rw [e7] at qu
    have qu : u.toInt = z_i h7 (h_r h pa 0) 6 := qu
    rcases A with ⟨z0, dn⟩ | ⟨z1, X', dn, eX⟩
    · rw [if_pos z0]
      exact Or.inl ⟨dn, rfl⟩
    · rw [if_neg (by omega)]
      refine Or.inr ⟨X', dn, ?_⟩
      rw [if_neg cf, eX, qu, l7]
end
