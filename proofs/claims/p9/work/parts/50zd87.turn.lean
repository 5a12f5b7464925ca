-- THE NEXT ORDER OF A FOLD: the same things, other places
def nt_R (m : Nat) (f f' : Nat → Int) : Prop := (∀ P : Int → Prop, (∀ k, k < m → P (f k)) → ∀ k, k < m → P (f' k)) ∧ ∀ k, m ≤ k → f' k = f k
theorem nt_R0 {m : Nat} {f : Nat → Int} : nt_R m f f := ⟨fun _ h => h, fun _ _ => rfl⟩
theorem nt_RT {m : Nat} {f g e : Nat → Int} (a : nt_R m f g) (b : nt_R m g e) : nt_R m f e := ⟨fun P h => b.1 P (a.1 P h), fun k hk => (b.2 k hk).trans (a.2 k hk)⟩
theorem nt_Rs {m i j : Nat} {f : Nat → Int} (hi : i < m) (hj : j < m) : nt_R m f (m_u (m_u f i (f j)) j (f i)) := by
  refine ⟨fun P h k hk => ?_, fun k hk => by rw [m_uN _ _ _ _ (by omega), m_uN _ _ _ _ (by omega)]⟩
  by_cases ej : k = j
  · rw [ej, m_uE]
    exact h i hi
  · rw [m_uN _ _ _ _ ej]
    by_cases ei : k = i
    · rw [ei, m_uE]
      exact h j hj
    · rw [m_uN _ _ _ _ ei]
      exact h k hk
def tr_ok (h : MH) (pa : Nat) : Prop := (h_k h pa).1 = 4 ∧ 16 ≤ pa ∧ (h_k h (h_r h pa 9)).1 = 20 ∧ (5 : Int) ≤ ((h_k h (h_r h pa 9)).2 : Int) ∧ 16 ≤ h_r h pa 9
section
variable {lv : List (Nat × Value)} {Q : Option Value → MH → Prop} {h0 h : MH} {H : Nat → Nat → Int}
theorem r_sw0 {pa : Nat} {i j : Int} (M : RX h0 h H) (e0 : m_lk lv 0 = some (.ref pa)) {lx1 : Int32} (e1 : m_lk lv 1 = some (.int lx1)) (lq1 : lx1.toInt = i) {lx2 : Int32} (e2 : m_lk lv 2 = some (.int lx2)) (lq2 : lx2.toInt = j) (pi0 : 0 ≤ i) (pi4 : i ≤ 4) (pj0 : 0 ≤ j) (pj4 : j ≤ 4) (hk0 : (h_k h0 pa).1 = 4) (ha0 : (h_k h0 (h_r h0 pa 9)).1 = 20) (hl0 : 5 ≤ ((h_k h0 (h_r h0 pa 9)).2 : Int)) (hs0 : 16 ≤ h_r h0 pa 9)
    (g0 : ∀ h4 : MH, ∀ H4 : Nat → Nat → Int, H4 = m_u H (h_r h0 pa 9) (m_u (H (h_r h0 pa 9)) (i).toNat (H (h_r h0 pa 9) (j).toNat)) → ∀ h5 : MH, ∀ H5 : Nat → Nat → Int, H5 = m_u H4 (h_r h0 pa 9) (m_u (H4 (h_r h0 pa 9)) (j).toNat (H (h_r h0 pa 9) (i).toNat)) → ∀ lv2 : List (Nat × Value), RX h0 h5 H5 → Q none h5)
    : HJ 175 0 lv [] h Q := by
  refine hI_al (k := 0) rfl e0 rfl ?_ -- 0
  refine hR_gr (c := 3) (k := 9) M hk0 rfl rfl rfl rfl ?_ -- 1
  refine hI_il (k := 1) rfl e1 rfl ?_ -- 4
  refine hR_ia M ha0 lq1 (by omega) (by omega) rfl rfl (fun x1 q1 => ?_) -- 5
  have gb1 : -2147483648 ≤ H (h_r h0 pa 9) (i).toNat ∧ H (h_r h0 pa 9) (i).toNat ≤ 2147483647 := by rw [← q1]; exact g_iT _
  refine hM_si (k := 3) rfl (by decide +kernel) rfl (fun lv2 e2_3 u2 => ?_) -- 6
  have e2_0 := u2 0 _ (by decide) (Or.inl rfl) e0
  have e2_1 := u2 1 _ (by decide) (Or.inl rfl) e1
  have e2_2 := u2 2 _ (by decide) (Or.inl rfl) e2
  refine hI_al (k := 0) rfl e2_0 rfl ?_ -- 7
  refine hR_gr (c := 3) (k := 9) M hk0 rfl rfl rfl rfl ?_ -- 8
  refine hI_il (k := 1) rfl e2_1 rfl ?_ -- 11
  refine hI_al (k := 0) rfl e2_0 rfl ?_ -- 12
  refine hR_gr (c := 3) (k := 9) M hk0 rfl rfl rfl rfl ?_ -- 13
  refine hI_il (k := 2) rfl e2_2 rfl ?_ -- 16
  refine hR_ia M ha0 lq2 (by omega) (by omega) rfl rfl (fun x3 q3 => ?_) -- 17
  have gb3 : -2147483648 ≤ H (h_r h0 pa 9) (j).toNat ∧ H (h_r h0 pa 9) (j).toNat ≤ 2147483647 := by rw [← q3]; exact g_iT _
  refine hR_is M hs0 ha0 lq1 q3 (by omega) (by omega) rfl rfl (fun h4 H4 f4 M4 => ?_) -- 18
  refine hI_al (k := 0) rfl e2_0 rfl ?_ -- 19
  refine hR_gr (c := 3) (k := 9) M4 hk0 rfl rfl rfl rfl ?_ -- 20
  refine hI_il (k := 2) rfl e2_2 rfl ?_ -- 23
  refine hI_il (k := 3) rfl e2_3 rfl ?_ -- 24
  refine hR_is M4 hs0 ha0 lq2 q1 (by omega) (by omega) rfl rfl (fun h5 H5 f5 M5 => ?_) -- 25
  refine hI_rv rfl rfl ?_
  exact g0 h4 H4 f4 h5 H5 f5 lv2 M5
theorem r_nt0 {pa : Nat} {m : Int} (M : RX h0 h H) (e0 : m_lk lv 0 = some (.ref pa)) {lx1 : Int32} (e1 : m_lk lv 1 = some (.int lx1)) (lq1 : lx1.toInt = m) (m2 : 2 ≤ m) (m5 : m ≤ 5)
    (g0 : ∀ x2 : Int32, x2.toInt = m - 2 → ∀ lv3 : List (Nat × Value), m_lk lv3 0 = some (.ref pa) → m_lk lv3 1 = some (.int lx1) → m_lk lv3 2 = some (.int x2) → HJ 174 4 lv3 [] h Q)
    : HJ 174 0 lv [] h Q := by
  refine hI_il (k := 1) rfl e1 rfl ?_ -- 0
  refine hM_ic (n := 2) rfl (by decide) rfl (fun x1 q1 => ?_) -- 1
  refine hM_sub rfl lq1 q1 (by omega) (by omega) rfl (fun x2 q2 => ?_) -- 2
  refine hM_si (k := 2) rfl (by decide +kernel) rfl (fun lv3 e3_2 u3 => ?_) -- 3
  have e3_0 := u3 0 _ (by decide) (Or.inl rfl) e0
  have e3_1 := u3 1 _ (by decide) (Or.inl rfl) e1
  exact g0 x2 q2 lv3 e3_0 e3_1 e3_2
theorem r_nt4 {pa : Nat} {m a : Int} (M : RX h0 h H) (e0 : m_lk lv 0 = some (.ref pa)) {lx1 : Int32} (e1 : m_lk lv 1 = some (.int lx1)) (lq1 : lx1.toInt = m) {lx2 : Int32} (e2 : m_lk lv 2 = some (.int lx2)) (lq2 : lx2.toInt = a) (m2 : 2 ≤ m) (m5 : m ≤ 5) (pa0 : -1 ≤ a) (pa3 : a ≤ m - 2) (hk0 : (h_k h0 pa).1 = 4) (ha0 : (h_k h0 (h_r h0 pa 9)).1 = 20) (hl0 : 5 ≤ ((h_k h0 (h_r h0 pa 9)).2 : Int))
    (g0 : a < 0 → HJ 174 31 lv [] h Q)
    (g1 : a ≥ 0 → H (h_r h0 pa 9) (a).toNat ≤ H (h_r h0 pa 9) (a + 1).toNat → HJ 174 31 lv [] h Q)
    (g2 : ∀ x5 : Int32, x5.toInt = a + (-1) → ∀ lv5 : List (Nat × Value), m_lk lv5 0 = some (.ref pa) → m_lk lv5 1 = some (.int lx1) → m_lk lv5 2 = some (.int x5) → a ≥ 0 → H (h_r h0 pa 9) (a).toNat > H (h_r h0 pa 9) (a + 1).toNat → HJ 174 4 lv5 [] h Q)
    : HJ 174 4 lv [] h Q := by
  refine hI_il (k := 2) rfl e2 rfl ?_ -- 4
  refine hM_zlt (off := 26) (t := 31) rfl lq2 (by decide) rfl (fun c5 => ?_) (fun c5 => ?_) -- 5
  · exact g0 c5
  · refine hI_al (k := 0) rfl e0 rfl ?_ -- 8
    refine hR_gr (c := 3) (k := 9) M hk0 rfl rfl rfl rfl ?_ -- 9
    refine hI_il (k := 2) rfl e2 rfl ?_ -- 12
    refine hR_ia M ha0 lq2 (by omega) (by omega) rfl rfl (fun x1 q1 => ?_) -- 13
    have gb1 : -2147483648 ≤ H (h_r h0 pa 9) (a).toNat ∧ H (h_r h0 pa 9) (a).toNat ≤ 2147483647 := by rw [← q1]; exact g_iT _
    refine hI_al (k := 0) rfl e0 rfl ?_ -- 14
    refine hR_gr (c := 3) (k := 9) M hk0 rfl rfl rfl rfl ?_ -- 15
    refine hI_il (k := 2) rfl e2 rfl ?_ -- 18
    refine hM_ic (n := 1) rfl (by decide) rfl (fun x2 q2 => ?_) -- 19
    refine hM_add rfl lq2 q2 (by omega) (by omega) rfl (fun x3 q3 => ?_) -- 20
    refine hR_ia M ha0 q3 (by omega) (by omega) rfl rfl (fun x4 q4 => ?_) -- 21
    have gb4 : -2147483648 ≤ H (h_r h0 pa 9) (a + 1).toNat ∧ H (h_r h0 pa 9) (a + 1).toNat ≤ 2147483647 := by rw [← q4]; exact g_iT _
    refine hM_cle (off := 9) (t := 31) rfl q1 q4 (by decide) rfl (fun c22 => ?_) (fun c22 => ?_) -- 22
    · exact g1 c5 c22
    · refine hM_inc (k := 2) (z := (-1)) rfl e2 lq2 (by decide) (by omega) (by omega) (by decide +kernel) rfl (fun lv5 x5 q5 e5_2 u5 => ?_) -- 25
      have e5_0 := u5 0 _ (by decide) (Or.inl rfl) e0
      have e5_1 := u5 1 _ (by decide) (Or.inl rfl) e1
      refine hI_go (pc' := 4) (off := (-24)) rfl (by decide) ?_ -- 28
      exact g2 x5 q5 lv5 e5_0 e5_1 e5_2 c5 c22
theorem r_nt31 {pa : Nat} {m a : Int} (M : RX h0 h H) (e0 : m_lk lv 0 = some (.ref pa)) {lx1 : Int32} (e1 : m_lk lv 1 = some (.int lx1)) (lq1 : lx1.toInt = m) {lx2 : Int32} (e2 : m_lk lv 2 = some (.int lx2)) (lq2 : lx2.toInt = a) (m2 : 2 ≤ m) (m5 : m ≤ 5) (pa0 : -1 ≤ a) (pa3 : a ≤ m - 2)
    (g0 : ∀ x2 : Int32, x2.toInt = m - 1 → ∀ lv3 : List (Nat × Value), m_lk lv3 0 = some (.ref pa) → m_lk lv3 1 = some (.int lx1) → m_lk lv3 2 = some (.int lx2) → m_lk lv3 3 = some (.int x2) → a ≥ 0 → HJ 174 41 lv3 [] h Q)
    (g1 : ∀ x4 : Int32, x4.toInt = 0 → a < 0 → Q (some (.int x4)) h)
    : HJ 174 31 lv [] h Q := by
  refine hI_il (k := 2) rfl e2 rfl ?_ -- 31
  refine hM_zge (off := 5) (t := 37) rfl lq2 (by decide) rfl (fun c32 => ?_) (fun c32 => ?_) -- 32
  · refine hI_il (k := 1) rfl e1 rfl ?_ -- 37
    refine hM_ic (n := 1) rfl (by decide) rfl (fun x1 q1 => ?_) -- 38
    refine hM_sub rfl lq1 q1 (by omega) (by omega) rfl (fun x2 q2 => ?_) -- 39
    refine hM_si (k := 3) rfl (by decide +kernel) rfl (fun lv3 e3_3 u3 => ?_) -- 40
    have e3_0 := u3 0 _ (by decide) (Or.inl rfl) e0
    have e3_1 := u3 1 _ (by decide) (Or.inl rfl) e1
    have e3_2 := u3 2 _ (by decide) (Or.inl rfl) e2
    exact g0 x2 q2 lv3 e3_0 e3_1 e3_2 e3_3 c32
  · refine hM_ic (n := 0) rfl (by decide) rfl (fun x4 q4 => ?_) -- 35
    refine hM_rb rfl rfl q4 (by omega) (by omega) ?_ -- 36
    exact g1 x4 q4 c32
theorem r_nt41 {pa : Nat} {m a w : Int} (M : RX h0 h H) (e0 : m_lk lv 0 = some (.ref pa)) {lx1 : Int32} (e1 : m_lk lv 1 = some (.int lx1)) (lq1 : lx1.toInt = m) {lx2 : Int32} (e2 : m_lk lv 2 = some (.int lx2)) (lq2 : lx2.toInt = a) {lx3 : Int32} (e3 : m_lk lv 3 = some (.int lx3)) (lq3 : lx3.toInt = w) (m2 : 2 ≤ m) (m5 : m ≤ 5) (pa00 : 0 ≤ a) (pa3 : a ≤ m - 2) (pw0 : a + 1 ≤ w) (pw1 : w ≤ m - 1) (hk0 : (h_k h0 pa).1 = 4) (ha0 : (h_k h0 (h_r h0 pa 9)).1 = 20) (hl0 : 5 ≤ ((h_k h0 (h_r h0 pa 9)).2 : Int))
    (g0 : w ≤ a + 1 → HJ 174 69 lv [] h Q)
    (g1 : w > a + 1 → H (h_r h0 pa 9) (w).toNat ≥ H (h_r h0 pa 9) (a).toNat → HJ 174 69 lv [] h Q)
    (g2 : ∀ x5 : Int32, x5.toInt = w + (-1) → ∀ lv5 : List (Nat × Value), m_lk lv5 0 = some (.ref pa) → m_lk lv5 1 = some (.int lx1) → m_lk lv5 2 = some (.int lx2) → m_lk lv5 3 = some (.int x5) → w > a + 1 → H (h_r h0 pa 9) (w).toNat < H (h_r h0 pa 9) (a).toNat → HJ 174 41 lv5 [] h Q)
    : HJ 174 41 lv [] h Q := by
  refine hI_il (k := 3) rfl e3 rfl ?_ -- 41
  refine hI_il (k := 2) rfl e2 rfl ?_ -- 42
  refine hM_ic (n := 1) rfl (by decide) rfl (fun x1 q1 => ?_) -- 43
  refine hM_add rfl lq2 q1 (by omega) (by omega) rfl (fun x2 q2 => ?_) -- 44
  refine hM_cle (off := 24) (t := 69) rfl lq3 q2 (by decide) rfl (fun c45 => ?_) (fun c45 => ?_) -- 45
  · exact g0 c45
  · refine hI_al (k := 0) rfl e0 rfl ?_ -- 48
    refine hR_gr (c := 3) (k := 9) M hk0 rfl rfl rfl rfl ?_ -- 49
    refine hI_il (k := 3) rfl e3 rfl ?_ -- 52
    refine hR_ia M ha0 lq3 (by omega) (by omega) rfl rfl (fun x3 q3 => ?_) -- 53
    have gb3 : -2147483648 ≤ H (h_r h0 pa 9) (w).toNat ∧ H (h_r h0 pa 9) (w).toNat ≤ 2147483647 := by rw [← q3]; exact g_iT _
    refine hI_al (k := 0) rfl e0 rfl ?_ -- 54
    refine hR_gr (c := 3) (k := 9) M hk0 rfl rfl rfl rfl ?_ -- 55
    refine hI_il (k := 2) rfl e2 rfl ?_ -- 58
    refine hR_ia M ha0 lq2 (by omega) (by omega) rfl rfl (fun x4 q4 => ?_) -- 59
    have gb4 : -2147483648 ≤ H (h_r h0 pa 9) (a).toNat ∧ H (h_r h0 pa 9) (a).toNat ≤ 2147483647 := by rw [← q4]; exact g_iT _
    refine hM_cge (off := 9) (t := 69) rfl q3 q4 (by decide) rfl (fun c60 => ?_) (fun c60 => ?_) -- 60
    · exact g1 c45 c60
    · refine hM_inc (k := 3) (z := (-1)) rfl e3 lq3 (by decide) (by omega) (by omega) (by decide +kernel) rfl (fun lv5 x5 q5 e5_3 u5 => ?_) -- 63
      have e5_0 := u5 0 _ (by decide) (Or.inl rfl) e0
      have e5_1 := u5 1 _ (by decide) (Or.inl rfl) e1
      have e5_2 := u5 2 _ (by decide) (Or.inl rfl) e2
      refine hI_go (pc' := 41) (off := (-25)) rfl (by decide) ?_ -- 66
      exact g2 x5 q5 lv5 e5_0 e5_1 e5_2 e5_3 c45 c60
theorem r_nt69 {pa : Nat} {m a w : Int} (M : RX h0 h H) (e0 : m_lk lv 0 = some (.ref pa)) {lx1 : Int32} (e1 : m_lk lv 1 = some (.int lx1)) (lq1 : lx1.toInt = m) {lx2 : Int32} (e2 : m_lk lv 2 = some (.int lx2)) (lq2 : lx2.toInt = a) {lx3 : Int32} (e3 : m_lk lv 3 = some (.int lx3)) (lq3 : lx3.toInt = w)  (hs0 : 16 ≤ pa) (hk0 : (h_k h0 pa).1 = 4)
    (g0 : HJ 175 0 (lv_args 0 [.ref pa, .int lx2, .int lx3]) [] h (fun v h' => HJ 174 75 lv (v.toList ++ []) h' Q))
    : HJ 174 69 lv [] h Q := by
  refine hI_al (k := 0) rfl e0 rfl ?_ -- 69
  refine hI_il (k := 2) rfl e2 rfl ?_ -- 70
  refine hI_il (k := 3) rfl e3 rfl ?_ -- 71
  refine HJ.call (j := 175) (as := [.ref pa, .int lx2, .int lx3]) (rr := []) (pc' := 75) (m_cR (kc := 3) rfl rfl (by decide +kernel) rfl rfl rfl ⟨rfl, by decide +kernel, by decide +kernel⟩ (by decide) hs0 (by rw [M.2.1]; exact hk0)) (by show 3 ≤ m_lc 175; decide +kernel) ?_ -- 72
  exact g0 
theorem r_nt75 {pa : Nat} {m a : Int} (M : RX h0 h H) (e0 : m_lk lv 0 = some (.ref pa)) {lx1 : Int32} (e1 : m_lk lv 1 = some (.int lx1)) (lq1 : lx1.toInt = m) {lx2 : Int32} (e2 : m_lk lv 2 = some (.int lx2)) (lq2 : lx2.toInt = a) (m2 : 2 ≤ m) (m5 : m ≤ 5) (pa00 : 0 ≤ a) (pa3 : a ≤ m - 2)
    (g0 : ∀ x2 : Int32, x2.toInt = a + 1 → ∀ x5 : Int32, x5.toInt = m - 1 → ∀ lv6 : List (Nat × Value), m_lk lv6 0 = some (.ref pa) → m_lk lv6 1 = some (.int lx1) → m_lk lv6 2 = some (.int lx2) → m_lk lv6 4 = some (.int x2) → m_lk lv6 5 = some (.int x5) → HJ 174 85 lv6 [] h Q)
    : HJ 174 75 lv [] h Q := by
  refine hI_il (k := 2) rfl e2 rfl ?_ -- 75
  refine hM_ic (n := 1) rfl (by decide) rfl (fun x1 q1 => ?_) -- 76
  refine hM_add rfl lq2 q1 (by omega) (by omega) rfl (fun x2 q2 => ?_) -- 77
  refine hM_si2 (k := 4) rfl (by decide +kernel) rfl (fun lv3 e3_4 u3 => ?_) -- 78
  have e3_0 := u3 0 _ (by decide) (Or.inl rfl) e0
  have e3_1 := u3 1 _ (by decide) (Or.inl rfl) e1
  have e3_2 := u3 2 _ (by decide) (Or.inl rfl) e2
  refine hI_il (k := 1) rfl e3_1 rfl ?_ -- 80
  refine hM_ic (n := 1) rfl (by decide) rfl (fun x4 q4 => ?_) -- 81
  refine hM_sub rfl lq1 q4 (by omega) (by omega) rfl (fun x5 q5 => ?_) -- 82
  refine hM_si2 (k := 5) rfl (by decide +kernel) rfl (fun lv6 e6_5 u6 => ?_) -- 83
  have e6_0 := u6 0 _ (by decide) (Or.inl rfl) e3_0
  have e6_1 := u6 1 _ (by decide) (Or.inl rfl) e3_1
  have e6_2 := u6 2 _ (by decide) (Or.inl rfl) e3_2
  have e6_4 := u6 4 _ (by decide) (Or.inl rfl) e3_4
  exact g0 x2 q2 x5 q5 lv6 e6_0 e6_1 e6_2 e6_4 e6_5
theorem r_nt85 {pa : Nat} {m b c : Int} (M : RX h0 h H) (e0 : m_lk lv 0 = some (.ref pa)) {lx1 : Int32} (e1 : m_lk lv 1 = some (.int lx1)) (lq1 : lx1.toInt = m) {lx4 : Int32} (e4 : m_lk lv 4 = some (.int lx4)) (lq4 : lx4.toInt = b) {lx5 : Int32} (e5 : m_lk lv 5 = some (.int lx5)) (lq5 : lx5.toInt = c)  (hs0 : 16 ≤ pa) (hk0 : (h_k h0 pa).1 = 4)
    (g0 : ∀ x1 : Int32, x1.toInt = 1 → b ≥ c → Q (some (.int x1)) h)
    (g1 : b < c → HJ 175 0 (lv_args 0 [.ref pa, .int lx4, .int lx5]) [] h (fun v h' => HJ 174 100 lv (v.toList ++ []) h' Q))
    : HJ 174 85 lv [] h Q := by
  refine hI_il2 (k := 4) rfl e4 rfl ?_ -- 85
  refine hI_il2 (k := 5) rfl e5 rfl ?_ -- 87
  refine hM_cge (off := 20) (t := 109) rfl lq4 lq5 (by decide) rfl (fun c89 => ?_) (fun c89 => ?_) -- 89
  · refine hM_ic (n := 1) rfl (by decide) rfl (fun x1 q1 => ?_) -- 109
    refine hM_rb rfl rfl q1 (by omega) (by omega) ?_ -- 110
    exact g0 x1 q1 c89
  · refine hI_al (k := 0) rfl e0 rfl ?_ -- 92
    refine hI_il2 (k := 4) rfl e4 rfl ?_ -- 93
    refine hI_il2 (k := 5) rfl e5 rfl ?_ -- 95
    refine HJ.call (j := 175) (as := [.ref pa, .int lx4, .int lx5]) (rr := []) (pc' := 100) (m_cR (kc := 3) rfl rfl (by decide +kernel) rfl rfl rfl ⟨rfl, by decide +kernel, by decide +kernel⟩ (by decide) hs0 (by rw [M.2.1]; exact hk0)) (by show 3 ≤ m_lc 175; decide +kernel) ?_ -- 97
    exact g1 c89
theorem r_nt100 {pa : Nat} {m b c : Int} (M : RX h0 h H) (e0 : m_lk lv 0 = some (.ref pa)) {lx1 : Int32} (e1 : m_lk lv 1 = some (.int lx1)) (lq1 : lx1.toInt = m) {lx4 : Int32} (e4 : m_lk lv 4 = some (.int lx4)) (lq4 : lx4.toInt = b) {lx5 : Int32} (e5 : m_lk lv 5 = some (.int lx5)) (lq5 : lx5.toInt = c) (pb0 : 0 ≤ b) (pb4 : b ≤ 4) (pc0 : 0 ≤ c) (pc4 : c ≤ 4)
    (g0 : ∀ x1 : Int32, x1.toInt = b + 1 → ∀ x2 : Int32, x2.toInt = c + (-1) → ∀ lv2 : List (Nat × Value), m_lk lv2 0 = some (.ref pa) → m_lk lv2 1 = some (.int lx1) → m_lk lv2 4 = some (.int x1) → m_lk lv2 5 = some (.int x2) → HJ 174 85 lv2 [] h Q)
    : HJ 174 100 lv [] h Q := by
  refine hM_inc (k := 4) (z := 1) rfl e4 lq4 (by decide) (by omega) (by omega) (by decide +kernel) rfl (fun lv1 x1 q1 e1_4 u1 => ?_) -- 100
  have e1_0 := u1 0 _ (by decide) (Or.inl rfl) e0
  have e1_1 := u1 1 _ (by decide) (Or.inl rfl) e1
  have e1_5 := u1 5 _ (by decide) (Or.inl rfl) e5
  refine hM_inc (k := 5) (z := (-1)) rfl e1_5 lq5 (by decide) (by omega) (by omega) (by decide +kernel) rfl (fun lv2 x2 q2 e2_5 u2 => ?_) -- 103
  have e2_0 := u2 0 _ (by decide) (Or.inl rfl) e1_0
  have e2_1 := u2 1 _ (by decide) (Or.inl rfl) e1_1
  have e2_4 := u2 4 _ (by decide) (Or.inl rfl) e1_4
  refine hI_go (pc' := 85) (off := (-21)) rfl (by decide) ?_ -- 106
  exact g0 x1 q1 x2 q2 lv2 e2_0 e2_1 e2_4 e2_5
theorem k_sw {pa m : Nat} {i j : Int} {xi xj : Int32} (M : RX h0 h H) (tr : tr_ok h0 pa) (m5 : m ≤ 5) (qi : xi.toInt = i) (qj : xj.toInt = j) (i0 : 0 ≤ i) (i1 : i < (m : Int)) (j0 : 0 ≤ j) (j1 : j < (m : Int)) (g : ∀ (h' : MH) (H' : Nat → Nat → Int), RX h0 h' H' → (∀ q, q ≠ h_r h0 pa 9 → H' q = H q) → nt_R m (H (h_r h0 pa 9)) (H' (h_r h0 pa 9)) → Q none h') : HJ 175 0 (lv_args 0 [.ref pa, .int xi, .int xj]) [] h Q := by
  obtain ⟨t1, t2, t3, t4, t5⟩ := tr
  refine r_sw0 M rfl rfl qi rfl qj i0 (by omega) j0 (by omega) t1 t3 t4 t5 (fun h4 H4 f4 h5 H5 f5 _ M5 => g h5 H5 M5 (fun q hq => ?_) ?_)
  · rw [f5, m_uN _ _ _ _ hq, f4, m_uN _ _ _ _ hq]
  · rw [f5, m_uE, f4, m_uE]
    exact nt_Rs (by omega) (by omega)
def nt_Q (h0 : MH) (H : Nat → Nat → Int) (pa m : Nat) (Q : Option Value → MH → Prop) : Prop := ∀ (x : Int32) (h' : MH) (H' : Nat → Nat → Int), x.toInt = 0 ∨ x.toInt = 1 → RX h0 h' H' → (∀ q, q ≠ h_r h0 pa 9 → H' q = H q) → nt_R m (H (h_r h0 pa 9)) (H' (h_r h0 pa 9)) → Q (some (.int x)) h'
theorem l_nt85 {pa m : Nat} {xm : Int32} (tr : tr_ok h0 pa) (m5 : m ≤ 5) (qm : xm.toInt = (m : Int)) (g : nt_Q h0 H pa m Q) : ∀ (d : Nat) (h : MH) (H1 : Nat → Nat → Int) (lv : List (Nat × Value)) (xb xc : Int32) (b c : Int), (c - b).toNat ≤ d → RX h0 h H1 → (∀ q, q ≠ h_r h0 pa 9 → H1 q = H q) → nt_R m (H (h_r h0 pa 9)) (H1 (h_r h0 pa 9)) → xb.toInt = b → xc.toInt = c → 0 ≤ b → b ≤ (m : Int) → c < (m : Int) → m_lk lv 0 = some (.ref pa) → m_lk lv 1 = some (.int xm) → m_lk lv 4 = some (.int xb) → m_lk lv 5 = some (.int xc) → HJ 174 85 lv [] h Q := by
  intro d
  induction d with
  | zero =>
    intro h H1 lv xb xc b c hd M o r qb qc b0 bm cm e0 e1 e4 e5
    exact r_nt85 M e0 e1 qm e4 qb e5 qc tr.2.1 tr.1 (fun x q _ => g x h H1 (Or.inr q) M o r) (fun z => absurd z (by omega))
  | succ d ih =>
    intro h H1 lv xb xc b c hd M o r qb qc b0 bm cm e0 e1 e4 e5
    refine r_nt85 M e0 e1 qm e4 qb e5 qc tr.2.1 tr.1 (fun x q _ => g x h H1 (Or.inr q) M o r) (fun z => ?_)
    refine k_sw (m := m) M tr m5 qb qc b0 (by omega) (by omega) cm (fun h2 H2 M2 o2 r2 => ?_)
    show HJ 174 100 lv [] h2 Q
    refine r_nt100 M2 e0 e1 qm e4 qb e5 qc b0 (by omega) (by omega) (by omega) (fun x1 q1 x2 q2 lv2 a0 a1 a4 a5 => ?_)
    exact ih h2 H2 lv2 x1 x2 (b + 1) (c + (-1)) (by omega) M2 (fun q hq => (o2 q hq).trans (o q hq)) (nt_RT r r2) q1 q2 (by omega) (by omega) (by omega) a0 a1 a4 a5
theorem l_nt41 {pa m : Nat} {xm xa : Int32} {a : Int} (M : RX h0 h H) (tr : tr_ok h0 pa) (m2 : 2 ≤ m) (m5 : m ≤ 5) (qm : xm.toInt = (m : Int)) (qa : xa.toInt = a) (a0 : 0 ≤ a) (a1 : a ≤ (m : Int) - 2) (g : nt_Q h0 H pa m Q) : ∀ (d : Nat) (lv : List (Nat × Value)) (xw : Int32) (w : Int), (w - a).toNat ≤ d → xw.toInt = w → a + 1 ≤ w → w ≤ (m : Int) - 1 → m_lk lv 0 = some (.ref pa) → m_lk lv 1 = some (.int xm) → m_lk lv 2 = some (.int xa) → m_lk lv 3 = some (.int xw) → HJ 174 41 lv [] h Q := by
  have go : ∀ (lv : List (Nat × Value)) (xw : Int32) (w : Int), xw.toInt = w → a + 1 ≤ w → w ≤ (m : Int) - 1 → m_lk lv 0 = some (.ref pa) → m_lk lv 1 = some (.int xm) → m_lk lv 2 = some (.int xa) → m_lk lv 3 = some (.int xw) → HJ 174 69 lv [] h Q := fun lv xw w qw w0 w1 e0 e1 e2 e3 => by
    refine r_nt69 M e0 e1 qm e2 qa e3 qw tr.2.1 tr.1 ?_
    refine k_sw (m := m) M tr m5 qa qw a0 (by omega) (by omega) (by omega) (fun h2 H2 M2 o2 r2 => ?_)
    show HJ 174 75 lv [] h2 Q
    refine r_nt75 M2 e0 e1 qm e2 qa (by omega) (by omega) a0 a1 (fun x2 q2 x5 q5 lv6 b0 b1 _ b4 b5 => ?_)
    exact l_nt85 tr m5 qm g 5 h2 H2 lv6 x2 x5 (a + 1) ((m : Int) - 1) (by omega) M2 o2 r2 q2 q5 (by omega) (by omega) (by omega) b0 b1 b4 b5
  intro d
  induction d with
  | zero => intro lv xw w hd qw w0 w1 e0 e1 e2 e3; omega
  | succ d ih =>
    intro lv xw w hd qw w0 w1 e0 e1 e2 e3
    exact r_nt41 M e0 e1 qm e2 qa e3 qw (by omega) (by omega) a0 a1 w0 w1 tr.1 tr.2.2.1 tr.2.2.2.1 (fun _ => go lv xw w qw w0 w1 e0 e1 e2 e3) (fun _ _ => go lv xw w qw w0 w1 e0 e1 e2 e3) (fun x5 q5 lv5 b0 b1 b2 b3 c _ => ih lv5 x5 (w + (-1)) (by omega) q5 (by omega) (by omega) b0 b1 b2 b3)
theorem l_nt4 {pa m : Nat} {xm : Int32} (M : RX h0 h H) (tr : tr_ok h0 pa) (m2 : 2 ≤ m) (m5 : m ≤ 5) (qm : xm.toInt = (m : Int)) (g : nt_Q h0 H pa m Q) : ∀ (d : Nat) (lv : List (Nat × Value)) (xa : Int32) (a : Int), (a + 1).toNat ≤ d → xa.toInt = a → -1 ≤ a → a ≤ (m : Int) - 2 → m_lk lv 0 = some (.ref pa) → m_lk lv 1 = some (.int xm) → m_lk lv 2 = some (.int xa) → HJ 174 4 lv [] h Q := by
  have go : ∀ (lv : List (Nat × Value)) (xa : Int32) (a : Int), xa.toInt = a → -1 ≤ a → a ≤ (m : Int) - 2 → m_lk lv 0 = some (.ref pa) → m_lk lv 1 = some (.int xm) → m_lk lv 2 = some (.int xa) → HJ 174 31 lv [] h Q := fun lv xa a qa a0 a1 e0 e1 e2 => by
    refine r_nt31 M e0 e1 qm e2 qa (by omega) (by omega) a0 a1 (fun x2 q2 lv3 b0 b1 b2 b3 c => ?_) (fun x q _ => g x h H (Or.inl q) M (fun _ _ => rfl) nt_R0)
    exact l_nt41 M tr m2 m5 qm qa c a1 g 6 lv3 x2 ((m : Int) - 1) (by omega) q2 (by omega) (by omega) b0 b1 b2 b3
  intro d
  induction d with
  | zero =>
    intro lv xa a hd qa a0 a1 e0 e1 e2
    exact r_nt4 M e0 e1 qm e2 qa (by omega) (by omega) a0 a1 tr.1 tr.2.2.1 tr.2.2.2.1 (fun _ => go lv xa a qa a0 a1 e0 e1 e2) (fun c => absurd c (by omega)) (fun _ _ _ _ _ _ c => absurd c (by omega))
  | succ d ih =>
    intro lv xa a hd qa a0 a1 e0 e1 e2
    exact r_nt4 M e0 e1 qm e2 qa (by omega) (by omega) a0 a1 tr.1 tr.2.2.1 tr.2.2.2.1 (fun _ => go lv xa a qa a0 a1 e0 e1 e2) (fun _ _ => go lv xa a qa a0 a1 e0 e1 e2) (fun x5 q5 lv5 b0 b1 b2 c _ => ih lv5 x5 (a + (-1)) (by omega) q5 (by omega) (by omega) b0 b1 b2)
theorem k_nt {pa m : Nat} {xm : Int32} (M : RX h0 h H) (tr : tr_ok h0 pa) (m2 : 2 ≤ m) (m5 : m ≤ 5) (qm : xm.toInt = (m : Int)) (g : nt_Q h0 H pa m Q) : HJ 174 0 (lv_args 0 [.ref pa, .int xm]) [] h Q :=
  r_nt0 M rfl rfl qm (by omega) (by omega) (fun x2 q2 lv3 b0 b1 b2 => l_nt4 M tr m2 m5 qm g 5 lv3 x2 ((m : Int) - 2) (by omega) q2 (by omega) (by omega) b0 b1 b2)
end
