-- AN ACT KEPT, THE CLASS'S
section
variable {lv : List (Nat × Value)} {Q : Option Value → MH → Prop} {h0 h : MH} {H : Nat → Nat → Int}
theorem r_ka0 {pa ac : Nat} {k n : Int} (M : RX h0 h H) (e0 : m_lk lv 0 = some (.ref pa)) (e1 : m_lk lv 1 = some (.ref ac)) {lx2 : Int32} (e2 : m_lk lv 2 = some (.int lx2)) (lq2 : lx2.toInt = k) {lx3 : Int32} (e3 : m_lk lv 3 = some (.int lx3)) (lq3 : lx3.toInt = n)  (hs0 : 16 ≤ ac) (hk0 : (h_k h0 ac).1 = 1)
    (g0 : ∀ x1 : Int32, x1.toInt = 0 → HJ 55 0 (lv_args 0 [.ref ac, .int lx2, .int x1]) [] h (fun v h' => HJ 81 6 lv (v.toList ++ []) h' Q))
    : HJ 81 0 lv [] h Q := by
  refine hI_al (k := 1) rfl e1 rfl ?_ -- 0
  refine hI_il (k := 2) rfl e2 rfl ?_ -- 1
  refine hM_ic (n := 0) rfl (by decide) rfl (fun x1 q1 => ?_) -- 2
  refine HJ.call (j := 55) (as := [.ref ac, .int lx2, .int x1]) (rr := []) (pc' := 6) (m_cR (kc := 0) rfl rfl (by decide +kernel) rfl rfl rfl ⟨rfl, by decide +kernel, by decide +kernel⟩ (by decide) hs0 (by rw [M.2.1]; exact hk0)) (by show 3 ≤ m_lc 55; decide +kernel) ?_ -- 3
  exact g0 x1 q1
theorem r_ka6 {pa ac : Nat} {k n a : Int} (M : RX h0 h H) (e0 : m_lk lv 0 = some (.ref pa)) (e1 : m_lk lv 1 = some (.ref ac)) {lx2 : Int32} (e2 : m_lk lv 2 = some (.int lx2)) (lq2 : lx2.toInt = k) {lx3 : Int32} (e3 : m_lk lv 3 = some (.int lx3)) (lq3 : lx3.toInt = n) {sx0 : Int32} (sq0 : sx0.toInt = a)  (hs0 : 16 ≤ ac) (hk0 : (h_k h0 ac).1 = 1)
    (g0 : ∀ lv1 : List (Nat × Value), m_lk lv1 0 = some (.ref pa) → m_lk lv1 1 = some (.ref ac) → m_lk lv1 2 = some (.int lx2) → m_lk lv1 3 = some (.int lx3) → m_lk lv1 4 = some (.int sx0) → HJ 54 0 (lv_args 0 [.ref ac, .int lx2]) [] h (fun v h' => HJ 81 13 lv1 (v.toList ++ []) h' Q))
    : HJ 81 6 lv [.int sx0] h Q := by
  refine hM_si2 (k := 4) rfl (by decide +kernel) rfl (fun lv1 e1_4 u1 => ?_) -- 6
  have e1_0 := u1 0 _ (by decide) (Or.inl rfl) e0
  have e1_1 := u1 1 _ (by decide) (Or.inl rfl) e1
  have e1_2 := u1 2 _ (by decide) (Or.inl rfl) e2
  have e1_3 := u1 3 _ (by decide) (Or.inl rfl) e3
  refine hI_al (k := 1) rfl e1_1 rfl ?_ -- 8
  refine hI_il (k := 2) rfl e1_2 rfl ?_ -- 9
  refine HJ.call (j := 54) (as := [.ref ac, .int lx2]) (rr := []) (pc' := 13) (m_cR (kc := 0) rfl rfl (by decide +kernel) rfl rfl rfl ⟨rfl, by decide +kernel, by decide +kernel⟩ (by decide) hs0 (by rw [M.2.1]; exact hk0)) (by show 2 ≤ m_lc 54; decide +kernel) ?_ -- 10
  exact g0 lv1 e1_0 e1_1 e1_2 e1_3 e1_4
theorem r_ka13 {pa ac : Nat} {k n a w : Int} (M : RX h0 h H) (e0 : m_lk lv 0 = some (.ref pa)) (e1 : m_lk lv 1 = some (.ref ac)) {lx2 : Int32} (e2 : m_lk lv 2 = some (.int lx2)) (lq2 : lx2.toInt = k) {lx3 : Int32} (e3 : m_lk lv 3 = some (.int lx3)) (lq3 : lx3.toInt = n) {lx4 : Int32} (e4 : m_lk lv 4 = some (.int lx4)) (lq4 : lx4.toInt = a) {sx0 : Int32} (sq0 : sx0.toInt = w)  (hs0 : 16 ≤ ac) (hk0 : (h_k h0 ac).1 = 1)
    (g0 : ∀ x2 : Int32, x2.toInt = (-1) → ∀ lv3 : List (Nat × Value), m_lk lv3 0 = some (.ref pa) → m_lk lv3 1 = some (.ref ac) → m_lk lv3 2 = some (.int lx2) → m_lk lv3 3 = some (.int lx3) → m_lk lv3 4 = some (.int lx4) → m_lk lv3 5 = some (.int x2) → w ≠ 2 → HJ 81 29 lv3 [] h Q)
    (g1 : ∀ x4 : Int32, x4.toInt = 1 → w = 2 → HJ 55 0 (lv_args 0 [.ref ac, .int lx2, .int x4]) [] h (fun v h' => HJ 81 23 lv (v.toList ++ []) h' Q))
    : HJ 81 13 lv [.int sx0] h Q := by
  refine hM_ic (n := 2) rfl (by decide) rfl (fun x1 q1 => ?_) -- 13
  refine hM_cne (off := 12) (t := 26) rfl sq0 q1 (by decide) rfl (fun c14 => ?_) (fun c14 => ?_) -- 14
  · refine hM_ic (n := (-1)) rfl (by decide) rfl (fun x2 q2 => ?_) -- 26
    refine hM_si2 (k := 5) rfl (by decide +kernel) rfl (fun lv3 e3_5 u3 => ?_) -- 27
    have e3_0 := u3 0 _ (by decide) (Or.inl rfl) e0
    have e3_1 := u3 1 _ (by decide) (Or.inl rfl) e1
    have e3_2 := u3 2 _ (by decide) (Or.inl rfl) e2
    have e3_3 := u3 3 _ (by decide) (Or.inl rfl) e3
    have e3_4 := u3 4 _ (by decide) (Or.inl rfl) e4
    exact g0 x2 q2 lv3 e3_0 e3_1 e3_2 e3_3 e3_4 e3_5 c14
  · refine hI_al (k := 1) rfl e1 rfl ?_ -- 17
    refine hI_il (k := 2) rfl e2 rfl ?_ -- 18
    refine hM_ic (n := 1) rfl (by decide) rfl (fun x4 q4 => ?_) -- 19
    refine HJ.call (j := 55) (as := [.ref ac, .int lx2, .int x4]) (rr := []) (pc' := 23) (m_cR (kc := 0) rfl rfl (by decide +kernel) rfl rfl rfl ⟨rfl, by decide +kernel, by decide +kernel⟩ (by decide) hs0 (by rw [M.2.1]; exact hk0)) (by show 3 ≤ m_lc 55; decide +kernel) ?_ -- 20
    exact g1 x4 q4 c14
theorem r_ka23 {pa ac : Nat} {k n a b : Int} (M : RX h0 h H) (e0 : m_lk lv 0 = some (.ref pa)) (e1 : m_lk lv 1 = some (.ref ac)) {lx2 : Int32} (e2 : m_lk lv 2 = some (.int lx2)) (lq2 : lx2.toInt = k) {lx3 : Int32} (e3 : m_lk lv 3 = some (.int lx3)) (lq3 : lx3.toInt = n) {lx4 : Int32} (e4 : m_lk lv 4 = some (.int lx4)) (lq4 : lx4.toInt = a) {sx0 : Int32} (sq0 : sx0.toInt = b) 
    (g0 : ∀ lv1 : List (Nat × Value), m_lk lv1 0 = some (.ref pa) → m_lk lv1 1 = some (.ref ac) → m_lk lv1 2 = some (.int lx2) → m_lk lv1 3 = some (.int lx3) → m_lk lv1 4 = some (.int lx4) → m_lk lv1 5 = some (.int sx0) → HJ 81 29 lv1 [] h Q)
    : HJ 81 23 lv [.int sx0] h Q := by
  refine hI_go (pc' := 27) (off := 4) rfl (by decide) ?_ -- 23
  refine hM_si2 (k := 5) rfl (by decide +kernel) rfl (fun lv1 e1_5 u1 => ?_) -- 27
  have e1_0 := u1 0 _ (by decide) (Or.inl rfl) e0
  have e1_1 := u1 1 _ (by decide) (Or.inl rfl) e1
  have e1_2 := u1 2 _ (by decide) (Or.inl rfl) e2
  have e1_3 := u1 3 _ (by decide) (Or.inl rfl) e3
  have e1_4 := u1 4 _ (by decide) (Or.inl rfl) e4
  exact g0 lv1 e1_0 e1_1 e1_2 e1_3 e1_4 e1_5
theorem r_ka29 {pa ac : Nat} {k n a b : Int} (M : RX h0 h H) (e0 : m_lk lv 0 = some (.ref pa)) (e1 : m_lk lv 1 = some (.ref ac)) {lx2 : Int32} (e2 : m_lk lv 2 = some (.int lx2)) (lq2 : lx2.toInt = k) {lx3 : Int32} (e3 : m_lk lv 3 = some (.int lx3)) (lq3 : lx3.toInt = n) {lx4 : Int32} (e4 : m_lk lv 4 = some (.int lx4)) (lq4 : lx4.toInt = a) {lx5 : Int32} (e5 : m_lk lv 5 = some (.int lx5)) (lq5 : lx5.toInt = b) (pk0 : 0 ≤ k) (pk1 : k ≤ 39) (pn0 : 0 ≤ n) (pn1 : n ≤ 16000) (pm0 : 0 ≤ H (h_r h0 pa 0) 5) (pm1 : H (h_r h0 pa 0) 5 ≤ 16000) (ne4 : AN (h_r h0 pa 4) (pa)) (ne5 : AN (h_r h0 pa 5) (pa)) (neN4 : AN (h_r h0 pa 0) (h_r h0 pa 4)) (neN5 : AN (h_r h0 pa 0) (h_r h0 pa 5)) (ne45 : AN (h_r h0 pa 4) (h_r h0 pa 5)) (hk0 : (h_k h0 pa).1 = 4) (hk1 : (h_k h0 (h_r h0 pa 0)).1 = 3) (ha0 : (h_k h0 (h_r h0 pa 4)).1 = 20) (hl0 : 40 ≤ ((h_k h0 (h_r h0 pa 4)).2 : Int)) (hs0 : 16 ≤ h_r h0 pa 4) (ha1 : (h_k h0 (h_r h0 pa 5)).1 = 20) (hl1 : 40 ≤ ((h_k h0 (h_r h0 pa 5)).2 : Int)) (hs1 : 16 ≤ h_r h0 pa 5) (hs2 : 16 ≤ pa)
    (g0 : ∀ h3 : MH, ∀ H3 : Nat → Nat → Int, H3 = m_u H (h_r h0 pa 4) (m_u (H (h_r h0 pa 4)) (k).toNat ((H (h_r h0 pa 0) 5) - n)) → ∀ h5 : MH, ∀ H5 : Nat → Nat → Int, H5 = m_u H3 (h_r h0 pa 5) (m_u (H3 (h_r h0 pa 5)) (k).toNat (H (h_r h0 pa 0) 6)) → ∀ x6 : Int32, x6.toInt = (H (h_r h0 pa 0) 6) → RX h0 h5 H5 → HJ 50 0 (lv_args 0 [.ref pa]) [] h5 (fun v h' => HJ 81 72 lv (v.toList ++ [.int x6, .int lx2, .ref (h_r h0 pa 6)]) h' Q))
    : HJ 81 29 lv [] h Q := by
  refine hI_al (k := 0) rfl e0 rfl ?_ -- 29
  refine hR_gr (c := 3) (k := 4) M hk0 rfl rfl rfl rfl ?_ -- 30
  refine hI_il (k := 2) rfl e2 rfl ?_ -- 33
  refine hI_al (k := 0) rfl e0 rfl ?_ -- 34
  refine hR_gr (c := 3) (k := 0) M hk0 rfl rfl rfl rfl ?_ -- 35
  refine hR_gi (c := 2) (k := 5) M hk1 rfl rfl rfl rfl (fun x1 q1 => ?_) -- 38
  have gb1 : -2147483648 ≤ H (h_r h0 pa 0) 5 ∧ H (h_r h0 pa 0) 5 ≤ 2147483647 := by rw [← q1]; exact g_iT _
  refine hI_il (k := 3) rfl e3 rfl ?_ -- 41
  refine hM_sub rfl q1 lq3 (by omega) (by omega) rfl (fun x2 q2 => ?_) -- 42
  refine hR_is M hs0 ha0 lq2 q2 (by omega) (by omega) rfl rfl (fun h3 H3 f3 M3 => ?_) -- 43
  refine hI_al (k := 0) rfl e0 rfl ?_ -- 44
  refine hR_gr (c := 3) (k := 5) M3 hk0 rfl rfl rfl rfl ?_ -- 45
  refine hI_il (k := 2) rfl e2 rfl ?_ -- 48
  refine hI_al (k := 0) rfl e0 rfl ?_ -- 49
  refine hR_gr (c := 3) (k := 0) M3 hk0 rfl rfl rfl rfl ?_ -- 50
  refine hR_gi (c := 2) (k := 6) M3 hk1 rfl rfl rfl rfl (fun x4 q4 => ?_) -- 53
  rw [show H3 (h_r h0 pa 0) 6 = H (h_r h0 pa 0) 6 by rw [f3, m_uN _ _ _ _ neN4]] at q4
  have gb4 : -2147483648 ≤ H (h_r h0 pa 0) 6 ∧ H (h_r h0 pa 0) 6 ≤ 2147483647 := by rw [← q4]; exact g_iT _
  refine hR_is M3 hs1 ha1 lq2 q4 (by omega) (by omega) rfl rfl (fun h5 H5 f5 M5 => ?_) -- 56
  refine hI_al (k := 0) rfl e0 rfl ?_ -- 57
  refine hR_gr (c := 3) (k := 6) M5 hk0 rfl rfl rfl rfl ?_ -- 58
  refine hI_il (k := 2) rfl e2 rfl ?_ -- 61
  refine hI_al (k := 0) rfl e0 rfl ?_ -- 62
  refine hR_gr (c := 3) (k := 5) M5 hk0 rfl rfl rfl rfl ?_ -- 63
  refine hI_il (k := 2) rfl e2 rfl ?_ -- 66
  refine hR_ia M5 ha1 lq2 (by omega) (by omega) rfl rfl (fun x6 q6 => ?_) -- 67
  rw [show H5 (h_r h0 pa 5) (k).toNat = (H (h_r h0 pa 0) 6) by rw [f5, m_uE, m_uE]] at q6
  have gb6 : -2147483648 ≤ (H (h_r h0 pa 0) 6) ∧ (H (h_r h0 pa 0) 6) ≤ 2147483647 := by rw [← q6]; exact g_iT _
  refine hI_al (k := 0) rfl e0 rfl ?_ -- 68
  refine HJ.call (j := 50) (as := [.ref pa]) (rr := [.int x6, .int lx2, .ref (h_r h0 pa 6)]) (pc' := 72) (m_cR (kc := 3) rfl rfl (by decide +kernel) rfl rfl rfl ⟨rfl, by decide +kernel, by decide +kernel⟩ (by decide) hs2 (by rw [M5.2.1]; exact hk0)) (by show 1 ≤ m_lc 50; decide +kernel) ?_ -- 69
  exact g0 h3 H3 f3 h5 H5 f5 x6 q6 M5
theorem r_ka72 {pa ac : Nat} {k n a b l s : Int} (M : RX h0 h H) (e0 : m_lk lv 0 = some (.ref pa)) (e1 : m_lk lv 1 = some (.ref ac)) {lx2 : Int32} (e2 : m_lk lv 2 = some (.int lx2)) (lq2 : lx2.toInt = k) {lx3 : Int32} (e3 : m_lk lv 3 = some (.int lx3)) (lq3 : lx3.toInt = n) {lx4 : Int32} (e4 : m_lk lv 4 = some (.int lx4)) (lq4 : lx4.toInt = a) {lx5 : Int32} (e5 : m_lk lv 5 = some (.int lx5)) (lq5 : lx5.toInt = b) {sx1 : Int32} (sq1 : sx1.toInt = k) {sx2 : Int32} (sq2 : sx2.toInt = l) {sx3 : Int32} (sq3 : sx3.toInt = s) 
    (g0 : HJ 82 0 (lv_args 0 [.int sx3]) [] h (fun v h' => HJ 81 75 lv (v.toList ++ [.int sx2, .int sx1, .ref (h_r h0 pa 6)]) h' Q))
    : HJ 81 72 lv [.int sx3, .int sx2, .int sx1, .ref (h_r h0 pa 6)] h Q := by
  refine hM_is0 (as := [.int sx3]) (r := [.int sx2, .int sx1, .ref (h_r h0 pa 6)]) rfl rfl (by decide +kernel) rfl rfl rfl rfl rfl ?_ -- 72
  exact g0 
theorem r_ka75 {pa ac : Nat} {k n a b l c : Int} (M : RX h0 h H) (e0 : m_lk lv 0 = some (.ref pa)) (e1 : m_lk lv 1 = some (.ref ac)) {lx2 : Int32} (e2 : m_lk lv 2 = some (.int lx2)) (lq2 : lx2.toInt = k) {lx3 : Int32} (e3 : m_lk lv 3 = some (.int lx3)) (lq3 : lx3.toInt = n) {lx4 : Int32} (e4 : m_lk lv 4 = some (.int lx4)) (lq4 : lx4.toInt = a) {lx5 : Int32} (e5 : m_lk lv 5 = some (.int lx5)) (lq5 : lx5.toInt = b) {sx1 : Int32} (sq1 : sx1.toInt = k) {sx2 : Int32} (sq2 : sx2.toInt = l) {sx3 : Int32} (sq3 : sx3.toInt = c) (pl0 : 0 ≤ l) (pl1 : l ≤ 16000) (pc0 : 0 ≤ c) (pc1 : c ≤ 6) (hs0 : 16 ≤ pa) (hk0 : (h_k h0 pa).1 = 4)
    (g0 : ∀ x1 : Int32, x1.toInt = l + c → HJ 83 0 (lv_args 0 [.ref pa, .int lx4]) [] h (fun v h' => HJ 81 82 lv (v.toList ++ [.int x1, .int sx1, .ref (h_r h0 pa 6)]) h' Q))
    : HJ 81 75 lv [.int sx3, .int sx2, .int sx1, .ref (h_r h0 pa 6)] h Q := by
  refine hM_add rfl sq2 sq3 (by omega) (by omega) rfl (fun x1 q1 => ?_) -- 75
  refine hI_al (k := 0) rfl e0 rfl ?_ -- 76
  refine hI_il2 (k := 4) rfl e4 rfl ?_ -- 77
  refine HJ.call (j := 83) (as := [.ref pa, .int lx4]) (rr := [.int x1, .int sx1, .ref (h_r h0 pa 6)]) (pc' := 82) (m_cR (kc := 3) rfl rfl (by decide +kernel) rfl rfl rfl ⟨rfl, by decide +kernel, by decide +kernel⟩ (by decide) hs0 (by rw [M.2.1]; exact hk0)) (by show 2 ≤ m_lc 83; decide +kernel) ?_ -- 79
  exact g0 x1 q1
theorem r_ka82 {pa ac : Nat} {k n a b m c : Int} (M : RX h0 h H) (e0 : m_lk lv 0 = some (.ref pa)) (e1 : m_lk lv 1 = some (.ref ac)) {lx2 : Int32} (e2 : m_lk lv 2 = some (.int lx2)) (lq2 : lx2.toInt = k) {lx3 : Int32} (e3 : m_lk lv 3 = some (.int lx3)) (lq3 : lx3.toInt = n) {lx4 : Int32} (e4 : m_lk lv 4 = some (.int lx4)) (lq4 : lx4.toInt = a) {lx5 : Int32} (e5 : m_lk lv 5 = some (.int lx5)) (lq5 : lx5.toInt = b) {sx1 : Int32} (sq1 : sx1.toInt = k) {sx2 : Int32} (sq2 : sx2.toInt = m) {sx3 : Int32} (sq3 : sx3.toInt = c) (pm0 : 0 ≤ m) (pm1 : m ≤ 17000) (pc0 : 0 ≤ c) (pc1 : c ≤ 6) (hs0 : 16 ≤ pa) (hk0 : (h_k h0 pa).1 = 4)
    (g0 : ∀ x1 : Int32, x1.toInt = m - c → HJ 83 0 (lv_args 0 [.ref pa, .int lx5]) [] h (fun v h' => HJ 81 89 lv (v.toList ++ [.int x1, .int sx1, .ref (h_r h0 pa 6)]) h' Q))
    : HJ 81 82 lv [.int sx3, .int sx2, .int sx1, .ref (h_r h0 pa 6)] h Q := by
  refine hM_sub rfl sq2 sq3 (by omega) (by omega) rfl (fun x1 q1 => ?_) -- 82
  refine hI_al (k := 0) rfl e0 rfl ?_ -- 83
  refine hI_il2 (k := 5) rfl e5 rfl ?_ -- 84
  refine HJ.call (j := 83) (as := [.ref pa, .int lx5]) (rr := [.int x1, .int sx1, .ref (h_r h0 pa 6)]) (pc' := 89) (m_cR (kc := 3) rfl rfl (by decide +kernel) rfl rfl rfl ⟨rfl, by decide +kernel, by decide +kernel⟩ (by decide) hs0 (by rw [M.2.1]; exact hk0)) (by show 2 ≤ m_lc 83; decide +kernel) ?_ -- 86
  exact g0 x1 q1
theorem r_ka89 {pa ac : Nat} {k n a b m c : Int} (M : RX h0 h H) (e0 : m_lk lv 0 = some (.ref pa)) (e1 : m_lk lv 1 = some (.ref ac)) {lx2 : Int32} (e2 : m_lk lv 2 = some (.int lx2)) (lq2 : lx2.toInt = k) {lx3 : Int32} (e3 : m_lk lv 3 = some (.int lx3)) (lq3 : lx3.toInt = n) {lx4 : Int32} (e4 : m_lk lv 4 = some (.int lx4)) (lq4 : lx4.toInt = a) {lx5 : Int32} (e5 : m_lk lv 5 = some (.int lx5)) (lq5 : lx5.toInt = b) {sx1 : Int32} (sq1 : sx1.toInt = k) {sx2 : Int32} (sq2 : sx2.toInt = m) {sx3 : Int32} (sq3 : sx3.toInt = c) (pm0 : -10 ≤ m) (pm1 : m ≤ 17000) (pc0 : 0 ≤ c) (pc1 : c ≤ 6) (pk0 : 0 ≤ k) (pk1 : k ≤ 39) (ha0 : (h_k h0 (h_r h0 pa 6)).1 = 20) (hl0 : 40 ≤ ((h_k h0 (h_r h0 pa 6)).2 : Int)) (hs0 : 16 ≤ h_r h0 pa 6) (hk0 : (h_k h0 pa).1 = 4) (hs1 : 16 ≤ pa)
    (g0 : ∀ h2 : MH, ∀ H2 : Nat → Nat → Int, H2 = m_u H (h_r h0 pa 6) (m_u (H (h_r h0 pa 6)) (k).toNat (m - c)) → ∀ h5 : MH, ∀ H5 : Nat → Nat → Int, H5 = m_u H2 pa (m_u (H2 pa) 11 (k + 1)) → RX h0 h5 H5 → HJ 49 0 (lv_args 0 [.ref pa]) [] h5 (fun v h' => HJ 81 102 lv (v.toList ++ []) h' Q))
    : HJ 81 89 lv [.int sx3, .int sx2, .int sx1, .ref (h_r h0 pa 6)] h Q := by
  refine hM_sub rfl sq2 sq3 (by omega) (by omega) rfl (fun x1 q1 => ?_) -- 89
  refine hR_is M hs0 ha0 sq1 q1 (by omega) (by omega) rfl rfl (fun h2 H2 f2 M2 => ?_) -- 90
  refine hI_al (k := 0) rfl e0 rfl ?_ -- 91
  refine hI_il (k := 2) rfl e2 rfl ?_ -- 92
  refine hM_ic (n := 1) rfl (by decide) rfl (fun x3 q3 => ?_) -- 93
  refine hM_add rfl lq2 q3 (by omega) (by omega) rfl (fun x4 q4 => ?_) -- 94
  refine hR_pi (c := 3) (k := 11) M2 hk0 rfl rfl ⟨by decide, by decide +kernel, rfl⟩ q4 rfl (fun h5 H5 f5 M5 => ?_) -- 95
  refine hI_al (k := 0) rfl e0 rfl ?_ -- 98
  refine HJ.call (j := 49) (as := [.ref pa]) (rr := []) (pc' := 102) (m_cR (kc := 3) rfl rfl (by decide +kernel) rfl rfl rfl ⟨rfl, by decide +kernel, by decide +kernel⟩ (by decide) hs1 (by rw [M5.2.1]; exact hk0)) (by show 1 ≤ m_lc 49; decide +kernel) ?_ -- 99
  exact g0 h2 H2 f2 h5 H5 f5 M5
theorem r_ka102 {pa ac : Nat} {k n a b : Int} (M : RX h0 h H) (e0 : m_lk lv 0 = some (.ref pa)) (e1 : m_lk lv 1 = some (.ref ac)) {lx2 : Int32} (e2 : m_lk lv 2 = some (.int lx2)) (lq2 : lx2.toInt = k) {lx3 : Int32} (e3 : m_lk lv 3 = some (.int lx3)) (lq3 : lx3.toInt = n) {lx4 : Int32} (e4 : m_lk lv 4 = some (.int lx4)) (lq4 : lx4.toInt = a) {lx5 : Int32} (e5 : m_lk lv 5 = some (.int lx5)) (lq5 : lx5.toInt = b)  (hk0 : (h_k h0 pa).1 = 4) (hs0 : 16 ≤ h_r h0 pa 1) (hk1 : (h_k h0 (h_r h0 pa 1)).1 = 2)
    (g0 : ∀ x1 : Int32, x1.toInt = H pa 11 → HJ 51 0 (lv_args 0 [.ref (h_r h0 pa 1), .int x1, .int lx4, .int lx5]) [] h (fun v h' => HJ 81 117 lv (v.toList ++ []) h' Q))
    : HJ 81 102 lv [] h Q := by
  refine hI_al (k := 0) rfl e0 rfl ?_ -- 102
  refine hR_gr (c := 3) (k := 1) M hk0 rfl rfl rfl rfl ?_ -- 103
  refine hI_al (k := 0) rfl e0 rfl ?_ -- 106
  refine hR_gi (c := 3) (k := 11) M hk0 rfl rfl rfl rfl (fun x1 q1 => ?_) -- 107
  have gb1 : -2147483648 ≤ H pa 11 ∧ H pa 11 ≤ 2147483647 := by rw [← q1]; exact g_iT _
  refine hI_il2 (k := 4) rfl e4 rfl ?_ -- 110
  refine hI_il2 (k := 5) rfl e5 rfl ?_ -- 112
  refine HJ.call (j := 51) (as := [.ref (h_r h0 pa 1), .int x1, .int lx4, .int lx5]) (rr := []) (pc' := 117) (m_cR (kc := 1) rfl rfl (by decide +kernel) rfl rfl rfl ⟨rfl, by decide +kernel, by decide +kernel⟩ (by decide) hs0 (by rw [M.2.1]; exact hk1)) (by show 4 ≤ m_lc 51; decide +kernel) ?_ -- 114
  exact g0 x1 q1
theorem r_ka117 {pa : Nat} (M : RX h0 h H)  
    (g0 : Q none h)
    : HJ 81 117 lv [] h Q := by
  refine hI_rv rfl rfl ?_
  exact g0 
theorem p_bcL : ∀ n : Nat, n ≤ 63 → p_bc n ≤ 6 := fun n _ => by
  unfold p_bc
  omega
-- from the books on: v, b2 what the act names
theorem k_ka29 {pa ac k : Nat} {Y : RYt} {w_ v a b2 : Int} {X : PSt × (Nat → Int) × Int} {xk xn xv xb : Int32} (ok : pa_ok h pa) (bk : bk_of h pa Y) (O : ry_ok Y k) (k39 : k ≤ 39) (I : cs_of h (z_i h) (h_r h pa 0) X.1) (eh : hp6 (z_i h (h_r h pa 7)) X.2.1) (et : z_i h pa 12 = X.2.2) (nX : ps_n (ry_s Y) ≤ ps_n X.1) (par : -1 ≤ v ∧ v < (ry_v Y : Int)) (parb : -1 ≤ b2 ∧ b2 < (ry_v Y : Int)) (ev : v = (if w_ = 0 then -1 else v)) (eb : b2 = (if w_ = 2 then a else -1)) (qk : xk.toInt = (k : Int)) (qn : xn.toInt = (ps_n (ry_s Y) : Int)) (qv : xv.toInt = v) (qb : xb.toInt = b2) (e0 : m_lk lv 0 = some (.ref pa)) (e1 : m_lk lv 1 = some (.ref ac)) (e2 : m_lk lv 2 = some (.int xk)) (e3 : m_lk lv 3 = some (.int xn)) (e4 : m_lk lv 4 = some (.int xv)) (e5 : m_lk lv 5 = some (.int xb)) (g : ∀ h' : MH, nl_ok h' (h_r h pa 0) → pk_of h' pa (ry_kp (ry_z Y) k w_ v a X) → FX (h_r h pa 0) (run_Y h pa) h h' → (∀ q, q ≠ 11 → z_i h' pa q = z_i h pa q) → Q none h') : HJ 81 29 lv [] h Q := by
  have nx := pa_nx ok
  have c := ok.2.2.2.2.2.2.2
  have b := ok.2.2.2.2.2.2.1
  obtain ⟨⟨⟨P1, P2, P3⟩, P4⟩, B2, B3, B4⟩ := bk
  obtain ⟨O1, ⟨O3, O4, O5, O6⟩, O7⟩ := O
  have i5 : z_i h (h_r h pa 0) 5 = (ps_n X.1 : Int) := I.1
  have i6 : z_i h (h_r h pa 0) 6 = ps_l X.1 := I.2.1
  have i3 := I.2.2.1
  have i4 := I.2.2.2.1
  -- the rows, by name
  have e3_ : pa_w h pa 12 = h_r h pa 3 := rfl
  have e4_ : pa_w h pa 13 = h_r h pa 4 := rfl
  have e5_ : pa_w h pa 14 = h_r h pa 5 := rfl
  have e6_ : pa_w h pa 15 = h_r h pa 6 := rfl
  have e7_ : pa_w h pa 7 = h_r h pa 7 := rfl
  have eC_ : pa_w h pa 11 = h_r h (h_r h pa 0) 0 := rfl
  obtain ⟨m1, m2, -, m4, -⟩ := b 13 (by decide)
  obtain ⟨l1, l2, -, l4, -⟩ := b 14 (by decide)
  obtain ⟨q1, q2, -, q4, -⟩ := b 15 (by decide)
  have n13 : pa_n 13 = 40 := rfl
  have n14 : pa_n 14 = 40 := rfl
  have n15 : pa_n 15 = 40 := rfl
  have p13 := pa_ne ok (i := 13) (by decide)
  have p14 := pa_ne ok (i := 14) (by decide)
  have p15 := pa_ne ok (i := 15) (by decide)
  have d1314 := c 13 14 (by decide) (by decide) (by decide)
  rw [e4_] at m1 m2 m4 p13 d1314
  rw [e5_] at l1 l2 l4 p14 d1314
  rw [e6_] at q1 q2 q4 p15
  have M := RX.start h
  have zl : ∀ {o j : Nat}, (h_i h o j).toInt = z_i h o j := rfl
  refine r_ka29 M e0 e1 e2 qk e3 qn e4 qv e5 qb (by omega) (by omega) (by omega) (by omega) (by rw [zl]; omega) (by rw [zl]; omega) (Ne.symm p13.1) (Ne.symm p14.1) p13.2.1 p14.2.1 d1314 ok.1.1 nx.1.1.1 m1 (by omega) m2 l1 (by omega) l2 ok.1.2.1 (fun h3 H3 f3 h5 H5 f5 x6 q6 M5 => ?_)
  rw [Int.toNat_natCast, zl, i5] at f3
  rw [Int.toNat_natCast, zl, i6] at f5
  rw [zl, i6] at q6
  have f3 : H3 = m_u (z_i h) (h_r h pa 4) (m_u (z_i h (h_r h pa 4)) k ((ps_n X.1 : Int) - (ps_n (ry_s Y) : Int))) := f3
  have o5 : ∀ q, q ≠ h_r h pa 4 → q ≠ h_r h pa 5 → H5 q = z_i h q := fun q h1 h2 => by rw [f5, m_uN _ _ _ _ h2, f3, m_uN _ _ _ _ h1]
  have p11 : H5 pa 11 = (k : Int) := by
    rw [o5 pa p13.1 p14.1]
    omega
  have h7ne : h_r h pa 7 ≠ h_r h pa 4 ∧ h_r h pa 7 ≠ h_r h pa 5 := ⟨c 7 13 (by decide) (by decide) (by decide), c 7 14 (by decide) (by decide) (by decide)⟩
  have s3ne : h_r h pa 3 ≠ h_r h pa 4 ∧ h_r h pa 3 ≠ h_r h pa 5 := ⟨c 12 13 (by decide) (by decide) (by decide), c 12 14 (by decide) (by decide) (by decide)⟩
  have a7 := (pa_ap ok (i := 7) (by decide) (by decide)).1
  have L7 := p_wsL (f := X.2.1) 6
  have e64 : (2 : Nat) ^ 6 = 64 := by decide
  rw [e64] at L7
  have bcL : ∀ f : Nat → Int, p_bc (p_ws f 6) ≤ 6 := fun f => p_bcL _ (by have := p_wsL (f := f) 6; rw [e64] at this; omega)
  have SZ : ∀ u : Nat, u ≤ k → H5 (h_r h pa 3) u = (p_ws (ry_h Y u) 6 : Int) ∧ p_ws (ry_h Y u) 6 ≤ 63 := fun u hu => ⟨by
    rw [o5 _ s3ne.1 s3ne.2]
    exact (P4 u (by omega)).2, by
    have := p_wsL (f := ry_h Y u) 6
    rw [e64] at this
    omega⟩
  have cr : ∀ u : Int, -1 ≤ u → u < (ry_v Y : Int) → (if 0 ≤ u ∧ u ≤ (k : Int) then (p_bc (p_ws (ry_h Y (u.toNat : Int)) 6) : Int) else 0) = cr_of Y u := fun u h0 h1 => by
    unfold cr_of
    by_cases cc : u = -1
    · rw [if_pos cc, if_neg (by omega)]
    · rw [if_neg cc, if_pos (by omega), show ((u.toNat : Nat) : Int) = u by omega]
  have crL : ∀ u : Int, 0 ≤ cr_of Y u ∧ cr_of Y u ≤ 6 := fun u => by
    unfold cr_of
    by_cases cc : u = -1
    · rw [if_pos cc]
      omega
    · rw [if_neg cc]
      have := bcL (ry_h Y u)
      omega
  refine k_hs (f := X.2.1) M5 ok.1.1 a7 (fun q hq => by rw [o5 _ h7ne.1 h7ne.2]; exact eh q hq) (fun xs qs => ?_)
  have bX := bcL X.2.1
  refine r_ka72 M5 e0 e1 e2 qk e3 qn e4 qv e5 qb qk q6 qs (k_bc qs (by omega) (fun xc qc => ?_))
  refine r_ka75 M5 e0 e1 e2 qk e3 qn e4 qv e5 qb qk q6 qc (by omega) (by omega) (by omega) (by omega) ok.1.2.1 ok.1.1 (fun x7 q7 => ?_)
  refine k_credit (sz := fun u => p_ws (ry_h Y u) 6) M5 ok p11 (by omega) SZ qv (fun x8 q8 => ?_)
  have q8 : x8.toInt = cr_of Y v := q8.trans (cr v par.1 par.2)
  have cv := crL v
  refine r_ka82 M5 e0 e1 e2 qk e3 qn e4 qv e5 qb qk q7 q8 (by omega) (by omega) (by omega) (by omega) ok.1.2.1 ok.1.1 (fun x9 q9 => ?_)
  refine k_credit (sz := fun u => p_ws (ry_h Y u) 6) M5 ok p11 (by omega) SZ qb (fun x10 q10 => ?_)
  have q10 : x10.toInt = cr_of Y b2 := q10.trans (cr b2 parb.1 parb.2)
  have cb := crL b2
  refine r_ka89 M5 e0 e1 e2 qk e3 qn e4 qv e5 qb qk q9 q10 (by omega) (by omega) (by omega) (by omega) (by omega) (by omega) q1 (by omega) q2 ok.1.1 ok.1.2.1 (fun h6 H6 f6 h7 H7 f7 M7 => ?_)
  rw [Int.toNat_natCast] at f6
  have o7 : ∀ q, q ≠ pa → q ≠ h_r h pa 6 → H7 q = H5 q := fun q h1 h2 => by rw [f7, m_uN _ _ _ _ h1, f6, m_uN _ _ _ _ h2]
  have p7_11 : H7 pa 11 = ((k + 1 : Nat) : Int) := by
    rw [f7, m_uE, m_uE]
    omega
  have h76 := c 7 15 (by decide) (by decide) (by decide)
  have p7 := (pa_ne ok (i := 7) (by decide)).1
  refine k_keep (f := X.2.1) (s := k + 1) M7 ok p7_11 (by omega) (fun q hq => by rw [o7 (h_r h pa 7) (Ne.symm p7) h76, o5 _ h7ne.1 h7ne.2]; exact eh q hq) (fun h8 H8 M8 o8 r8 s8 => ?_)
  have pr := (pa_ne ok (i := 18 + (k + 1)) (by omega)).1
  have p3 := (pa_ne ok (i := 12) (by decide)).1
  have p8_11 : H8 pa 11 = ((k + 1 : Nat) : Int) := by rw [o8 pa pr p3]; exact p7_11
  obtain ⟨li, lne⟩ := pa_li ok
  refine r_ka102 M8 e0 e1 e2 qk e3 qn e4 qv e5 qb ok.1.1 li.1.2 li.1.1 (fun x11 q11 => ?_)
  rw [p8_11] at q11
  refine k_lines (v := k + 1) M8 li lne q11 (by omega) qv qb (by omega) (by omega) (fun h9 H9 R9 o9 f9 s9 => ?_)
  refine r_ka117 (pa := pa) (RX.start h9) ?_
  -- what each row holds now
  have w : ∀ i, i < 59 → i ≠ 13 → i ≠ 14 → i ≠ 15 → i ≠ 12 → i ≠ 16 → i ≠ 17 → i ≠ 18 + (k + 1) → H9 (pa_w h pa i) = z_i h (pa_w h pa i) := fun i hi h13 h14 h15 h12 h16 h17 h18 => by
    rw [o9 _ (c i 16 hi (by decide) h16) (c i 17 hi (by decide) h17), o8 _ (c i _ hi (by omega) h18) (c i 12 hi (by decide) h12), o7 _ (Ne.symm (pa_ne ok hi).1) (c i 15 hi (by decide) h15), o5 _ (c i 13 hi (by decide) h13) (c i 14 hi (by decide) h14)]
  have ob : ∀ q, (∀ i, i < 59 → q ≠ pa_w h pa i) → q ≠ pa → H9 q = z_i h q := fun q hq hp => by
    rw [o9 _ (hq 16 (by decide)) (hq 17 (by decide)), o8 _ (hq _ (by omega)) (hq 12 (by decide)), o7 _ hp (hq 15 (by decide)), o5 _ (hq 13 (by decide)) (hq 14 (by decide))]
  have wnd : H9 (h_r h pa 0) = z_i h (h_r h pa 0) := ob _ (fun i hi => (pa_ne ok hi).2.1) (Ne.symm (pa_ne ok (i := 0) (by decide)).2.2.2.1)
  have wpa : H9 pa = m_u (z_i h pa) 11 ((k : Int) + 1) := by
    rw [o9 _ ((pa_ne ok (i := 16) (by decide)).1) ((pa_ne ok (i := 17) (by decide)).1), o8 pa pr p3, f7, m_uE, f6, m_uN _ _ _ _ p15.1, o5 pa p13.1 p14.1]
  have w13 : H9 (h_r h pa 4) = m_u (z_i h (h_r h pa 4)) k ((ps_n X.1 : Int) - (ps_n (ry_s Y) : Int)) := by
    rw [o9 (h_r h pa 4) (c 13 16 (by decide) (by decide) (by decide)) (c 13 17 (by decide) (by decide) (by decide)), o8 (h_r h pa 4) (c 13 _ (by decide) (by omega) (by omega)) (c 13 12 (by decide) (by decide) (by decide)), o7 (h_r h pa 4) (Ne.symm p13.1) (c 13 15 (by decide) (by decide) (by decide)), f5, m_uN _ _ _ _ d1314, f3, m_uE]
  have w14 : H9 (h_r h pa 5) = m_u (z_i h (h_r h pa 5)) k (ps_l X.1) := by
    rw [o9 (h_r h pa 5) (c 14 16 (by decide) (by decide) (by decide)) (c 14 17 (by decide) (by decide) (by decide)), o8 (h_r h pa 5) (c 14 _ (by decide) (by omega) (by omega)) (c 14 12 (by decide) (by decide) (by decide)), o7 (h_r h pa 5) (Ne.symm p14.1) (c 14 15 (by decide) (by decide) (by decide)), f5, m_uE, f3, m_uN _ _ _ _ (Ne.symm d1314)]
  have w15 : H9 (h_r h pa 6) = m_u (z_i h (h_r h pa 6)) k (ps_l X.1 + (p_bc (p_ws X.2.1 6) : Int) - cr_of Y v - cr_of Y b2) := by
    rw [o9 (h_r h pa 6) (c 15 16 (by decide) (by decide) (by decide)) (c 15 17 (by decide) (by decide) (by decide)), o8 (h_r h pa 6) (c 15 _ (by decide) (by omega) (by omega)) (c 15 12 (by decide) (by decide) (by decide)), f7, m_uN _ _ _ _ (Ne.symm p15.1), f6, m_uE, o5 (h_r h pa 6) (c 15 13 (by decide) (by decide) (by decide)) (c 15 14 (by decide) (by decide) (by decide))]
  have w12 : H9 (h_r h pa 3) = m_u (z_i h (h_r h pa 3)) (k + 1) (p_ws X.2.1 6 : Int) := by
    rw [o9 (h_r h pa 3) (c 12 16 (by decide) (by decide) (by decide)) (c 12 17 (by decide) (by decide) (by decide)), s8, o7 (h_r h pa 3) (Ne.symm p3) (c 12 15 (by decide) (by decide) (by decide)), o5 (h_r h pa 3) s3ne.1 s3ne.2]
  have w16 : H9 (h_r h (h_r h pa 1) 0) = m_u (z_i h (h_r h (h_r h pa 1) 0)) (k + 1) v := by
    rw [f9, o8 (h_r h (h_r h pa 1) 0) (c 16 _ (by decide) (by omega) (by omega)) (c 16 12 (by decide) (by decide) (by decide)), o7 (h_r h (h_r h pa 1) 0) (Ne.symm (pa_ne ok (i := 16) (by decide)).1) (c 16 15 (by decide) (by decide) (by decide)), o5 (h_r h (h_r h pa 1) 0) (c 16 13 (by decide) (by decide) (by decide)) (c 16 14 (by decide) (by decide) (by decide))]
  have w17 : H9 (h_r h (h_r h pa 1) 1) = m_u (z_i h (h_r h (h_r h pa 1) 1)) (k + 1) b2 := by
    rw [s9, o8 (h_r h (h_r h pa 1) 1) (c 17 _ (by decide) (by omega) (by omega)) (c 17 12 (by decide) (by decide) (by decide)), o7 (h_r h (h_r h pa 1) 1) (Ne.symm (pa_ne ok (i := 17) (by decide)).1) (c 17 15 (by decide) (by decide) (by decide)), o5 (h_r h (h_r h pa 1) 1) (c 17 13 (by decide) (by decide) (by decide)) (c 17 14 (by decide) (by decide) (by decide))]
  have w18 : hp6 (H9 (pa_w h pa (18 + (k + 1)))) X.2.1 := fun q hq => by
    rw [o9 _ (c _ 16 (by omega) (by decide) (by omega)) (c _ 17 (by omega) (by decide) (by omega))]
    exact r8 q hq
  have rr : h_r h9 = h_r h := R9.2.2.1
  have zz : ∀ a j, z_i h9 a j = H9 a j := R9.2.2.2.2
  have ww : ∀ i, pa_w h9 pa i = pa_w h pa i := fun i => by
    unfold pa_w
    rw [rr]
  have ok9 : nl_ok h9 (h_r h pa 0) := nl_RL ok.2.1 R9 (by rw [wnd])
  obtain ⟨fr1, fr2, fr3, fr4, fr5⟩ := pa_fr ok
  have vk : ry_v Y = k + 1 := O3
  have Yv : ry_v (ry_kp (ry_z Y) k w_ v a X) = ry_v Y + 1 := rfl
  refine g h9 ok9 ⟨?_, ?_, ⟨⟨⟨?_, ?_, ?_⟩, fun u hu => ?_⟩, fun q hq => ?_, fun u hu => ?_, fun u hu => ?_⟩⟩ (FX.ofRL R9 (by rw [wnd]) (fun j => ?_) (fun q hq => ⟨fun j => ?_, fun j => ?_⟩)) (fun q hq => ?_)
  · rw [rr]
    exact cs_mv I (by rw [zz, wnd]) (by rw [zz, wnd]) (fun q _ => by rw [rr, zz, ← eC_, w 11 (by decide) (by decide) (by decide) (by decide) (by decide) (by decide) (by decide) (by omega)])
  · rw [zz, wpa, m_uN _ _ _ _ (by decide)]
    exact et
  · rw [zz, wpa, m_uE]
    show (k : Int) + 1 + 1 = ((ry_v Y + 1 : Nat) : Int)
    omega
  · show 1 ≤ ry_v Y + 1
    omega
  · show ry_v Y + 1 ≤ 41
    omega
  · have hu : u < ry_v Y + 1 := hu
    by_cases cu : u = k + 1
    · subst cu
      refine ⟨fun q hq => ?_, ?_⟩
      · rw [ww, zz, w18 q hq]
        have := ry_kpN (Y := Y) (k := k) (w := w_) (v := v) (a := a) (X := X) q hq
        rw [vk] at this
        exact this.symm
      · rw [rr, zz, w12, m_uE]
        have := p_wsH (ry_kpN (Y := Y) (k := k) (w := w_) (v := v) (a := a) (X := X))
        rw [vk] at this
        rw [this]
    · refine ⟨fun q hq => ?_, ?_⟩
      · rw [ww, zz, w (18 + u) (by omega) (by omega) (by omega) (by omega) (by omega) (by omega) (by omega) (by omega), ry_kpH (by omega) q hq]
        exact (P4 u (by omega)).1 q hq
      · rw [rr, zz, w12, m_uN _ _ _ _ cu, p_wsH (ry_kpH (by omega))]
        exact (P4 u (by omega)).2
  · have hq : q + 1 < ry_v Y + 1 := hq
    rw [rr, zz, zz, zz, w13, w14, w15]
    by_cases cq : q = k
    · subst cq
      rw [m_uE, m_uE, m_uE]
      refine ⟨(m_uE _ _ _).symm, (m_uE _ _ _).symm, ?_⟩
      unfold ry_pd
      have g1 : ry_l (ry_kp (ry_z Y) q w_ v a X) q = ps_l X.1 := m_uE _ _ _
      have g2 : ry_a (ry_kp (ry_z Y) q w_ v a X) (q + 1) = v := by
        rw [← vk]
        refine (m_uE _ _ _).trans ev.symm
      have g3 : ry_b (ry_kp (ry_z Y) q w_ v a X) (q + 1) = b2 := by
        rw [← vk]
        refine (m_uE _ _ _).trans eb.symm
      have g4 := p_wsH (ry_kpN (Y := Y) (k := q) (w := w_) (v := v) (a := a) (X := X))
      rw [vk] at g4
      rw [g1, g2, g3, g4, cr_kp par.1 par.2, cr_kp parb.1 parb.2]
    · rw [m_uN _ _ _ _ cq, m_uN _ _ _ _ cq, m_uN _ _ _ _ cq]
      obtain ⟨t1, t2, t3⟩ := B2 q (by omega)
      refine ⟨t1.trans (m_uN _ _ _ _ cq).symm, t2.trans (m_uN _ _ _ _ cq).symm, t3.trans (pd_kp ⟨O1, ⟨O3, O4, O5, O6⟩, O7⟩ (by omega)).symm⟩
  · have hu : u < ry_v Y + 1 := hu
    rw [rr, zz, zz, w16, w17]
    show _ = m_u (ry_a Y) (ry_v Y) (if w_ = 0 then -1 else v) u ∧ _ = m_u (ry_b Y) (ry_v Y) (if w_ = 2 then a else -1) u
    rw [vk]
    by_cases cu : u = k + 1
    · rw [cu, m_uE, m_uE, m_uE, m_uE]
      exact ⟨ev, eb⟩
    · rw [m_uN _ _ _ _ cu, m_uN _ _ _ _ cu, m_uN _ _ _ _ cu, m_uN _ _ _ _ cu]
      exact B3 u (by omega)
  · have hu : u < ry_v Y + 1 := hu
    have eL : ∀ j, h_l h9 (h_r h9 (h_r h9 pa 1) 2) j = if j = k + 1 then bt ((k + 1 : Nat) : Int) ||| fo_of (h_l h (h_r h (h_r h pa 1) 2)) v ||| fo_of (h_l h (h_r h (h_r h pa 1) 2)) b2 else h_l h (h_r h (h_r h pa 1) 2) j := fun j => by
      rw [rr]
      refine (R9.2.2.2.1 _ j).trans ?_
      show (if h_r h (h_r h pa 1) 2 = h_r h (h_r h pa 1) 2 ∧ j = k + 1 then _ else _) = _
      by_cases cj : j = k + 1
      · rw [if_pos ⟨rfl, cj⟩, if_pos cj]
      · rw [if_neg (fun z => cj z.2), if_neg cj]
    have eF : ∀ x : Int, x < ((k + 1 : Nat) : Int) → fo_of (h_l h9 (h_r h9 (h_r h9 pa 1) 2)) x = fo_of (h_l h (h_r h (h_r h pa 1) 2)) x := fun x hx => by
      unfold fo_of
      by_cases cx : 0 ≤ x ∧ x < 41
      · rw [if_pos cx, if_pos cx, eL, if_neg (by omega)]
      · rw [if_neg cx, if_neg cx]
    show h_l h9 (h_r h9 (h_r h9 pa 1) 2) u = bt u ||| fo_of (h_l h9 (h_r h9 (h_r h9 pa 1) 2)) (m_u (ry_a Y) (ry_v Y) (if w_ = 0 then -1 else v) u) ||| fo_of (h_l h9 (h_r h9 (h_r h9 pa 1) 2)) (m_u (ry_b Y) (ry_v Y) (if w_ = 2 then a else -1) u)
    rw [vk, ← ev, ← eb]
    by_cases cu : u = k + 1
    · rw [cu, m_uE, m_uE, eF v (by omega), eF b2 (by omega), eL, if_pos rfl]
    · rw [m_uN _ _ _ _ cu, m_uN _ _ _ _ cu]
      obtain ⟨⟨-, u1⟩, -, u2⟩ := O7 u (by omega)
      rw [eF _ (by omega), eF _ (by omega), eL, if_neg cu]
      exact B4 u (by omega)
  · show (if h_r h (h_r h pa 0) 1 = h_r h (h_r h pa 1) 2 ∧ j = k + 1 then _ else _) = _
    rw [if_neg (fun z => fr5 z.1.symm)]
  · have nY : ¬ run_Y h pa q := fun z => hq (Or.inr (Or.inr (Or.inr z)))
    rw [ob q (fun i hi z => nY (Or.inr (Or.inr (Or.inl ⟨i, hi, z⟩)))) (fun z => nY (Or.inl z))]
  · have nY : ¬ run_Y h pa q := fun z => hq (Or.inr (Or.inr (Or.inr z)))
    show (if q = h_r h (h_r h pa 1) 2 ∧ j = k + 1 then _ else h_l h q j) = _
    rw [if_neg (fun z => nY (Or.inr (Or.inr (Or.inr z.1))))]
  · rw [zz, wpa, m_uN _ _ _ _ hq]
end
