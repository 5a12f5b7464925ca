-- A FOLD, MADE AND DROPPED AGAIN
def fd_run (Y : RYt) (S : PSt) (t : Nat → Int) : Nat → PSt × (Nat → Int)
  | 0 => (S, ry_h Y (t 0))
  | i + 1 => if ry_is Y (t (i + 1)) = true ∧ p_ws (fd_run Y S t i).2 6 + p_ws (ry_h Y (t (i + 1))) 6 ≤ 63 then pm_md (fd_run Y S t i).1 (fd_run Y S t i).2 (ry_h Y (t (i + 1))) else fd_run Y S t i
theorem fd_I {Y : RYt} {S : PSt} {t : Nat → Int} (sh : ps_sh S) (hs : ∀ u : Nat, u < ry_v Y → hp_in S (ry_h Y u)) (t0 : 0 ≤ t 0 ∧ t 0 < (ry_v Y : Int)) : ∀ i, ps_sh (fd_run Y S t i).1 ∧ hp_in (fd_run Y S t i).1 (fd_run Y S t i).2 ∧ ps_ex S (fd_run Y S t i).1 ∧ ps_n (fd_run Y S t i).1 ≤ ps_n S + 6 * i
  | 0 => ⟨sh, by
    show hp_in S (ry_h Y (t 0))
    rw [ry_hv t0.1]
    exact hs _ (by omega), ps_ex0, Nat.le_refl _⟩
  | i + 1 => by
    obtain ⟨k1, k2, k3, k4⟩ := fd_I sh hs t0 i
    rw [fd_run]
    split
    · next c =>
      obtain ⟨v0, v1⟩ := ry_isV c.1
      have hv : hp_in (fd_run Y S t i).1 (ry_h Y (t (i + 1))) := by
        rw [ry_hv v0]
        exact hp_inE k3 (hs _ (by omega))
      obtain ⟨m1, m2, m3, m4, -⟩ := pm_mdI k1 k2 hv c.2
      exact ⟨m1, m2, ps_exT k3 m3, by omega⟩
    · exact ⟨k1, k2, k3, by omega⟩
def tb_ok (h : MH) (pa r : Nat) : Prop := ((h_k h r).1 = 20 ∧ 16 ≤ r ∧ r < 16 + h_n h ∧ 5 ≤ (h_k h r).2 ∧ (h_k h r).2 ≤ 1000000) ∧ ∀ i, i < 59 → r ≠ pa_w h pa i
-- what an act may change is the same places, later
theorem py_FX {h h' : MH} {pa a : Nat} {Y : Nat → Prop} (ok : pa_ok h pa) (o' : nl_ok h' (h_r h pa 0)) (F : FX (h_r h pa 0) Y h h') (z : py_Y h' pa a) : py_Y h pa a := by
  obtain ⟨-, re, rw_⟩ := pa_FX ok o' F
  have e4 : h_r h' (h_r h pa 0) 4 = h_r h (h_r h pa 0) 4 := (F.2.2 _ ok.2.1.1.2.2).2.1 4 (by omega)
  rcases z with z | z | ⟨i, hi, z⟩
  · exact Or.inl z
  · rw [re, e4] at z
    exact Or.inr (Or.inl z)
  · rw [rw_ i (by omega) (by omega)] at z
    exact Or.inr (Or.inr ⟨i, hi, z⟩)
theorem tb_kp {h h' : MH} {pa r : Nat} (ok : pa_ok h pa) (tb : tb_ok h pa r) (F : FX (h_r h pa 0) (py_Y h pa) h h') (j : Nat) : z_i h' r j = z_i h r j := by
  obtain ⟨⟨k1, k2, k3, -⟩, k5⟩ := tb
  have n := ok.2.1
  refine ((F.2.2 r k3).2.2 (fun z => ?_)).1 j
  rcases z with z | z | z | z | z | ⟨i, hi, z⟩
  · rw [z, n.1.1] at k1
    omega
  · exact k5 11 (by decide) z
  · rw [z, n.2.2.1.1] at k1
    omega
  · rw [z, ok.1.1] at k1
    omega
  · rw [z, ok.2.2.1.1] at k1
    omega
  · exact k5 i (by omega) z
theorem tb_FX {h h' : MH} {pa r : Nat} (ok : pa_ok h pa) (o' : nl_ok h' (h_r h pa 0)) (tb : tb_ok h pa r) (F : FX (h_r h pa 0) (py_Y h pa) h h') : tb_ok h' pa r := by
  obtain ⟨⟨k1, k2, k3, k4, k6⟩, k5⟩ := tb
  obtain ⟨ok', re, rw_⟩ := pa_FX ok o' F
  have kk := (F.2.2 r k3).1
  have N := F.1
  refine ⟨⟨by rw [kk]; exact k1, k2, by omega, by rw [kk]; exact k4, by rw [kk]; exact k6⟩, fun i hi => ?_⟩
  by_cases e : i = 11
  · subst e
    have w : pa_w h' pa 11 = h_r h' (h_r h pa 0) 0 := by
      show h_r h' (h_r h' pa 0) 0 = _
      rw [re]
    rw [w]
    rcases F.2.1.1 0 (by decide) with z | z
    · rw [z]
      exact k5 11 hi
    · omega
  · rw [rw_ i hi e]
    exact k5 i hi
def fm_I (h : MH) (pa : Nat) (Y : RYt) (S : PSt) (t : Nat → Int) (i : Nat) (h' : MH) : Prop := nl_ok h' (h_r h pa 0) ∧ FX (h_r h pa 0) (py_Y h pa) h h' ∧ cs_of h' (z_i h') (h_r h pa 0) (fd_run Y S t i).1 ∧ hp6 (z_i h' (h_r h pa 7)) (fd_run Y S t i).2 ∧ ∀ q, z_i h' pa q = z_i h pa q
section
variable {lv : List (Nat × Value)} {Q : Option Value → MH → Prop} {h0 h : MH} {H : Nat → Nat → Int}
theorem r_fm0 {pa : Nat} {m : Int} (M : RX h0 h H) (e0 : m_lk lv 0 = some (.ref pa)) {lx1 : Int32} (e1 : m_lk lv 1 = some (.int lx1)) (lq1 : lx1.toInt = m)  (hk0 : (h_k h0 pa).1 = 4) (hk1 : (h_k h0 (h_r h0 pa 0)).1 = 3) (ha0 : (h_k h0 (h_r h0 pa 9)).1 = 20) (hl0 : 5 ≤ ((h_k h0 (h_r h0 pa 9)).2 : Int)) (hs0 : 16 ≤ pa)
    (g0 : ∀ x1 : Int32, x1.toInt = H (h_r h0 pa 0) 5 → ∀ x4 : Int32, x4.toInt = H (h_r h0 pa 9) (0 : Int).toNat → ∀ lv2 : List (Nat × Value), m_lk lv2 0 = some (.ref pa) → m_lk lv2 1 = some (.int lx1) → m_lk lv2 2 = some (.int x1) → HJ 58 0 (lv_args 0 [.ref pa, .int x4, .ref (h_r h0 pa 7)]) [] h (fun v h' => HJ 173 22 lv2 (v.toList ++ []) h' Q))
    : HJ 173 0 lv [] h Q := by
  refine hI_al (k := 0) rfl e0 rfl ?_ -- 0
  refine hR_gr (c := 3) (k := 0) M hk0 rfl rfl rfl rfl ?_ -- 1
  refine hR_gi (c := 2) (k := 5) M hk1 rfl rfl rfl rfl (fun x1 q1 => ?_) -- 4
  have gb1 : -2147483648 ≤ H (h_r h0 pa 0) 5 ∧ H (h_r h0 pa 0) 5 ≤ 2147483647 := by rw [← q1]; exact g_iT _
  refine hM_si (k := 2) rfl (by decide +kernel) rfl (fun lv2 e2_2 u2 => ?_) -- 7
  have e2_0 := u2 0 _ (by decide) (Or.inl rfl) e0
  have e2_1 := u2 1 _ (by decide) (Or.inl rfl) e1
  refine hI_al (k := 0) rfl e2_0 rfl ?_ -- 8
  refine hI_al (k := 0) rfl e2_0 rfl ?_ -- 9
  refine hR_gr (c := 3) (k := 9) M hk0 rfl rfl rfl rfl ?_ -- 10
  refine hM_ic (n := 0) rfl (by decide) rfl (fun x3 q3 => ?_) -- 13
  refine hR_ia M ha0 q3 (by omega) (by omega) rfl rfl (fun x4 q4 => ?_) -- 14
  have gb4 : -2147483648 ≤ H (h_r h0 pa 9) (0 : Int).toNat ∧ H (h_r h0 pa 9) (0 : Int).toNat ≤ 2147483647 := by rw [← q4]; exact g_iT _
  refine hI_al (k := 0) rfl e2_0 rfl ?_ -- 15
  refine hR_gr (c := 3) (k := 7) M hk0 rfl rfl rfl rfl ?_ -- 16
  refine HJ.call (j := 58) (as := [.ref pa, .int x4, .ref (h_r h0 pa 7)]) (rr := []) (pc' := 22) (m_cR (kc := 3) rfl rfl (by decide +kernel) rfl rfl rfl ⟨rfl, by decide +kernel, by decide +kernel⟩ (by decide) hs0 (by rw [M.2.1]; exact hk0)) (by show 3 ≤ m_lc 58; decide +kernel) ?_ -- 19
  exact g0 x1 q1 x4 q4 lv2 e2_0 e2_1 e2_2
theorem r_fm22 {pa : Nat} {m n : Int} (M : RX h0 h H) (e0 : m_lk lv 0 = some (.ref pa)) {lx1 : Int32} (e1 : m_lk lv 1 = some (.int lx1)) (lq1 : lx1.toInt = m) {lx2 : Int32} (e2 : m_lk lv 2 = some (.int lx2)) (lq2 : lx2.toInt = n) 
    (g0 : ∀ x1 : Int32, x1.toInt = 1 → ∀ lv2 : List (Nat × Value), m_lk lv2 0 = some (.ref pa) → m_lk lv2 1 = some (.int lx1) → m_lk lv2 2 = some (.int lx2) → m_lk lv2 3 = some (.int x1) → HJ 173 24 lv2 [] h Q)
    : HJ 173 22 lv [] h Q := by
  refine hM_ic (n := 1) rfl (by decide) rfl (fun x1 q1 => ?_) -- 22
  refine hM_si (k := 3) rfl (by decide +kernel) rfl (fun lv2 e2_3 u2 => ?_) -- 23
  have e2_0 := u2 0 _ (by decide) (Or.inl rfl) e0
  have e2_1 := u2 1 _ (by decide) (Or.inl rfl) e1
  have e2_2 := u2 2 _ (by decide) (Or.inl rfl) e2
  exact g0 x1 q1 lv2 e2_0 e2_1 e2_2 e2_3
theorem r_fm24 {pa : Nat} {m n i : Int} (M : RX h0 h H) (e0 : m_lk lv 0 = some (.ref pa)) {lx1 : Int32} (e1 : m_lk lv 1 = some (.int lx1)) (lq1 : lx1.toInt = m) {lx2 : Int32} (e2 : m_lk lv 2 = some (.int lx2)) (lq2 : lx2.toInt = n) {lx3 : Int32} (e3 : m_lk lv 3 = some (.int lx3)) (lq3 : lx3.toInt = i) (pi0 : 0 ≤ i) (pm5 : m ≤ 5) (hk0 : (h_k h0 pa).1 = 4) (ha0 : (h_k h0 (h_r h0 pa 9)).1 = 20) (hl0 : 5 ≤ ((h_k h0 (h_r h0 pa 9)).2 : Int)) (hs0 : 16 ≤ pa)
    (g0 : i ≥ m → HJ 173 46 lv [] h Q)
    (g1 : ∀ x1 : Int32, x1.toInt = H (h_r h0 pa 9) (i).toNat → i < m → HJ 70 0 (lv_args 0 [.ref pa, .int x1]) [] h (fun v h' => HJ 173 39 lv (v.toList ++ []) h' Q))
    : HJ 173 24 lv [] h Q := by
  refine hI_il (k := 3) rfl e3 rfl ?_ -- 24
  refine hI_il (k := 1) rfl e1 rfl ?_ -- 25
  refine hM_cge (off := 20) (t := 46) rfl lq3 lq1 (by decide) rfl (fun c26 => ?_) (fun c26 => ?_) -- 26
  · exact g0 c26
  · refine hI_al (k := 0) rfl e0 rfl ?_ -- 29
    refine hI_al (k := 0) rfl e0 rfl ?_ -- 30
    refine hR_gr (c := 3) (k := 9) M hk0 rfl rfl rfl rfl ?_ -- 31
    refine hI_il (k := 3) rfl e3 rfl ?_ -- 34
    refine hR_ia M ha0 lq3 (by omega) (by omega) rfl rfl (fun x1 q1 => ?_) -- 35
    have gb1 : -2147483648 ≤ H (h_r h0 pa 9) (i).toNat ∧ H (h_r h0 pa 9) (i).toNat ≤ 2147483647 := by rw [← q1]; exact g_iT _
    refine HJ.call (j := 70) (as := [.ref pa, .int x1]) (rr := []) (pc' := 39) (m_cR (kc := 3) rfl rfl (by decide +kernel) rfl rfl rfl ⟨rfl, by decide +kernel, by decide +kernel⟩ (by decide) hs0 (by rw [M.2.1]; exact hk0)) (by show 2 ≤ m_lc 70; decide +kernel) ?_ -- 36
    exact g1 x1 q1 c26
theorem r_fm39 {pa : Nat} {m n i z : Int} (M : RX h0 h H) (e0 : m_lk lv 0 = some (.ref pa)) {lx1 : Int32} (e1 : m_lk lv 1 = some (.int lx1)) (lq1 : lx1.toInt = m) {lx2 : Int32} (e2 : m_lk lv 2 = some (.int lx2)) (lq2 : lx2.toInt = n) {lx3 : Int32} (e3 : m_lk lv 3 = some (.int lx3)) (lq3 : lx3.toInt = i) {sx0 : Int32} (sq0 : sx0.toInt = z) (pi0 : 0 ≤ i) (pi5 : i ≤ 4)
    (g0 : ∀ x1 : Int32, x1.toInt = i + 1 → ∀ lv1 : List (Nat × Value), m_lk lv1 0 = some (.ref pa) → m_lk lv1 1 = some (.int lx1) → m_lk lv1 2 = some (.int lx2) → m_lk lv1 3 = some (.int x1) → HJ 173 24 lv1 [] h Q)
    : HJ 173 39 lv [.int sx0] h Q := by
  refine hI_pop rfl rfl rfl ?_ -- 39
  refine hM_inc (k := 3) (z := 1) rfl e3 lq3 (by decide) (by omega) (by omega) (by decide +kernel) rfl (fun lv1 x1 q1 e1_3 u1 => ?_) -- 40
  have e1_0 := u1 0 _ (by decide) (Or.inl rfl) e0
  have e1_1 := u1 1 _ (by decide) (Or.inl rfl) e1
  have e1_2 := u1 2 _ (by decide) (Or.inl rfl) e2
  refine hI_go (pc' := 24) (off := (-19)) rfl (by decide) ?_ -- 43
  exact g0 x1 q1 lv1 e1_0 e1_1 e1_2 e1_3
theorem r_fm46 {pa : Nat} {n : Int} (M : RX h0 h H) (e0 : m_lk lv 0 = some (.ref pa)) {lx2 : Int32} (e2 : m_lk lv 2 = some (.int lx2)) (lq2 : lx2.toInt = n)  (hk0 : (h_k h0 pa).1 = 4) (hk1 : (h_k h0 (h_r h0 pa 0)).1 = 3) (hs0 : 16 ≤ h_r h0 pa 0)
    (g0 : ∀ x1 : Int32, x1.toInt = H (h_r h0 pa 0) 5 → ∀ lv2 : List (Nat × Value), m_lk lv2 0 = some (.ref pa) → m_lk lv2 2 = some (.int lx2) → m_lk lv2 3 = some (.int x1) → HJ 71 0 (lv_args 0 [.ref (h_r h0 pa 0), .ref (h_r h0 pa 7)]) [] h (fun v h' => HJ 173 65 lv2 (v.toList ++ []) h' Q))
    : HJ 173 46 lv [] h Q := by
  refine hI_al (k := 0) rfl e0 rfl ?_ -- 46
  refine hR_gr (c := 3) (k := 0) M hk0 rfl rfl rfl rfl ?_ -- 47
  refine hR_gi (c := 2) (k := 5) M hk1 rfl rfl rfl rfl (fun x1 q1 => ?_) -- 50
  have gb1 : -2147483648 ≤ H (h_r h0 pa 0) 5 ∧ H (h_r h0 pa 0) 5 ≤ 2147483647 := by rw [← q1]; exact g_iT _
  refine hM_si (k := 3) rfl (by decide +kernel) rfl (fun lv2 e2_3 u2 => ?_) -- 53
  have e2_0 := u2 0 _ (by decide) (Or.inl rfl) e0
  have e2_2 := u2 2 _ (by decide) (Or.inl rfl) e2
  refine hI_al (k := 0) rfl e2_0 rfl ?_ -- 54
  refine hR_gr (c := 3) (k := 0) M hk0 rfl rfl rfl rfl ?_ -- 55
  refine hI_al (k := 0) rfl e2_0 rfl ?_ -- 58
  refine hR_gr (c := 3) (k := 7) M hk0 rfl rfl rfl rfl ?_ -- 59
  refine HJ.call (j := 71) (as := [.ref (h_r h0 pa 0), .ref (h_r h0 pa 7)]) (rr := []) (pc' := 65) (m_cR (kc := 2) rfl rfl (by decide +kernel) rfl rfl rfl ⟨rfl, by decide +kernel, by decide +kernel⟩ (by decide) hs0 (by rw [M.2.1]; exact hk1)) (by show 2 ≤ m_lc 71; decide +kernel) ?_ -- 62
  exact g0 x1 q1 lv2 e2_0 e2_2 e2_3
theorem r_fm65 {pa : Nat} {n b z : Int} (M : RX h0 h H) (e0 : m_lk lv 0 = some (.ref pa)) {lx2 : Int32} (e2 : m_lk lv 2 = some (.int lx2)) (lq2 : lx2.toInt = n) {lx3 : Int32} (e3 : m_lk lv 3 = some (.int lx3)) (lq3 : lx3.toInt = b) {sx0 : Int32} (sq0 : sx0.toInt = z) (pb0 : 0 ≤ b) (pb1 : b ≤ 16000) (pm0 : 0 ≤ H (h_r h0 pa 0) 5) (pm1 : H (h_r h0 pa 0) 5 ≤ 16000) (hk0 : (h_k h0 pa).1 = 4) (hk1 : (h_k h0 (h_r h0 pa 0)).1 = 3) (hs0 : 16 ≤ h_r h0 pa 0)
    (g0 : ∀ x2 : Int32, x2.toInt = (H (h_r h0 pa 0) 5) - b → ∀ lv3 : List (Nat × Value), m_lk lv3 0 = some (.ref pa) → m_lk lv3 2 = some (.int lx2) → m_lk lv3 3 = some (.int lx3) → m_lk lv3 4 = some (.int x2) → HJ 46 0 (lv_args 0 [.ref (h_r h0 pa 0), .int lx2]) [] h (fun v h' => HJ 173 85 lv3 (v.toList ++ []) h' Q))
    : HJ 173 65 lv [.int sx0] h Q := by
  refine hI_pop rfl rfl rfl ?_ -- 65
  refine hI_al (k := 0) rfl e0 rfl ?_ -- 66
  refine hR_gr (c := 3) (k := 0) M hk0 rfl rfl rfl rfl ?_ -- 67
  refine hR_gi (c := 2) (k := 5) M hk1 rfl rfl rfl rfl (fun x1 q1 => ?_) -- 70
  have gb1 : -2147483648 ≤ H (h_r h0 pa 0) 5 ∧ H (h_r h0 pa 0) 5 ≤ 2147483647 := by rw [← q1]; exact g_iT _
  refine hI_il (k := 3) rfl e3 rfl ?_ -- 73
  refine hM_sub rfl q1 lq3 (by omega) (by omega) rfl (fun x2 q2 => ?_) -- 74
  refine hM_si2 (k := 4) rfl (by decide +kernel) rfl (fun lv3 e3_4 u3 => ?_) -- 75
  have e3_0 := u3 0 _ (by decide) (Or.inl rfl) e0
  have e3_2 := u3 2 _ (by decide) (Or.inl rfl) e2
  have e3_3 := u3 3 _ (by decide) (Or.inl rfl) e3
  refine hI_al (k := 0) rfl e3_0 rfl ?_ -- 77
  refine hR_gr (c := 3) (k := 0) M hk0 rfl rfl rfl rfl ?_ -- 78
  refine hI_il (k := 2) rfl e3_2 rfl ?_ -- 81
  refine HJ.call (j := 46) (as := [.ref (h_r h0 pa 0), .int lx2]) (rr := []) (pc' := 85) (m_cR (kc := 2) rfl rfl (by decide +kernel) rfl rfl rfl ⟨rfl, by decide +kernel, by decide +kernel⟩ (by decide) hs0 (by rw [M.2.1]; exact hk1)) (by show 2 ≤ m_lc 46; decide +kernel) ?_ -- 82
  exact g0 x2 q2 lv3 e3_0 e3_2 e3_3 e3_4
theorem r_fm85 {u : Int} (M : RX h0 h H) {lx4 : Int32} (e4 : m_lk lv 4 = some (.int lx4)) (lq4 : lx4.toInt = u) 
    (g0 : Q (some (.int lx4)) h)
    : HJ 173 85 lv [] h Q := by
  refine hI_il2 (k := 4) rfl e4 rfl ?_ -- 85
  refine hI_ri rfl rfl ?_ -- 87
  exact g0 
theorem l_fm {hh : MH} {pa m : Nat} {Y : RYt} {S : PSt} {xm xn : Int32} {n : Int} (ok : pa_ok hh pa) (P : pr_of hh pa Y) (sh : ps_sh S) (hs : ∀ u : Nat, u < ry_v Y → hp_in S (ry_h Y u)) (cap : ps_n S + 36 ≤ 16000) (tb : tb_ok hh pa (h_r hh pa 9)) (t0 : 0 ≤ z_i hh (h_r hh pa 9) 0 ∧ z_i hh (h_r hh pa 9) 0 < (ry_v Y : Int)) (qm : xm.toInt = (m : Int)) (m5 : m ≤ 5) (qn : xn.toInt = n) (g : ∀ (h : MH) (lv : List (Nat × Value)), fm_I hh pa Y S (z_i hh (h_r hh pa 9)) (m - 1) h → m_lk lv 0 = some (.ref pa) → m_lk lv 2 = some (.int xn) → HJ 173 46 lv [] h Q) : ∀ (d i : Nat) (h : MH) (lv : List (Nat × Value)) (xi : Int32), i + 1 + d = m → xi.toInt = (i : Int) + 1 → fm_I hh pa Y S (z_i hh (h_r hh pa 9)) i h → m_lk lv 0 = some (.ref pa) → m_lk lv 1 = some (.int xm) → m_lk lv 2 = some (.int xn) → m_lk lv 3 = some (.int xi) → HJ 173 24 lv [] h Q := by
  intro d
  induction d with
  | zero =>
    intro i h lv xi hd qi I e0 e1 e2 e3
    obtain ⟨o, F, I1, I2, I3⟩ := id I
    obtain ⟨ok', re, -⟩ := pa_FX ok o F
    have tb' := tb_FX ok o tb F
    rw [← re 9] at tb'
    refine r_fm24 (RX.start h) e0 e1 qm e2 qn e3 qi (by omega) (by omega) ok'.1.1 tb'.1.1 (by have := tb'.1.2.2.2.1; omega) ok'.1.2.1 (fun _ => g h lv ?_ e0 e2) (fun _ _ c => absurd c (by omega))
    rw [show m - 1 = i by omega]
    exact I
  | succ d ih =>
    intro i h lv xi hd qi I e0 e1 e2 e3
    obtain ⟨o, F, I1, I2, I3⟩ := id I
    obtain ⟨ok', re, rw_⟩ := pa_FX ok o F
    have tb' := tb_FX ok o tb F
    rw [← re 9] at tb'
    have pr' := pr_FX ok o F (I3 11) P
    obtain ⟨k1, k2, k3, k4⟩ := fd_I sh hs t0 i
    refine r_fm24 (RX.start h) e0 e1 qm e2 qn e3 qi (by omega) (by omega) ok'.1.1 tb'.1.1 (by have := tb'.1.2.2.2.1; omega) ok'.1.2.1 (fun c => absurd c (by omega)) (fun xv qv c => ?_)
    have qv : xv.toInt = z_i hh (h_r hh pa 9) (i + 1) := by
      rw [re 9, show ((i : Int) + 1).toNat = i + 1 by omega] at qv
      exact qv.trans (tb_kp ok tb F (i + 1))
    refine k_meldW (Y := Y) ok' (by rw [re 0]; exact I1) pr' (by rw [re 7]; exact I2) k1 k2 (fun u hu => hp_inE k3 (hs u hu)) (by omega) qv (fun x h2 R => ?_)
    show HJ 173 39 lv [.int x] h2 Q
    refine r_fm39 (RX.start h2) e0 e1 qm e2 qn e3 qi rfl (by omega) (by omega) (fun x1 q1 lv1 a0 a1 a2 a3 => ?_)
    refine ih (i + 1) h2 lv1 x1 (by omega) (by omega) ?_ a0 a1 a2 a3
    rcases R with ⟨-, c2, eh⟩ | ⟨-, c2, R1, R2, R3, R4, R5⟩
    · subst eh
      refine ⟨o, F, ?_, ?_, I3⟩
      · rw [fd_run, if_neg c2]
        exact I1
      · rw [fd_run, if_neg c2]
        exact I2
    · rw [re 0] at R1 R3 R4
      rw [re 7] at R2
      refine ⟨R3, F.trans2 R4 (fun q _ z => Or.inl (py_FX ok o F z)), ?_, ?_, fun q => (R5 q).trans (I3 q)⟩
      · rw [fd_run, if_pos c2]
        exact R1
      · rw [fd_run, if_pos c2]
        exact R2
theorem k_fm {pa m : Nat} {Y : RYt} {l : Int} {xm : Int32} (ok : pa_ok h pa) (I : cs_of h (z_i h) (h_r h pa 0) (ps_le (ry_s Y) l)) (P : pr_of h pa Y) (sh : ps_sh (ry_s Y)) (hs : ∀ u : Nat, u < ry_v Y → hp_in (ry_s Y) (ry_h Y u)) (cap : ps_n (ry_s Y) + 378 ≤ 16000) (tb : tb_ok h pa (h_r h pa 9)) (t0 : 0 ≤ z_i h (h_r h pa 9) 0 ∧ z_i h (h_r h pa 9) 0 < (ry_v Y : Int)) (qm : xm.toInt = (m : Int)) (m1 : 1 ≤ m) (m5 : m ≤ 5) (g : ∀ (x : Int32) (h' : MH), x.toInt = (ps_n (pm_tk (fd_run Y (ps_le (ry_s Y) l) (z_i h (h_r h pa 9)) (m - 1))).1 : Int) - (ps_n (fd_run Y (ps_le (ry_s Y) l) (z_i h (h_r h pa 9)) (m - 1)).1 : Int) → pa_ok h' pa → cs_of h' (z_i h') (h_r h pa 0) (ps_le (ry_s Y) 0) → FW (h_r h pa 0) (py_Y h pa) h h' → (∀ q, z_i h' pa q = z_i h pa q) → (∀ j, j < ps_n (ry_s Y) → h_l h' (h_r h' (h_r h pa 0) 1) j = h_l h (h_r h (h_r h pa 0) 1) j) → Q (some (.int x)) h') : HJ 173 0 (lv_args 0 [.ref pa, .int xm]) [] h Q := by
  have M := RX.start h
  have nd0 := ok.2.1
  have pn := pa_ne ok (i := 7) (by decide)
  have sh' : ps_sh (ps_le (ry_s Y) l) := sh
  have hs' : ∀ u : Nat, u < ry_v Y → hp_in (ps_le (ry_s Y) l) (ry_h Y u) := hs
  have a7 := pa_ap ok (i := 7) (by decide) (by decide)
  have a9 := pa_ap ok (i := 9) (by decide) (by decide)
  refine r_fm0 M rfl rfl qm ok.1.1 nd0.1.1 tb.1.1 (by have := tb.1.2.2.2.1; omega) ok.1.2.1 (fun x1 q1 x4 q4 lv2 a0 a1 a2 => ?_)
  have q1' : x1.toInt = (ps_n (ry_s Y) : Int) := q1.trans I.1
  have P1 : (h_i h pa 11).toInt + 1 = (ry_v Y : Int) := P.1.1
  have v41 := P.1.2.2
  have t0' : 0 ≤ (h_i h (h_r h pa 9) 0).toInt ∧ (h_i h (h_r h pa 9) 0).toInt < (ry_v Y : Int) := t0
  refine k_load (v := z_i h (h_r h pa 9) 0) M ok q4 t0.1 (by show (h_i h (h_r h pa 9) 0).toInt ≤ (h_i h pa 11).toInt; omega) (by show (h_i h pa 11).toInt ≤ 40; omega) a7.1 (fun h3 H3 M3 f3 => ?_)
  have o3q : ∀ q, q ≠ h_r h pa 7 → H3 q = z_i h q := fun q hq => by
    rw [f3, m_uN _ _ _ _ hq]
    rfl
  have n7 := nl_ap nd0 a7.1.1 a7.2.2
  have o3 : nl_ok h3 (h_r h pa 0) := nl_RX nd0 M3 (by rw [o3q _ (Ne.symm n7.1)])
  have F3 : FX (h_r h pa 0) (py_Y h pa) h h3 := FX.ofRX M3 (by rw [o3q _ (Ne.symm n7.1)]) (fun q hq j => by rw [o3q q (fun z => hq (Or.inr (Or.inr (Or.inr (Or.inr (Or.inr ⟨7, by decide, z⟩))))))])
  have rr3 : h_r h3 = h_r h := M3.2.2.1.1
  have I0 : fm_I h pa Y (ps_le (ry_s Y) l) (z_i h (h_r h pa 9)) 0 h3 := by
    refine ⟨o3, F3, cs_mv I (by rw [M3.zi, o3q _ (Ne.symm n7.1)]) (by rw [M3.zi, o3q _ (Ne.symm n7.1)]) (fun j _ => by rw [rr3, M3.zi, o3q _ (Ne.symm n7.2.1)]), fun k hk => ?_, fun q => by rw [M3.zi, o3q _ pn.1]⟩
    rw [M3.zi, f3, m_uE, if_pos hk]
    show z_i h (pa_w h pa (18 + (z_i h (h_r h pa 9) 0).toNat)) k = ry_h Y (z_i h (h_r h pa 9) 0) k
    rw [ry_hv t0.1]
    exact (P.2 (z_i h (h_r h pa 9) 0).toNat (by omega)).1 k hk
  show HJ 173 22 lv2 [] h3 Q
  refine r_fm22 M3 a0 a1 qm a2 q1' (fun x5 q5 lv5 b0 b1 b2 b3 => ?_)
  refine l_fm (m := m) ok P sh' hs' (by show ps_n (ry_s Y) + 36 ≤ 16000; omega) tb t0 qm m5 q1' (fun h4 lv4 I4 c0 c2 => ?_) (m - 1) 0 h3 lv5 x5 (by omega) (by omega) I0 b0 b1 b2 b3
  obtain ⟨o4, F4, S4, E4, Z4⟩ := I4
  obtain ⟨ok4, re4, rw4⟩ := pa_FX ok o4 F4
  obtain ⟨k1, k2, k3, k4⟩ := fd_I sh' hs' t0 (m - 1)
  generalize fd_run Y (ps_le (ry_s Y) l) (z_i h (h_r h pa 9)) (m - 1) = X at *
  have k4 : ps_n X.1 ≤ ps_n (ry_s Y) + 6 * (m - 1) := k4
  have k3 : ps_ex (ry_s Y) X.1 := k3
  refine r_fm46 (RX.start h4) c0 c2 q1' ok4.1.1 (by rw [re4 0]; exact o4.1.1) (by rw [re4 0]; exact o4.1.2.1) (fun x6 q6 lv6 d0 d2 d3 => ?_)
  have a74 := pa_ap ok4 (i := 7) (by decide) (by decide)
  have a94 := pa_ap ok4 (i := 9) (by decide) (by decide)
  have d97 := ok4.2.2.2.2.2.2.2 9 7 (by decide) (by decide) (by decide)
  have l94 := (ok4.2.2.2.2.2.2.1 9 (by decide)).2.2.2.2
  have w63 := p_wsL (f := X.2) 6
  refine k_take (S := X.1) (f := X.2) ok4.2.1 a74 a94 l94 d97 (by rw [re4 0]; exact S4) (by rw [re4 7]; exact E4) k1 k2 (by omega) (by omega) (fun x7 h7 c7 o7 S7 E7 F7 => ?_)
  rw [re4 0] at o7 S7 F7
  have K : ps_ex X.1 (pm_tk (X.1, X.2)).1 := by
    by_cases e : pm_le X.1 X.2 6 = -1
    · unfold pm_tk
      rw [if_pos e]
      exact ps_ex0
    · exact (pm_tkI k1 k2 (by omega) e).2.2.1
  have F7' : FX (h_r h pa 0) (py_Y h pa) h4 h7 := by
    refine F7.mono (fun q hq => ?_)
    rcases hq with z | z
    · rw [re4 7] at z
      exact Or.inr (Or.inr ⟨7, by decide, z⟩)
    · rw [(F4.2.2 _ nd0.1.2.2).2.1 2 (by omega)] at z
      exact Or.inr (Or.inr ⟨9, by decide, z⟩)
  have FF : FX (h_r h pa 0) (py_Y h pa) h h7 := F4.trans F7'
  obtain ⟨ok7, re7, rw7⟩ := pa_FX ok o7 FF
  have m7 : z_i h7 (h_r h pa 0) 5 = (ps_n (pm_tk (X.1, X.2)).1 : Int) := S7.1
  have n16 : ps_n (pm_tk (X.1, X.2)).1 ≤ 16000 := S7.2.2.2.1
  have m4 : x6.toInt = (ps_n X.1 : Int) := by
    rw [re4 0] at q6
    exact q6.trans S4.1
  have n4 : ps_n X.1 ≤ 16000 := S4.2.2.2.1
  have Z7 : ∀ q, z_i h7 pa q = z_i h pa q := fun q => by
    rw [← Z4 q]
    refine ((F7.2.2 pa (ok4.1.2.2)).2.2 (fun z => ?_)).1 q
    rcases z with z | z | z | z | z
    · exact pn.2.2.2.1 z
    · have := o4.2.1.1
      rw [← z, ok4.1.1] at this
      omega
    · have := o4.2.2.1.1
      rw [← z, ok4.1.1] at this
      omega
    · have := a74.1.1
      rw [show pa_w h4 pa 7 = h_r h4 pa 7 from rfl, ← z, ok4.1.1] at this
      omega
    · have := a94.1.1
      rw [show pa_w h4 pa 9 = h_r h4 (h_r h4 pa 0) 2 from rfl, re4 0, ← z, ok4.1.1] at this
      omega
  show HJ 173 65 lv6 [.int x7] h7 Q
  refine r_fm65 (RX.start h7) d0 d2 q1' d3 m4 rfl (by omega) (by omega) (by rw [re7 0]; show 0 ≤ z_i h7 (h_r h pa 0) 5; omega) (by rw [re7 0]; show z_i h7 (h_r h pa 0) 5 ≤ 16000; omega) ok7.1.1 (by rw [re7 0]; exact o7.1.1) (by rw [re7 0]; exact o7.1.2.1) (fun x8 q8 lv8 e0 e2 e3 e4 => ?_)
  rw [re7 0] at q8 ⊢
  have q8 : x8.toInt = z_i h7 (h_r h pa 0) 5 - (ps_n X.1 : Int) := q8
  refine k_drop (m := z_i h7 (h_r h pa 0) 5) (RX.start h7) o7.1.1 rfl (by omega) q1' (fun h9 H9 M9 o9 n9 => ?_)
  have EX : ps_ex (ry_s Y) (pm_tk (X.1, X.2)).1 := ps_exT k3 K
  have ns : ps_n (ry_s Y) ≤ ps_n (pm_tk (X.1, X.2)).1 := EX.1
  have n95 : H9 (h_r h pa 0) 5 = (ps_n (ry_s Y) : Int) := by
    rw [n9, m_uN _ _ _ _ (by decide), m_uE, m7]
    by_cases c : (ps_n (ry_s Y) : Int) < (ps_n (pm_tk (X.1, X.2)).1 : Int)
    · rw [if_pos c, if_neg (by omega)]
    · rw [if_neg c]
      omega
  have n96 : H9 (h_r h pa 0) 6 = 0 := by rw [n9, m_uE]
  have nc7 : h_r h7 (h_r h pa 0) 0 ≠ h_r h pa 0 := fun y => by
    have := o7.2.1.1
    rw [y, o7.1.1] at this
    omega
  have e9 : ∀ q, q ≠ h_r h pa 0 → H9 q = z_i h7 q := fun q hq => by
    rw [o9 q hq]
    rfl
  have oo9 : nl_ok h9 (h_r h pa 0) := nl_RXm o7 M9 (by rw [n95]; omega) (by rw [n95, m7]; omega)
  obtain ⟨ok9, rr9, -⟩ := pa_RX ok7 M9 (by rw [re7 0]; exact oo9)
  show HJ 173 85 lv8 [] h9 Q
  refine r_fm85 M9 e4 rfl (g x8 h9 (by rw [q8, m7]) ok9 (cs_drop S7 EX (by rw [M9.zi, n95]) (by rw [M9.zi, n96]) (fun j => by rw [rr9, M9.zi, e9 _ nc7])) ((FW.ofFX FF).trans2 (FW.ofRX (Y := fun _ => False) M9 (fun q hq j => by rw [e9 q (fun y => hq (Or.inl y))])) (fun q _ y => y.elim)) (fun q => ?_) (fun j hj => by rw [M9.2.2.1.2, M9.2.2.1.1]; exact FF.2.1.2.2.1 j (by rw [I.1]; show (j : Int) < (ps_n (ry_s Y) : Int); omega)))
  rw [M9.zi, e9 _ pn.2.2.2.1]
  exact Z7 q
end
