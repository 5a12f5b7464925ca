-- ALL BELOW A KEY CUT OFF
theorem pm_ctI {k : Int} : ∀ (m : Nat) (S : PSt) (f : Nat → Int), ps_sh S → hp_in S f → ps_sh (pm_ct k m (S, f)).1 ∧ hp_in (pm_ct k m (S, f)).1 (pm_ct k m (S, f)).2 ∧ ps_ex S (pm_ct k m (S, f)).1 ∧ ps_n (pm_ct k m (S, f)).1 ≤ ps_n S + 6 * m
  | 0, S, f, sh, hf => ⟨sh, hf, ps_ex0, Nat.le_refl _⟩
  | m + 1, S, f, sh, hf => by
    have L := p_wsL (f := f) 6
    have e6 : (2 : Nat) ^ 6 = 64 := by decide
    rw [e6] at L
    by_cases c : pm_le S f 6 = -1 ∨ k ≤ ps_y S (f (pm_le S f 6).toNat).toNat
    · rw [pm_ct1 (X := (S, f)) c]
      exact ⟨sh, hf, ps_ex0, by show ps_n S ≤ _; omega⟩
    · rw [pm_ct2 (X := (S, f)) c]
      obtain ⟨a1, a2, a3, a4, -⟩ := pm_tkI sh hf (by omega) (fun z => c (Or.inl z))
      obtain ⟨b1, b2, b3, b4⟩ := pm_ctI m (pm_tk (S, f)).1 (pm_tk (S, f)).2 a1 a2
      exact ⟨b1, b2, ps_exT a3 b3, by show ps_n (pm_ct k m ((pm_tk (S, f)).1, (pm_tk (S, f)).2)).1 ≤ _; omega⟩
theorem pm_ctE {k : Int} {S : PSt} {f : Nat → Int} (e : pm_le S f 6 = -1) : ∀ m, pm_ct k m (S, f) = (S, f)
  | 0 => rfl
  | m + 1 => pm_ct1 (X := (S, f)) (Or.inl e)
theorem pm_ctN {k : Int} {S : PSt} {f : Nat → Int} {m : Nat} (c : (if pm_le S f 6 = -1 then -1 else ps_y S (f (pm_le S f 6).toNat).toNat) < k) : pm_ct k (m + 1) (S, f) = pm_ct k m (pm_tk (S, f)) := by
  by_cases e : pm_le S f 6 = -1
  · rw [pm_ctE e, pm_tk0 e, pm_ctE e]
  · rw [if_neg e] at c
    exact pm_ct2 (X := (S, f)) (fun z => by
      rcases z with z | z
      · exact e z
      · have z : k ≤ ps_y S (f (pm_le S f 6).toNat).toNat := z
        omega)
theorem pm_ctS {k : Int} {S : PSt} {f : Nat → Int} {m : Nat} (c : ¬ (if pm_le S f 6 = -1 then -1 else ps_y S (f (pm_le S f 6).toNat).toNat) < k) : pm_ct k (m + 1) (S, f) = (S, f) := by
  by_cases e : pm_le S f 6 = -1
  · exact pm_ctE e (m + 1)
  · rw [if_neg e] at c
    exact pm_ct1 (X := (S, f)) (Or.inr (by show k ≤ ps_y S (f (pm_le S f 6).toNat).toNat; omega))
-- WHAT AN ACT LEAVES, PURE
theorem ry_doI {Y : RYt} {w v a b : Int} {X : PSt × (Nat → Int) × Int} (sh : ps_sh (ry_s Y)) (hs : ∀ u : Nat, u < ry_v Y → hp_in (ry_s Y) (ry_h Y u)) (e : ry_do Y w v a b = some X) : (ps_sh X.1 ∧ hp_in X.1 X.2.1) ∧ (ps_ex (ry_s Y) X.1 ∧ ps_n X.1 ≤ ps_n (ry_s Y) + 378) ∧ (X.2.2 = ry_t Y ∨ X.2.2 = ry_t Y + 1) := by
  have sh0 : ps_sh (ps_le (ry_s Y) 0) := sh
  have E0 : ps_ex (ry_s Y) (ps_le (ry_s Y) 0) := ⟨Nat.le_refl _, fun _ _ => ⟨rfl, rfl, rfl, fun _ _ => rfl⟩⟩
  have n0 : ps_n (ps_le (ry_s Y) 0) = ps_n (ry_s Y) := rfl
  by_cases w0 : w = 0
  · rw [ry_do0 w0] at e
    cases e
    exact ⟨⟨sh0, fun _ _ => Or.inl rfl⟩, ⟨E0, by show ps_n (ry_s Y) ≤ _; omega⟩, Or.inl rfl⟩
  · cases is : ry_is Y v with
    | false =>
      rw [ry_doF w0 is] at e
      cases e
    | true =>
      have iv := ry_isV is
      have hv : hp_in (ps_le (ry_s Y) 0) (ry_h Y v) := by
        rw [ry_hv iv.1]
        exact hs v.toNat (by omega)
      have L := p_wsL (f := ry_h Y v) 6
      have e6 : (2 : Nat) ^ 6 = 64 := by decide
      rw [e6] at L
      by_cases w2 : w = 2
      · rw [ry_do2 w2 is] at e
        by_cases c : ry_is Y a = true ∧ p_ws (ry_h Y v) 6 + p_ws (ry_h Y a) 6 ≤ 63
        · rw [if_pos c] at e
          cases e
          have ia := ry_isV c.1
          have ha : hp_in (ps_le (ry_s Y) 0) (ry_h Y a) := by
            rw [ry_hv ia.1]
            exact hs a.toNat (by omega)
          obtain ⟨b1, b2, b3, b4, -⟩ := pm_mdI sh0 hv ha c.2
          exact ⟨⟨b1, b2⟩, ⟨ps_exT E0 b3, by show ps_n (pm_md (ps_le (ry_s Y) 0) (ry_h Y v) (ry_h Y a)).1 ≤ _; omega⟩, Or.inl rfl⟩
        · rw [if_neg c] at e
          cases e
      · by_cases w1 : w = 1
        · rw [ry_do1 w1 is] at e
          by_cases c : p_ws (ry_h Y v) 6 = 63
          · rw [if_pos c] at e
            cases e
          · rw [if_neg c] at e
            cases e
            obtain ⟨b1, b2, b3, b4⟩ := pm_puI (t := ry_t Y) (k := a) sh0 hv c
            exact ⟨⟨b1, b2⟩, ⟨ps_exT E0 b3, by show ps_n (pm_pu (ps_le (ry_s Y) 0) (ry_h Y v) (ry_t Y) a).1 ≤ _; omega⟩, Or.inr rfl⟩
        · by_cases w3 : w = 3
          · rw [ry_do3 w3 is] at e
            by_cases c : pm_le (ps_le (ry_s Y) 0) (ry_h Y v) 6 = -1
            · rw [if_pos c] at e
              cases e
            · rw [if_neg c] at e
              cases e
              obtain ⟨b1, b2, b3, b4, -⟩ := pm_tkI sh0 hv (by omega) c
              exact ⟨⟨b1, b2⟩, ⟨ps_exT E0 b3, by show ps_n (pm_tk (ps_le (ry_s Y) 0, ry_h Y v)).1 ≤ _; omega⟩, Or.inl rfl⟩
          · by_cases w4 : w = 4
            · rw [ry_do4 w4 is] at e
              cases hl : lw_do (ps_le (ry_s Y) 0) (ry_h Y v) a b with
              | none =>
                rw [hl] at e
                cases e
              | some Z =>
                rw [hl] at e
                cases e
                obtain ⟨b1, b2, b3, b4⟩ := lw_doI sh0 hv hl
                exact ⟨⟨b1, b2⟩, ⟨ps_exT E0 b3, by show ps_n Z.1 ≤ _; omega⟩, Or.inl rfl⟩
            · rw [ry_do5 w0 w1 w2 w3 w4 is] at e
              cases e
              obtain ⟨b1, b2, b3, b4⟩ := pm_ctI (k := a) 63 _ _ sh0 hv
              exact ⟨⟨b1, b2⟩, ⟨ps_exT E0 b3, by show ps_n (pm_ct a 63 (ps_le (ry_s Y) 0, ry_h Y v)).1 ≤ _; omega⟩, Or.inl rfl⟩
-- AN ACT DONE, THE CLASS'S
section
variable {lv : List (Nat × Value)} {Q : Option Value → MH → Prop} {h0 h : MH} {H : Nat → Nat → Int}
theorem r_pf0 {pa : Nat} {w v a b : Int} (M : RX h0 h H) (e0 : m_lk lv 0 = some (.ref pa)) {lx1 : Int32} (e1 : m_lk lv 1 = some (.int lx1)) (lq1 : lx1.toInt = w) {lx2 : Int32} (e2 : m_lk lv 2 = some (.int lx2)) (lq2 : lx2.toInt = v) {lx3 : Int32} (e3 : m_lk lv 3 = some (.int lx3)) (lq3 : lx3.toInt = a) {lx4 : Int32} (e4 : m_lk lv 4 = some (.int lx4)) (lq4 : lx4.toInt = b)  (hs0 : 16 ≤ pa) (hk0 : (h_k h0 pa).1 = 4)
    (g0 : w ≠ 0 → HJ 57 0 (lv_args 0 [.ref pa, .int lx2]) [] h (fun v h' => HJ 56 19 lv (v.toList ++ []) h' Q))
    (g1 : ∀ x1 : Int32, x1.toInt = (-1) → w = 0 → HJ 48 0 (lv_args 0 [.ref (h_r h0 pa 7), .int x1]) [] h (fun v h' => HJ 56 12 lv (v.toList ++ []) h' Q))
    : HJ 56 0 lv [] h Q := by
  refine hI_il (k := 1) rfl e1 rfl ?_ -- 0
  refine hM_zne (off := 13) (t := 14) rfl lq1 (by decide) rfl (fun c1 => ?_) (fun c1 => ?_) -- 1
  · refine hI_al (k := 0) rfl e0 rfl ?_ -- 14
    refine hI_il (k := 2) rfl e2 rfl ?_ -- 15
    refine HJ.call (j := 57) (as := [.ref pa, .int lx2]) (rr := []) (pc' := 19) (m_cR (kc := 3) rfl rfl (by decide +kernel) rfl rfl rfl ⟨rfl, by decide +kernel, by decide +kernel⟩ (by decide) hs0 (by rw [M.2.1]; exact hk0)) (by show 2 ≤ m_lc 57; decide +kernel) ?_ -- 16
    exact g0 c1
  · refine hI_al (k := 0) rfl e0 rfl ?_ -- 4
    refine hR_gr (c := 3) (k := 7) M hk0 rfl rfl rfl rfl ?_ -- 5
    refine hM_ic (n := (-1)) rfl (by decide) rfl (fun x1 q1 => ?_) -- 8
    refine hM_is0 (as := [.ref (h_r h0 pa 7), .int x1]) (r := []) rfl rfl (by decide +kernel) rfl rfl rfl rfl rfl ?_ -- 9
    exact g1 x1 q1 c1
theorem r_pf12 {pa : Nat} (M : RX h0 h H)  
    (g0 : ∀ x1 : Int32, x1.toInt = 1 → Q (some (.int x1)) h)
    : HJ 56 12 lv [] h Q := by
  refine hM_ic (n := 1) rfl (by decide) rfl (fun x1 q1 => ?_) -- 12
  refine hM_rb rfl rfl q1 (by omega) (by omega) ?_ -- 13
  exact g0 x1 q1
theorem r_pf19 {pa : Nat} {w v a b z : Int} (M : RX h0 h H) (e0 : m_lk lv 0 = some (.ref pa)) {lx1 : Int32} (e1 : m_lk lv 1 = some (.int lx1)) (lq1 : lx1.toInt = w) {lx2 : Int32} (e2 : m_lk lv 2 = some (.int lx2)) (lq2 : lx2.toInt = v) {lx3 : Int32} (e3 : m_lk lv 3 = some (.int lx3)) (lq3 : lx3.toInt = a) {lx4 : Int32} (e4 : m_lk lv 4 = some (.int lx4)) (lq4 : lx4.toInt = b) {sx0 : Int32} (sq0 : sx0.toInt = z)  (hk0 : (h_k h0 pa).1 = 4) (hs0 : 16 ≤ pa)
    (g0 : z ≠ 0 → HJ 58 0 (lv_args 0 [.ref pa, .int lx2, .ref (h_r h0 pa 7)]) [] h (fun v h' => HJ 56 33 lv (v.toList ++ []) h' Q))
    (g1 : ∀ x1 : Int32, x1.toInt = 0 → z = 0 → Q (some (.int x1)) h)
    : HJ 56 19 lv [.int sx0] h Q := by
  refine hM_zne (off := 5) (t := 24) rfl sq0 (by decide) rfl (fun c19 => ?_) (fun c19 => ?_) -- 19
  · refine hI_al (k := 0) rfl e0 rfl ?_ -- 24
    refine hI_il (k := 2) rfl e2 rfl ?_ -- 25
    refine hI_al (k := 0) rfl e0 rfl ?_ -- 26
    refine hR_gr (c := 3) (k := 7) M hk0 rfl rfl rfl rfl ?_ -- 27
    refine HJ.call (j := 58) (as := [.ref pa, .int lx2, .ref (h_r h0 pa 7)]) (rr := []) (pc' := 33) (m_cR (kc := 3) rfl rfl (by decide +kernel) rfl rfl rfl ⟨rfl, by decide +kernel, by decide +kernel⟩ (by decide) hs0 (by rw [M.2.1]; exact hk0)) (by show 3 ≤ m_lc 58; decide +kernel) ?_ -- 30
    exact g0 c19
  · refine hM_ic (n := 0) rfl (by decide) rfl (fun x1 q1 => ?_) -- 22
    refine hM_rb rfl rfl q1 (by omega) (by omega) ?_ -- 23
    exact g1 x1 q1 c19
theorem r_pf33 {pa : Nat} {w v a b : Int} (M : RX h0 h H) (e0 : m_lk lv 0 = some (.ref pa)) {lx1 : Int32} (e1 : m_lk lv 1 = some (.int lx1)) (lq1 : lx1.toInt = w) {lx2 : Int32} (e2 : m_lk lv 2 = some (.int lx2)) (lq2 : lx2.toInt = v) {lx3 : Int32} (e3 : m_lk lv 3 = some (.int lx3)) (lq3 : lx3.toInt = a) {lx4 : Int32} (e4 : m_lk lv 4 = some (.int lx4)) (lq4 : lx4.toInt = b) 
    (g0 : HJ 56 34 lv [.int lx1] h Q)
    : HJ 56 33 lv [] h Q := by
  refine hI_il (k := 1) rfl e1 rfl ?_ -- 33
  exact g0 
theorem r_pf68 {pa : Nat} {w v a b : Int} (M : RX h0 h H) (e0 : m_lk lv 0 = some (.ref pa)) {lx1 : Int32} (e1 : m_lk lv 1 = some (.int lx1)) (lq1 : lx1.toInt = w) {lx2 : Int32} (e2 : m_lk lv 2 = some (.int lx2)) (lq2 : lx2.toInt = v) {lx3 : Int32} (e3 : m_lk lv 3 = some (.int lx3)) (lq3 : lx3.toInt = a) {lx4 : Int32} (e4 : m_lk lv 4 = some (.int lx4)) (lq4 : lx4.toInt = b)  (hs0 : 16 ≤ pa) (hk0 : (h_k h0 pa).1 = 4)
    (g0 : HJ 59 0 (lv_args 0 [.ref pa, .int lx3]) [] h (fun v h' => HJ 56 73 lv (v.toList ++ []) h' Q))
    : HJ 56 68 lv [] h Q := by
  refine hI_al (k := 0) rfl e0 rfl ?_ -- 68
  refine hI_il (k := 3) rfl e3 rfl ?_ -- 69
  refine HJ.call (j := 59) (as := [.ref pa, .int lx3]) (rr := []) (pc' := 73) (m_cR (kc := 3) rfl rfl (by decide +kernel) rfl rfl rfl ⟨rfl, by decide +kernel, by decide +kernel⟩ (by decide) hs0 (by rw [M.2.1]; exact hk0)) (by show 2 ≤ m_lc 59; decide +kernel) ?_ -- 70
  exact g0 
theorem r_pf74 {pa : Nat} {w v a b : Int} (M : RX h0 h H) (e0 : m_lk lv 0 = some (.ref pa)) {lx1 : Int32} (e1 : m_lk lv 1 = some (.int lx1)) (lq1 : lx1.toInt = w) {lx2 : Int32} (e2 : m_lk lv 2 = some (.int lx2)) (lq2 : lx2.toInt = v) {lx3 : Int32} (e3 : m_lk lv 3 = some (.int lx3)) (lq3 : lx3.toInt = a) {lx4 : Int32} (e4 : m_lk lv 4 = some (.int lx4)) (lq4 : lx4.toInt = b)  (hs0 : 16 ≤ pa) (hk0 : (h_k h0 pa).1 = 4)
    (g0 : HJ 70 0 (lv_args 0 [.ref pa, .int lx3]) [] h (fun v h' => HJ 56 79 lv (v.toList ++ []) h' Q))
    : HJ 56 74 lv [] h Q := by
  refine hI_al (k := 0) rfl e0 rfl ?_ -- 74
  refine hI_il (k := 3) rfl e3 rfl ?_ -- 75
  refine HJ.call (j := 70) (as := [.ref pa, .int lx3]) (rr := []) (pc' := 79) (m_cR (kc := 3) rfl rfl (by decide +kernel) rfl rfl rfl ⟨rfl, by decide +kernel, by decide +kernel⟩ (by decide) hs0 (by rw [M.2.1]; exact hk0)) (by show 2 ≤ m_lc 70; decide +kernel) ?_ -- 76
  exact g0 
theorem r_pf80 {pa : Nat} {w v a b : Int} (M : RX h0 h H) (e0 : m_lk lv 0 = some (.ref pa)) {lx1 : Int32} (e1 : m_lk lv 1 = some (.int lx1)) (lq1 : lx1.toInt = w) {lx2 : Int32} (e2 : m_lk lv 2 = some (.int lx2)) (lq2 : lx2.toInt = v) {lx3 : Int32} (e3 : m_lk lv 3 = some (.int lx3)) (lq3 : lx3.toInt = a) {lx4 : Int32} (e4 : m_lk lv 4 = some (.int lx4)) (lq4 : lx4.toInt = b)  (hk0 : (h_k h0 pa).1 = 4) (hs0 : 16 ≤ h_r h0 pa 0) (hk1 : (h_k h0 (h_r h0 pa 0)).1 = 3)
    (g0 : HJ 71 0 (lv_args 0 [.ref (h_r h0 pa 0), .ref (h_r h0 pa 7)]) [] h (fun v h' => HJ 56 91 lv (v.toList ++ []) h' Q))
    : HJ 56 80 lv [] h Q := by
  refine hI_al (k := 0) rfl e0 rfl ?_ -- 80
  refine hR_gr (c := 3) (k := 0) M hk0 rfl rfl rfl rfl ?_ -- 81
  refine hI_al (k := 0) rfl e0 rfl ?_ -- 84
  refine hR_gr (c := 3) (k := 7) M hk0 rfl rfl rfl rfl ?_ -- 85
  refine HJ.call (j := 71) (as := [.ref (h_r h0 pa 0), .ref (h_r h0 pa 7)]) (rr := []) (pc' := 91) (m_cR (kc := 2) rfl rfl (by decide +kernel) rfl rfl rfl ⟨rfl, by decide +kernel, by decide +kernel⟩ (by decide) hs0 (by rw [M.2.1]; exact hk1)) (by show 2 ≤ m_lc 71; decide +kernel) ?_ -- 88
  exact g0 
theorem r_pf92 {pa : Nat} {w v a b : Int} (M : RX h0 h H) (e0 : m_lk lv 0 = some (.ref pa)) {lx1 : Int32} (e1 : m_lk lv 1 = some (.int lx1)) (lq1 : lx1.toInt = w) {lx2 : Int32} (e2 : m_lk lv 2 = some (.int lx2)) (lq2 : lx2.toInt = v) {lx3 : Int32} (e3 : m_lk lv 3 = some (.int lx3)) (lq3 : lx3.toInt = a) {lx4 : Int32} (e4 : m_lk lv 4 = some (.int lx4)) (lq4 : lx4.toInt = b)  (hk0 : (h_k h0 pa).1 = 4) (hs0 : 16 ≤ h_r h0 pa 0) (hk1 : (h_k h0 (h_r h0 pa 0)).1 = 3)
    (g0 : HJ 73 0 (lv_args 0 [.ref (h_r h0 pa 0), .ref (h_r h0 pa 7), .int lx3, .int lx4]) [] h (fun v h' => HJ 56 106 lv (v.toList ++ []) h' Q))
    : HJ 56 92 lv [] h Q := by
  refine hI_al (k := 0) rfl e0 rfl ?_ -- 92
  refine hR_gr (c := 3) (k := 0) M hk0 rfl rfl rfl rfl ?_ -- 93
  refine hI_al (k := 0) rfl e0 rfl ?_ -- 96
  refine hR_gr (c := 3) (k := 7) M hk0 rfl rfl rfl rfl ?_ -- 97
  refine hI_il (k := 3) rfl e3 rfl ?_ -- 100
  refine hI_il2 (k := 4) rfl e4 rfl ?_ -- 101
  refine HJ.call (j := 73) (as := [.ref (h_r h0 pa 0), .ref (h_r h0 pa 7), .int lx3, .int lx4]) (rr := []) (pc' := 106) (m_cR (kc := 2) rfl rfl (by decide +kernel) rfl rfl rfl ⟨rfl, by decide +kernel, by decide +kernel⟩ (by decide) hs0 (by rw [M.2.1]; exact hk1)) (by show 4 ≤ m_lc 73; decide +kernel) ?_ -- 103
  exact g0 
theorem r_pf73 {z : Int} (M : RX h0 h H) {sx0 : Int32} (sq0 : sx0.toInt = z) (pz0 : 0 ≤ z) (pz1 : z ≤ 1)
    (g0 : Q (some (.int sx0)) h)
    : HJ 56 73 lv [.int sx0] h Q := by
  refine hM_rb rfl rfl sq0 (by omega) (by omega) ?_ -- 73
  exact g0 
theorem r_pf79 {z : Int} (M : RX h0 h H) {sx0 : Int32} (sq0 : sx0.toInt = z) (pz0 : 0 ≤ z) (pz1 : z ≤ 1)
    (g0 : Q (some (.int sx0)) h)
    : HJ 56 79 lv [.int sx0] h Q := by
  refine hM_rb rfl rfl sq0 (by omega) (by omega) ?_ -- 79
  exact g0 
theorem r_pf91 {z : Int} (M : RX h0 h H) {sx0 : Int32} (sq0 : sx0.toInt = z) (pz0 : 0 ≤ z) (pz1 : z ≤ 1)
    (g0 : Q (some (.int sx0)) h)
    : HJ 56 91 lv [.int sx0] h Q := by
  refine hM_rb rfl rfl sq0 (by omega) (by omega) ?_ -- 91
  exact g0 
theorem r_pf106 {z : Int} (M : RX h0 h H) {sx0 : Int32} (sq0 : sx0.toInt = z) (pz0 : 0 ≤ z) (pz1 : z ≤ 1)
    (g0 : Q (some (.int sx0)) h)
    : HJ 56 106 lv [.int sx0] h Q := by
  refine hM_rb rfl rfl sq0 (by omega) (by omega) ?_ -- 106
  exact g0 
theorem r_pf107 {pa : Nat} {w v a b : Int} (M : RX h0 h H) (e0 : m_lk lv 0 = some (.ref pa)) {lx1 : Int32} (e1 : m_lk lv 1 = some (.int lx1)) (lq1 : lx1.toInt = w) {lx2 : Int32} (e2 : m_lk lv 2 = some (.int lx2)) (lq2 : lx2.toInt = v) {lx3 : Int32} (e3 : m_lk lv 3 = some (.int lx3)) (lq3 : lx3.toInt = a) {lx4 : Int32} (e4 : m_lk lv 4 = some (.int lx4)) (lq4 : lx4.toInt = b) 
    (g0 : ∀ x1 : Int32, x1.toInt = 0 → ∀ lv2 : List (Nat × Value), m_lk lv2 0 = some (.ref pa) → m_lk lv2 1 = some (.int lx1) → m_lk lv2 2 = some (.int lx2) → m_lk lv2 3 = some (.int lx3) → m_lk lv2 4 = some (.int lx4) → m_lk lv2 5 = some (.int x1) → HJ 56 110 lv2 [] h Q)
    : HJ 56 107 lv [] h Q := by
  refine hM_ic (n := 0) rfl (by decide) rfl (fun x1 q1 => ?_) -- 107
  refine hM_si2 (k := 5) rfl (by decide +kernel) rfl (fun lv2 e2_5 u2 => ?_) -- 108
  have e2_0 := u2 0 _ (by decide) (Or.inl rfl) e0
  have e2_1 := u2 1 _ (by decide) (Or.inl rfl) e1
  have e2_2 := u2 2 _ (by decide) (Or.inl rfl) e2
  have e2_3 := u2 3 _ (by decide) (Or.inl rfl) e3
  have e2_4 := u2 4 _ (by decide) (Or.inl rfl) e4
  exact g0 x1 q1 lv2 e2_0 e2_1 e2_2 e2_3 e2_4 e2_5
theorem r_pf110 {pa : Nat} {w v a b i : Int} (M : RX h0 h H) (e0 : m_lk lv 0 = some (.ref pa)) {lx1 : Int32} (e1 : m_lk lv 1 = some (.int lx1)) (lq1 : lx1.toInt = w) {lx2 : Int32} (e2 : m_lk lv 2 = some (.int lx2)) (lq2 : lx2.toInt = v) {lx3 : Int32} (e3 : m_lk lv 3 = some (.int lx3)) (lq3 : lx3.toInt = a) {lx4 : Int32} (e4 : m_lk lv 4 = some (.int lx4)) (lq4 : lx4.toInt = b) {lx5 : Int32} (e5 : m_lk lv 5 = some (.int lx5)) (lq5 : lx5.toInt = i)  (hk0 : (h_k h0 pa).1 = 4) (hs0 : 16 ≤ h_r h0 pa 0) (hk1 : (h_k h0 (h_r h0 pa 0)).1 = 3)
    (g0 : ∀ x2 : Int32, x2.toInt = 1 → i ≥ 63 → Q (some (.int x2)) h)
    (g1 : i < 63 → HJ 80 0 (lv_args 0 [.ref (h_r h0 pa 0), .ref (h_r h0 pa 7)]) [] h (fun v h' => HJ 56 128 lv (v.toList ++ []) h' Q))
    : HJ 56 110 lv [] h Q := by
  refine hI_il2 (k := 5) rfl e5 rfl ?_ -- 110
  refine hM_bp (n := 63) rfl (by decide) rfl (fun x1 q1 => ?_) -- 112
  refine hM_cge (off := 36) (t := 150) rfl lq5 q1 (by decide) rfl (fun c114 => ?_) (fun c114 => ?_) -- 114
  · refine hM_ic (n := 1) rfl (by decide) rfl (fun x2 q2 => ?_) -- 150
    refine hM_rb rfl rfl q2 (by omega) (by omega) ?_ -- 151
    exact g0 x2 q2 c114
  · refine hI_al (k := 0) rfl e0 rfl ?_ -- 117
    refine hR_gr (c := 3) (k := 0) M hk0 rfl rfl rfl rfl ?_ -- 118
    refine hI_al (k := 0) rfl e0 rfl ?_ -- 121
    refine hR_gr (c := 3) (k := 7) M hk0 rfl rfl rfl rfl ?_ -- 122
    refine HJ.call (j := 80) (as := [.ref (h_r h0 pa 0), .ref (h_r h0 pa 7)]) (rr := []) (pc' := 128) (m_cR (kc := 2) rfl rfl (by decide +kernel) rfl rfl rfl ⟨rfl, by decide +kernel, by decide +kernel⟩ (by decide) hs0 (by rw [M.2.1]; exact hk1)) (by show 2 ≤ m_lc 80; decide +kernel) ?_ -- 125
    exact g1 c114
theorem r_pf128 {pa : Nat} {w v a b i y : Int} (M : RX h0 h H) (e0 : m_lk lv 0 = some (.ref pa)) {lx1 : Int32} (e1 : m_lk lv 1 = some (.int lx1)) (lq1 : lx1.toInt = w) {lx2 : Int32} (e2 : m_lk lv 2 = some (.int lx2)) (lq2 : lx2.toInt = v) {lx3 : Int32} (e3 : m_lk lv 3 = some (.int lx3)) (lq3 : lx3.toInt = a) {lx4 : Int32} (e4 : m_lk lv 4 = some (.int lx4)) (lq4 : lx4.toInt = b) {lx5 : Int32} (e5 : m_lk lv 5 = some (.int lx5)) (lq5 : lx5.toInt = i) {sx0 : Int32} (sq0 : sx0.toInt = y)  (hk0 : (h_k h0 pa).1 = 4) (hs0 : 16 ≤ h_r h0 pa 0) (hk1 : (h_k h0 (h_r h0 pa 0)).1 = 3)
    (g0 : ∀ x1 : Int32, x1.toInt = 1 → y ≥ a → Q (some (.int x1)) h)
    (g1 : y < a → HJ 71 0 (lv_args 0 [.ref (h_r h0 pa 0), .ref (h_r h0 pa 7)]) [] h (fun v h' => HJ 56 143 lv (v.toList ++ []) h' Q))
    : HJ 56 128 lv [.int sx0] h Q := by
  refine hI_il (k := 3) rfl e3 rfl ?_ -- 128
  refine hM_cge (off := 21) (t := 150) rfl sq0 lq3 (by decide) rfl (fun c129 => ?_) (fun c129 => ?_) -- 129
  · refine hM_ic (n := 1) rfl (by decide) rfl (fun x1 q1 => ?_) -- 150
    refine hM_rb rfl rfl q1 (by omega) (by omega) ?_ -- 151
    exact g0 x1 q1 c129
  · refine hI_al (k := 0) rfl e0 rfl ?_ -- 132
    refine hR_gr (c := 3) (k := 0) M hk0 rfl rfl rfl rfl ?_ -- 133
    refine hI_al (k := 0) rfl e0 rfl ?_ -- 136
    refine hR_gr (c := 3) (k := 7) M hk0 rfl rfl rfl rfl ?_ -- 137
    refine HJ.call (j := 71) (as := [.ref (h_r h0 pa 0), .ref (h_r h0 pa 7)]) (rr := []) (pc' := 143) (m_cR (kc := 2) rfl rfl (by decide +kernel) rfl rfl rfl ⟨rfl, by decide +kernel, by decide +kernel⟩ (by decide) hs0 (by rw [M.2.1]; exact hk1)) (by show 2 ≤ m_lc 71; decide +kernel) ?_ -- 140
    exact g1 c129
theorem r_pf143 {pa : Nat} {w v a b i y : Int} (M : RX h0 h H) (e0 : m_lk lv 0 = some (.ref pa)) {lx1 : Int32} (e1 : m_lk lv 1 = some (.int lx1)) (lq1 : lx1.toInt = w) {lx2 : Int32} (e2 : m_lk lv 2 = some (.int lx2)) (lq2 : lx2.toInt = v) {lx3 : Int32} (e3 : m_lk lv 3 = some (.int lx3)) (lq3 : lx3.toInt = a) {lx4 : Int32} (e4 : m_lk lv 4 = some (.int lx4)) (lq4 : lx4.toInt = b) {lx5 : Int32} (e5 : m_lk lv 5 = some (.int lx5)) (lq5 : lx5.toInt = i) {sx0 : Int32} (sq0 : sx0.toInt = y) (pi0 : 0 ≤ i) (pi1 : i ≤ 62)
    (g0 : ∀ x1 : Int32, x1.toInt = i + 1 → ∀ lv1 : List (Nat × Value), m_lk lv1 0 = some (.ref pa) → m_lk lv1 1 = some (.int lx1) → m_lk lv1 2 = some (.int lx2) → m_lk lv1 3 = some (.int lx3) → m_lk lv1 4 = some (.int lx4) → m_lk lv1 5 = some (.int x1) → HJ 56 110 lv1 [] h Q)
    : HJ 56 143 lv [.int sx0] h Q := by
  refine hI_pop rfl rfl rfl ?_ -- 143
  refine hM_inc (k := 5) (z := 1) rfl e5 lq5 (by decide) (by omega) (by omega) (by decide +kernel) rfl (fun lv1 x1 q1 e1_5 u1 => ?_) -- 144
  have e1_0 := u1 0 _ (by decide) (Or.inl rfl) e0
  have e1_1 := u1 1 _ (by decide) (Or.inl rfl) e1
  have e1_2 := u1 2 _ (by decide) (Or.inl rfl) e2
  have e1_3 := u1 3 _ (by decide) (Or.inl rfl) e3
  have e1_4 := u1 4 _ (by decide) (Or.inl rfl) e4
  refine hI_go (pc' := 110) (off := (-37)) rfl (by decide) ?_ -- 147
  exact g0 x1 q1 lv1 e1_0 e1_1 e1_2 e1_3 e1_4 e1_5
theorem l_ctR {pa : Nat} {w v a b : Int} {xw xv xa xb : Int32} {R : PSt × (Nat → Int)} {n0 : Nat} (ok0 : pa_ok h0 pa) (n1 : n0 + 378 ≤ 16000) (qw : xw.toInt = w) (qv : xv.toInt = v) (qa : xa.toInt = a) (qb : xb.toInt = b) (g : ∀ (x : Int32) (h' : MH), x.toInt = 1 → nl_ok h' (h_r h0 pa 0) → cs_of h' (z_i h') (h_r h0 pa 0) R.1 → hp6 (z_i h' (h_r h0 pa 7)) R.2 → FX (h_r h0 pa 0) (py_Y h0 pa) h0 h' → (∀ q, z_i h' pa q = z_i h0 pa q) → Q (some (.int x)) h') : ∀ (e i : Nat) (S : PSt) (f : Nat → Int) (lv : List (Nat × Value)) (h : MH) (xi : Int32), i + e = 63 → xi.toInt = (i : Int) → nl_ok h (h_r h0 pa 0) → cs_of h (z_i h) (h_r h0 pa 0) S → hp6 (z_i h (h_r h0 pa 7)) f → ps_sh S → hp_in S f → ps_n S ≤ n0 + 6 * i → pm_ct a e (S, f) = R → FX (h_r h0 pa 0) (py_Y h0 pa) h0 h → (∀ q, z_i h pa q = z_i h0 pa q) → m_lk lv 0 = some (.ref pa) → m_lk lv 1 = some (.int xw) → m_lk lv 2 = some (.int xv) → m_lk lv 3 = some (.int xa) → m_lk lv 4 = some (.int xb) → m_lk lv 5 = some (.int xi) → HJ 56 110 lv [] h Q := by
  have c := ok0.2.2.2.2.2.2.2
  have e7 : pa_w h0 pa 7 = h_r h0 pa 7 := rfl
  have e9 : pa_w h0 pa 9 = h_r h0 (h_r h0 pa 0) 2 := rfl
  have d97 : h_r h0 (h_r h0 pa 0) 2 ≠ h_r h0 pa 7 := c 9 7 (by decide) (by decide) (by decide)
  intro e
  induction e with
  | zero =>
    intro i S f lv h xi he qi ok I ef sh hf nb er F zp e0 e1 e2 e3 e4 e5
    obtain ⟨okp, re, rw_⟩ := pa_FX ok0 ok F
    have er : (S, f) = R := er
    rw [← er] at g
    exact r_pf110 (RX.start h) e0 e1 qw e2 qv e3 qa e4 qb e5 qi okp.1.1 (by rw [re]; exact ok.1.2.1) (by rw [re]; exact ok.1.1) (fun x2 q2 _ => g x2 h q2 ok I ef F zp) (fun c => absurd c (by omega))
  | succ e ih =>
    intro i S f lv h xi he qi ok I ef sh hf nb er F zp e0 e1 e2 e3 e4 e5
    obtain ⟨okp, re, rw_⟩ := pa_FX ok0 ok F
    have a7 := ap_FX (pa_ap ok0 (i := 7) (by decide) (by decide)) F
    have nx := nx_FX (pa_nx ok0) ok F
    obtain ⟨r2, -, -, -⟩ := nx_r (pa_nx ok0) F
    rw [e7] at a7
    have L := p_wsL (f := f) 6
    have e6 : (2 : Nat) ^ 6 = 64 := by decide
    rw [e6] at L
    refine r_pf110 (RX.start h) e0 e1 qw e2 qv e3 qa e4 qb e5 qi okp.1.1 (by rw [re]; exact ok.1.2.1) (by rw [re]; exact ok.1.1) (fun _ _ c => absurd c (by omega)) (fun _ => ?_)
    rw [re, re]
    refine k_lkey (RX.start h) (nl_nd ok I.1) I a7.1 ef hf (fun xy qy => ?_)
    refine r_pf128 (RX.start h) e0 e1 qw e2 qv e3 qa e4 qb e5 qi qy okp.1.1 (by rw [re]; exact ok.1.2.1) (by rw [re]; exact ok.1.1) (fun x1 q1 cc => ?_) (fun cc => ?_)
    · rw [pm_ctS (by omega)] at er
      rw [← er] at g
      exact g x1 h q1 ok I ef F zp
    · rw [re, re]
      rw [pm_ctN cc] at er
      refine k_take ok a7 (by rw [r2]; exact ap_FX (pa_ap ok0 (i := 9) (by decide) (by decide)) F) nx.2.1.2 (by rw [r2]; exact d97) I ef sh hf (by omega) (by omega) (fun xt h2 hx ok2 I2 e2' F2 => ?_)
      have sh2 : ps_sh (pm_tk (S, f)).1 ∧ hp_in (pm_tk (S, f)).1 (pm_tk (S, f)).2 ∧ ps_n (pm_tk (S, f)).1 ≤ ps_n S + 6 := by
        by_cases z : pm_le S f 6 = -1
        · rw [pm_tk0 z]
          exact ⟨sh, hf, Nat.le_add_right _ _⟩
        · obtain ⟨b1, b2, -, b4, -⟩ := pm_tkI sh hf (by omega) z
          exact ⟨b1, b2, b4⟩
      have F2' : FX (h_r h0 pa 0) (py_Y h0 pa) h h2 := F2.mono (fun q z => by
        rcases z with z | z
        · exact Or.inr (Or.inr ⟨7, by decide, z⟩)
        · rw [r2] at z
          exact Or.inr (Or.inr ⟨9, by decide, z⟩))
      have zp2 : ∀ q, z_i h2 pa q = z_i h0 pa q := fun q => by
        have n7 := pa_ne okp (i := 7) (by decide)
        have n9 := pa_ne okp (i := 9) (by decide)
        have n11 := pa_ne okp (i := 11) (by decide)
        rw [rw_ 7 (by decide) (by decide)] at n7
        rw [rw_ 9 (by decide) (by decide)] at n9
        have k11 : pa_w h pa 11 = h_r h (h_r h0 pa 0) 0 := by
          show h_r h (h_r h pa 0) 0 = _
          rw [re]
        rw [k11, re] at n11
        rw [re] at n7
        rw [(F2.kp (q := pa) okp.1.2.2 n7.2.2.2.1 n11.1 (by have := n11.2.2.2.2.2; exact this) (fun z => by
          rcases z with z | z
          · exact n7.1 z
          · rw [r2] at z
            exact n9.1 z)).2.1 q]
        exact zp q
      refine r_pf143 (RX.start h2) e0 e1 qw e2 qv e3 qa e4 qb e5 qi rfl (by omega) (by omega) (fun x1 q1 lv1 b0 b1 b2 b3 b4 b5 => ?_)
      exact ih (i + 1) (pm_tk (S, f)).1 (pm_tk (S, f)).2 lv1 h2 x1 (by omega) (by omega) ok2 I2 e2' sh2.1 sh2.2.1 (by omega) er (F.trans F2') zp2 b0 b1 b2 b3 b4 b5
def pf_R (h' : MH) (nd hp pa : Nat) (Y : RYt) (w v a b : Int) (x : Int) : Prop := (x = 0 ∧ ry_do Y w v a b = none ∧ cs_of h' (z_i h') nd (ps_le (ry_s Y) 0) ∧ z_i h' pa 12 = ry_t Y) ∨ (x = 1 ∧ ∃ X, ry_do Y w v a b = some X ∧ cs_of h' (z_i h') nd X.1 ∧ hp6 (z_i h' hp) X.2.1 ∧ z_i h' pa 12 = X.2.2)
theorem k_perform {pa : Nat} {Y : RYt} {w v a b : Int} {xw xv xa xb : Int32} (ok : pa_ok h pa) (I : cs_of h (z_i h) (h_r h pa 0) (ps_le (ry_s Y) 0)) (P : pr_of h pa Y) (sh : ps_sh (ry_s Y)) (hs : ∀ u : Nat, u < ry_v Y → hp_in (ry_s Y) (ry_h Y u)) (cap : ps_n (ry_s Y) + 378 ≤ 16000) (et : z_i h pa 12 = ry_t Y) (t0 : 0 ≤ ry_t Y) (t1 : ry_t Y ≤ 126) (w0 : 0 ≤ w) (w5 : w ≤ 5) (av : av_1 w a b) (qw : xw.toInt = w) (qv : xv.toInt = v) (qa : xa.toInt = a) (qb : xb.toInt = b) (g : ∀ (x : Int32) (h' : MH), pf_R h' (h_r h pa 0) (h_r h pa 7) pa Y w v a b x.toInt → nl_ok h' (h_r h pa 0) → FX (h_r h pa 0) (py_Y h pa) h h' → (∀ q, q ≠ 12 → z_i h' pa q = z_i h pa q) → Q (some (.int x)) h') : HJ 56 0 (lv_args 0 [.ref pa, .int xw, .int xv, .int xa, .int xb]) [] h Q := by
  have nx := pa_nx ok
  have a7 := pa_ap ok (i := 7) (by decide) (by decide)
  have h7 := pa_hx ok (i := 7) (by decide) (by decide) (by decide) (by decide) (by decide)
  have e7 : pa_w h pa 7 = h_r h pa 7 := rfl
  rw [e7] at a7 h7
  have l7 : (h_k h (h_r h pa 7)).2 ≤ 1000000 := (ok.2.2.2.2.2.2.1 7 (by decide)).2.2.2.2
  have p7 := (pa_ne ok (i := 7) (by decide)).1
  rw [e7] at p7
  have pn := (pa_ne ok (i := 7) (by decide)).2.2.2
  have M := RX.start h
  have n7 := nl_ap ok.2.1 a7.1.1 a7.2.2
  have sh0 : ps_sh (ps_le (ry_s Y) 0) := sh
  obtain ⟨⟨P1, P2, P3⟩, P4⟩ := P
  have P1' : (h_i h pa 11).toInt + 1 = (ry_v Y : Int) := P1
  -- only the heap set anew
  have one : ∀ {h1 : MH} {H1 : Nat → Nat → Int}, RX h h1 H1 → (∀ q, q ≠ h_r h pa 7 → H1 q = z_i h q) → nl_ok h1 (h_r h pa 0) ∧ cs_of h1 (z_i h1) (h_r h pa 0) (ps_le (ry_s Y) 0) ∧ FX (h_r h pa 0) (py_Y h pa) h h1 ∧ ∀ q, z_i h1 pa q = z_i h pa q := fun {h1 H1} M1 o1 => by
    have rr1 : h_r h1 = h_r h := M1.2.2.1.1
    exact ⟨nl_RX ok.2.1 M1 (by rw [o1 _ (Ne.symm n7.1)]), cs_mv I (by rw [M1.zi, o1 _ (Ne.symm n7.1)]) (by rw [M1.zi, o1 _ (Ne.symm n7.1)]) (fun q _ => by rw [rr1, M1.zi, o1 _ (Ne.symm n7.2.1)]), FX.ofRX M1 (by rw [o1 _ (Ne.symm n7.1)]) (fun a ha j => by rw [o1 a (fun z => ha (Or.inr (Or.inr (Or.inr (Or.inr (Or.inr ⟨7, by decide, z⟩))))))]), fun q => by rw [M1.zi, o1 pa p7]⟩
  refine r_pf0 M rfl rfl qw rfl qv rfl qa rfl qb ok.1.2.1 ok.1.1 (fun cw => ?_) (fun x1 q1 cw => ?_)
  · refine k_has M ok.1.1 qv (fun xz hz => ?_)
    refine r_pf19 M rfl rfl qw rfl qv rfl qa rfl qb rfl ok.1.1 ok.1.2.1 (fun cz => ?_) (fun x1 q1 cz => ?_)
    · have hz : 0 ≤ v ∧ v ≤ (h_i h pa 11).toInt := by
        rcases hz with w | w
        · exact w.2
        · exact absurd w.1 cz
      have is : ry_is Y v = true := ry_isT ⟨hz.1, by omega⟩
      have hv : hp_in (ps_le (ry_s Y) 0) (ry_h Y v) := by
        rw [ry_hv hz.1]
        exact hs v.toNat (by omega)
      have rv := (P4 v.toNat (by omega)).1
      rw [← ry_hv hz.1] at rv
      refine k_load M ok qv hz.1 hz.2 (by omega) a7.1 (fun h1 H1 M1 f1 => ?_)
      have o1 : ∀ q, q ≠ h_r h pa 7 → H1 q = z_i h q := fun q hq => by rw [f1, m_uN _ _ _ _ hq]; rfl
      obtain ⟨ok1, I1, F1, z1⟩ := one M1 o1
      have ef1 : hp6 (z_i h1 (h_r h pa 7)) (ry_h Y v) := fun q hq => by
        rw [M1.zi, f1, m_uE, if_pos hq]
        exact rv q hq
      obtain ⟨okp, re, rw_⟩ := pa_FX ok ok1 F1
      have L := p_wsL (f := ry_h Y v) 6
      have e6 : (2 : Nat) ^ 6 = 64 := by decide
      rw [e6] at L
      have M1' := RX.start h1
      have P1_ : pr_of h1 pa Y := ⟨⟨by rw [z1]; exact P1, P2, P3⟩, fun u hu => by
        obtain ⟨u1, u2⟩ := P4 u hu
        refine ⟨fun q hq => ?_, ?_⟩
        · rw [rw_ (18 + u) (by omega) (by omega), py_kp ok F1 (by omega) (by omega)]
          exact u1 q hq
        · rw [re]
          have := py_kp ok F1 (i := 12) (by decide) (by decide) u
          rw [show pa_w h pa 12 = h_r h pa 3 from rfl] at this
          rw [this]
          exact u2⟩
      refine r_pf33 M1' rfl rfl qw rfl qv rfl qa rfl qb ?_
      have n0 : ps_n (ps_le (ry_s Y) 0) = ps_n (ry_s Y) := rfl
      have wc : w = 1 ∨ w = 2 ∨ w = 3 ∨ w = 4 ∨ w = 5 := by omega
      rcases wc with c | c | c | c | c
      · subst c
        refine hI_ts (t := 68) (o := 34) rfl qw (by decide) (by decide) rfl (by decide) ?_
        obtain ⟨k0, k1⟩ := av.1 rfl
        refine r_pf68 M1' rfl rfl qw rfl qv rfl qa rfl qb okp.1.2.1 okp.1.1 ?_
        refine k_put okp (by rw [re]; exact I1) (by rw [re]; exact ef1) sh0 hv (by omega) ((z1 12).trans et) t0 t1 qa k0 k1 (fun x h' hx => ?_)
        rcases hx with ⟨x0, xc, xh⟩ | ⟨x0, xc, xi, xe, xt, xo, xF, xz⟩
        · subst xh
          exact r_pf73 M1' rfl (by omega) (by omega) (g x h' (Or.inl ⟨x0, by rw [ry_do1 rfl is, if_pos xc], I1, (z1 12).trans et⟩) ok1 F1 (fun q _ => z1 q))
        · rw [re] at xi xe xo xF
          have xF' : FX (h_r h pa 0) (py_Y h pa) h1 h' := xF.mono (fun q z => by
            rcases z with z | z | ⟨i, hi, z⟩
            · exact Or.inl z
            · refine Or.inr (Or.inl ?_)
              rw [z, re, (nx_r nx F1).2.2.1]
            · exact Or.inr (Or.inr ⟨i, hi, by rw [z, rw_ i (by omega) (by omega)]⟩))
          exact r_pf73 (RX.start h') rfl (by omega) (by omega) (g x h' (Or.inr ⟨x0, ((pm_pu (ps_le (ry_s Y) 0) (ry_h Y v) (ry_t Y) a).1, (pm_pu (ps_le (ry_s Y) 0) (ry_h Y v) (ry_t Y) a).2, ry_t Y + 1), by rw [ry_do1 rfl is, if_neg xc], xi, xe, xt⟩) xo (F1.trans xF') (fun q hq => (xz q hq).trans (z1 q)))
      · subst c
        refine hI_ts (t := 74) (o := 40) rfl qw (by decide) (by decide) rfl (by decide) ?_
        refine r_pf74 M1' rfl rfl qw rfl qv rfl qa rfl qb okp.1.2.1 okp.1.1 ?_
        refine k_meldW (Y := Y) okp (by rw [re]; exact I1) P1_ (by rw [re]; exact ef1) sh0 hv (fun u hu => hs u hu) (by omega) qa (fun x h' hx => ?_)
        rcases hx with ⟨x0, xc, xh⟩ | ⟨x0, xc, xi, xe, xo, xF, xz⟩
        · subst xh
          exact r_pf79 M1' rfl (by omega) (by omega) (g x h' (Or.inl ⟨x0, by rw [ry_do2 rfl is, if_neg xc], I1, (z1 12).trans et⟩) ok1 F1 (fun q _ => z1 q))
        · rw [re] at xi xe xo xF
          have xF' : FX (h_r h pa 0) (py_Y h pa) h1 h' := xF.mono (fun q z => by
            rcases z with z | z | ⟨i, hi, z⟩
            · exact Or.inl z
            · refine Or.inr (Or.inl ?_)
              rw [z, re, (nx_r nx F1).2.2.1]
            · exact Or.inr (Or.inr ⟨i, hi, by rw [z, rw_ i (by omega) (by omega)]⟩))
          exact r_pf79 (RX.start h') rfl (by omega) (by omega) (g x h' (Or.inr ⟨x0, ((pm_md (ps_le (ry_s Y) 0) (ry_h Y v) (ry_h Y a)).1, (pm_md (ps_le (ry_s Y) 0) (ry_h Y v) (ry_h Y a)).2, ry_t Y), by rw [ry_do2 rfl is, if_pos xc], xi, xe, ((xz 12).trans (z1 12)).trans et⟩) xo (F1.trans xF') (fun q hq => (xz q).trans (z1 q)))
      · subst c
        refine hI_ts (t := 80) (o := 46) rfl qw (by decide) (by decide) rfl (by decide) ?_
        refine r_pf80 M1' rfl rfl qw rfl qv rfl qa rfl qb okp.1.1 (by rw [re]; exact ok1.1.2.1) (by rw [re]; exact ok1.1.1) ?_
        rw [re, re]
        obtain ⟨r2, -, -, -⟩ := nx_r nx F1
        have nx1 := nx_FX nx ok1 F1
        refine k_take ok1 (ap_FX a7 F1) nx1.2.1.1 nx1.2.1.2 (by rw [r2]; exact Ne.symm h7.2.1) I1 ef1 sh0 hv (by omega) (by omega) (fun x h' hx xo xi xe xF => ?_)
        have xz : ∀ q, z_i h' pa q = z_i h1 pa q := fun q => by
          have n9 := pa_ne okp (i := 9) (by decide)
          have n11 := pa_ne okp (i := 11) (by decide)
          have k11 : pa_w h1 pa 11 = h_r h1 (h_r h pa 0) 0 := by
            show h_r h1 (h_r h1 pa 0) 0 = _
            rw [re]
          rw [k11, re] at n11
          rw [rw_ 9 (by decide) (by decide)] at n9
          exact (xF.kp (q := pa) okp.1.2.2 pn.1 n11.1 n11.2.2.2.2.2 (fun z => by
            rcases z with z | z
            · exact p7 z
            · rw [r2] at z
              exact n9.1 z)).2.1 q
        have xF' : FX (h_r h pa 0) (py_Y h pa) h1 h' := xF.mono (fun q z => by
          rcases z with z | z
          · exact Or.inr (Or.inr ⟨7, by decide, z⟩)
          · rw [r2] at z
            exact Or.inr (Or.inr ⟨9, by decide, z⟩))
        rcases hx with ⟨x0, xc⟩ | ⟨x0, xc⟩
        · rw [pm_tk0 xc] at xi
          exact r_pf91 (RX.start h') rfl (by omega) (by omega) (g x h' (Or.inl ⟨x0, by rw [ry_do3 rfl is, if_pos xc], xi, ((xz 12).trans (z1 12)).trans et⟩) xo (F1.trans xF') (fun q _ => (xz q).trans (z1 q)))
        · exact r_pf91 (RX.start h') rfl (by omega) (by omega) (g x h' (Or.inr ⟨x0, ((pm_tk (ps_le (ry_s Y) 0, ry_h Y v)).1, (pm_tk (ps_le (ry_s Y) 0, ry_h Y v)).2, ry_t Y), by rw [ry_do3 rfl is, if_neg xc], xi, xe, ((xz 12).trans (z1 12)).trans et⟩) xo (F1.trans xF') (fun q _ => (xz q).trans (z1 q)))
      · subst c
        refine hI_ts (t := 92) (o := 58) rfl qw (by decide) (by decide) rfl (by decide) ?_
        obtain ⟨b0, b1⟩ := av.2 rfl
        refine r_pf92 M1' rfl rfl qw rfl qv rfl qa rfl qb okp.1.1 (by rw [re]; exact ok1.1.2.1) (by rw [re]; exact ok1.1.1) ?_
        rw [re, re]
        have nx1 := nx_FX nx ok1 F1
        have hx1 := hx_FX nx h7 F1
        obtain ⟨r2, r3, r4, r5⟩ := nx_r nx F1
        refine k_lower nx1 hx1 I1 ef1 sh0 hv (by omega) qa qb b0 (fun x h' hx xo xF => ?_)
        have yy : ∀ q, lw_Y h1 (h_r h pa 0) (h_r h pa 7) q → py_Y h pa q := fun q z => by
          rcases z with z | z | z | ⟨k, hk, z⟩
          · exact Or.inr (Or.inr ⟨7, by decide, z⟩)
          · rw [r3] at z
            exact Or.inr (Or.inr ⟨10, by decide, z⟩)
          · rw [r4] at z
            exact Or.inr (Or.inl z)
          · rw [r4, r5] at z
            exact Or.inr (Or.inr ⟨k, by omega, by rw [pa_wk hk]; exact z⟩)
        have xz : ∀ q, z_i h' pa q = z_i h1 pa q := fun q => by
          have n11 := pa_ne okp (i := 11) (by decide)
          have k11 : pa_w h1 pa 11 = h_r h1 (h_r h pa 0) 0 := by
            show h_r h1 (h_r h1 pa 0) 0 = _
            rw [re]
          rw [k11, re] at n11
          refine (xF.kp (q := pa) okp.1.2.2 pn.1 n11.1 n11.2.2.2.2.2 (fun z => ?_)).2.1 q
          rcases z with z | z | z | ⟨k, hk, z⟩
          · exact p7 z
          · rw [r3] at z
            exact (pa_ne ok (i := 10) (by decide)).1 z
          · rw [r4] at z
            exact pn.2.1 z
          · rw [r4, r5, ← pa_wk (h := h) (pa := pa) hk] at z
            exact (pa_ne ok (i := k) (by omega)).1 z
        have xF' : FX (h_r h pa 0) (py_Y h pa) h1 h' := xF.mono yy
        rcases hx with ⟨x0, xc, xi, xe⟩ | ⟨x0, X, xc, xi, xe⟩
        · exact r_pf106 (RX.start h') rfl (by omega) (by omega) (g x h' (Or.inl ⟨x0, by rw [ry_do4 rfl is, xc], xi, ((xz 12).trans (z1 12)).trans et⟩) xo (F1.trans xF') (fun q _ => (xz q).trans (z1 q)))
        · exact r_pf106 (RX.start h') rfl (by omega) (by omega) (g x h' (Or.inr ⟨x0, (X.1, X.2, ry_t Y), by rw [ry_do4 rfl is, xc], xi, xe, ((xz 12).trans (z1 12)).trans et⟩) xo (F1.trans xF') (fun q _ => (xz q).trans (z1 q)))
      · subst c
        refine hI_ts (t := 107) (o := 73) rfl qw (by decide) (by decide) rfl (by decide) ?_
        refine r_pf107 M1' rfl rfl qw rfl qv rfl qa rfl qb (fun xi0 qi0 lv2 b0 b1 b2 b3 b4 b5 => ?_)
        refine l_ctR (R := pm_ct a 63 (ps_le (ry_s Y) 0, ry_h Y v)) (n0 := ps_n (ry_s Y)) okp cap qw qv qa qb (fun x h' x1 xo xi xe xF xz => ?_) 63 0 (ps_le (ry_s Y) 0) (ry_h Y v) lv2 h1 xi0 rfl qi0 (by rw [re]; exact ok1) (by rw [re]; exact I1) (by rw [re]; exact ef1) sh0 hv (by omega) rfl FX.same (fun _ => rfl) b0 b1 b2 b3 b4 b5
        rw [re] at xo xi xe xF
        have xF' : FX (h_r h pa 0) (py_Y h pa) h1 h' := xF.mono (fun q z => by
          rcases z with z | z | ⟨i, hi, z⟩
          · exact Or.inl z
          · refine Or.inr (Or.inl ?_)
            rw [z, re, (nx_r nx F1).2.2.1]
          · exact Or.inr (Or.inr ⟨i, hi, by rw [z, rw_ i (by omega) (by omega)]⟩))
        exact g x h' (Or.inr ⟨x1, ((pm_ct a 63 (ps_le (ry_s Y) 0, ry_h Y v)).1, (pm_ct a 63 (ps_le (ry_s Y) 0, ry_h Y v)).2, ry_t Y), by rw [ry_do5 (by decide) (by decide) (by decide) (by decide) (by decide) is], xi, xe, ((xz 12).trans (z1 12)).trans et⟩) xo (F1.trans xF') (fun q _ => (xz q).trans (z1 q))
    · have hz : ¬ (0 ≤ v ∧ v ≤ (h_i h pa 11).toInt) := by
        rcases hz with w | w
        · omega
        · exact w.2
      exact g x1 h (Or.inl ⟨q1, ry_doF cw (ry_isF (fun z => hz ⟨z.1, by omega⟩)), I, et⟩) ok.2.1 FX.same (fun _ _ => rfl)
  · refine k_fill M a7.1.1 a7.1.2.1 l7 q1 (fun h1 H1 M1 p1 p2 => ?_)
    obtain ⟨ok1, I1, F1, z1⟩ := one M1 (fun q hq => by rw [p1 q hq]; rfl)
    refine r_pf12 (pa := pa) M1 (fun x2 q2 => g x2 h1 (Or.inr ⟨q2, _, ry_do0 cw, I1, fun q hq => ?_, (z1 12).trans et⟩) ok1 F1 (fun q _ => z1 q))
    rw [M1.zi]
    exact p2 q (by have := a7.1.2.2; omega)
end
