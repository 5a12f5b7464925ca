-- A NODE PUT, PURE AND THE CLASS'S
theorem ps_mkS0 {S : PSt} {t y l : Int} {f : Nat → Int} (sh : ps_sh S) : ps_sh (ps_le (ps_mk S t y 0 f) l) := fun v hv => by
  have hv : v < ps_n S + 1 := hv
  show (0 ≤ m_u (ps_k S) (ps_n S) 0 v ∧ m_u (ps_k S) (ps_n S) 0 v ≤ 5) ∧ ∀ r : Nat, (r : Int) < m_u (ps_k S) (ps_n S) 0 v → 0 ≤ ps_b (ps_mk S t y 0 f) (6 * v + r) ∧ ps_b (ps_mk S t y 0 f) (6 * v + r) < ((ps_n S + 1 : Nat) : Int) ∧ m_u (ps_k S) (ps_n S) 0 (ps_b (ps_mk S t y 0 f) (6 * v + r)).toNat = (r : Int)
  by_cases e : v = ps_n S
  · subst e
    rw [m_uE]
    exact ⟨⟨Int.le_refl _, by decide⟩, fun r hr => absurd hr (by omega)⟩
  · obtain ⟨a, b⟩ := sh v (by omega)
    rw [m_uN _ _ _ _ e]
    refine ⟨a, fun r hr => ?_⟩
    obtain ⟨b0, b1, b2⟩ := b r hr
    rw [ps_mkB (by omega)]
    exact ⟨b0, by omega, by rw [m_uN _ _ _ _ (by omega)]; exact b2⟩
def pu_h (n : Nat) : Nat → Int := fun r => if r = 0 then (n : Int) else -1
theorem pu_hw (n : Nat) : p_ws (pu_h n) 6 = 1 := by
  rw [p_ws0 (f := pu_h n) (q := 1) (r := 6) (by decide) (fun k h1 _ => if_neg (by omega))]
  show p_ws (pu_h n) 0 + y_tg (pu_h n 0) * 2 ^ 0 = 1
  rw [y_tg1 (x := pu_h n 0) (by show ((n : Nat) : Int) ≠ -1; omega)]
  rfl
theorem pu_hi {S : PSt} {t y l : Int} {f : Nat → Int} : hp_in (ps_le (ps_mk S t y 0 f) l) (pu_h (ps_n S)) := fun r _ => by
  by_cases e : r = 0
  · subst e
    refine Or.inr ⟨Int.natCast_nonneg _, by show (ps_n S : Int) < ((ps_n S + 1 : Nat) : Int); omega, ?_⟩
    show m_u (ps_k S) (ps_n S) 0 (ps_n S : Int).toNat = ((0 : Nat) : Int)
    rw [Int.toNat_natCast, m_uE]
    rfl
  · exact Or.inl (if_neg e)
theorem pm_puI {S : PSt} {f : Nat → Int} {t k : Int} (sh : ps_sh S) (hf : hp_in S f) (w : p_ws f 6 ≠ 63) : ps_sh (pm_pu S f t k).1 ∧ hp_in (pm_pu S f t k).1 (pm_pu S f t k).2 ∧ ps_ex S (pm_pu S f t k).1 ∧ ps_n (pm_pu S f t k).1 ≤ ps_n S + 7 := by
  have L := p_wsL (f := f) 6
  have e6 : (2 : Nat) ^ 6 = 64 := by decide
  rw [e6] at L
  have E : ps_ex S (ps_mk S t k 0 (fun _ => -1)) := ps_exM (S := S) (t := t) (y := k) (k := 0) (l := ps_l S) (f := fun _ => -1)
  obtain ⟨a, b, c, d, -⟩ := pm_mdI (S := ps_mk S t k 0 (fun _ => -1)) (f := f) (s := pu_h (ps_n S)) (ps_mkS0 (t := t) (y := k) (f := fun _ => -1) (l := ps_l S) sh) (hp_inE E hf) (pu_hi (t := t) (y := k) (f := fun _ => -1) (l := ps_l S)) (by rw [pu_hw]; omega)
  exact ⟨a, b, ps_exT E c, by have : ps_n (ps_mk S t k 0 (fun _ => -1)) = ps_n S + 1 := rfl; show ps_n (pm_md (ps_mk S t k 0 (fun _ => -1)) f (pu_h (ps_n S))).1 ≤ _; omega⟩
theorem mk_cs {h h' : MH} {nd : Nat} {S : PSt} {t y : Int} {f : Nat → Int} (T : mk_to h h' nd (128 * y + t) 0) (I : cs_of h (z_i h) nd S) (n1 : ps_n S ≤ 15999) (t0 : 0 ≤ t) (t1 : t ≤ 127) (y0 : 0 ≤ y) (y1 : y ≤ 99) : cs_of h' (z_i h') nd (ps_mk S t y 0 f) := by
  obtain ⟨ok1, F1, t5, tk, tc, tw, tr, tl, tz⟩ := T
  have i1 : z_i h nd 5 = (ps_n S : Int) := I.1
  rw [i1] at t5 tc tw tr
  rw [Int.toNat_natCast] at tw tr
  have i3 := I.2.2.1
  exact cs_mk (l := ps_l S) I n1 t5 ((tk 6 (by decide)).trans I.2.1) i3.1 (by omega) (fun j hj => tc j (by omega)) t0 t1 y0 y1 (Int.le_refl _) (by decide) tw tr (fun r hr => absurd hr (by omega))
section
variable {lv : List (Nat × Value)} {Q : Option Value → MH → Prop} {h0 h : MH} {H : Nat → Nat → Int}
theorem r_pi0 {pa : Nat} {k : Int} (M : RX h0 h H) (e0 : m_lk lv 0 = some (.ref pa)) {lx1 : Int32} (e1 : m_lk lv 1 = some (.int lx1)) (lq1 : lx1.toInt = k)  (hs0 : 16 ≤ pa) (hk0 : (h_k h0 pa).1 = 4)
    (g0 : HJ 50 0 (lv_args 0 [.ref pa]) [] h (fun v h' => HJ 59 4 lv (v.toList ++ []) h' Q))
    : HJ 59 0 lv [] h Q := by
  refine hI_al (k := 0) rfl e0 rfl ?_ -- 0
  refine HJ.call (j := 50) (as := [.ref pa]) (rr := []) (pc' := 4) (m_cR (kc := 3) rfl rfl (by decide +kernel) rfl rfl rfl ⟨rfl, by decide +kernel, by decide +kernel⟩ (by decide) hs0 (by rw [M.2.1]; exact hk0)) (by show 1 ≤ m_lc 50; decide +kernel) ?_ -- 1
  exact g0 
theorem r_pi4 {pa : Nat} {k n : Int} (M : RX h0 h H) (e0 : m_lk lv 0 = some (.ref pa)) {lx1 : Int32} (e1 : m_lk lv 1 = some (.int lx1)) (lq1 : lx1.toInt = k) {sx0 : Int32} (sq0 : sx0.toInt = n)  (hk0 : (h_k h0 pa).1 = 4)
    (g0 : ∀ x2 : Int32, x2.toInt = (-1) → n < 63 → HJ 48 0 (lv_args 0 [.ref (h_r h0 pa 8), .int x2]) [] h (fun v h' => HJ 59 19 lv (v.toList ++ []) h' Q))
    (g1 : ∀ x3 : Int32, x3.toInt = 0 → n ≥ 63 → Q (some (.int x3)) h)
    : HJ 59 4 lv [.int sx0] h Q := by
  refine hM_bp (n := 63) rfl (by decide) rfl (fun x1 q1 => ?_) -- 4
  refine hM_clt (off := 5) (t := 11) rfl sq0 q1 (by decide) rfl (fun c6 => ?_) (fun c6 => ?_) -- 6
  · refine hI_al (k := 0) rfl e0 rfl ?_ -- 11
    refine hR_gr (c := 3) (k := 8) M hk0 rfl rfl rfl rfl ?_ -- 12
    refine hM_ic (n := (-1)) rfl (by decide) rfl (fun x2 q2 => ?_) -- 15
    refine hM_is0 (as := [.ref (h_r h0 pa 8), .int x2]) (r := []) rfl rfl (by decide +kernel) rfl rfl rfl rfl rfl ?_ -- 16
    exact g0 x2 q2 c6
  · refine hM_ic (n := 0) rfl (by decide) rfl (fun x3 q3 => ?_) -- 9
    refine hM_rb rfl rfl q3 (by omega) (by omega) ?_ -- 10
    exact g1 x3 q3 c6
theorem r_pi19 {pa : Nat} {k : Int} (M : RX h0 h H) (e0 : m_lk lv 0 = some (.ref pa)) {lx1 : Int32} (e1 : m_lk lv 1 = some (.int lx1)) (lq1 : lx1.toInt = k)  (hk0 : (h_k h0 pa).1 = 4)
    (g0 : ∀ x1 : Int32, x1.toInt = 0 → ∀ x2 : Int32, x2.toInt = H pa 12 → HJ 60 0 (lv_args 0 [.int x2, .int lx1]) [] h (fun v h' => HJ 59 36 lv (v.toList ++ [.ref (h_r h0 pa 0), .int x1, .ref (h_r h0 pa 8)]) h' Q))
    : HJ 59 19 lv [] h Q := by
  refine hI_al (k := 0) rfl e0 rfl ?_ -- 19
  refine hR_gr (c := 3) (k := 8) M hk0 rfl rfl rfl rfl ?_ -- 20
  refine hM_ic (n := 0) rfl (by decide) rfl (fun x1 q1 => ?_) -- 23
  refine hI_al (k := 0) rfl e0 rfl ?_ -- 24
  refine hR_gr (c := 3) (k := 0) M hk0 rfl rfl rfl rfl ?_ -- 25
  refine hI_al (k := 0) rfl e0 rfl ?_ -- 28
  refine hR_gi (c := 3) (k := 12) M hk0 rfl rfl rfl rfl (fun x2 q2 => ?_) -- 29
  have gb2 : -2147483648 ≤ H pa 12 ∧ H pa 12 ≤ 2147483647 := by rw [← q2]; exact g_iT _
  refine hI_il (k := 1) rfl e1 rfl ?_ -- 32
  refine hM_is0 (as := [.int x2, .int lx1]) (r := [.ref (h_r h0 pa 0), .int x1, .ref (h_r h0 pa 8)]) rfl rfl (by decide +kernel) rfl rfl rfl rfl rfl ?_ -- 33
  exact g0 x1 q1 x2 q2
theorem r_pi36 {pa : Nat} {k z w : Int} (M : RX h0 h H) (e0 : m_lk lv 0 = some (.ref pa)) {lx1 : Int32} (e1 : m_lk lv 1 = some (.int lx1)) (lq1 : lx1.toInt = k) {sx1 : Int32} (sq1 : sx1.toInt = z) {sx3 : Int32} (sq3 : sx3.toInt = w)  (hs0 : 16 ≤ h_r h0 pa 0) (hk0 : (h_k h0 (h_r h0 pa 0)).1 = 3)
    (g0 : ∀ x1 : Int32, x1.toInt = 0 → HJ 61 0 (lv_args 0 [.ref (h_r h0 pa 0), .int sx3, .int x1]) [] h (fun v h' => HJ 59 40 lv (v.toList ++ [.int sx1, .ref (h_r h0 pa 8)]) h' Q))
    : HJ 59 36 lv [.int sx3, .ref (h_r h0 pa 0), .int sx1, .ref (h_r h0 pa 8)] h Q := by
  refine hM_ic (n := 0) rfl (by decide) rfl (fun x1 q1 => ?_) -- 36
  refine HJ.call (j := 61) (as := [.ref (h_r h0 pa 0), .int sx3, .int x1]) (rr := [.int sx1, .ref (h_r h0 pa 8)]) (pc' := 40) (m_cR (kc := 2) rfl rfl (by decide +kernel) rfl rfl rfl ⟨rfl, by decide +kernel, by decide +kernel⟩ (by decide) hs0 (by rw [M.2.1]; exact hk0)) (by show 3 ≤ m_lc 61; decide +kernel) ?_ -- 37
  exact g0 x1 q1
theorem r_pi40 {pa : Nat} {k z n : Int} (M : RX h0 h H) (e0 : m_lk lv 0 = some (.ref pa)) {lx1 : Int32} (e1 : m_lk lv 1 = some (.int lx1)) (lq1 : lx1.toInt = k) {sx1 : Int32} (sq1 : sx1.toInt = z) {sx2 : Int32} (sq2 : sx2.toInt = n) (pz0 : z = 0) (pt0 : 0 ≤ H pa 12) (pt1 : H pa 12 ≤ 1000) (px : pa ≠ h_r h0 pa 8) (ha0 : (h_k h0 (h_r h0 pa 8)).1 = 20) (hl0 : 6 ≤ ((h_k h0 (h_r h0 pa 8)).2 : Int)) (hs0 : 16 ≤ h_r h0 pa 8) (hk0 : (h_k h0 pa).1 = 4) (hs1 : 16 ≤ h_r h0 pa 0) (hk1 : (h_k h0 (h_r h0 pa 0)).1 = 3)
    (g0 : ∀ h1 : MH, ∀ H1 : Nat → Nat → Int, H1 = m_u H (h_r h0 pa 8) (m_u (H (h_r h0 pa 8)) (z).toNat (n)) → ∀ h5 : MH, ∀ H5 : Nat → Nat → Int, H5 = m_u H1 pa (m_u (H1 pa) 12 ((H pa 12) + 1)) → RX h0 h5 H5 → HJ 64 0 (lv_args 0 [.ref (h_r h0 pa 0), .ref (h_r h0 pa 7), .ref (h_r h0 pa 8)]) [] h5 (fun v h' => HJ 59 66 lv (v.toList ++ []) h' Q))
    : HJ 59 40 lv [.int sx2, .int sx1, .ref (h_r h0 pa 8)] h Q := by
  refine hR_is M hs0 ha0 sq1 sq2 (by omega) (by omega) rfl rfl (fun h1 H1 f1 M1 => ?_) -- 40
  refine hI_al (k := 0) rfl e0 rfl ?_ -- 41
  refine hI_dup rfl rfl rfl ?_ -- 42
  refine hR_gi (c := 3) (k := 12) M1 hk0 rfl rfl rfl rfl (fun x2 q2 => ?_) -- 43
  rw [show H1 pa 12 = H pa 12 by rw [f1, m_uN _ _ _ _ px]] at q2
  have gb2 : -2147483648 ≤ H pa 12 ∧ H pa 12 ≤ 2147483647 := by rw [← q2]; exact g_iT _
  refine hM_ic (n := 1) rfl (by decide) rfl (fun x3 q3 => ?_) -- 46
  refine hM_add rfl q2 q3 (by omega) (by omega) rfl (fun x4 q4 => ?_) -- 47
  refine hR_pi (c := 3) (k := 12) M1 hk0 rfl rfl ⟨by decide, by decide +kernel, rfl⟩ q4 rfl (fun h5 H5 f5 M5 => ?_) -- 48
  refine hI_al (k := 0) rfl e0 rfl ?_ -- 51
  refine hR_gr (c := 3) (k := 0) M5 hk0 rfl rfl rfl rfl ?_ -- 52
  refine hI_al (k := 0) rfl e0 rfl ?_ -- 55
  refine hR_gr (c := 3) (k := 7) M5 hk0 rfl rfl rfl rfl ?_ -- 56
  refine hI_al (k := 0) rfl e0 rfl ?_ -- 59
  refine hR_gr (c := 3) (k := 8) M5 hk0 rfl rfl rfl rfl ?_ -- 60
  refine HJ.call (j := 64) (as := [.ref (h_r h0 pa 0), .ref (h_r h0 pa 7), .ref (h_r h0 pa 8)]) (rr := []) (pc' := 66) (m_cR (kc := 2) rfl rfl (by decide +kernel) rfl rfl rfl ⟨rfl, by decide +kernel, by decide +kernel⟩ (by decide) hs1 (by rw [M5.2.1]; exact hk1)) (by show 3 ≤ m_lc 64; decide +kernel) ?_ -- 63
  exact g0 h1 H1 f1 h5 H5 f5 M5
theorem r_pi66 {pa : Nat} (M : RX h0 h H)  
    (g0 : ∀ x1 : Int32, x1.toInt = 1 → Q (some (.int x1)) h)
    : HJ 59 66 lv [] h Q := by
  refine hM_ic (n := 1) rfl (by decide) rfl (fun x1 q1 => ?_) -- 66
  refine hM_rb rfl rfl q1 (by omega) (by omega) ?_ -- 67
  exact g0 x1 q1
theorem k_put {pa : Nat} {S : PSt} {f : Nat → Int} {tt k : Int} {xk : Int32} (ok : pa_ok h pa) (I : cs_of h (z_i h) (h_r h pa 0) S) (ef : hp6 (z_i h (h_r h pa 7)) f) (sh : ps_sh S) (hf : hp_in S f) (cap : ps_n S + 7 ≤ 16000) (et : z_i h pa 12 = tt) (t0 : 0 ≤ tt) (t1 : tt ≤ 126) (qk : xk.toInt = k) (k0 : 0 ≤ k) (k1 : k ≤ 99) (g : ∀ (x : Int32) (h' : MH), (x.toInt = 0 ∧ p_ws f 6 = 63 ∧ h' = h) ∨ (x.toInt = 1 ∧ p_ws f 6 ≠ 63 ∧ cs_of h' (z_i h') (h_r h pa 0) (pm_pu S f tt k).1 ∧ hp6 (z_i h' (h_r h pa 7)) (pm_pu S f tt k).2 ∧ z_i h' pa 12 = tt + 1 ∧ nl_ok h' (h_r h pa 0) ∧ FX (h_r h pa 0) (py_Y h pa) h h' ∧ ∀ q, q ≠ 12 → z_i h' pa q = z_i h pa q) → Q (some (.int x)) h') : HJ 59 0 (lv_args 0 [.ref pa, .int xk]) [] h Q := by
  have nx := pa_nx ok
  have c := ok.2.2.2.2.2.2.2
  have b := ok.2.2.2.2.2.2.1
  have a7 := pa_ap ok (i := 7) (by decide) (by decide)
  have a8 := pa_ap ok (i := 8) (by decide) (by decide)
  have e7 : pa_w h pa 7 = h_r h pa 7 := rfl
  have e8 : pa_w h pa 8 = h_r h pa 8 := rfl
  have d78 : h_r h pa 8 ≠ h_r h pa 7 := c 8 7 (by decide) (by decide) (by decide)
  rw [e7] at a7
  rw [e8] at a8
  have p7 := (pa_ne ok (i := 7) (by decide)).1
  have p8 := (pa_ne ok (i := 8) (by decide)).1
  rw [e7] at p7
  rw [e8] at p8
  have pn := (pa_ne ok (i := 7) (by decide)).2.2.2
  have L := p_wsL (f := f) 6
  have e6 : (2 : Nat) ^ 6 = 64 := by decide
  rw [e6] at L
  have l8 : (h_k h (h_r h pa 8)).2 ≤ 1000000 := (b 8 (by decide)).2.2.2.2
  have M := RX.start h
  refine r_pi0 M rfl rfl qk ok.1.2.1 ok.1.1 (k_hs M ok.1.1 a7.1 ef (fun xn qn => ?_))
  refine r_pi4 M rfl rfl qk qn ok.1.1 (fun x2 q2 cn => ?_) (fun x3 q3 cn => g x3 h (Or.inl ⟨q3, by omega, rfl⟩))
  refine k_fill M a8.1.1 a8.1.2.1 l8 q2 (fun h1 H1 M1 p1 p2 => ?_)
  have r1 : h_r h1 = h_r h := M1.2.2.1.1
  have n8 := nl_ap ok.2.1 a8.1.1 a8.2.2
  have ok1 : nl_ok h1 (h_r h pa 0) := nl_RX ok.2.1 M1 (by rw [p1 _ (Ne.symm n8.1)]; rfl)
  have I1 : cs_of h1 (z_i h1) (h_r h pa 0) S := cs_mv I (by rw [M1.zi, p1 _ (Ne.symm n8.1)]; rfl) (by rw [M1.zi, p1 _ (Ne.symm n8.1)]; rfl) (fun q _ => by rw [r1, M1.zi, p1 _ (Ne.symm n8.2.1)]; rfl)
  have F1 : FX (h_r h pa 0) (py_Y h pa) h h1 := FX.ofRX M1 (by rw [p1 _ (Ne.symm n8.1)]; rfl) (fun a ha j => by rw [p1 a (fun z => ha (Or.inr (Or.inr (Or.inr (Or.inr (Or.inr ⟨8, by decide, z⟩))))))]; rfl)
  refine r_pi19 M1 rfl rfl qk ok.1.1 (fun x4 q4 x5 q5 => ?_)
  have q5 : x5.toInt = tt := by rw [q5, p1 pa p8]; exact et
  refine k_weigh q5 qk t0 (by omega) k0 k1 (fun xw qw => ?_)
  refine r_pi36 M1 rfl rfl qk q4 qw nx.1.1.2.1 nx.1.1.1 (fun x6 q6 => ?_)
  refine k_make ok1 (by rw [I1.1]; omega) qw q6 (fun xm h2 qm T => ?_)
  have I2 := mk_cs (f := fun _ => -1) T I1 (by omega) t0 (by omega) k0 k1
  obtain ⟨ok2, F2', -⟩ := T
  have F2 : FX (h_r h pa 0) (py_Y h pa) h1 h2 := F2'.mono (fun _ z => z.elim)
  have F02 := F1.trans F2
  have qm : xm.toInt = (ps_n S : Int) := qm.trans I1.1
  obtain ⟨pa2, re2, rw2⟩ := pa_FX ok ok2 F02
  have a7' := ap_FX a7 F02
  have a8' := ap_FX a8 F02
  have z2 : ∀ q, z_i h2 pa q = z_i h pa q := fun q => by
    have u := (F2'.kp (q := pa) (by have := F1.1; have := ok.1.2.2; omega) pn.1 (fun z => ?_) (fun z => ?_) (fun z => z)).2.1 q
    · rw [u, M1.zi, p1 pa p8]
      rfl
    · have u1 := ok1.2.1.1
      rw [← z, M1.2.1, ok.1.1] at u1
      omega
    · have u1 := ok1.2.2.1.1
      rw [← z, M1.2.1, ok.1.1] at u1
      omega
  have s2 : ∀ q : Nat, q < 6 → z_i h2 (h_r h pa 8) q = -1 := fun q hq => by
    rw [ap_kp ok1 (ap_FX a8 F1) (fun z => z) F2' q, M1.zi]
    exact p2 q (by have := a8.1.2.2; omega)
  have f2 : hp6 (z_i h2 (h_r h pa 7)) f := fun q hq => by
    rw [ap_kp ok1 (ap_FX a7 F1) (fun z => z) F2' q, M1.zi, p1 _ (Ne.symm d78)]
    exact ef q hq
  have t2 : z_i h2 pa 12 = tt := (z2 12).trans et
  show HJ 59 40 (lv_args 0 [.ref pa, .int xk]) [.int xm, .int x4, .ref (h_r h pa 8)] h2 Q
  rw [← re2 8]
  refine r_pi40 (RX.start h2) rfl rfl qk q4 qm rfl (by show 0 ≤ z_i h2 pa 12; omega) (by show z_i h2 pa 12 ≤ 1000; omega) (by rw [re2]; exact p8) (by rw [re2]; exact a8'.1.1) (by rw [re2]; exact a8'.1.2.2) (by rw [re2]; exact a8'.1.2.1) pa2.1.1 (by rw [re2]; exact ok2.1.2.1) (by rw [re2]; exact ok2.1.1) (fun h3 H3 f3 h5 H5 f5 M5 => ?_)
  rw [re2] at f3 ⊢
  rw [re2, re2]
  have f3 : H3 = m_u (z_i h2) (h_r h pa 8) (m_u (z_i h2 (h_r h pa 8)) 0 (ps_n S : Int)) := by rw [f3]; rfl
  have o5 : ∀ q, q ≠ h_r h pa 8 → q ≠ pa → H5 q = z_i h2 q := fun q h1 h2 => by rw [f5, m_uN _ _ _ _ h2, f3, m_uN _ _ _ _ h1]
  have r5 : h_r h5 = h_r h2 := M5.2.2.1.1
  have n8' := nl_ap ok2 a8'.1.1 a8'.2.2
  have c2 : h_r h2 (h_r h pa 0) 0 ≠ pa := fun z => by
    have := ok2.2.1.1
    rw [z, pa2.1.1] at this
    omega
  have ok5 : nl_ok h5 (h_r h pa 0) := nl_RX ok2 M5 (by rw [o5 _ (Ne.symm n8'.1) (Ne.symm pn.1)])
  have I5 : cs_of h5 (z_i h5) (h_r h pa 0) (ps_mk S tt k 0 (fun _ => -1)) := cs_mv I2 (by rw [M5.zi, o5 _ (Ne.symm n8'.1) (Ne.symm pn.1)]) (by rw [M5.zi, o5 _ (Ne.symm n8'.1) (Ne.symm pn.1)]) (fun q _ => by rw [r5, M5.zi, o5 _ (Ne.symm n8'.2.1) c2])
  have F5 : FX (h_r h pa 0) (py_Y h pa) h2 h5 := FX.ofRX M5 (by rw [o5 _ (Ne.symm n8'.1) (Ne.symm pn.1)]) (fun a ha j => by rw [o5 a (fun z => ha (Or.inr (Or.inr (Or.inr (Or.inr (Or.inr ⟨8, by decide, z⟩)))))) (fun z => ha (Or.inr (Or.inr (Or.inr (Or.inl z)))))])
  have F05 := F02.trans F5
  have s5 : hp6 (z_i h5 (h_r h pa 8)) (pu_h (ps_n S)) := fun q hq => by
    rw [M5.zi, f5, m_uN _ _ _ _ (Ne.symm p8), f3, m_uE]
    by_cases z : q = 0
    · rw [z, m_uE]
      rfl
    · rw [m_uN _ _ _ _ z, s2 q hq]
      exact (if_neg z).symm
  have f5' : hp6 (z_i h5 (h_r h pa 7)) f := fun q hq => by
    rw [M5.zi, o5 _ (Ne.symm d78) (Ne.symm p7)]
    exact f2 q hq
  have E : ps_ex S (ps_mk S tt k 0 (fun _ => -1)) := ps_exM (S := S) (t := tt) (y := k) (k := 0) (l := ps_l S) (f := fun _ => -1)
  have w5 : ∀ q, z_i h5 pa q = if q = 12 then tt + 1 else z_i h pa q := fun q => by
    rw [M5.zi, f5, m_uE]
    by_cases z : q = 12
    · rw [if_pos z, z, m_uE]
      show z_i h2 pa 12 + 1 = _
      rw [t2]
    · rw [if_neg z, m_uN _ _ _ _ z, f3, m_uN _ _ _ _ p8]
      exact z2 q
  refine k_meld ok5 (ap_FX a7 F05) (ap_FX a8 F05) d78 I5 f5' s5 (ps_mkS0 (t := tt) (y := k) (f := fun _ => -1) (l := ps_l S) sh) (hp_inE E hf) (pu_hi (t := tt) (y := k) (f := fun _ => -1) (l := ps_l S)) (by rw [pu_hw]; omega) (by show ps_n S + 1 + 6 ≤ 16000; omega) (fun h6 ok6 I6 e6_ F6 => ?_)
  refine r_pi66 (pa := pa) (RX.start h6) (fun x7 q7 => g x7 h6 (Or.inr ⟨q7, by omega, I6, e6_, ?_, ok6, F05.trans (F6.mono (fun a z => Or.inr (Or.inr ⟨7, by decide, z⟩))), fun q hq => ?_⟩))
  · rw [(F6.kp (q := pa) (by have := F05.1; have := ok.1.2.2; omega) pn.1 (fun z => by rw [r5] at z; exact c2 z.symm) (fun z => by have u := ok5.2.2.1.1; rw [← z, M5.2.1, pa2.1.1] at u; omega) p7).2.1 12, w5, if_pos rfl]
  · rw [(F6.kp (q := pa) (by have := F05.1; have := ok.1.2.2; omega) pn.1 (fun z => by rw [r5] at z; exact c2 z.symm) (fun z => by have u := ok5.2.2.1.1; rw [← z, M5.2.1, pa2.1.1] at u; omega) p7).2.1 q, w5, if_neg hq]
-- VERSIONS MELDED
def pr_of (h : MH) (pa : Nat) (Y : RYt) : Prop := (z_i h pa 11 + 1 = (ry_v Y : Int) ∧ 1 ≤ ry_v Y ∧ ry_v Y ≤ 41) ∧ ∀ v : Nat, v < ry_v Y → hp6 (z_i h (pa_w h pa (18 + v))) (ry_h Y v) ∧ z_i h (h_r h pa 3) v = (p_ws (ry_h Y v) 6 : Int)
theorem ry_hv {Y : RYt} {v : Int} (h : 0 ≤ v) : ry_h Y v = ry_h Y (v.toNat : Int) := by
  rw [show ((v.toNat : Nat) : Int) = v by omega]
theorem r_mw0 {pa : Nat} {v : Int} (M : RX h0 h H) (e0 : m_lk lv 0 = some (.ref pa)) {lx1 : Int32} (e1 : m_lk lv 1 = some (.int lx1)) (lq1 : lx1.toInt = v)  (hs0 : 16 ≤ pa) (hk0 : (h_k h0 pa).1 = 4)
    (g0 : HJ 57 0 (lv_args 0 [.ref pa, .int lx1]) [] h (fun v h' => HJ 70 5 lv (v.toList ++ []) h' Q))
    : HJ 70 0 lv [] h Q := by
  refine hI_al (k := 0) rfl e0 rfl ?_ -- 0
  refine hI_il (k := 1) rfl e1 rfl ?_ -- 1
  refine HJ.call (j := 57) (as := [.ref pa, .int lx1]) (rr := []) (pc' := 5) (m_cR (kc := 3) rfl rfl (by decide +kernel) rfl rfl rfl ⟨rfl, by decide +kernel, by decide +kernel⟩ (by decide) hs0 (by rw [M.2.1]; exact hk0)) (by show 2 ≤ m_lc 57; decide +kernel) ?_ -- 2
  exact g0 
theorem r_mw5 {pa : Nat} {v z : Int} (M : RX h0 h H) (e0 : m_lk lv 0 = some (.ref pa)) {lx1 : Int32} (e1 : m_lk lv 1 = some (.int lx1)) (lq1 : lx1.toInt = v) {sx0 : Int32} (sq0 : sx0.toInt = z)  (hs0 : 16 ≤ pa) (hk0 : (h_k h0 pa).1 = 4)
    (g0 : ∀ x1 : Int32, x1.toInt = 0 → z = 0 → Q (some (.int x1)) h)
    (g1 : z ≠ 0 → HJ 50 0 (lv_args 0 [.ref pa]) [] h (fun v h' => HJ 70 12 lv (v.toList ++ []) h' Q))
    : HJ 70 5 lv [.int sx0] h Q := by
  refine hM_zeq (off := 19) (t := 24) rfl sq0 (by decide) rfl (fun c5 => ?_) (fun c5 => ?_) -- 5
  · refine hM_ic (n := 0) rfl (by decide) rfl (fun x1 q1 => ?_) -- 24
    refine hM_rb rfl rfl q1 (by omega) (by omega) ?_ -- 25
    exact g0 x1 q1 c5
  · refine hI_al (k := 0) rfl e0 rfl ?_ -- 8
    refine HJ.call (j := 50) (as := [.ref pa]) (rr := []) (pc' := 12) (m_cR (kc := 3) rfl rfl (by decide +kernel) rfl rfl rfl ⟨rfl, by decide +kernel, by decide +kernel⟩ (by decide) hs0 (by rw [M.2.1]; exact hk0)) (by show 1 ≤ m_lc 50; decide +kernel) ?_ -- 9
    exact g1 c5
theorem r_mw12 {pa : Nat} {v n : Int} (M : RX h0 h H) (e0 : m_lk lv 0 = some (.ref pa)) {lx1 : Int32} (e1 : m_lk lv 1 = some (.int lx1)) (lq1 : lx1.toInt = v) {sx0 : Int32} (sq0 : sx0.toInt = n) (pv0 : 0 ≤ v) (pv1 : v ≤ 40) (pn0 : 0 ≤ n) (pn1 : n ≤ 63) (pz0 : 0 ≤ H (h_r h0 pa 3) (v).toNat) (pz1 : H (h_r h0 pa 3) (v).toNat ≤ 63) (hk0 : (h_k h0 pa).1 = 4) (ha0 : (h_k h0 (h_r h0 pa 3)).1 = 20) (hl0 : 41 ≤ ((h_k h0 (h_r h0 pa 3)).2 : Int)) (hs0 : 16 ≤ pa)
    (g0 : n + (H (h_r h0 pa 3) (v).toNat) ≤ 63 → HJ 58 0 (lv_args 0 [.ref pa, .int lx1, .ref (h_r h0 pa 8)]) [] h (fun v h' => HJ 70 35 lv (v.toList ++ []) h' Q))
    (g1 : ∀ x4 : Int32, x4.toInt = 0 → n + (H (h_r h0 pa 3) (v).toNat) > 63 → Q (some (.int x4)) h)
    : HJ 70 12 lv [.int sx0] h Q := by
  refine hI_al (k := 0) rfl e0 rfl ?_ -- 12
  refine hR_gr (c := 3) (k := 3) M hk0 rfl rfl rfl rfl ?_ -- 13
  refine hI_il (k := 1) rfl e1 rfl ?_ -- 16
  refine hR_ia M ha0 lq1 (by omega) (by omega) rfl rfl (fun x1 q1 => ?_) -- 17
  have gb1 : -2147483648 ≤ H (h_r h0 pa 3) (v).toNat ∧ H (h_r h0 pa 3) (v).toNat ≤ 2147483647 := by rw [← q1]; exact g_iT _
  refine hM_add rfl sq0 q1 (by omega) (by omega) rfl (fun x2 q2 => ?_) -- 18
  refine hM_bp (n := 63) rfl (by decide) rfl (fun x3 q3 => ?_) -- 19
  refine hM_cle (off := 5) (t := 26) rfl q2 q3 (by decide) rfl (fun c21 => ?_) (fun c21 => ?_) -- 21
  · refine hI_al (k := 0) rfl e0 rfl ?_ -- 26
    refine hI_il (k := 1) rfl e1 rfl ?_ -- 27
    refine hI_al (k := 0) rfl e0 rfl ?_ -- 28
    refine hR_gr (c := 3) (k := 8) M hk0 rfl rfl rfl rfl ?_ -- 29
    refine HJ.call (j := 58) (as := [.ref pa, .int lx1, .ref (h_r h0 pa 8)]) (rr := []) (pc' := 35) (m_cR (kc := 3) rfl rfl (by decide +kernel) rfl rfl rfl ⟨rfl, by decide +kernel, by decide +kernel⟩ (by decide) hs0 (by rw [M.2.1]; exact hk0)) (by show 3 ≤ m_lc 58; decide +kernel) ?_ -- 32
    exact g0 c21
  · refine hM_ic (n := 0) rfl (by decide) rfl (fun x4 q4 => ?_) -- 24
    refine hM_rb rfl rfl q4 (by omega) (by omega) ?_ -- 25
    exact g1 x4 q4 c21
theorem r_mw35 {pa : Nat} {v : Int} (M : RX h0 h H) (e0 : m_lk lv 0 = some (.ref pa)) {lx1 : Int32} (e1 : m_lk lv 1 = some (.int lx1)) (lq1 : lx1.toInt = v)  (hk0 : (h_k h0 pa).1 = 4) (hs0 : 16 ≤ h_r h0 pa 0) (hk1 : (h_k h0 (h_r h0 pa 0)).1 = 3)
    (g0 : HJ 64 0 (lv_args 0 [.ref (h_r h0 pa 0), .ref (h_r h0 pa 7), .ref (h_r h0 pa 8)]) [] h (fun v h' => HJ 70 50 lv (v.toList ++ []) h' Q))
    : HJ 70 35 lv [] h Q := by
  refine hI_al (k := 0) rfl e0 rfl ?_ -- 35
  refine hR_gr (c := 3) (k := 0) M hk0 rfl rfl rfl rfl ?_ -- 36
  refine hI_al (k := 0) rfl e0 rfl ?_ -- 39
  refine hR_gr (c := 3) (k := 7) M hk0 rfl rfl rfl rfl ?_ -- 40
  refine hI_al (k := 0) rfl e0 rfl ?_ -- 43
  refine hR_gr (c := 3) (k := 8) M hk0 rfl rfl rfl rfl ?_ -- 44
  refine HJ.call (j := 64) (as := [.ref (h_r h0 pa 0), .ref (h_r h0 pa 7), .ref (h_r h0 pa 8)]) (rr := []) (pc' := 50) (m_cR (kc := 2) rfl rfl (by decide +kernel) rfl rfl rfl ⟨rfl, by decide +kernel, by decide +kernel⟩ (by decide) hs0 (by rw [M.2.1]; exact hk1)) (by show 3 ≤ m_lc 64; decide +kernel) ?_ -- 47
  exact g0 
theorem r_mw50 {pa : Nat} (M : RX h0 h H)  
    (g0 : ∀ x1 : Int32, x1.toInt = 1 → Q (some (.int x1)) h)
    : HJ 70 50 lv [] h Q := by
  refine hM_ic (n := 1) rfl (by decide) rfl (fun x1 q1 => ?_) -- 50
  refine hM_rb rfl rfl q1 (by omega) (by omega) ?_ -- 51
  exact g0 x1 q1
theorem k_meldW {pa : Nat} {S : PSt} {f : Nat → Int} {Y : RYt} {v : Int} {xv : Int32} (ok : pa_ok h pa) (I : cs_of h (z_i h) (h_r h pa 0) S) (P : pr_of h pa Y) (ef : hp6 (z_i h (h_r h pa 7)) f) (sh : ps_sh S) (hf : hp_in S f) (hs : ∀ u : Nat, u < ry_v Y → hp_in S (ry_h Y u)) (cap : ps_n S + 6 ≤ 16000) (qv : xv.toInt = v) (g : ∀ (x : Int32) (h' : MH), (x.toInt = 0 ∧ ¬ (ry_is Y v = true ∧ p_ws f 6 + p_ws (ry_h Y v) 6 ≤ 63) ∧ h' = h) ∨ (x.toInt = 1 ∧ (ry_is Y v = true ∧ p_ws f 6 + p_ws (ry_h Y v) 6 ≤ 63) ∧ cs_of h' (z_i h') (h_r h pa 0) (pm_md S f (ry_h Y v)).1 ∧ hp6 (z_i h' (h_r h pa 7)) (pm_md S f (ry_h Y v)).2 ∧ nl_ok h' (h_r h pa 0) ∧ FX (h_r h pa 0) (py_Y h pa) h h' ∧ ∀ q, z_i h' pa q = z_i h pa q) → Q (some (.int x)) h') : HJ 70 0 (lv_args 0 [.ref pa, .int xv]) [] h Q := by
  have nx := pa_nx ok
  have c := ok.2.2.2.2.2.2.2
  have b := ok.2.2.2.2.2.2.1
  have a7 := pa_ap ok (i := 7) (by decide) (by decide)
  have a8 := pa_ap ok (i := 8) (by decide) (by decide)
  have e7 : pa_w h pa 7 = h_r h pa 7 := rfl
  have e8 : pa_w h pa 8 = h_r h pa 8 := rfl
  have d78 : h_r h pa 8 ≠ h_r h pa 7 := c 8 7 (by decide) (by decide) (by decide)
  rw [e7] at a7
  rw [e8] at a8
  have p7 := (pa_ne ok (i := 7) (by decide)).1
  have p8 := (pa_ne ok (i := 8) (by decide)).1
  rw [e7] at p7
  rw [e8] at p8
  have pn := (pa_ne ok (i := 7) (by decide)).2.2.2
  have L := p_wsL (f := f) 6
  have e6 : (2 : Nat) ^ 6 = 64 := by decide
  rw [e6] at L
  obtain ⟨⟨P1, P2, P3⟩, P4⟩ := P
  obtain ⟨s1, s2, -, s4, -⟩ := b 12 (by decide)
  have n12 : pa_n 12 = 41 := rfl
  have e12 : pa_w h pa 12 = h_r h pa 3 := rfl
  rw [e12] at s1 s2 s4
  have M := RX.start h
  have P1' : (h_i h pa 11).toInt + 1 = (ry_v Y : Int) := P1
  refine r_mw0 M rfl rfl qv ok.1.2.1 ok.1.1 (k_has M ok.1.1 qv (fun xz hz => ?_))
  refine r_mw5 M rfl rfl qv rfl ok.1.2.1 ok.1.1 (fun x1 q1 c1 => g x1 h (Or.inl ⟨q1, fun z => ?_, rfl⟩)) (fun c1 => ?_)
  · have y := ry_isV z.1
    rcases hz with w | w
    · omega
    · exact w.2 ⟨y.1, by omega⟩
  · have hz : 0 ≤ v ∧ v ≤ (h_i h pa 11).toInt := by
      rcases hz with w | w
      · exact w.2
      · exact absurd w.1 c1
    have is : ry_is Y v = true := ry_isT ⟨hz.1, by omega⟩
    obtain ⟨r1, r2⟩ := P4 v.toNat (by omega)
    have Lv := p_wsL (f := ry_h Y v) 6
    rw [e6] at Lv
    rw [← ry_hv hz.1] at r1 r2
    refine k_hs M ok.1.1 a7.1 ef (fun xn qn => ?_)
    have r2' : (h_i h (h_r h pa 3) v.toNat).toInt = (p_ws (ry_h Y v) 6 : Int) := r2
    refine r_mw12 M rfl rfl qv qn hz.1 (by omega) (by omega) (by omega) (by omega) (by omega) ok.1.1 s1 (by omega) ok.1.2.1 (fun cc => ?_) (fun x4 q4 cc => g x4 h (Or.inl ⟨q4, fun z => ?_, rfl⟩))
    · refine k_load M ok qv hz.1 hz.2 (by omega) a8.1 (fun h1 H1 M1 f1 => ?_)
      have o1 : ∀ q, q ≠ h_r h pa 8 → H1 q = z_i h q := fun q hq => by rw [f1, m_uN _ _ _ _ hq]; rfl
      have rr1 : h_r h1 = h_r h := M1.2.2.1.1
      have n8 := nl_ap ok.2.1 a8.1.1 a8.2.2
      have ok1 : nl_ok h1 (h_r h pa 0) := nl_RX ok.2.1 M1 (by rw [o1 _ (Ne.symm n8.1)])
      have I1 : cs_of h1 (z_i h1) (h_r h pa 0) S := cs_mv I (by rw [M1.zi, o1 _ (Ne.symm n8.1)]) (by rw [M1.zi, o1 _ (Ne.symm n8.1)]) (fun q _ => by rw [rr1, M1.zi, o1 _ (Ne.symm n8.2.1)])
      have F1 : FX (h_r h pa 0) (py_Y h pa) h h1 := FX.ofRX M1 (by rw [o1 _ (Ne.symm n8.1)]) (fun a ha j => by rw [o1 a (fun z => ha (Or.inr (Or.inr (Or.inr (Or.inr (Or.inr ⟨8, by decide, z⟩))))))])
      have s1' : hp6 (z_i h1 (h_r h pa 8)) (ry_h Y v) := fun q hq => by
        rw [M1.zi, f1, m_uE, if_pos hq]
        exact r1 q hq
      have f1' : hp6 (z_i h1 (h_r h pa 7)) f := fun q hq => by
        rw [M1.zi, o1 _ (Ne.symm d78)]
        exact ef q hq
      have hv := hs v.toNat (by omega)
      rw [← ry_hv hz.1] at hv
      refine r_mw35 M1 rfl rfl qv ok.1.1 nx.1.1.2.1 nx.1.1.1 ?_
      refine k_meld ok1 (ap_FX a7 F1) (ap_FX a8 F1) d78 I1 f1' s1' sh hf hv (by omega) cap (fun h6 ok6 I6 e6_ F6 => ?_)
      refine r_mw50 (pa := pa) (RX.start h6) (fun x7 q7 => g x7 h6 (Or.inr ⟨q7, ⟨is, by omega⟩, I6, e6_, ok6, F1.trans (F6.mono (fun a z => Or.inr (Or.inr ⟨7, by decide, z⟩))), fun q => ?_⟩))
      have c2 : h_r h1 (h_r h pa 0) 0 ≠ pa := fun z => by
        have := ok1.2.1.1
        rw [z, M1.2.1, ok.1.1] at this
        omega
      rw [(F6.kp (q := pa) (by have := F1.1; have := ok.1.2.2; omega) pn.1 (fun z => c2 z.symm) (fun z => by have u := ok1.2.2.1.1; rw [← z, M1.2.1, ok.1.1] at u; omega) p7).2.1 q, M1.zi, o1 pa p8]
    · have := z.2
      omega
end
