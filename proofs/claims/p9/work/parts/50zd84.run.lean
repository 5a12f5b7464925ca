-- A RUN FROM ITS BEGINNING TO ITS END
theorem pa_RL {h0 h : MH} {H : Nat → Nat → Int} {L : Nat → Nat → Int64} {pa : Nat} (ok : pa_ok h0 pa) (M : RL h0 h H L) (o : nl_ok h (h_r h0 pa 0)) : pa_ok h pa ∧ h_r h = h_r h0 ∧ ∀ i, pa_w h pa i = pa_w h0 pa i := by
  have rr := M.2.2.1
  have ww : ∀ i, pa_w h pa i = pa_w h0 pa i := fun i => by
    unfold pa_w
    rw [rr]
  have nn : h_n h = h_n h0 := by
    have := M.1
    unfold h_n
    rw [this]
  refine ⟨?_, rr, ww⟩
  obtain ⟨a, n, t, r, li, fr, b, c⟩ := ok
  unfold pa_ok
  rw [rr, M.2.1, nn]
  exact ⟨a, o, t, r, li, fr, fun i hi => by rw [ww]; exact b i hi, fun i j hi hj hn => by rw [ww, ww]; exact c i j hi hj hn⟩
-- the picture stands while only the trail and who holds the nodes change
theorem pk_RL {h0 h : MH} {H : Nat → Nat → Int} {L : Nat → Nat → Int64} {pa : Nat} {Y : RYt} (ok : pa_ok h0 pa) (M : RL h0 h H L) (hw : ∀ i, 7 ≤ i → i < 59 → H (pa_w h0 pa i) = z_i h0 (pa_w h0 pa i)) (hn : H (h_r h0 pa 0) = z_i h0 (h_r h0 pa 0)) (hp : H pa = z_i h0 pa) (hl : ∀ j, L (h_r h0 (h_r h0 pa 1) 2) j = h_l h0 (h_r h0 (h_r h0 pa 1) 2) j) (B : pk_of h0 pa Y) : pk_of h pa Y := by
  have rr := M.2.2.1
  have zz : ∀ a j, z_i h a j = H a j := M.2.2.2.2
  have ww : ∀ i, pa_w h pa i = pa_w h0 pa i := fun i => by
    unfold pa_w
    rw [rr]
  obtain ⟨I, Bt, ⟨⟨p1, p2, p3⟩, p4⟩, b2, b3, b4⟩ := B
  have w11 : H (h_r h0 (h_r h0 pa 0) 0) = z_i h0 (h_r h0 (h_r h0 pa 0) 0) := hw 11 (by decide) (by decide)
  have w12 : H (h_r h0 pa 3) = z_i h0 (h_r h0 pa 3) := hw 12 (by decide) (by decide)
  have w13 : H (h_r h0 pa 4) = z_i h0 (h_r h0 pa 4) := hw 13 (by decide) (by decide)
  have w14 : H (h_r h0 pa 5) = z_i h0 (h_r h0 pa 5) := hw 14 (by decide) (by decide)
  have w15 : H (h_r h0 pa 6) = z_i h0 (h_r h0 pa 6) := hw 15 (by decide) (by decide)
  have w16 : H (h_r h0 (h_r h0 pa 1) 0) = z_i h0 (h_r h0 (h_r h0 pa 1) 0) := hw 16 (by decide) (by decide)
  have w17 : H (h_r h0 (h_r h0 pa 1) 1) = z_i h0 (h_r h0 (h_r h0 pa 1) 1) := hw 17 (by decide) (by decide)
  refine ⟨?_, by rw [zz, hp]; exact Bt, ⟨⟨by rw [zz, hp]; exact p1, p2, p3⟩, fun v hv => ⟨fun q hq => ?_, ?_⟩⟩, fun k hk => ?_, fun v hv => ?_, ?_⟩
  · rw [rr]
    exact cs_mv I (by rw [zz, hn]) (by rw [zz, hn]) (fun q _ => by rw [rr, zz, w11])
  · rw [ww, zz, hw (18 + v) (by omega) (by omega)]
    exact (p4 v hv).1 q hq
  · rw [rr, zz, w12]
    exact (p4 v hv).2
  · rw [rr, zz, zz, zz, w13, w14, w15]
    exact b2 k hk
  · rw [rr, zz, zz, w16, w17]
    exact b3 v hv
  · rw [rr]
    have e : h_l h (h_r h0 (h_r h0 pa 1) 2) = h_l h0 (h_r h0 (h_r h0 pa 1) 2) := funext (fun j => (M.2.2.2.1 _ j).trans (hl j))
    rw [e]
    exact b4
section
variable {lv : List (Nat × Value)} {Q : Option Value → MH → Prop} {h0 h : MH} {H : Nat → Nat → Int}
theorem k_drop {nd : Nat} {m f : Int} {xf : Int32} (M : RX h0 h H) (kn : (h_k h0 nd).1 = 3) (em : H nd 5 = m) (m0 : 0 ≤ m) (qf : xf.toInt = f) (g : ∀ (h' : MH) (H' : Nat → Nat → Int), RX h0 h' H' → (∀ q, q ≠ nd → H' q = H q) → H' nd = m_u (m_u (H nd) 5 (if f < m then (if f < 0 then 0 else f) else m)) 6 0 → Q none h') : HJ 46 0 (lv_args 0 [.ref nd, .int xf]) [] h Q := by
  refine hI_al (k := 0) (x := nd) rfl rfl rfl ?_
  refine hM_ic (n := 0) rfl (by decide) rfl (fun x1 q1 => ?_)
  refine hI_al (k := 0) (x := nd) rfl rfl rfl ?_
  refine hR_gi (c := 2) (k := 5) M kn rfl rfl rfl rfl (fun x2 q2 => ?_)
  refine hI_il (k := 1) (x := xf) rfl rfl rfl ?_
  refine hI_min rfl rfl ⟨rfl, by decide +kernel, by show 2 + 13 ≤ m_lo 46; decide +kernel⟩ rfl ?_
  have e1 : (if xf < x2 then xf else x2).toInt = if f < m then f else m := by
    by_cases c : xf < x2
    · have := Int32.lt_iff_toInt_lt.mp c
      rw [if_pos c, if_pos (by omega)]
      exact qf
    · have : ¬ xf.toInt < x2.toInt := fun z => c (Int32.lt_iff_toInt_lt.mpr z)
      rw [if_neg c, if_neg (by omega)]
      omega
  generalize (if xf < x2 then xf else x2) = x3 at e1 ⊢
  refine hI_max rfl rfl ⟨rfl, by decide +kernel, by show 1 + 13 ≤ m_lo 46; decide +kernel⟩ rfl ?_
  have e2 : (if x1 < x3 then x3 else x1).toInt = if f < m then (if f < 0 then 0 else f) else m := by
    by_cases c : x1 < x3
    · have := Int32.lt_iff_toInt_lt.mp c
      rw [if_pos c, e1]
      by_cases d : f < m
      · rw [if_pos d, if_pos d, if_neg (by rw [if_pos d] at e1; omega)]
      · rw [if_neg d, if_neg d]
    · have : ¬ x1.toInt < x3.toInt := fun z => c (Int32.lt_iff_toInt_lt.mpr z)
      rw [if_neg c, q1]
      by_cases d : f < m
      · rw [if_pos d] at e1 ⊢
        by_cases w : f < 0
        · rw [if_pos w]
        · rw [if_neg w]
          omega
      · rw [if_neg d] at e1 ⊢
        omega
  generalize (if x1 < x3 then x3 else x1) = x4 at e2 ⊢
  refine hR_pi (c := 2) (k := 5) M kn rfl rfl ⟨by decide, by decide +kernel, rfl⟩ e2 rfl (fun h5 H5 f5 M5 => ?_)
  refine hI_al (k := 0) (x := nd) rfl rfl rfl ?_
  refine hM_ic (n := 0) rfl (by decide) rfl (fun x6 q6 => ?_)
  refine hR_pi (c := 2) (k := 6) M5 kn rfl rfl ⟨by decide, by decide +kernel, rfl⟩ q6 rfl (fun h7 H7 f7 M7 => ?_)
  exact hI_rv rfl rfl (g h7 H7 M7 (fun q hq => by rw [f7, m_uN _ _ _ _ hq, f5, m_uN _ _ _ _ hq]) (by rw [f7, m_uE, f5, m_uE]))
-- one more holder
theorem r_mh0 {nd : Nat} {v : Int} (M : RX h0 h H) (e0 : m_lk lv 0 = some (.ref nd)) {lx1 : Int32} (e1 : m_lk lv 1 = some (.int lx1)) (lq1 : lx1.toInt = v) {lx2 : Int64} (e2 : m_lk lv 2 = some (.long lx2))  (hk0 : (h_k h0 nd).1 = 3)
    (g0 : v < 0 → HJ 86 22 lv [] h Q)
    (g1 : v ≥ 0 → v ≥ H nd 5 → HJ 86 22 lv [] h Q)
    (g2 : v ≥ 0 → v < H nd 5 → HJ 86 16 lv [.ref (h_r h0 nd 1)] h Q)
    : HJ 86 0 lv [] h Q := by
  refine hI_il (k := 1) rfl e1 rfl ?_ -- 0
  refine hM_zlt (off := 21) (t := 22) rfl lq1 (by decide) rfl (fun c1 => ?_) (fun c1 => ?_) -- 1
  · exact g0 c1
  · refine hI_il (k := 1) rfl e1 rfl ?_ -- 4
    refine hI_al (k := 0) rfl e0 rfl ?_ -- 5
    refine hR_gi (c := 2) (k := 5) M hk0 rfl rfl rfl rfl (fun x1 q1 => ?_) -- 6
    have gb1 : -2147483648 ≤ H nd 5 ∧ H nd 5 ≤ 2147483647 := by rw [← q1]; exact g_iT _
    refine hM_cge (off := 13) (t := 22) rfl lq1 q1 (by decide) rfl (fun c9 => ?_) (fun c9 => ?_) -- 9
    · exact g1 c1 c9
    · refine hI_al (k := 0) rfl e0 rfl ?_ -- 12
      refine hR_gr (c := 2) (k := 1) M hk0 rfl rfl rfl rfl ?_ -- 13
      exact g2 c1 c9
theorem k_mark {nd : Nat} {p : Int} {xp : Int32} {x : Int64} (ok : nl_ok h nd) (qp : xp.toInt = p) (p0 : 0 ≤ p) (p1 : p < z_i h nd 5) (g : Q none (h_sl h (h_r h nd 1) p.toNat (h_l h (h_r h nd 1) p.toNat ||| x))) : HJ 86 0 (lv_args 0 [.ref nd, .int xp, .long x]) [] h Q := by
  have kn := ok.1.1
  obtain ⟨-, -, ⟨d1, d16, dl⟩, -, ⟨m0, m1⟩, -⟩ := ok
  have p1' : p < (h_i h nd 5).toInt := p1
  refine r_mh0 (nd := nd) (RX.start h) rfl rfl qp rfl kn (fun c => absurd c (by omega)) (fun _ c => absurd c (by omega)) (fun _ _ => ?_)
  refine hI_il (k := 1) (x := xp) rfl rfl rfl ?_
  refine hI_dup2 rfl rfl rfl rfl ?_
  refine hI_la rfl d1 (by omega) (by omega) rfl ?_
  refine hI_ll (k := 2) (x := x) rfl rfl rfl ?_
  refine hI_lor rfl rfl ?_
  refine hI_ls_ rfl d16 d1 (by omega) (by omega) rfl ?_
  rw [qp]
  exact hI_rv rfl rfl g
theorem r_mn0 {pa : Nat} {v : Int} (M : RX h0 h H) (e0 : m_lk lv 0 = some (.ref pa)) {lx1 : Int32} (e1 : m_lk lv 1 = some (.int lx1)) (lq1 : lx1.toInt = v) (pv0 : 0 ≤ v) (pv1 : v ≤ 40) (hk0 : (h_k h0 pa).1 = 4) (hk1 : (h_k h0 (h_r h0 pa 0)).1 = 3) (hA0 : (h_k h0 (h_r h0 pa 2)).1 = 33) (hl0 : 41 ≤ ((h_k h0 (h_r h0 pa 2)).2 : Int)) (hs0 : 16 ≤ h_r h0 (h_r h0 pa 0) 4) (hk2 : (h_k h0 (h_r h0 (h_r h0 pa 0) 4)).1 = 8)
    (g0 : ∀ lv1 : List (Nat × Value), m_lk lv1 0 = some (.ref pa) → m_lk lv1 1 = some (.int lx1) → m_lk lv1 2 = some (.ref (h_r h0 (h_r h0 pa 0) 4)) → HJ 74 0 (lv_args 0 [.ref (h_r h0 (h_r h0 pa 0) 4), .ref (h_r h0 pa 0), .ref (h_r h0 (h_r h0 pa 2) (v).toNat)]) [] h (fun v h' => HJ 85 22 lv1 (v.toList ++ []) h' Q))
    : HJ 85 0 lv [] h Q := by
  refine hI_al (k := 0) rfl e0 rfl ?_ -- 0
  refine hR_gr (c := 3) (k := 0) M hk0 rfl rfl rfl rfl ?_ -- 1
  refine hR_gr (c := 2) (k := 4) M hk1 rfl rfl rfl rfl ?_ -- 4
  refine hR_as (k := 2) rfl (by decide +kernel) rfl (fun lv1 e1_2 u1 => ?_) -- 7
  have e1_0 := u1 0 _ (by decide) (Or.inl rfl) e0
  have e1_1 := u1 1 _ (by decide) (Or.inl rfl) e1
  refine hI_al (k := 2) rfl e1_2 rfl ?_ -- 8
  refine hI_al (k := 0) rfl e1_0 rfl ?_ -- 9
  refine hR_gr (c := 3) (k := 0) M hk0 rfl rfl rfl rfl ?_ -- 10
  refine hI_al (k := 0) rfl e1_0 rfl ?_ -- 13
  refine hR_gr (c := 3) (k := 2) M hk0 rfl rfl rfl rfl ?_ -- 14
  refine hI_il (k := 1) rfl e1_1 rfl ?_ -- 17
  refine hR_aa M hA0 lq1 (by omega) (by omega) rfl rfl ?_ -- 18
  refine HJ.call (j := 74) (as := [.ref (h_r h0 (h_r h0 pa 0) 4), .ref (h_r h0 pa 0), .ref (h_r h0 (h_r h0 pa 2) (v).toNat)]) (rr := []) (pc' := 22) (m_cR (kc := 7) rfl rfl (by decide +kernel) rfl rfl rfl ⟨rfl, by decide +kernel, by decide +kernel⟩ (by decide) hs0 (by rw [M.2.1]; exact hk2)) (by show 3 ≤ m_lc 74; decide +kernel) ?_ -- 19
  exact g0 lv1 e1_0 e1_1 e1_2
theorem r_mn22 {pa : Nat} {v : Int} (M : RX h0 h H) (e0 : m_lk lv 0 = some (.ref pa)) {lx1 : Int32} (e1 : m_lk lv 1 = some (.int lx1)) (lq1 : lx1.toInt = v) (e2 : m_lk lv 2 = some (.ref (h_r h0 (h_r h0 pa 0) 4))) 
    (g0 : ∀ x1 : Int32, x1.toInt = 0 → ∀ lv2 : List (Nat × Value), m_lk lv2 0 = some (.ref pa) → m_lk lv2 1 = some (.int lx1) → m_lk lv2 2 = some (.ref (h_r h0 (h_r h0 pa 0) 4)) → m_lk lv2 3 = some (.int x1) → HJ 85 24 lv2 [] h Q)
    : HJ 85 22 lv [] h Q := by
  refine hM_ic (n := 0) rfl (by decide) rfl (fun x1 q1 => ?_) -- 22
  refine hM_si (k := 3) rfl (by decide +kernel) rfl (fun lv2 e2_3 u2 => ?_) -- 23
  have e2_0 := u2 0 _ (by decide) (Or.inl rfl) e0
  have e2_1 := u2 1 _ (by decide) (Or.inl rfl) e1
  have e2_2 := u2 2 _ (by decide) (Or.inl rfl) e2
  exact g0 x1 q1 lv2 e2_0 e2_1 e2_2 e2_3
theorem r_mn24 {pa : Nat} {v i : Int} (M : RX h0 h H) (e0 : m_lk lv 0 = some (.ref pa)) {lx1 : Int32} (e1 : m_lk lv 1 = some (.int lx1)) (lq1 : lx1.toInt = v) (e2 : m_lk lv 2 = some (.ref (h_r h0 (h_r h0 pa 0) 4))) {lx3 : Int32} (e3 : m_lk lv 3 = some (.int lx3)) (lq3 : lx3.toInt = i) (pi0 : 0 ≤ i) (pw1 : H (h_r h0 (h_r h0 pa 0) 4) 8 ≤ 63) (hk0 : (h_k h0 (h_r h0 (h_r h0 pa 0) 4)).1 = 8) (hk1 : (h_k h0 pa).1 = 4) (ha0 : (h_k h0 (h_r h0 (h_r h0 (h_r h0 pa 0) 4) 0)).1 = 20) (hl0 : 63 ≤ ((h_k h0 (h_r h0 (h_r h0 (h_r h0 pa 0) 4) 0)).2 : Int))
    (g0 : i ≥ H (h_r h0 (h_r h0 pa 0) 4) 8 → Q none h)
    (g1 : ∀ x2 : Int32, x2.toInt = H (h_r h0 (h_r h0 (h_r h0 pa 0) 4) 0) (i).toNat → i < H (h_r h0 (h_r h0 pa 0) 4) 8 → HJ 52 0 (lv_args 0 [.int lx1]) [] h (fun v h' => HJ 85 46 lv (v.toList ++ [.int x2, .ref (h_r h0 pa 0)]) h' Q))
    : HJ 85 24 lv [] h Q := by
  refine hI_il (k := 3) rfl e3 rfl ?_ -- 24
  refine hI_al (k := 2) rfl e2 rfl ?_ -- 25
  refine hR_gi (c := 7) (k := 8) M hk0 rfl rfl rfl rfl (fun x1 q1 => ?_) -- 26
  have gb1 : -2147483648 ≤ H (h_r h0 (h_r h0 pa 0) 4) 8 ∧ H (h_r h0 (h_r h0 pa 0) 4) 8 ≤ 2147483647 := by rw [← q1]; exact g_iT _
  refine hM_cge (off := 26) (t := 55) rfl lq3 q1 (by decide) rfl (fun c29 => ?_) (fun c29 => ?_) -- 29
  · refine hI_rv rfl rfl ?_
    exact g0 c29
  · refine hI_al (k := 0) rfl e0 rfl ?_ -- 32
    refine hR_gr (c := 3) (k := 0) M hk1 rfl rfl rfl rfl ?_ -- 33
    refine hI_al (k := 2) rfl e2 rfl ?_ -- 36
    refine hR_gr (c := 7) (k := 0) M hk0 rfl rfl rfl rfl ?_ -- 37
    refine hI_il (k := 3) rfl e3 rfl ?_ -- 40
    refine hR_ia M ha0 lq3 (by omega) (by omega) rfl rfl (fun x2 q2 => ?_) -- 41
    have gb2 : -2147483648 ≤ H (h_r h0 (h_r h0 (h_r h0 pa 0) 4) 0) (i).toNat ∧ H (h_r h0 (h_r h0 (h_r h0 pa 0) 4) 0) (i).toNat ≤ 2147483647 := by rw [← q2]; exact g_iT _
    refine hI_il (k := 1) rfl e1 rfl ?_ -- 42
    refine hM_is0 (as := [.int lx1]) (r := [.int x2, .ref (h_r h0 pa 0)]) rfl rfl (by decide +kernel) rfl rfl rfl rfl rfl ?_ -- 43
    exact g1 x2 q2 c29
theorem r_mn46 {pa : Nat} {v i p : Int} (M : RX h0 h H) (e0 : m_lk lv 0 = some (.ref pa)) {lx1 : Int32} (e1 : m_lk lv 1 = some (.int lx1)) (lq1 : lx1.toInt = v) (e2 : m_lk lv 2 = some (.ref (h_r h0 (h_r h0 pa 0) 4))) {lx3 : Int32} (e3 : m_lk lv 3 = some (.int lx3)) (lq3 : lx3.toInt = i) {sx1 : Int32} (sq1 : sx1.toInt = p) {sx2 : Int64}  (hs0 : 16 ≤ h_r h0 pa 0) (hk0 : (h_k h0 (h_r h0 pa 0)).1 = 3)
    (g0 : HJ 86 0 (lv_args 0 [.ref (h_r h0 pa 0), .int sx1, .long sx2]) [] h (fun v h' => HJ 85 49 lv (v.toList ++ []) h' Q))
    : HJ 85 46 lv [.long sx2, .int sx1, .ref (h_r h0 pa 0)] h Q := by
  refine HJ.call (j := 86) (as := [.ref (h_r h0 pa 0), .int sx1, .long sx2]) (rr := []) (pc' := 49) (m_cR (kc := 2) rfl rfl (by decide +kernel) rfl rfl rfl ⟨rfl, by decide +kernel, by decide +kernel⟩ (by decide) hs0 (by rw [M.2.1]; exact hk0)) (by show 4 ≤ m_lc 86; decide +kernel) ?_ -- 46
  exact g0 
theorem r_mn49 {pa : Nat} {v i : Int} (M : RX h0 h H) (e0 : m_lk lv 0 = some (.ref pa)) {lx1 : Int32} (e1 : m_lk lv 1 = some (.int lx1)) (lq1 : lx1.toInt = v) (e2 : m_lk lv 2 = some (.ref (h_r h0 (h_r h0 pa 0) 4))) {lx3 : Int32} (e3 : m_lk lv 3 = some (.int lx3)) (lq3 : lx3.toInt = i) (pi0 : 0 ≤ i) (pi1 : i ≤ 62)
    (g0 : ∀ x1 : Int32, x1.toInt = i + 1 → ∀ lv1 : List (Nat × Value), m_lk lv1 0 = some (.ref pa) → m_lk lv1 1 = some (.int lx1) → m_lk lv1 2 = some (.ref (h_r h0 (h_r h0 pa 0) 4)) → m_lk lv1 3 = some (.int x1) → HJ 85 24 lv1 [] h Q)
    : HJ 85 49 lv [] h Q := by
  refine hM_inc (k := 3) (z := 1) rfl e3 lq3 (by decide) (by omega) (by omega) (by decide +kernel) rfl (fun lv1 x1 q1 e1_3 u1 => ?_) -- 49
  have e1_0 := u1 0 _ (by decide) (Or.inl rfl) e0
  have e1_1 := u1 1 _ (by decide) (Or.inl rfl) e1
  have e1_2 := u1 2 _ (by decide) (Or.inl rfl) e2
  refine hI_go (pc' := 24) (off := (-28)) rfl (by decide) ?_ -- 52
  exact g0 x1 q1 lv1 e1_0 e1_1 e1_2 e1_3
theorem l_mnR {pa : Nat} {Y : RYt} {v : Int} {O : WKt} {xv : Int32} (ok0 : pa_ok h0 pa) (okO : wk_ok (ry_s Y) O) (w63 : O.1 ≤ 63) (i5 : z_i h0 (h_r h0 pa 0) 5 = (ps_n (ry_s Y) : Int)) {H1 : Nat → Nat → Int} (hnd : H1 (h_r h0 pa 0) = z_i h0 (h_r h0 pa 0)) (P : wl_of h0 H1 (h_r h0 (h_r h0 pa 0) 4) (ry_s Y) O) (qv : xv.toInt = v) (g : ∀ (h' : MH) (L' : Nat → Nat → Int64), RL h0 h' H1 L' → (∀ q, q ≠ h_r h0 (h_r h0 pa 0) 1 → L' q = h_l h0 q) → (∀ j, L' (h_r h0 (h_r h0 pa 0) 1) j = hd_w O (bt v) O.1 (h_l h0 (h_r h0 (h_r h0 pa 0) 1)) j) → Q none h') : ∀ (e i : Nat) (lv : List (Nat × Value)) (h : MH) (L : Nat → Nat → Int64) (xi : Int32), i + e = O.1 → xi.toInt = (i : Int) → RL h0 h H1 L → (∀ q, q ≠ h_r h0 (h_r h0 pa 0) 1 → L q = h_l h0 q) → (∀ j, L (h_r h0 (h_r h0 pa 0) 1) j = hd_w O (bt v) i (h_l h0 (h_r h0 (h_r h0 pa 0) 1)) j) → m_lk lv 0 = some (.ref pa) → m_lk lv 1 = some (.int xv) → m_lk lv 2 = some (.ref (h_r h0 (h_r h0 pa 0) 4)) → m_lk lv 3 = some (.int xi) → HJ 85 24 lv [] h Q := by
  obtain ⟨P1, P2⟩ := P
  have nx := pa_nx ok0
  have w := nx.2.2.2.2.1
  obtain ⟨ka0, kb0, -, kc0⟩ := w.2.1 0 (by decide)
  intro e
  induction e with
  | zero =>
    intro i lv h L xi he qi R hL hD e0 e1 e2 e3
    have ok := nl_RL ok0.2.1 R (by rw [hnd])
    obtain ⟨okp, rr, ww⟩ := pa_RL ok0 R ok
    have z8 : (h_i h (h_r h0 (h_r h0 pa 0) 4) 8).toInt = (O.1 : Int) := (R.2.2.2.2 _ _).trans P1
    exact r_mn24 (pa := pa) (RX.start h) e0 e1 qv (by rw [rr]; exact e2) e3 qi (by omega) (by rw [rr]; show (h_i h (h_r h0 (h_r h0 pa 0) 4) 8).toInt ≤ 63; omega) (by rw [rr, R.2.1]; exact w.1.1) okp.1.1 (by rw [rr, R.2.1]; exact ka0) (by rw [rr, R.2.1]; exact kc0) (fun _ => g h L R hL (by rw [show O.1 = i by omega]; exact hD)) (fun _ _ c => absurd c (by rw [rr]; show ¬ (i : Int) < (h_i h (h_r h0 (h_r h0 pa 0) 4) 8).toInt; omega))
  | succ e ih =>
    intro i lv h L xi he qi R hL hD e0 e1 e2 e3
    have ok := nl_RL ok0.2.1 R (by rw [hnd])
    obtain ⟨okp, rr, ww⟩ := pa_RL ok0 R ok
    have z8 : (h_i h (h_r h0 (h_r h0 pa 0) 4) 8).toInt = (O.1 : Int) := (R.2.2.2.2 _ _).trans P1
    refine r_mn24 (pa := pa) (RX.start h) e0 e1 qv (by rw [rr]; exact e2) e3 qi (by omega) (by rw [rr]; show (h_i h (h_r h0 (h_r h0 pa 0) 4) 8).toInt ≤ 63; omega) (by rw [rr, R.2.1]; exact w.1.1) okp.1.1 (by rw [rr, R.2.1]; exact ka0) (by rw [rr, R.2.1]; exact kc0) (fun c => absurd c (by rw [rr]; show ¬ (i : Int) ≥ (h_i h (h_r h0 (h_r h0 pa 0) 4) 8).toInt; omega)) (fun x2 q2 _ => ?_)
    have q2 : x2.toInt = O.2.1 i := by
      rw [q2, rr, Int.toNat_natCast]
      exact (R.2.2.2.2 _ _).trans (P2 i (by omega)).1
    obtain ⟨⟨o0, o1⟩, -, -⟩ := okO i (by omega)
    refine k_bit (RX.start h) qv ?_
    have nd' : h_r h pa 0 = h_r h0 pa 0 := by rw [rr]
    refine r_mn46 (pa := pa) (RX.start h) e0 e1 qv (by rw [rr]; exact e2) e3 qi q2 (by rw [nd']; exact ok.1.2.1) (by rw [nd']; exact ok.1.1) ?_
    rw [nd']
    refine k_mark ok q2 o0 ?_ ?_
    · rw [R.2.2.2.2, hnd, i5]
      exact o1
    · have R2 := R.sl (o := h_r h (h_r h0 pa 0) 1) (j := (O.2.1 i).toNat) (x := h_l h (h_r h (h_r h0 pa 0) 1) (O.2.1 i).toNat ||| bt v)
      generalize h_sl h (h_r h (h_r h0 pa 0) 1) (O.2.1 i).toNat (h_l h (h_r h (h_r h0 pa 0) 1) (O.2.1 i).toNat ||| bt v) = h2 at R2 ⊢
      have rr2 : h_r h2 = h_r h0 := R2.2.2.1
      refine r_mn49 (pa := pa) (RX.start h2) e0 e1 qv (by rw [rr2]; exact e2) e3 qi (by omega) (by omega) (fun x5 q5 lv1 a0 a1 a2 a3 => ?_)
      refine ih (i + 1) lv1 h2 _ x5 (by omega) (by omega) R2 (fun q hq => funext (fun j => ?_)) (fun j => ?_) a0 a1 (by rw [rr2] at a2; exact a2) a3
      · show (if q = h_r h (h_r h0 pa 0) 1 ∧ j = (O.2.1 i).toNat then _ else L q j) = _
        rw [rr, if_neg (fun z => hq z.1), hL q hq]
      · show (if h_r h0 (h_r h0 pa 0) 1 = h_r h (h_r h0 pa 0) 1 ∧ j = (O.2.1 i).toNat then h_l h (h_r h (h_r h0 pa 0) 1) (O.2.1 i).toNat ||| bt v else L (h_r h0 (h_r h0 pa 0) 1) j) = (if j = (O.2.1 i).toNat then hd_w O (bt v) i (h_l h0 (h_r h0 (h_r h0 pa 0) 1)) j ||| bt v else hd_w O (bt v) i (h_l h0 (h_r h0 (h_r h0 pa 0) 1)) j)
        rw [rr]
        by_cases cj : j = (O.2.1 i).toNat
        · rw [if_pos ⟨rfl, cj⟩, if_pos cj, R.2.2.2.1, cj, hD]
        · rw [if_neg (fun z => cj z.2), if_neg cj]
          exact hD j
theorem k_marks {pa : Nat} {Y : RYt} {k v : Nat} {xv : Int32} (ok : pa_ok h pa) (B : pk_of h pa Y) (O : ry_ok Y k) (hv : v < ry_v Y) (qv : xv.toInt = (v : Int)) (g : ∀ (h' : MH) (H' : Nat → Nat → Int) (L' : Nat → Nat → Int64), RL h h' H' L' → wl_fr h (h_r h (h_r h pa 0) 4) (z_i h) H' → (∀ q, q ≠ h_r h (h_r h pa 0) 1 → L' q = h_l h q) → (∀ j, L' (h_r h (h_r h pa 0) 1) j = hd_w (wk_all (ry_s Y) (ry_h Y (v : Int))) (bt (v : Int)) (wk_all (ry_s Y) (ry_h Y (v : Int))).1 (h_l h (h_r h (h_r h pa 0) 1)) j) → Q none h') : HJ 85 0 (lv_args 0 [.ref pa, .int xv]) [] h Q := by
  have nx := pa_nx ok
  have w := nx.2.2.2.2.1
  have r := ok.2.2.2.1
  obtain ⟨I, Bt, ⟨⟨p1, p2, p3⟩, p4⟩, -⟩ := B
  have M := RX.start h
  refine r_mn0 M rfl rfl qv (by omega) (by omega) ok.1.1 nx.1.1.1 r.1 (by omega) w.1.2.1 w.1.1 (fun lv1 e0 e1 e2 => ?_)
  rw [Int.toNat_natCast]
  have hx := pa_hx ok (i := 18 + v) (by omega) (by omega) (by omega) (by omega) (by omega)
  have er := (p4 v hv).1
  rw [pa_wr] at hx er
  obtain ⟨n_, c_, h_⟩ := lw_Yr nx hx
  obtain ⟨okO, wO⟩ := wk_allI O.1.1 (O.1.2 v hv)
  have L := p_wsL (f := ry_h Y v) 6
  have e6 : (2 : Nat) ^ 6 = 64 := by decide
  rw [e6] at L
  refine k_look M w (nl_nd ok.2.1 I.1) I n_ c_ hx.1.1 h_ er O.1.1 (O.1.2 v hv) (fun h1 H1 M1 fr P => ?_)
  refine r_mn22 M1 e0 e1 qv e2 (fun x1 q1 lv2 d0 d1 d2 d3 => ?_)
  exact l_mnR (v := (v : Int)) ok okO (by omega) I.1 (by rw [fr _ n_.1 n_.2]; rfl) P qv (fun h' L' R hL hD => g h' H1 L' R fr hL hD) (wk_all (ry_s Y) (ry_h Y v)).1 0 lv2 h1 (h_l h) x1 (by omega) q1 (RL.ofRX M1) (fun _ _ => rfl) (fun _ => rfl) d0 d1 d2 d3
-- what marking a version leaves
theorem mk_all {h' : MH} {pa : Nat} {Y : RYt} {H' : Nat → Nat → Int} {L' : Nat → Nat → Int64} (ok : pa_ok h pa) (B : pk_of h pa Y) (R : RL h h' H' L') (fr : wl_fr h (h_r h (h_r h pa 0) 4) (z_i h) H') (hL : ∀ q, q ≠ h_r h (h_r h pa 0) 1 → L' q = h_l h q) : nl_ok h' (h_r h pa 0) ∧ pk_of h' pa Y ∧ FW (h_r h pa 0) (run_Y h pa) h h' ∧ h_r h' = h_r h := by
  have ap : ∀ q, q ≠ h_r h (h_r h pa 0) 4 → (∀ i, i < 7 → q ≠ pa_w h pa i) → H' q = z_i h q := fun q h1 h2 => fr q h1 (fun k hk => by rw [← pa_wk (h := h) (pa := pa) hk]; exact h2 k hk)
  have pn := pa_ne ok (i := 0) (by decide)
  have hn : H' (h_r h pa 0) = z_i h (h_r h pa 0) := ap _ (fun z => by have a := ok.2.1.1.1; rw [z, ok.2.2.1.1] at a; omega) (fun i hi => (pa_ne ok (i := i) (by omega)).2.1)
  have hp : H' pa = z_i h pa := ap _ pn.2.2.2.2.1 (fun i hi => (pa_ne ok (i := i) (by omega)).1)
  have hw : ∀ i, 7 ≤ i → i < 59 → H' (pa_w h pa i) = z_i h (pa_w h pa i) := fun i h1 h2 => ap _ (Ne.symm (pa_ne ok h2).2.2.1) (fun j hj => ok.2.2.2.2.2.2.2 i j h2 (by omega) (by omega))
  have ok' := nl_RL ok.2.1 R (by rw [hn])
  obtain ⟨f1, f2, f3, f4, f5⟩ := pa_fr ok
  refine ⟨ok', pk_RL ok R hw hn hp (fun j => by rw [hL _ f5]) B, FW.ofRL R (fun a ha => ⟨fun j => ?_, fun j => ?_⟩), R.2.2.1⟩
  · rw [ap a (fun z => ha (Or.inr (Or.inr (Or.inr (Or.inr (Or.inl z)))))) (fun i hi z => ha (Or.inr (Or.inr (Or.inr (Or.inr (Or.inr (Or.inl ⟨i, by omega, z⟩))))))) ]
  · rw [hL a (fun z => ha (Or.inr (Or.inr (Or.inl z))))]
theorem r_ra0 {pa ac : Nat} (M : RX h0 h H) (e0 : m_lk lv 0 = some (.ref pa)) (e1 : m_lk lv 1 = some (.ref ac))  (hk0 : (h_k h0 pa).1 = 4) (hs0 : 16 ≤ h_r h0 pa 0) (hk1 : (h_k h0 (h_r h0 pa 0)).1 = 3)
    (g0 : ∀ x1 : Int32, x1.toInt = 0 → HJ 46 0 (lv_args 0 [.ref (h_r h0 pa 0), .int x1]) [] h (fun v h' => HJ 45 8 lv (v.toList ++ []) h' Q))
    : HJ 45 0 lv [] h Q := by
  refine hI_al (k := 0) rfl e0 rfl ?_ -- 0
  refine hR_gr (c := 3) (k := 0) M hk0 rfl rfl rfl rfl ?_ -- 1
  refine hM_ic (n := 0) rfl (by decide) rfl (fun x1 q1 => ?_) -- 4
  refine HJ.call (j := 46) (as := [.ref (h_r h0 pa 0), .int x1]) (rr := []) (pc' := 8) (m_cR (kc := 2) rfl rfl (by decide +kernel) rfl rfl rfl ⟨rfl, by decide +kernel, by decide +kernel⟩ (by decide) hs0 (by rw [M.2.1]; exact hk1)) (by show 2 ≤ m_lc 46; decide +kernel) ?_ -- 5
  exact g0 x1 q1
theorem r_ra8 {pa ac : Nat} (M : RX h0 h H) (e0 : m_lk lv 0 = some (.ref pa)) (e1 : m_lk lv 1 = some (.ref ac))  (hk0 : (h_k h0 pa).1 = 4)
    (g0 : ∀ h2 : MH, ∀ H2 : Nat → Nat → Int, H2 = m_u H pa (m_u (H pa) 12 (0)) → ∀ h4 : MH, ∀ H4 : Nat → Nat → Int, H4 = m_u H2 pa (m_u (H2 pa) 11 (0)) → ∀ x5 : Int32, x5.toInt = (-1) → RX h0 h4 H4 → HJ 48 0 (lv_args 0 [.ref (h_r h0 pa 7), .int x5]) [] h4 (fun v h' => HJ 45 26 lv (v.toList ++ []) h' Q))
    : HJ 45 8 lv [] h Q := by
  refine hI_al (k := 0) rfl e0 rfl ?_ -- 8
  refine hM_ic (n := 0) rfl (by decide) rfl (fun x1 q1 => ?_) -- 9
  refine hR_pi (c := 3) (k := 12) M hk0 rfl rfl ⟨by decide, by decide +kernel, rfl⟩ q1 rfl (fun h2 H2 f2 M2 => ?_) -- 10
  refine hI_al (k := 0) rfl e0 rfl ?_ -- 13
  refine hM_ic (n := 0) rfl (by decide) rfl (fun x3 q3 => ?_) -- 14
  refine hR_pi (c := 3) (k := 11) M2 hk0 rfl rfl ⟨by decide, by decide +kernel, rfl⟩ q3 rfl (fun h4 H4 f4 M4 => ?_) -- 15
  refine hI_al (k := 0) rfl e0 rfl ?_ -- 18
  refine hR_gr (c := 3) (k := 7) M4 hk0 rfl rfl rfl rfl ?_ -- 19
  refine hM_ic (n := (-1)) rfl (by decide) rfl (fun x5 q5 => ?_) -- 22
  refine hM_is0 (as := [.ref (h_r h0 pa 7), .int x5]) (r := []) rfl rfl (by decide +kernel) rfl rfl rfl rfl rfl ?_ -- 23
  exact g0 h2 H2 f2 h4 H4 f4 x5 q5 M4
theorem r_ra26 {pa ac : Nat} (M : RX h0 h H) (e0 : m_lk lv 0 = some (.ref pa)) (e1 : m_lk lv 1 = some (.ref ac))  (hs0 : 16 ≤ pa) (hk0 : (h_k h0 pa).1 = 4)
    (g0 : HJ 49 0 (lv_args 0 [.ref pa]) [] h (fun v h' => HJ 45 30 lv (v.toList ++ []) h' Q))
    : HJ 45 26 lv [] h Q := by
  refine hI_al (k := 0) rfl e0 rfl ?_ -- 26
  refine HJ.call (j := 49) (as := [.ref pa]) (rr := []) (pc' := 30) (m_cR (kc := 3) rfl rfl (by decide +kernel) rfl rfl rfl ⟨rfl, by decide +kernel, by decide +kernel⟩ (by decide) hs0 (by rw [M.2.1]; exact hk0)) (by show 1 ≤ m_lc 49; decide +kernel) ?_ -- 27
  exact g0 
theorem r_ra30 {pa ac : Nat} (M : RX h0 h H) (e0 : m_lk lv 0 = some (.ref pa)) (e1 : m_lk lv 1 = some (.ref ac))  (hk0 : (h_k h0 pa).1 = 4) (hs0 : 16 ≤ h_r h0 pa 1) (hk1 : (h_k h0 (h_r h0 pa 1)).1 = 2)
    (g0 : ∀ x1 : Int32, x1.toInt = 0 → ∀ x2 : Int32, x2.toInt = (-1) → ∀ x3 : Int32, x3.toInt = (-1) → HJ 51 0 (lv_args 0 [.ref (h_r h0 pa 1), .int x1, .int x2, .int x3]) [] h (fun v h' => HJ 45 40 lv (v.toList ++ []) h' Q))
    : HJ 45 30 lv [] h Q := by
  refine hI_al (k := 0) rfl e0 rfl ?_ -- 30
  refine hR_gr (c := 3) (k := 1) M hk0 rfl rfl rfl rfl ?_ -- 31
  refine hM_ic (n := 0) rfl (by decide) rfl (fun x1 q1 => ?_) -- 34
  refine hM_ic (n := (-1)) rfl (by decide) rfl (fun x2 q2 => ?_) -- 35
  refine hM_ic (n := (-1)) rfl (by decide) rfl (fun x3 q3 => ?_) -- 36
  refine HJ.call (j := 51) (as := [.ref (h_r h0 pa 1), .int x1, .int x2, .int x3]) (rr := []) (pc' := 40) (m_cR (kc := 1) rfl rfl (by decide +kernel) rfl rfl rfl ⟨rfl, by decide +kernel, by decide +kernel⟩ (by decide) hs0 (by rw [M.2.1]; exact hk1)) (by show 4 ≤ m_lc 51; decide +kernel) ?_ -- 37
  exact g0 x1 q1 x2 q2 x3 q3
theorem r_ra40 {pa ac : Nat} (M : RX h0 h H) (e0 : m_lk lv 0 = some (.ref pa)) (e1 : m_lk lv 1 = some (.ref ac)) 
    (g0 : ∀ x1 : Int32, x1.toInt = 1 → ∀ x3 : Int32, x3.toInt = 0 → ∀ lv4 : List (Nat × Value), m_lk lv4 0 = some (.ref pa) → m_lk lv4 1 = some (.ref ac) → m_lk lv4 2 = some (.int x1) → m_lk lv4 3 = some (.int x3) → HJ 45 44 lv4 [] h Q)
    : HJ 45 40 lv [] h Q := by
  refine hM_ic (n := 1) rfl (by decide) rfl (fun x1 q1 => ?_) -- 40
  refine hM_si (k := 2) rfl (by decide +kernel) rfl (fun lv2 e2_2 u2 => ?_) -- 41
  have e2_0 := u2 0 _ (by decide) (Or.inl rfl) e0
  have e2_1 := u2 1 _ (by decide) (Or.inl rfl) e1
  refine hM_ic (n := 0) rfl (by decide) rfl (fun x3 q3 => ?_) -- 42
  refine hM_si (k := 3) rfl (by decide +kernel) rfl (fun lv4 e4_3 u4 => ?_) -- 43
  have e4_0 := u4 0 _ (by decide) (Or.inl rfl) e2_0
  have e4_1 := u4 1 _ (by decide) (Or.inl rfl) e2_1
  have e4_2 := u4 2 _ (by decide) (Or.inl rfl) e2_2
  exact g0 x1 q1 x3 q3 lv4 e4_0 e4_1 e4_2 e4_3
theorem r_ra125 {pa ac : Nat} (M : RX h0 h H) (e0 : m_lk lv 0 = some (.ref pa)) (e1 : m_lk lv 1 = some (.ref ac)) 
    (g0 : ∀ x1 : Int32, x1.toInt = 0 → ∀ lv2 : List (Nat × Value), m_lk lv2 0 = some (.ref pa) → m_lk lv2 1 = some (.ref ac) → m_lk lv2 3 = some (.int x1) → HJ 45 127 lv2 [] h Q)
    : HJ 45 125 lv [] h Q := by
  refine hM_ic (n := 0) rfl (by decide) rfl (fun x1 q1 => ?_) -- 125
  refine hM_si (k := 3) rfl (by decide +kernel) rfl (fun lv2 e2_3 u2 => ?_) -- 126
  have e2_0 := u2 0 _ (by decide) (Or.inl rfl) e0
  have e2_1 := u2 1 _ (by decide) (Or.inl rfl) e1
  exact g0 x1 q1 lv2 e2_0 e2_1 e2_3
theorem r_ra127 {pa ac : Nat} {v : Int} (M : RX h0 h H) (e0 : m_lk lv 0 = some (.ref pa)) (e1 : m_lk lv 1 = some (.ref ac)) {lx3 : Int32} (e3 : m_lk lv 3 = some (.int lx3)) (lq3 : lx3.toInt = v)  (hk0 : (h_k h0 pa).1 = 4) (hs0 : 16 ≤ pa)
    (g0 : v > H pa 11 → Q none h)
    (g1 : v ≤ H pa 11 → HJ 85 0 (lv_args 0 [.ref pa, .int lx3]) [] h (fun v h' => HJ 45 140 lv (v.toList ++ []) h' Q))
    : HJ 45 127 lv [] h Q := by
  refine hI_il (k := 3) rfl e3 rfl ?_ -- 127
  refine hI_al (k := 0) rfl e0 rfl ?_ -- 128
  refine hR_gi (c := 3) (k := 11) M hk0 rfl rfl rfl rfl (fun x1 q1 => ?_) -- 129
  have gb1 : -2147483648 ≤ H pa 11 ∧ H pa 11 ≤ 2147483647 := by rw [← q1]; exact g_iT _
  refine hM_cgt (off := 14) (t := 146) rfl lq3 q1 (by decide) rfl (fun c132 => ?_) (fun c132 => ?_) -- 132
  · refine hI_rv rfl rfl ?_
    exact g0 c132
  · refine hI_al (k := 0) rfl e0 rfl ?_ -- 135
    refine hI_il (k := 3) rfl e3 rfl ?_ -- 136
    refine HJ.call (j := 85) (as := [.ref pa, .int lx3]) (rr := []) (pc' := 140) (m_cR (kc := 3) rfl rfl (by decide +kernel) rfl rfl rfl ⟨rfl, by decide +kernel, by decide +kernel⟩ (by decide) hs0 (by rw [M.2.1]; exact hk0)) (by show 2 ≤ m_lc 85; decide +kernel) ?_ -- 137
    exact g1 c132
theorem r_ra140 {pa ac : Nat} {v : Int} (M : RX h0 h H) (e0 : m_lk lv 0 = some (.ref pa)) (e1 : m_lk lv 1 = some (.ref ac)) {lx3 : Int32} (e3 : m_lk lv 3 = some (.int lx3)) (lq3 : lx3.toInt = v) (pv0 : 0 ≤ v) (pv1 : v ≤ 40)
    (g0 : ∀ x1 : Int32, x1.toInt = v + 1 → ∀ lv1 : List (Nat × Value), m_lk lv1 0 = some (.ref pa) → m_lk lv1 1 = some (.ref ac) → m_lk lv1 3 = some (.int x1) → HJ 45 127 lv1 [] h Q)
    : HJ 45 140 lv [] h Q := by
  refine hM_inc (k := 3) (z := 1) rfl e3 lq3 (by decide) (by omega) (by omega) (by decide +kernel) rfl (fun lv1 x1 q1 e1_3 u1 => ?_) -- 140
  have e1_0 := u1 0 _ (by decide) (Or.inl rfl) e0
  have e1_1 := u1 1 _ (by decide) (Or.inl rfl) e1
  refine hI_go (pc' := 127) (off := (-16)) rfl (by decide) ?_ -- 143
  exact g0 x1 q1 lv1 e1_0 e1_1 e1_3
theorem run_Yr {h' : MH} {pa q : Nat} (rr : h_r h' = h_r h) (z : run_Y h' pa q) : run_Y h pa q := by
  have ww : ∀ i, pa_w h' pa i = pa_w h pa i := fun i => by
    unfold pa_w
    rw [rr]
  rcases z with z | z | ⟨i, hi, z⟩ | z
  · exact Or.inl z
  · exact Or.inr (Or.inl (by rw [rr] at z; exact z))
  · exact Or.inr (Or.inr (Or.inl ⟨i, hi, by rw [← ww]; exact z⟩))
  · exact Or.inr (Or.inr (Or.inr (by rw [rr] at z; exact z)))
theorem l_raM {pa ac k : Nat} {Y : RYt} {L0 : Nat → Int64} (O : ry_ok Y k) (g : ∀ h' : MH, pa_ok h' pa → pk_of h' pa Y → FW (h_r h0 pa 0) (run_Y h0 pa) h0 h' → h_r h' = h_r h0 → (∀ j, h_l h' (h_r h' (h_r h' pa 0) 1) j = hd_n (ry_s Y) (ry_h Y) L0 (ry_v Y) j) → Q none h') : ∀ (e v : Nat) (lv : List (Nat × Value)) (h : MH) (xv : Int32), v + e = ry_v Y → xv.toInt = (v : Int) → pa_ok h pa → pk_of h pa Y → FW (h_r h0 pa 0) (run_Y h0 pa) h0 h → h_r h = h_r h0 → (∀ j, h_l h (h_r h (h_r h pa 0) 1) j = hd_n (ry_s Y) (ry_h Y) L0 v j) → m_lk lv 0 = some (.ref pa) → m_lk lv 1 = some (.ref ac) → m_lk lv 3 = some (.int xv) → HJ 45 127 lv [] h Q := by
  intro e
  induction e with
  | zero =>
    intro v lv h xv he qv ok B F rr hD e0 e1 e3
    have p1 : (h_i h pa 11).toInt + 1 = (ry_v Y : Int) := B.2.2.1.1.1
    refine r_ra127 (RX.start h) e0 e1 e3 qv ok.1.1 ok.1.2.1 (fun _ => g h ok B F rr (by rw [show ry_v Y = v by omega]; exact hD)) (fun c => absurd c (by omega))
  | succ e ih =>
    intro v lv h xv he qv ok B F rr hD e0 e1 e3
    have p1 : (h_i h pa 11).toInt + 1 = (ry_v Y : Int) := B.2.2.1.1.1
    have p3 := B.2.2.1.1.2.2
    refine r_ra127 (RX.start h) e0 e1 e3 qv ok.1.1 ok.1.2.1 (fun c => absurd c (by omega)) (fun _ => ?_)
    refine k_marks ok B O (by omega) qv (fun h2 H2 L2 R2 fr2 hL2 hD2 => ?_)
    obtain ⟨ok2, B2, F2, rr2⟩ := mk_all ok B R2 fr2 hL2
    obtain ⟨okp2, -, -⟩ := pa_RL ok R2 ok2
    refine r_ra140 (RX.start h2) e0 e1 e3 qv (by omega) (by omega) (fun x1 q1 lv1 a0 a1 a3 => ?_)
    have nd' : h_r h pa 0 = h_r h0 pa 0 := by rw [rr]
    refine ih (v + 1) lv1 h2 x1 (by omega) (by omega) okp2 B2 (F.trans2 (by rw [← nd']; exact F2) (fun q _ z => Or.inl (run_Yr rr z))) (rr2.trans rr) (fun j => ?_) a0 a1 a3
    rw [rr2]
    show h_l h2 (h_r h (h_r h pa 0) 1) j = hd_w (wk_all (ry_s Y) (ry_h Y (v : Int))) (bt (v : Int)) (wk_all (ry_s Y) (ry_h Y (v : Int))).1 (hd_n (ry_s Y) (ry_h Y) L0 v) j
    rw [R2.2.2.2.1, hD2, show h_l h (h_r h (h_r h pa 0) 1) = hd_n (ry_s Y) (ry_h Y) L0 v from funext hD]
theorem hd_wC {O : WKt} {x : Int64} {L L' : Nat → Int64} {j : Nat} (e : L j = L' j) : ∀ i, hd_w O x i L j = hd_w O x i L' j
  | 0 => e
  | i + 1 => by
    show (if j = (O.2.1 i).toNat then hd_w O x i L j ||| x else hd_w O x i L j) = (if j = (O.2.1 i).toNat then hd_w O x i L' j ||| x else hd_w O x i L' j)
    rw [hd_wC e i]
theorem hd_nC {S : PSt} {f : Int → Nat → Int} {L L' : Nat → Int64} {j : Nat} (e : L j = L' j) : ∀ u, hd_n S f L u j = hd_n S f L' u j
  | 0 => e
  | u + 1 => hd_wC (hd_nC e u) _
theorem k_runAll {pa ac N : Nat} {T : Nat → Int} (ok : pa_ok h pa) (ao : ac_ok h pa ac) (A : ac_of (z_i h) ac (h_r h ac 0) (h_r h ac 1) T N) (N40 : N ≤ 40) (av : ∀ k, k < N → av_2 T k) (g : ∀ (h' : MH) (k : Nat), k ≤ N → ry_ok (ry_run T N).1 k → pa_ok h' pa → pk_of h' pa (ry_run T N).1 → FW (h_r h pa 0) (run_Y h pa) h h' → hd_0 h' pa (ry_run T N).1 → Q none h') : HJ 45 0 (lv_args 0 [.ref pa, .ref ac]) [] h Q := by
  have nx := pa_nx ok
  have c := ok.2.2.2.2.2.2.2
  have b := ok.2.2.2.2.2.2.1
  have M := RX.start h
  have pn := pa_ne ok (i := 7) (by decide)
  have m0 := ok.2.1.2.2.2.2.1
  refine r_ra0 M rfl rfl ok.1.1 nx.1.1.2.1 nx.1.1.1 (fun x1 q1 => ?_)
  refine k_drop (m := z_i h (h_r h pa 0) 5) M nx.1.1.1 rfl m0.1 q1 (fun h1 H1 M1 o1 n1 => ?_)
  refine r_ra8 M1 rfl rfl ok.1.1 (fun h2 H2 f2 h4 H4 f4 x5 q5 M4 => ?_)
  have l7 : (h_k h (h_r h pa 7)).2 ≤ 1000000 := (b 7 (by decide)).2.2.2.2
  have a7 := pa_ap ok (i := 7) (by decide) (by decide)
  rw [show pa_w h pa 7 = h_r h pa 7 from rfl] at a7
  refine k_fill M4 a7.1.1 a7.1.2.1 l7 q5 (fun h5 H5 M5 p1 p2 => ?_)
  have p7 := pn.1
  rw [show pa_w h pa 7 = h_r h pa 7 from rfl] at p7
  have n7 := pn.2.1
  rw [show pa_w h pa 7 = h_r h pa 7 from rfl] at n7
  have e5pa : ∀ q, H5 pa q = if q = 11 then 0 else if q = 12 then 0 else z_i h pa q := fun q => by
    rw [p1 pa p7, f4, m_uE]
    by_cases c1 : q = 11
    · rw [if_pos c1, c1, m_uE]
    · rw [if_neg c1, m_uN _ _ _ _ c1, f2, m_uE]
      by_cases c2 : q = 12
      · rw [if_pos c2, c2, m_uE]
      · rw [if_neg c2, m_uN _ _ _ _ c2, o1 pa pn.2.2.2.1]
        rfl
  have e5o : ∀ q, q ≠ h_r h pa 7 → q ≠ pa → q ≠ h_r h pa 0 → H5 q = z_i h q := fun q h1 h2 h3 => by
    rw [p1 q h1, f4, m_uN _ _ _ _ h2, f2, m_uN _ _ _ _ h2, o1 q h3]
    rfl
  have e5n : H5 (h_r h pa 0) = H1 (h_r h pa 0) := by rw [p1 _ n7, f4, m_uN _ _ _ _ (Ne.symm pn.2.2.2.1), f2, m_uN _ _ _ _ (Ne.symm pn.2.2.2.1)]
  have e5n5 : H5 (h_r h pa 0) 5 = 0 := by
    rw [e5n, n1, m_uN _ _ _ _ (by decide), m_uE]
    by_cases cc : (0 : Int) < z_i h (h_r h pa 0) 5
    · rw [if_pos cc, if_neg (by decide)]
    · rw [if_neg cc]
      omega
  have e5n6 : H5 (h_r h pa 0) 6 = 0 := by rw [e5n, n1, m_uE]
  refine r_ra26 M5 rfl rfl ok.1.2.1 ok.1.1 ?_
  refine k_keep (f := fun _ => -1) (s := 0) M5 ok (by rw [e5pa, if_pos rfl]; rfl) (by decide) (fun q hq => p2 q (by have := a7.1.2.2; omega)) (fun h6 H6 M6 o6 r6 s6 => ?_)
  obtain ⟨li, lne⟩ := pa_li ok
  refine r_ra30 M6 rfl rfl ok.1.1 li.1.2 li.1.1 (fun x7 q7 x8 q8 x9 q9 => ?_)
  refine k_lines (v := 0) M6 li lne q7 (by decide) q8 q9 (by decide) (by decide) (fun h7 H7 R7 o7 f7 s7 => ?_)
  have rr : h_r h7 = h_r h := R7.2.2.1
  have zz : ∀ a j, z_i h7 a j = H7 a j := R7.2.2.2.2
  have ww : ∀ i, pa_w h7 pa i = pa_w h pa i := fun i => by
    unfold pa_w
    rw [rr]
  have r0 := pa_ne ok (i := 18 + 0) (by decide)
  have r3 := pa_ne ok (i := 12) (by decide)
  have r16 := pa_ne ok (i := 16) (by decide)
  have r17 := pa_ne ok (i := 17) (by decide)
  have e7n : H7 (h_r h pa 0) = H5 (h_r h pa 0) := by rw [o7 _ r16.2.1 r17.2.1, o6 _ r0.2.1 r3.2.1]
  have e7p : H7 pa = H5 pa := by rw [o7 _ r16.1 r17.1, o6 _ r0.1 r3.1]
  have ok7 : nl_ok h7 (h_r h pa 0) := by
    have := ok.2.1
    unfold nl_ok at this ⊢
    have nn : h_n h7 = h_n h := by
      have := R7.1
      unfold h_n
      rw [this]
    rw [nn, R7.2.1, rr, zz, e7n, e5n5]
    obtain ⟨u1, u2, u3, u4, u5, u6⟩ := this
    exact ⟨u1, u2, u3, u4, ⟨Int.le_refl _, by omega⟩, u6⟩
  obtain ⟨okp, -, -⟩ := pa_RL ok R7 ok7
  obtain ⟨f1, f2_, f3_, f4_, f5_⟩ := pa_fr ok
  have B7 : pk_of h7 pa (ry_run T 0).1 := by
    refine ⟨?_, ?_, ⟨⟨?_, ?_, ?_⟩, fun v hv => ?_⟩, fun k hk => ?_, fun v hv => ?_, fun v hv => ?_⟩
    · rw [rr]
      exact ⟨by rw [zz, e7n, e5n5]; rfl, by rw [zz, e7n, e5n6]; rfl, ⟨Int.le_refl _, Int.le_refl _⟩, Nat.zero_le _, fun v hv => absurd hv (Nat.not_lt_zero v)⟩
    · rw [zz, e7p, e5pa, if_neg (by decide), if_pos rfl]
      rfl
    · rw [zz, e7p, e5pa, if_pos rfl]
      rfl
    · exact Nat.le_refl _
    · show 1 ≤ 41
      decide
    · have v0 : v = 0 := by
        have : v < 1 := hv
        omega
      subst v0
      refine ⟨fun q hq => ?_, ?_⟩
      · rw [ww, zz, o7 _ (c _ 16 (by decide) (by decide) (by decide)) (c _ 17 (by decide) (by decide) (by decide)), r6 q hq]
        rfl
      · rw [rr, zz, o7 (h_r h pa 3) (c 12 16 (by decide) (by decide) (by decide)) (c 12 17 (by decide) (by decide) (by decide)), s6, m_uE]
        rfl
    · have : k + 1 < 1 := hk
      omega
    · have v0 : v = 0 := by
        have : v < 1 := hv
        omega
      subst v0
      rw [rr, zz, zz, f7, s7, m_uE, m_uE]
      exact ⟨rfl, rfl⟩
    · have v0 : v = 0 := by
        have : v < 1 := hv
        omega
      subst v0
      rw [rr]
      refine (R7.2.2.2.1 _ 0).trans ?_
      show (if h_r h (h_r h pa 1) 2 = h_r h (h_r h pa 1) 2 ∧ (0 : Nat) = 0 then _ else _) = _
      rw [if_pos ⟨rfl, rfl⟩]
      rfl
  have F7 : FW (h_r h pa 0) (run_Y h pa) h h7 := by
    refine FW.ofRL R7 (fun a ha => ⟨fun j => ?_, fun j => ?_⟩)
    · have nY : ∀ i, i < 59 → a ≠ pa_w h pa i := fun i hi z => ha (Or.inr (Or.inr (Or.inr (Or.inr (Or.inr (Or.inl ⟨i, hi, z⟩))))))
      rw [o7 a (nY 16 (by decide)) (nY 17 (by decide)), o6 a (nY _ (by decide)) (nY 12 (by decide)), e5o a (nY 7 (by decide)) (fun z => ha (Or.inr (Or.inr (Or.inr (Or.inl z))))) (fun z => ha (Or.inl z))]
    · show (if a = h_r h (h_r h pa 1) 2 ∧ j = 0 then _ else h_l h a j) = _
      rw [if_neg (fun z => ha (Or.inr (Or.inr (Or.inr (Or.inr (Or.inr (Or.inr z.1)))))))]
  · have ao7 : ac_ok h7 pa ac ∧ ac_of (z_i h7) ac (h_r h7 ac 0) (h_r h7 ac 1) T N := by
      obtain ⟨⟨a1, a2, a3⟩, ⟨b1, b2, b3⟩, ⟨c1, c2, c3⟩, d⟩ := ao
      have nn : h_n h7 = h_n h := by
        have := R7.1
        unfold h_n
        rw [this]
      have same : ∀ q, (h_k h q).1 = 20 → (∀ i, i < 59 → q ≠ pa_w h pa i) → H7 q = z_i h q := fun q qk qw => by
        rw [o7 _ (qw 16 (by decide)) (qw 17 (by decide)), o6 _ (qw _ (by decide)) (qw 12 (by decide)), e5o q (qw 7 (by decide)) (fun z => by rw [z, ok.1.1] at qk; omega) (fun z => by rw [z, ok.2.1.1.1] at qk; omega)]
      have acp : ∀ i, i < 59 → ac ≠ pa_w h pa i := fun i hi z => by
        have u := (b i hi).1
        rw [← z, a1] at u
        omega
      have sa : H7 ac = z_i h ac := by
        rw [o7 _ (acp 16 (by decide)) (acp 17 (by decide)), o6 _ (acp _ (by decide)) (acp 12 (by decide)), e5o ac (acp 7 (by decide)) (fun z => by rw [z, ok.1.1] at a1; omega) (fun z => by rw [z, ok.2.1.1.1] at a1; omega)]
      unfold ac_ok ac_of
      rw [rr, R7.2.1, nn, zz, sa]
      exact ⟨⟨⟨a1, a2, a3⟩, ⟨b1, b2, b3⟩, ⟨c1, c2, c3⟩, fun i hi => by rw [ww]; exact d i hi⟩, A.1, fun k hk => ⟨by rw [zz, same _ b1 (fun i hi => (d i hi).1)]; exact (A.2 k hk).1, fun i hi => by rw [zz, same _ c1 (fun i hi => (d i hi).2)]; exact (A.2 k hk).2 i hi⟩⟩
    have nd7 : h_r h7 pa 0 = h_r h pa 0 := by rw [rr]
    refine r_ra40 (RX.start h7) rfl rfl (fun x10 q10 x11 q11 lv4 e0 e1 e2 e3 => ?_)
    refine l_raR okp ao7.1 ao7.2 N40 av (fun lv8 h8 k hk O8 ok8 B8 F8 d0 d1 => ?_) N 0 lv4 h7 x10 x11 (by omega) ry_ok0 rfl okp.2.1 B7 FX.same q10 q11 e0 e1 e2 e3
    obtain ⟨okp8, -, -⟩ := pa_FX okp ok8 F8
    refine r_ra125 (RX.start h8) d0 d1 (fun x12 q12 lv9 g0 g1 g3 => ?_)
    have nd8 : h_r h8 pa 0 = h_r h pa 0 := by rw [(pa_FX okp ok8 F8).2.1, nd7]
    refine l_raM (h0 := h8) (L0 := h_l h8 (h_r h8 (h_r h8 pa 0) 1)) O8 (fun h9 ok9 B9 F9 rr9 hD9 => ?_) (ry_v (ry_run T N).1) 0 lv9 h8 x12 (by omega) q12 okp8 B8 (FW.ofFX FX.same) rfl (fun _ => rfl) g0 g1 g3
    have z85 : z_i h8 (h_r h7 pa 0) 5 = (ps_n (ry_s (ry_run T N).1) : Int) := by
      have := B8.1.1
      rw [(pa_FX okp ok8 F8).2.1] at this
      exact this
    have hd9 : hd_0 h9 pa (ry_run T N).1 := fun j hj => by
      rw [hD9 j]
      refine hd_nC ?_ _
      rw [(pa_FX okp ok8 F8).2.1]
      exact F8.2.1.2.2.2 j (by rw [nd7, zz, e7n, e5n5]; exact Int.natCast_nonneg j) (by rw [z85]; omega)
    refine g h9 k hk O8 ok9 B9 ?_ hd9
    have F8' := F8
    rw [nd7] at F8
    rw [nd8] at F9
    refine (F7.trans2 (FW.ofFX F8) (fun q _ z => Or.inl (run_Yr rr z))).trans2 F9 (fun q hq z => ?_)
    have nn : h_n h7 = h_n h := by
      have := R7.1
      unfold h_n
      rw [this]
    rcases run_Ye okp ok8 F8' (by rw [nn]; exact hq) z with z | z
    · exact Or.inl (run_Yr rr z)
    · rw [rr] at z
      exact Or.inr z
end
