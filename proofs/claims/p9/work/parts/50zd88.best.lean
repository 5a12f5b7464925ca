-- THE BEST FOLD: all orders tried, all left as it was but the orders' rows
theorem pw_FW {h h' : MH} {pa : Nat} {Y : Nat → Prop} (ok : pa_ok h pa) (F : FW (h_r h pa 0) Y h h') : (∀ k, h_r h' pa k = h_r h pa k) ∧ h_r h' (h_r h pa 0) 4 = h_r h (h_r h pa 0) 4 ∧ ∀ i, i < 59 → i ≠ 11 → pa_w h' pa i = pa_w h pa i := by
  have nod := (pa_ne ok (i := 0) (by decide)).2.2.2
  obtain ⟨a, n, t, r, li, fr, b, c⟩ := ok
  have e0 : ∀ k, h_r h' pa k = h_r h pa k := fun k => (F.2.2 pa a.2.2).2.1 k (fun z => nod.1 z.1)
  have tn : h_r h (h_r h pa 0) 4 ≠ h_r h pa 0 := fun z => by
    have := t.1
    rw [z, n.1.1] at this
    omega
  have rn : h_r h pa 2 ≠ h_r h pa 0 := fun z => by
    have := r.1
    rw [z, n.1.1] at this
    omega
  have ln : h_r h pa 1 ≠ h_r h pa 0 := fun z => by
    have := li.1
    rw [z, n.1.1] at this
    omega
  have e4 : h_r h' (h_r h pa 0) 4 = h_r h (h_r h pa 0) 4 := (F.2.2 _ n.1.2.2).2.1 4 (by omega)
  have eR : ∀ {x : Nat} (k : Nat), x < 16 + h_n h → x ≠ h_r h pa 0 → h_r h' x k = h_r h x k := fun {x} k hx hn => (F.2.2 x hx).2.1 k (fun z => hn z.1)
  refine ⟨e0, e4, fun i hi h11 => ?_⟩
  unfold pa_w
  simp only [e0, e4, if_neg h11]
  rw [(F.2.2 _ n.1.2.2).2.1 2 (by omega), (F.2.2 _ n.1.2.2).2.1 3 (by omega), eR _ t.2.2 tn, eR _ li.2.2 ln, eR _ r.2.2.2 rn]
theorem py_FW {h h' : MH} {pa a : Nat} {Y : Nat → Prop} (ok : pa_ok h pa) (F : FW (h_r h pa 0) Y h h') (z : py_Y h' pa a) : py_Y h pa a := by
  obtain ⟨re, e4, rw_⟩ := pw_FW ok F
  rcases z with z | z | ⟨i, hi, z⟩
  · exact Or.inl z
  · rw [re, e4] at z
    exact Or.inr (Or.inl z)
  · rw [rw_ i (by omega) (by omega)] at z
    exact Or.inr (Or.inr ⟨i, hi, z⟩)
-- a row apart from all that an act may change
theorem ap_FW {h h' : MH} {pa r : Nat} (ok : pa_ok h pa) (k1 : (h_k h r).1 = 20) (k3 : r < 16 + h_n h) (k5 : r ≠ pa_w h pa 11 ∧ ∀ i, i < 11 → r ≠ pa_w h pa i) (F : FW (h_r h pa 0) (py_Y h pa) h h') (j : Nat) : z_i h' r j = z_i h r j := by
  have n := ok.2.1
  refine ((F.2.2 r k3).2.2 (fun z => ?_)).1 j
  rcases z with z | z | z | z | z | ⟨i, hi, z⟩
  · rw [z, n.1.1] at k1
    omega
  · exact k5.1 z
  · rw [z, n.2.2.1.1] at k1
    omega
  · rw [z, ok.1.1] at k1
    omega
  · rw [z, ok.2.2.1.1] at k1
    omega
  · exact k5.2 i hi z
theorem tb_FW {h h' : MH} {pa r : Nat} {Y : Nat → Prop} (ok : pa_ok h pa) (tb : tb_ok h pa r) (F : FW (h_r h pa 0) Y h h') : tb_ok h' pa r := by
  obtain ⟨⟨k1, k2, k3, k4, k6⟩, k5⟩ := tb
  obtain ⟨re, -, rw_⟩ := pw_FW ok F
  have kk := (F.2.2 r k3).1
  have N := F.1
  refine ⟨⟨by rw [kk]; exact k1, k2, by omega, by rw [kk]; exact k4, by rw [kk]; exact k6⟩, fun i hi => ?_⟩
  by_cases e : i = 11
  · subst e
    have w : pa_w h' pa 11 = h_r h' (h_r h pa 0) 0 := by
      show h_r h' (h_r h' pa 0) 0 = _
      rw [re]
    rw [w]
    rcases F.2.1 0 (by decide) with z | z
    · rw [z]
      exact k5 11 hi
    · omega
  · rw [rw_ i hi e]
    exact k5 i hi
theorem pr_FW {h h' : MH} {pa : Nat} {Y : RYt} (ok : pa_ok h pa) (F : FW (h_r h pa 0) (py_Y h pa) h h') (z11 : z_i h' pa 11 = z_i h pa 11) (P : pr_of h pa Y) : pr_of h' pa Y := by
  obtain ⟨⟨p1, p2, p3⟩, p4⟩ := P
  obtain ⟨re, -, rw_⟩ := pw_FW ok F
  have b := ok.2.2.2.2.2.2.1
  have c := ok.2.2.2.2.2.2.2
  have kp : ∀ i, i < 59 → 12 ≤ i → ∀ j, z_i h' (pa_w h pa i) j = z_i h (pa_w h pa i) j := fun i hi h12 j => ap_FW ok (b i hi).1 (b i hi).2.2.1 ⟨c i 11 hi (by decide) (by omega), fun q hq => c i q hi (by omega) (by omega)⟩ F j
  refine ⟨⟨by rw [z11]; exact p1, p2, p3⟩, fun v hv => ?_⟩
  obtain ⟨q1, q2⟩ := p4 v hv
  refine ⟨fun k hk => ?_, ?_⟩
  · rw [rw_ (18 + v) (by omega) (by omega), kp _ (by omega) (by omega)]
    exact q1 k hk
  · rw [re 3]
    exact (kp 12 (by decide) (by decide) v).trans q2
def bf_Y (h : MH) (pa a : Nat) : Prop := py_Y h pa a ∨ a = h_r h pa 9 ∨ a = h_r h pa 10
def hk_ (h : MH) (pa n : Nat) (h1 : MH) : Prop := ∀ j, j < n → h_l h1 (h_r h1 (h_r h pa 0) 1) j = h_l h (h_r h (h_r h pa 0) 1) j
def bf_I (h : MH) (pa m : Nat) (Y : RYt) (h1 : MH) : Prop := (pa_ok h1 pa ∧ ∀ k, h_r h1 pa k = h_r h pa k) ∧ (FW (h_r h pa 0) (bf_Y h pa) h h1 ∧ hk_ h pa (ps_n (ry_s Y)) h1) ∧ (∃ l, cs_of h1 (z_i h1) (h_r h pa 0) (ps_le (ry_s Y) l)) ∧ pr_of h1 pa Y ∧ (∀ q, z_i h1 pa q = z_i h pa q) ∧ (tb_ok h1 pa (h_r h pa 9) ∧ tb_ok h1 pa (h_r h pa 10)) ∧ ∀ k, k < m → 0 ≤ z_i h1 (h_r h pa 9) k ∧ z_i h1 (h_r h pa 9) k < (ry_v Y : Int)
theorem tb_ne {h : MH} {pa r : Nat} (ok : pa_ok h pa) (tb : tb_ok h pa r) : r ≠ pa ∧ r ≠ h_r h pa 0 ∧ r ≠ h_r h (h_r h pa 0) 0 := by
  obtain ⟨⟨k1, -⟩, k5⟩ := tb
  refine ⟨fun z => ?_, fun z => ?_, k5 11 (by decide)⟩
  · rw [z, ok.1.1] at k1
    omega
  · rw [z, ok.2.1.1.1] at k1
    omega
theorem bf_RX {h h1 h2 : MH} {H : Nat → Nat → Int} {pa m m' : Nat} {Y : RYt} (B : bf_I h pa m Y h1) (M : RX h1 h2 H) (o : ∀ q, q ≠ h_r h pa 9 → q ≠ h_r h pa 10 → H q = z_i h1 q) (T' : ∀ k, k < m' → 0 ≤ H (h_r h pa 9) k ∧ H (h_r h pa 9) k < (ry_v Y : Int)) : bf_I h pa m' Y h2 := by
  obtain ⟨⟨ok, re⟩, ⟨F, K⟩, ⟨l, I⟩, P, Z, ⟨t9, t10⟩, T⟩ := B
  obtain ⟨a1, a2, a3⟩ := tb_ne ok t9
  obtain ⟨b1, b2, b3⟩ := tb_ne ok t10
  rw [re 0] at a2 a3 b2 b3
  have rr : h_r h2 = h_r h1 := M.2.2.1.1
  have nn : h_n h2 = h_n h1 := congrArg Prod.fst M.1
  have on : H (h_r h pa 0) = z_i h1 (h_r h pa 0) := o _ (Ne.symm a2) (Ne.symm b2)
  obtain ⟨ok2, -, ww⟩ := pa_RX ok M (nl_RX ok.2.1 M (by rw [re 0, on]))
  have zr : ∀ i, i < 59 → ∀ j, z_i h2 (pa_w h1 pa i) j = z_i h1 (pa_w h1 pa i) j := fun i hi j => by rw [M.zi, o _ (Ne.symm (t9.2 i hi)) (Ne.symm (t10.2 i hi))]
  have tb2 : ∀ {r}, tb_ok h1 pa r → tb_ok h2 pa r := fun {r} t => by
    unfold tb_ok
    rw [M.2.1, nn]
    exact ⟨t.1, fun i hi => by rw [ww i]; exact t.2 i hi⟩
  refine ⟨⟨ok2, fun k => by rw [rr]; exact re k⟩, ⟨F.trans2 (FW.ofRX (Y := fun a => a = h_r h pa 9 ∨ a = h_r h pa 10) M (fun a ha j => by rw [o a (fun z => ha (Or.inr (Or.inr (Or.inr (Or.inl z))))) (fun z => ha (Or.inr (Or.inr (Or.inr (Or.inr z)))))])) (fun q _ y => Or.inl (Or.inr y)), fun j hj => by rw [M.2.2.1.2, M.2.2.1.1]; exact K j hj⟩, ⟨l, cs_mv I (by rw [M.zi, on]) (by rw [M.zi, on]) (fun j _ => by rw [rr, M.zi, o _ (Ne.symm a3) (Ne.symm b3)])⟩, ?_, fun q => by rw [M.zi, o _ (Ne.symm a1) (Ne.symm b1)]; exact Z q, ⟨tb2 t9, tb2 t10⟩, fun k hk => by rw [M.zi]; exact T' k hk⟩
  obtain ⟨⟨p1, p2, p3⟩, p4⟩ := P
  refine ⟨⟨by rw [M.zi, o _ (Ne.symm a1) (Ne.symm b1)]; exact p1, p2, p3⟩, fun v hv => ?_⟩
  obtain ⟨q1, q2⟩ := p4 v hv
  refine ⟨fun k hk => by rw [ww, zr _ (by omega)]; exact q1 k hk, ?_⟩
  rw [rr]
  exact (zr 12 (by decide) v).trans q2
theorem bf_FW {h h1 h2 : MH} {pa m : Nat} {Y : RYt} (ok0 : pa_ok h pa) (B : bf_I h pa m Y h1) (ok2 : pa_ok h2 pa) (I2 : cs_of h2 (z_i h2) (h_r h1 pa 0) (ps_le (ry_s Y) 0)) (F2 : FW (h_r h1 pa 0) (py_Y h1 pa) h1 h2) (Z2 : ∀ q, z_i h2 pa q = z_i h1 pa q) (K2 : hk_ h1 pa (ps_n (ry_s Y)) h2) : bf_I h pa m Y h2 := by
  obtain ⟨⟨ok, re⟩, ⟨F, K⟩, -, P, Z, ⟨t9, t10⟩, T⟩ := B
  obtain ⟨re2, -, -⟩ := pw_FW ok F2
  have ap : ∀ j, z_i h2 (h_r h pa 9) j = z_i h1 (h_r h pa 9) j := fun j => ap_FW ok t9.1.1 t9.1.2.2.1 ⟨t9.2 11 (by decide), fun i hi => t9.2 i (by omega)⟩ F2 j
  refine ⟨⟨ok2, fun k => (re2 k).trans (re k)⟩, ⟨?_, fun j hj => ?_⟩, ⟨0, by rw [re 0] at I2; exact I2⟩, pr_FW ok F2 (Z2 11) P, fun q => (Z2 q).trans (Z q), ⟨tb_FW ok t9 F2, tb_FW ok t10 F2⟩, fun k hk => by rw [ap]; exact T k hk⟩
  · have F2' := F2
    rw [re 0] at F2'
    exact F.trans2 F2' (fun q _ y => Or.inl (Or.inl (py_FW ok0 F y)))
  · have k2 := K2 j hj
    rw [re 0] at k2
    exact k2.trans (K j hj)
section
variable {lv : List (Nat × Value)} {Q : Option Value → MH → Prop} {h0 h : MH} {H : Nat → Nat → Int}
theorem hR_cp5 {i pc pc' idx nest o to : Nat} {xs xd xn : Int32} (M : RX h0 h H) (ko : (h_k h0 o).1 = 20) (kt : (h_k h0 to).1 = 20) (o16 : 16 ≤ o) (t16 : 16 ≤ to) (lo : 5 ≤ (h_k h0 o).2) (lt : 5 ≤ (h_k h0 to).2) (qs : xs.toInt = 0) (qd : xd.toInt = 0) (qn : xn.toInt = 5) (a : m_at i pc = some (.invokestatic idx, 3)) (hm : m_ml i idx = some (nest, 901)) (hc : 1 ≤ m_fr i ∧ 0 + 18 ≤ m_lo i) (hp : pc + 3 = pc') (g : ∀ (h' : MH) (H' : Nat → Nat → Int), RX h0 h' H' → H' = m_u H to (fun j => if j < 5 then H o j else H to j) → HJ i pc' lv [] h' Q) : HJ i pc lv [.int xn, .int xd, .ref to, .int xs, .ref o] h Q := by
  have es : xs.toNatClampNeg = 0 := by show xs.toInt.toNat = 0; omega
  have ed : xd.toNatClampNeg = 0 := by show xd.toInt.toNat = 0; omega
  have en : xn.toNatClampNeg = 5 := by show xn.toInt.toNat = 5; omega
  have z0 : (0 : Int32).toInt = 0 := rfl
  refine hI_cp (h' := h_cpi h o to 0 0 5) (st := []) a hm ⟨o16, t16, fun z => ?_, fun z => ?_, fun z => ?_, by rw [es, en, M.2.1]; omega, by rw [ed, en, M.2.1]; omega, hc.1, hc.2, by decide⟩ (Or.inl ⟨by rw [M.2.1]; exact ko, by rw [M.2.1]; exact kt, by rw [es, ed, en]⟩) hp (g _ _ ⟨M.1, M.2.1, M.2.2.1, fun b j => ?_⟩ rfl)
  · have := Int32.lt_iff_toInt_lt.mp z
    omega
  · have := Int32.lt_iff_toInt_lt.mp z
    omega
  · have := Int32.lt_iff_toInt_lt.mp z
    omega
  · rw [s_cpI]
    by_cases e : b = to
    · subst e
      rw [m_uE]
      by_cases f : j < 5
      · rw [if_pos ⟨rfl, by omega, by omega⟩, if_pos f, M.2.2.2]
        simp
      · rw [if_neg (fun z => f (by omega)), if_neg f, M.2.2.2]
    · rw [if_neg (fun z => e z.1), m_uN _ _ _ _ e, M.2.2.2]
theorem r_bf0 {pa : Nat} {m : Int} (M : RX h0 h H) (e0 : m_lk lv 0 = some (.ref pa)) {lx1 : Int64} (e1 : m_lk lv 1 = some (.long lx1)) {lx3 : Int32} (e3 : m_lk lv 3 = some (.int lx3)) (lq3 : lx3.toInt = m) 
    (g0 : ∀ x1 : Int32, x1.toInt = 0 → ∀ x3 : Int32, x3.toInt = 0 → ∀ lv4 : List (Nat × Value), m_lk lv4 0 = some (.ref pa) → m_lk lv4 1 = some (.long lx1) → m_lk lv4 3 = some (.int lx3) → m_lk lv4 4 = some (.int x1) → m_lk lv4 5 = some (.int x3) → HJ 172 6 lv4 [] h Q)
    : HJ 172 0 lv [] h Q := by
  refine hM_ic (n := 0) rfl (by decide) rfl (fun x1 q1 => ?_) -- 0
  refine hM_si2 (k := 4) rfl (by decide +kernel) rfl (fun lv2 e2_4 u2 => ?_) -- 1
  have e2_0 := u2 0 _ (by decide) (Or.inl rfl) e0
  have e2_1 := u2 1 _ (by decide) (Or.inr (by decide)) e1
  have e2_3 := u2 3 _ (by decide) (Or.inl rfl) e3
  refine hM_ic (n := 0) rfl (by decide) rfl (fun x3 q3 => ?_) -- 3
  refine hM_si2 (k := 5) rfl (by decide +kernel) rfl (fun lv4 e4_5 u4 => ?_) -- 4
  have e4_0 := u4 0 _ (by decide) (Or.inl rfl) e2_0
  have e4_1 := u4 1 _ (by decide) (Or.inr (by decide)) e2_1
  have e4_3 := u4 3 _ (by decide) (Or.inl rfl) e2_3
  have e4_4 := u4 4 _ (by decide) (Or.inl rfl) e2_4
  exact g0 x1 q1 x3 q3 lv4 e4_0 e4_1 e4_3 e4_4 e4_5
theorem r_bf6 {pa : Nat} {m f v : Int} (M : RX h0 h H) (e0 : m_lk lv 0 = some (.ref pa)) {lx1 : Int64} (e1 : m_lk lv 1 = some (.long lx1)) {lx3 : Int32} (e3 : m_lk lv 3 = some (.int lx3)) (lq3 : lx3.toInt = m) {lx4 : Int32} (e4 : m_lk lv 4 = some (.int lx4)) (lq4 : lx4.toInt = f) {lx5 : Int32} (e5 : m_lk lv 5 = some (.int lx5)) (lq5 : lx5.toInt = v)  (hk0 : (h_k h0 pa).1 = 4)
    (g0 : v > H pa 11 → HJ 172 51 lv [] h Q)
    (g1 : v ≤ H pa 11 → f ≥ 5 → HJ 172 51 lv [] h Q)
    (g2 : v ≤ H pa 11 → f < 5 → HJ 52 0 (lv_args 0 [.int lx5]) [] h (fun v h' => HJ 172 27 lv (v.toList ++ [.long lx1]) h' Q))
    : HJ 172 6 lv [] h Q := by
  refine hI_il2 (k := 5) rfl e5 rfl ?_ -- 6
  refine hI_al (k := 0) rfl e0 rfl ?_ -- 8
  refine hR_gi (c := 3) (k := 11) M hk0 rfl rfl rfl rfl (fun x1 q1 => ?_) -- 9
  have gb1 : -2147483648 ≤ H pa 11 ∧ H pa 11 ≤ 2147483647 := by rw [← q1]; exact g_iT _
  refine hM_cgt (off := 39) (t := 51) rfl lq5 q1 (by decide) rfl (fun c12 => ?_) (fun c12 => ?_) -- 12
  · exact g0 c12
  · refine hI_il2 (k := 4) rfl e4 rfl ?_ -- 15
    refine hM_ic (n := 5) rfl (by decide) rfl (fun x2 q2 => ?_) -- 17
    refine hM_cge (off := 33) (t := 51) rfl lq4 q2 (by decide) rfl (fun c18 => ?_) (fun c18 => ?_) -- 18
    · exact g1 c12 c18
    · refine hI_ll (k := 1) rfl e1 rfl ?_ -- 21
      refine hI_il2 (k := 5) rfl e5 rfl ?_ -- 22
      refine hM_is0 (as := [.int lx5]) (r := [.long lx1]) rfl rfl (by decide +kernel) rfl rfl rfl rfl rfl ?_ -- 24
      exact g2 c12 c18
theorem r_bf27 {pa : Nat} {m f v : Int} (M : RX h0 h H) (e0 : m_lk lv 0 = some (.ref pa)) {lx1 : Int64} (e1 : m_lk lv 1 = some (.long lx1)) {lx3 : Int32} (e3 : m_lk lv 3 = some (.int lx3)) (lq3 : lx3.toInt = m) {lx4 : Int32} (e4 : m_lk lv 4 = some (.int lx4)) (lq4 : lx4.toInt = f) {lx5 : Int32} (e5 : m_lk lv 5 = some (.int lx5)) (lq5 : lx5.toInt = v) {sx0 : Int64} {sx1 : Int64} (pf0 : 0 ≤ f) (pf4 : f ≤ 4) (hk0 : (h_k h0 pa).1 = 4) (ha0 : (h_k h0 (h_r h0 pa 9)).1 = 20) (hl0 : 5 ≤ ((h_k h0 (h_r h0 pa 9)).2 : Int)) (hs0 : 16 ≤ h_r h0 pa 9)
    (g0 : (lg_cmp (sx0 &&& sx1) (Int64.ofNat (0 : Fin 2).val)).toInt = 0 → HJ 172 45 lv [] h Q)
    (g1 : ∀ h2 : MH, ∀ H2 : Nat → Nat → Int, H2 = m_u H (h_r h0 pa 9) (m_u (H (h_r h0 pa 9)) (f).toNat (v)) → ∀ x3 : Int32, x3.toInt = f + 1 → ∀ lv3 : List (Nat × Value), RX h0 h2 H2 → m_lk lv3 0 = some (.ref pa) → m_lk lv3 1 = some (.long lx1) → m_lk lv3 3 = some (.int lx3) → m_lk lv3 4 = some (.int x3) → m_lk lv3 5 = some (.int lx5) → (lg_cmp (sx0 &&& sx1) (Int64.ofNat (0 : Fin 2).val)).toInt ≠ 0 → HJ 172 45 lv3 [] h2 Q)
    : HJ 172 27 lv [.long sx1, .long sx0] h Q := by
  refine hI_land rfl rfl ?_ -- 27
  refine hI_lc (n := 0) rfl rfl ?_ -- 28
  refine hM_lcmp rfl rfl (fun x1 q1 => ?_) -- 29
  refine hM_zeq (off := 15) (t := 45) rfl q1 (by decide) rfl (fun c30 => ?_) (fun c30 => ?_) -- 30
  · exact g0 c30
  · refine hI_al (k := 0) rfl e0 rfl ?_ -- 33
    refine hR_gr (c := 3) (k := 9) M hk0 rfl rfl rfl rfl ?_ -- 34
    refine hI_il2 (k := 4) rfl e4 rfl ?_ -- 37
    refine hI_il2 (k := 5) rfl e5 rfl ?_ -- 39
    refine hR_is M hs0 ha0 lq4 lq5 (by omega) (by omega) rfl rfl (fun h2 H2 f2 M2 => ?_) -- 41
    refine hM_inc (k := 4) (z := 1) rfl e4 lq4 (by decide) (by omega) (by omega) (by decide +kernel) rfl (fun lv3 x3 q3 e3_4 u3 => ?_) -- 42
    have e3_0 := u3 0 _ (by decide) (Or.inl rfl) e0
    have e3_1 := u3 1 _ (by decide) (Or.inr (by decide)) e1
    have e3_3 := u3 3 _ (by decide) (Or.inl rfl) e3
    have e3_5 := u3 5 _ (by decide) (Or.inl rfl) e5
    exact g1 h2 H2 f2 x3 q3 lv3 M2 e3_0 e3_1 e3_3 e3_4 e3_5 c30
theorem r_bf45 {pa : Nat} {m f v : Int} (M : RX h0 h H) (e0 : m_lk lv 0 = some (.ref pa)) {lx1 : Int64} (e1 : m_lk lv 1 = some (.long lx1)) {lx3 : Int32} (e3 : m_lk lv 3 = some (.int lx3)) (lq3 : lx3.toInt = m) {lx4 : Int32} (e4 : m_lk lv 4 = some (.int lx4)) (lq4 : lx4.toInt = f) {lx5 : Int32} (e5 : m_lk lv 5 = some (.int lx5)) (lq5 : lx5.toInt = v) (pv0 : 0 ≤ v) (pv1 : v ≤ 40)
    (g0 : ∀ x1 : Int32, x1.toInt = v + 1 → ∀ lv1 : List (Nat × Value), m_lk lv1 0 = some (.ref pa) → m_lk lv1 1 = some (.long lx1) → m_lk lv1 3 = some (.int lx3) → m_lk lv1 4 = some (.int lx4) → m_lk lv1 5 = some (.int x1) → HJ 172 6 lv1 [] h Q)
    : HJ 172 45 lv [] h Q := by
  refine hM_inc (k := 5) (z := 1) rfl e5 lq5 (by decide) (by omega) (by omega) (by decide +kernel) rfl (fun lv1 x1 q1 e1_5 u1 => ?_) -- 45
  have e1_0 := u1 0 _ (by decide) (Or.inl rfl) e0
  have e1_1 := u1 1 _ (by decide) (Or.inr (by decide)) e1
  have e1_3 := u1 3 _ (by decide) (Or.inl rfl) e3
  have e1_4 := u1 4 _ (by decide) (Or.inl rfl) e4
  refine hI_go (pc' := 6) (off := (-42)) rfl (by decide) ?_ -- 48
  exact g0 x1 q1 lv1 e1_0 e1_1 e1_3 e1_4 e1_5
theorem r_bf51 {pa : Nat} {m f : Int} (M : RX h0 h H) (e0 : m_lk lv 0 = some (.ref pa)) {lx1 : Int64} (e1 : m_lk lv 1 = some (.long lx1)) {lx3 : Int32} (e3 : m_lk lv 3 = some (.int lx3)) (lq3 : lx3.toInt = m) {lx4 : Int32} (e4 : m_lk lv 4 = some (.int lx4)) (lq4 : lx4.toInt = f) 
    (g0 : ∀ x1 : Int32, x1.toInt = (-1) → ∀ x3 : Int32, x3.toInt = 0 → ∀ x5 : Int32, x5.toInt = 0 → ∀ lv6 : List (Nat × Value), m_lk lv6 0 = some (.ref pa) → m_lk lv6 1 = some (.long lx1) → m_lk lv6 3 = some (.int lx3) → m_lk lv6 4 = some (.int lx4) → m_lk lv6 5 = some (.int x1) → m_lk lv6 6 = some (.int x3) → m_lk lv6 7 = some (.int x5) → f ≠ m → HJ 172 70 lv6 [] h Q)
    (g1 : ∀ x1 : Int32, x1.toInt = (-1) → ∀ x7 : Int32, x7.toInt = 1 → ∀ x9 : Int32, x9.toInt = 0 → ∀ lv10 : List (Nat × Value), m_lk lv10 0 = some (.ref pa) → m_lk lv10 1 = some (.long lx1) → m_lk lv10 3 = some (.int lx3) → m_lk lv10 4 = some (.int lx4) → m_lk lv10 5 = some (.int x1) → m_lk lv10 6 = some (.int x7) → m_lk lv10 7 = some (.int x9) → f = m → HJ 172 70 lv10 [] h Q)
    : HJ 172 51 lv [] h Q := by
  refine hM_ic (n := (-1)) rfl (by decide) rfl (fun x1 q1 => ?_) -- 51
  refine hM_si2 (k := 5) rfl (by decide +kernel) rfl (fun lv2 e2_5 u2 => ?_) -- 52
  have e2_0 := u2 0 _ (by decide) (Or.inl rfl) e0
  have e2_1 := u2 1 _ (by decide) (Or.inr (by decide)) e1
  have e2_3 := u2 3 _ (by decide) (Or.inl rfl) e3
  have e2_4 := u2 4 _ (by decide) (Or.inl rfl) e4
  refine hI_il2 (k := 4) rfl e2_4 rfl ?_ -- 54
  refine hI_il (k := 3) rfl e2_3 rfl ?_ -- 56
  refine hM_cne (off := 7) (t := 64) rfl lq4 lq3 (by decide) rfl (fun c57 => ?_) (fun c57 => ?_) -- 57
  · refine hM_ic (n := 0) rfl (by decide) rfl (fun x3 q3 => ?_) -- 64
    refine hM_si2 (k := 6) rfl (by decide +kernel) rfl (fun lv4 e4_6 u4 => ?_) -- 65
    have e4_0 := u4 0 _ (by decide) (Or.inl rfl) e2_0
    have e4_1 := u4 1 _ (by decide) (Or.inr (by decide)) e2_1
    have e4_3 := u4 3 _ (by decide) (Or.inl rfl) e2_3
    have e4_4 := u4 4 _ (by decide) (Or.inl rfl) e2_4
    have e4_5 := u4 5 _ (by decide) (Or.inl rfl) e2_5
    refine hM_ic (n := 0) rfl (by decide) rfl (fun x5 q5 => ?_) -- 67
    refine hM_si2 (k := 7) rfl (by decide +kernel) rfl (fun lv6 e6_7 u6 => ?_) -- 68
    have e6_0 := u6 0 _ (by decide) (Or.inl rfl) e4_0
    have e6_1 := u6 1 _ (by decide) (Or.inr (by decide)) e4_1
    have e6_3 := u6 3 _ (by decide) (Or.inl rfl) e4_3
    have e6_4 := u6 4 _ (by decide) (Or.inl rfl) e4_4
    have e6_5 := u6 5 _ (by decide) (Or.inl rfl) e4_5
    have e6_6 := u6 6 _ (by decide) (Or.inl rfl) e4_6
    exact g0 x1 q1 x3 q3 x5 q5 lv6 e6_0 e6_1 e6_3 e6_4 e6_5 e6_6 e6_7 c57
  · refine hM_ic (n := 1) rfl (by decide) rfl (fun x7 q7 => ?_) -- 60
    refine hI_go (pc' := 65) (off := 4) rfl (by decide) ?_ -- 61
    refine hM_si2 (k := 6) rfl (by decide +kernel) rfl (fun lv8 e8_6 u8 => ?_) -- 65
    have e8_0 := u8 0 _ (by decide) (Or.inl rfl) e2_0
    have e8_1 := u8 1 _ (by decide) (Or.inr (by decide)) e2_1
    have e8_3 := u8 3 _ (by decide) (Or.inl rfl) e2_3
    have e8_4 := u8 4 _ (by decide) (Or.inl rfl) e2_4
    have e8_5 := u8 5 _ (by decide) (Or.inl rfl) e2_5
    refine hM_ic (n := 0) rfl (by decide) rfl (fun x9 q9 => ?_) -- 67
    refine hM_si2 (k := 7) rfl (by decide +kernel) rfl (fun lv10 e10_7 u10 => ?_) -- 68
    have e10_0 := u10 0 _ (by decide) (Or.inl rfl) e8_0
    have e10_1 := u10 1 _ (by decide) (Or.inr (by decide)) e8_1
    have e10_3 := u10 3 _ (by decide) (Or.inl rfl) e8_3
    have e10_4 := u10 4 _ (by decide) (Or.inl rfl) e8_4
    have e10_5 := u10 5 _ (by decide) (Or.inl rfl) e8_5
    have e10_6 := u10 6 _ (by decide) (Or.inl rfl) e8_6
    exact g1 x1 q1 x7 q7 x9 q9 lv10 e10_0 e10_1 e10_3 e10_4 e10_5 e10_6 e10_7 c57
theorem r_bf70 {pa : Nat} {m f e o i : Int} (M : RX h0 h H) (e0 : m_lk lv 0 = some (.ref pa)) {lx1 : Int64} (e1 : m_lk lv 1 = some (.long lx1)) {lx3 : Int32} (e3 : m_lk lv 3 = some (.int lx3)) (lq3 : lx3.toInt = m) {lx4 : Int32} (e4 : m_lk lv 4 = some (.int lx4)) (lq4 : lx4.toInt = f) {lx5 : Int32} (e5 : m_lk lv 5 = some (.int lx5)) (lq5 : lx5.toInt = e) {lx6 : Int32} (e6 : m_lk lv 6 = some (.int lx6)) (lq6 : lx6.toInt = o) {lx7 : Int32} (e7 : m_lk lv 7 = some (.int lx7)) (lq7 : lx7.toInt = i)  (hs0 : 16 ≤ pa) (hk0 : (h_k h0 pa).1 = 4)
    (g0 : o = 0 → Q (some (.int lx5)) h)
    (g1 : o ≠ 0 → i ≥ 120 → Q (some (.int lx5)) h)
    (g2 : o ≠ 0 → i < 120 → HJ 173 0 (lv_args 0 [.ref pa, .int lx4]) [] h (fun v h' => HJ 172 88 lv (v.toList ++ []) h' Q))
    : HJ 172 70 lv [] h Q := by
  refine hI_il2 (k := 6) rfl e6 rfl ?_ -- 70
  refine hM_zeq (off := 63) (t := 135) rfl lq6 (by decide) rfl (fun c72 => ?_) (fun c72 => ?_) -- 72
  · refine hI_il2 (k := 5) rfl e5 rfl ?_ -- 135
    refine hI_ri rfl rfl ?_ -- 137
    exact g0 c72
  · refine hI_il2 (k := 7) rfl e7 rfl ?_ -- 75
    refine hM_bp (n := 120) rfl (by decide) rfl (fun x1 q1 => ?_) -- 77
    refine hM_cge (off := 56) (t := 135) rfl lq7 q1 (by decide) rfl (fun c79 => ?_) (fun c79 => ?_) -- 79
    · refine hI_il2 (k := 5) rfl e5 rfl ?_ -- 135
      refine hI_ri rfl rfl ?_ -- 137
      exact g1 c72 c79
    · refine hI_al (k := 0) rfl e0 rfl ?_ -- 82
      refine hI_il2 (k := 4) rfl e4 rfl ?_ -- 83
      refine HJ.call (j := 173) (as := [.ref pa, .int lx4]) (rr := []) (pc' := 88) (m_cR (kc := 3) rfl rfl (by decide +kernel) rfl rfl rfl ⟨rfl, by decide +kernel, by decide +kernel⟩ (by decide) hs0 (by rw [M.2.1]; exact hk0)) (by show 2 ≤ m_lc 173; decide +kernel) ?_ -- 85
      exact g2 c72 c79
theorem r_bf88 {pa : Nat} {m f e o i y : Int} (M : RX h0 h H) (e0 : m_lk lv 0 = some (.ref pa)) {lx1 : Int64} (e1 : m_lk lv 1 = some (.long lx1)) {lx3 : Int32} (e3 : m_lk lv 3 = some (.int lx3)) (lq3 : lx3.toInt = m) {lx4 : Int32} (e4 : m_lk lv 4 = some (.int lx4)) (lq4 : lx4.toInt = f) {lx5 : Int32} (e5 : m_lk lv 5 = some (.int lx5)) (lq5 : lx5.toInt = e) {lx6 : Int32} (e6 : m_lk lv 6 = some (.int lx6)) (lq6 : lx6.toInt = o) {lx7 : Int32} (e7 : m_lk lv 7 = some (.int lx7)) (lq7 : lx7.toInt = i) {sx0 : Int32} (sq0 : sx0.toInt = y) 
    (g0 : ∀ lv3 : List (Nat × Value), m_lk lv3 0 = some (.ref pa) → m_lk lv3 1 = some (.long lx1) → m_lk lv3 3 = some (.int lx3) → m_lk lv3 4 = some (.int lx4) → m_lk lv3 5 = some (.int sx0) → m_lk lv3 6 = some (.int lx6) → m_lk lv3 7 = some (.int lx7) → m_lk lv3 8 = some (.int sx0) → e = (-1) → HJ 172 107 lv3 [] h Q)
    (g1 : ∀ lv1 : List (Nat × Value), m_lk lv1 0 = some (.ref pa) → m_lk lv1 1 = some (.long lx1) → m_lk lv1 3 = some (.int lx3) → m_lk lv1 4 = some (.int lx4) → m_lk lv1 5 = some (.int lx5) → m_lk lv1 6 = some (.int lx6) → m_lk lv1 7 = some (.int lx7) → m_lk lv1 8 = some (.int sx0) → e ≠ (-1) → y ≥ e → HJ 172 121 lv1 [] h Q)
    (g2 : ∀ lv4 : List (Nat × Value), m_lk lv4 0 = some (.ref pa) → m_lk lv4 1 = some (.long lx1) → m_lk lv4 3 = some (.int lx3) → m_lk lv4 4 = some (.int lx4) → m_lk lv4 5 = some (.int sx0) → m_lk lv4 6 = some (.int lx6) → m_lk lv4 7 = some (.int lx7) → m_lk lv4 8 = some (.int sx0) → e ≠ (-1) → y < e → HJ 172 107 lv4 [] h Q)
    : HJ 172 88 lv [.int sx0] h Q := by
  refine hM_si2 (k := 8) rfl (by decide +kernel) rfl (fun lv1 e1_8 u1 => ?_) -- 88
  have e1_0 := u1 0 _ (by decide) (Or.inl rfl) e0
  have e1_1 := u1 1 _ (by decide) (Or.inr (by decide)) e1
  have e1_3 := u1 3 _ (by decide) (Or.inl rfl) e3
  have e1_4 := u1 4 _ (by decide) (Or.inl rfl) e4
  have e1_5 := u1 5 _ (by decide) (Or.inl rfl) e5
  have e1_6 := u1 6 _ (by decide) (Or.inl rfl) e6
  have e1_7 := u1 7 _ (by decide) (Or.inl rfl) e7
  refine hI_il2 (k := 5) rfl e1_5 rfl ?_ -- 90
  refine hM_ic (n := (-1)) rfl (by decide) rfl (fun x2 q2 => ?_) -- 92
  refine hM_ceq (off := 10) (t := 103) rfl lq5 q2 (by decide) rfl (fun c93 => ?_) (fun c93 => ?_) -- 93
  · refine hI_il2 (k := 8) rfl e1_8 rfl ?_ -- 103
    refine hM_si2 (k := 5) rfl (by decide +kernel) rfl (fun lv3 e3_5 u3 => ?_) -- 105
    have e3_0 := u3 0 _ (by decide) (Or.inl rfl) e1_0
    have e3_1 := u3 1 _ (by decide) (Or.inr (by decide)) e1_1
    have e3_3 := u3 3 _ (by decide) (Or.inl rfl) e1_3
    have e3_4 := u3 4 _ (by decide) (Or.inl rfl) e1_4
    have e3_6 := u3 6 _ (by decide) (Or.inl rfl) e1_6
    have e3_7 := u3 7 _ (by decide) (Or.inl rfl) e1_7
    have e3_8 := u3 8 _ (by decide) (Or.inl rfl) e1_8
    exact g0 lv3 e3_0 e3_1 e3_3 e3_4 e3_5 e3_6 e3_7 e3_8 c93
  · refine hI_il2 (k := 8) rfl e1_8 rfl ?_ -- 96
    refine hI_il2 (k := 5) rfl e1_5 rfl ?_ -- 98
    refine hM_cge (off := 21) (t := 121) rfl sq0 lq5 (by decide) rfl (fun c100 => ?_) (fun c100 => ?_) -- 100
    · exact g1 lv1 e1_0 e1_1 e1_3 e1_4 e1_5 e1_6 e1_7 e1_8 c93 c100
    · refine hI_il2 (k := 8) rfl e1_8 rfl ?_ -- 103
      refine hM_si2 (k := 5) rfl (by decide +kernel) rfl (fun lv4 e4_5 u4 => ?_) -- 105
      have e4_0 := u4 0 _ (by decide) (Or.inl rfl) e1_0
      have e4_1 := u4 1 _ (by decide) (Or.inr (by decide)) e1_1
      have e4_3 := u4 3 _ (by decide) (Or.inl rfl) e1_3
      have e4_4 := u4 4 _ (by decide) (Or.inl rfl) e1_4
      have e4_6 := u4 6 _ (by decide) (Or.inl rfl) e1_6
      have e4_7 := u4 7 _ (by decide) (Or.inl rfl) e1_7
      have e4_8 := u4 8 _ (by decide) (Or.inl rfl) e1_8
      exact g2 lv4 e4_0 e4_1 e4_3 e4_4 e4_5 e4_6 e4_7 e4_8 c93 c100
theorem r_bf121 {pa : Nat} {m f e o i : Int} (M : RX h0 h H) (e0 : m_lk lv 0 = some (.ref pa)) {lx1 : Int64} (e1 : m_lk lv 1 = some (.long lx1)) {lx3 : Int32} (e3 : m_lk lv 3 = some (.int lx3)) (lq3 : lx3.toInt = m) {lx4 : Int32} (e4 : m_lk lv 4 = some (.int lx4)) (lq4 : lx4.toInt = f) {lx5 : Int32} (e5 : m_lk lv 5 = some (.int lx5)) (lq5 : lx5.toInt = e) {lx6 : Int32} (e6 : m_lk lv 6 = some (.int lx6)) (lq6 : lx6.toInt = o) {lx7 : Int32} (e7 : m_lk lv 7 = some (.int lx7)) (lq7 : lx7.toInt = i)  (hs0 : 16 ≤ pa) (hk0 : (h_k h0 pa).1 = 4)
    (g0 : HJ 174 0 (lv_args 0 [.ref pa, .int lx4]) [] h (fun v h' => HJ 172 127 lv (v.toList ++ []) h' Q))
    : HJ 172 121 lv [] h Q := by
  refine hI_al (k := 0) rfl e0 rfl ?_ -- 121
  refine hI_il2 (k := 4) rfl e4 rfl ?_ -- 122
  refine HJ.call (j := 174) (as := [.ref pa, .int lx4]) (rr := []) (pc' := 127) (m_cR (kc := 3) rfl rfl (by decide +kernel) rfl rfl rfl ⟨rfl, by decide +kernel, by decide +kernel⟩ (by decide) hs0 (by rw [M.2.1]; exact hk0)) (by show 2 ≤ m_lc 174; decide +kernel) ?_ -- 124
  exact g0 
theorem r_bf127 {pa : Nat} {m f e o i y : Int} (M : RX h0 h H) (e0 : m_lk lv 0 = some (.ref pa)) {lx1 : Int64} (e1 : m_lk lv 1 = some (.long lx1)) {lx3 : Int32} (e3 : m_lk lv 3 = some (.int lx3)) (lq3 : lx3.toInt = m) {lx4 : Int32} (e4 : m_lk lv 4 = some (.int lx4)) (lq4 : lx4.toInt = f) {lx5 : Int32} (e5 : m_lk lv 5 = some (.int lx5)) (lq5 : lx5.toInt = e) {lx6 : Int32} (e6 : m_lk lv 6 = some (.int lx6)) (lq6 : lx6.toInt = o) {lx7 : Int32} (e7 : m_lk lv 7 = some (.int lx7)) (lq7 : lx7.toInt = i) {sx0 : Int32} (sq0 : sx0.toInt = y) (qi0 : 0 ≤ i) (qi1 : i ≤ 119)
    (g0 : ∀ x2 : Int32, x2.toInt = i + 1 → ∀ lv2 : List (Nat × Value), m_lk lv2 0 = some (.ref pa) → m_lk lv2 1 = some (.long lx1) → m_lk lv2 3 = some (.int lx3) → m_lk lv2 4 = some (.int lx4) → m_lk lv2 5 = some (.int lx5) → m_lk lv2 6 = some (.int sx0) → m_lk lv2 7 = some (.int x2) → HJ 172 70 lv2 [] h Q)
    : HJ 172 127 lv [.int sx0] h Q := by
  refine hM_si2 (k := 6) rfl (by decide +kernel) rfl (fun lv1 e1_6 u1 => ?_) -- 127
  have e1_0 := u1 0 _ (by decide) (Or.inl rfl) e0
  have e1_1 := u1 1 _ (by decide) (Or.inr (by decide)) e1
  have e1_3 := u1 3 _ (by decide) (Or.inl rfl) e3
  have e1_4 := u1 4 _ (by decide) (Or.inl rfl) e4
  have e1_5 := u1 5 _ (by decide) (Or.inl rfl) e5
  have e1_7 := u1 7 _ (by decide) (Or.inl rfl) e7
  refine hM_inc (k := 7) (z := 1) rfl e1_7 lq7 (by decide) (by omega) (by omega) (by decide +kernel) rfl (fun lv2 x2 q2 e2_7 u2 => ?_) -- 129
  have e2_0 := u2 0 _ (by decide) (Or.inl rfl) e1_0
  have e2_1 := u2 1 _ (by decide) (Or.inr (by decide)) e1_1
  have e2_3 := u2 3 _ (by decide) (Or.inl rfl) e1_3
  have e2_4 := u2 4 _ (by decide) (Or.inl rfl) e1_4
  have e2_5 := u2 5 _ (by decide) (Or.inl rfl) e1_5
  have e2_6 := u2 6 _ (by decide) (Or.inl rfl) e1_6
  refine hI_go (pc' := 70) (off := (-62)) rfl (by decide) ?_ -- 132
  exact g0 x2 q2 lv2 e2_0 e2_1 e2_3 e2_4 e2_5 e2_6 e2_7
theorem l_bf70 {hh : MH} {pa m : Nat} {Y : RYt} {xl : Int64} {xm : Int32} (ok0 : pa_ok hh pa) (sh : ps_sh (ry_s Y)) (hs : ∀ u : Nat, u < ry_v Y → hp_in (ry_s Y) (ry_h Y u)) (cap : ps_n (ry_s Y) + 378 ≤ 16000) (ne : h_r hh pa 9 ≠ h_r hh pa 10) (m2 : 2 ≤ m) (m5 : m ≤ 5) (qm : xm.toInt = (m : Int)) (g : ∀ (x : Int32) (h' : MH), bf_I hh pa m Y h' → Q (some (.int x)) h') : ∀ (d : Nat) (h : MH) (lv : List (Nat × Value)) (xf xe xo xi : Int32) (i : Int), (120 - i).toNat ≤ d → bf_I hh pa m Y h → xf.toInt = (m : Int) → xi.toInt = i → 0 ≤ i → i ≤ 120 → m_lk lv 0 = some (.ref pa) → m_lk lv 1 = some (.long xl) → m_lk lv 3 = some (.int xm) → m_lk lv 4 = some (.int xf) → m_lk lv 5 = some (.int xe) → m_lk lv 6 = some (.int xo) → m_lk lv 7 = some (.int xi) → HJ 172 70 lv [] h Q := by
  intro d
  induction d with
  | zero =>
    intro h lv xf xe xo xi i hd B qf qi i0 i1 e0 e1 e3 e4 e5 e6 e7
    have ok := B.1.1
    exact r_bf70 (RX.start h) e0 e1 e3 qm e4 qf e5 rfl e6 rfl e7 qi ok.1.2.1 ok.1.1 (fun _ => g xe h B) (fun _ _ => g xe h B) (fun _ c => absurd c (by omega))
  | succ d ih =>
    intro h lv xf xe xo xi i hd B qf qi i0 i1 e0 e1 e3 e4 e5 e6 e7
    obtain ⟨⟨ok, re⟩, F, ⟨l, I⟩, P, Z, ⟨t9, t10⟩, T⟩ := id B
    refine r_bf70 (RX.start h) e0 e1 e3 qm e4 qf e5 rfl e6 rfl e7 qi ok.1.2.1 ok.1.1 (fun _ => g xe h B) (fun _ _ => g xe h B) (fun _ ci => ?_)
    refine k_fm (Y := Y) (m := m) ok (by rw [re 0]; exact I) P sh hs cap (by rw [re 9]; exact t9) (by rw [re 9]; exact T 0 (by omega)) qf (by omega) m5 (fun y h1 _ ok1 I1 F1 Z1 K1 => ?_)
    have B1 := bf_FW ok0 B ok1 I1 F1 Z1 K1
    show HJ 172 88 lv [.int y] h1 Q
    -- behind the best
    have on : ∀ (h2 : MH) (lv2 : List (Nat × Value)) (xe2 : Int32), bf_I hh pa m Y h2 → m_lk lv2 0 = some (.ref pa) → m_lk lv2 1 = some (.long xl) → m_lk lv2 3 = some (.int xm) → m_lk lv2 4 = some (.int xf) → m_lk lv2 5 = some (.int xe2) → m_lk lv2 6 = some (.int xo) → m_lk lv2 7 = some (.int xi) → HJ 172 121 lv2 [] h2 Q := fun h2 lv2 xe2 B2 a0 a1 a3 a4 a5 a6 a7 => by
      obtain ⟨⟨ok2, re2⟩, -, -, -, -, ⟨u9, u10⟩, T2⟩ := id B2
      refine r_bf121 (RX.start h2) a0 a1 a3 qm a4 qf a5 rfl a6 rfl a7 qi ok2.1.2.1 ok2.1.1 ?_
      refine k_nt (m := m) (RX.start h2) ⟨ok2.1.1, ok2.1.2.1, by rw [re2 9]; exact u9.1.1, by rw [re2 9]; have := u9.1.2.2.2.1; omega, by rw [re2 9]; exact u9.1.2.1⟩ m2 m5 qf (fun x h3 H3 _ M3 o3 r3 => ?_)
      rw [re2 9] at o3 r3
      have B3 := bf_RX (m' := m) B2 M3 (fun q q9 _ => o3 q q9) (fun k hk => r3.1 (fun z => 0 ≤ z ∧ z < (ry_v Y : Int)) T2 k hk)
      show HJ 172 127 lv2 [.int x] h3 Q
      refine r_bf127 (RX.start h3) a0 a1 a3 qm a4 qf a5 rfl a6 rfl a7 qi rfl i0 (by omega) (fun x2 q2 lv3 b0 b1 b3 b4 b5 b6 b7 => ?_)
      exact ih h3 lv3 xf xe2 x x2 (i + 1) (by omega) B3 qf q2 (by omega) (by omega) b0 b1 b3 b4 b5 b6 b7
    have cp : ∀ (lv2 : List (Nat × Value)), m_lk lv2 0 = some (.ref pa) → m_lk lv2 1 = some (.long xl) → m_lk lv2 3 = some (.int xm) → m_lk lv2 4 = some (.int xf) → m_lk lv2 5 = some (.int y) → m_lk lv2 6 = some (.int xo) → m_lk lv2 7 = some (.int xi) → HJ 172 107 lv2 [] h1 Q := fun lv2 a0 a1 a3 a4 a5 a6 a7 => by
      obtain ⟨⟨ok2, re2⟩, -, -, -, -, ⟨u9, u10⟩, T2⟩ := id B1
      refine hI_al (k := 0) rfl a0 rfl ?_
      refine hI_gr (c := 3) (k := 9) rfl rfl rfl ok2.1.1 rfl ?_
      refine hM_ic (n := 0) rfl (by decide) rfl (fun xs qs => ?_)
      refine hI_al (k := 0) rfl a0 rfl ?_
      refine hI_gr (c := 3) (k := 10) rfl rfl rfl ok2.1.1 rfl ?_
      refine hM_ic (n := 0) rfl (by decide) rfl (fun xd qd => ?_)
      refine hM_ic (n := 5) rfl (by decide) rfl (fun xn qn => ?_)
      rw [re2 9, re2 10]
      refine hR_cp5 (RX.start h1) u9.1.1 u10.1.1 u9.1.2.1 u10.1.2.1 u9.1.2.2.2.1 u10.1.2.2.2.1 qs qd qn rfl rfl ⟨by decide +kernel, by decide +kernel⟩ rfl (fun h2 H2 M2 f2 => ?_)
      refine on h2 lv2 y (bf_RX (m' := m) B1 M2 (fun q _ q10 => by rw [f2, m_uN _ _ _ _ q10]; rfl) (fun k hk => by rw [f2, m_uN _ _ _ _ ne]; exact T2 k hk)) a0 a1 a3 a4 a5 a6 a7
    exact r_bf88 (RX.start h1) e0 e1 e3 qm e4 qf e5 rfl e6 rfl e7 qi rfl (fun lv3 a0 a1 a3 a4 a5 a6 a7 _ _ => cp lv3 a0 a1 a3 a4 a5 a6 a7) (fun lv3 a0 a1 a3 a4 a5 a6 a7 _ _ _ => on h1 lv3 xe B1 a0 a1 a3 a4 a5 a6 a7) (fun lv3 a0 a1 a3 a4 a5 a6 a7 _ _ _ => cp lv3 a0 a1 a3 a4 a5 a6 a7)
theorem l_bf6 {hh : MH} {pa : Nat} {Y : RYt} {xl : Int64} {xm : Int32} {m : Int} (qm : xm.toInt = m) (g : ∀ (h : MH) (lv : List (Nat × Value)) (xf : Int32) (f : Nat), bf_I hh pa f Y h → f ≤ 5 → xf.toInt = (f : Int) → m_lk lv 0 = some (.ref pa) → m_lk lv 1 = some (.long xl) → m_lk lv 3 = some (.int xm) → m_lk lv 4 = some (.int xf) → HJ 172 51 lv [] h Q) : ∀ (d : Nat) (h : MH) (lv : List (Nat × Value)) (xf xv : Int32) (f : Nat) (v : Int), (41 - v).toNat ≤ d → bf_I hh pa f Y h → f ≤ 5 → xf.toInt = (f : Int) → xv.toInt = v → 0 ≤ v → v ≤ 41 → m_lk lv 0 = some (.ref pa) → m_lk lv 1 = some (.long xl) → m_lk lv 3 = some (.int xm) → m_lk lv 4 = some (.int xf) → m_lk lv 5 = some (.int xv) → HJ 172 6 lv [] h Q := by
  intro d
  induction d with
  | zero =>
    intro h lv xf xv f v hd B f5 qf qv v0 v41 e0 e1 e3 e4 e5
    have ok := B.1.1
    have s1 : (h_i h pa 11).toInt + 1 = (ry_v Y : Int) := B.2.2.2.1.1.1
    have s2 := B.2.2.2.1.1.2.2
    refine r_bf6 (RX.start h) e0 e1 e3 qm e4 qf e5 qv ok.1.1 (fun _ => g h lv xf f B f5 qf e0 e1 e3 e4) (fun _ _ => g h lv xf f B f5 qf e0 e1 e3 e4) (fun c _ => ?_)
    have c : v ≤ (h_i h pa 11).toInt := c
    omega
  | succ d ih =>
    intro h lv xf xv f v hd B f5 qf qv v0 v41 e0 e1 e3 e4 e5
    obtain ⟨⟨ok, re⟩, F, I, P, Z, ⟨t9, t10⟩, T⟩ := id B
    have s1 : (h_i h pa 11).toInt + 1 = (ry_v Y : Int) := P.1.1
    have s2 := P.1.2.2
    refine r_bf6 (RX.start h) e0 e1 e3 qm e4 qf e5 qv ok.1.1 (fun _ => g h lv xf f B f5 qf e0 e1 e3 e4) (fun _ _ => g h lv xf f B f5 qf e0 e1 e3 e4) (fun c1 c2 => ?_)
    have c1 : v ≤ (h_i h pa 11).toInt := c1
    refine k_bit (RX.start h) qv ?_
    show HJ 172 27 lv [.long (bt v), .long xl] h Q
    refine r_bf27 (RX.start h) e0 e1 e3 qm e4 qf e5 qv (by omega) (by omega) ok.1.1 (by rw [re 9]; exact t9.1.1) (by rw [re 9]; have := t9.1.2.2.2.1; omega) (by rw [re 9]; exact t9.1.2.1) (fun _ => ?_) (fun h2 H2 f2 x3 q3 lv3 M2 a0 a1 a3 a4 a5 _ => ?_)
    · refine r_bf45 (RX.start h) e0 e1 e3 qm e4 qf e5 qv v0 (by omega) (fun x1 q1 lv1 a0 a1 a3 a4 a5 => ?_)
      exact ih h lv1 xf x1 f (v + 1) (by omega) B f5 qf q1 (by omega) (by omega) a0 a1 a3 a4 a5
    · rw [re 9] at f2
      have B2 : bf_I hh pa (f + 1) Y h2 := bf_RX B M2 (fun q q9 _ => by rw [f2, m_uN _ _ _ _ q9]; rfl) (fun k hk => by
        rw [f2, m_uE]
        by_cases ek : k = ((f : Nat) : Int).toNat
        · rw [ek, m_uE]
          omega
        · rw [m_uN _ _ _ _ ek]
          exact T k (by omega))
      refine r_bf45 (RX.start h2) a0 a1 a3 qm a4 (q3.trans (by omega : (f : Int) + 1 = ((f + 1 : Nat) : Int))) a5 qv v0 (by omega) (fun x1 q1 lv1 b0 b1 b3 b4 b5 => ?_)
      exact ih h2 lv1 x3 x1 (f + 1) (v + 1) (by omega) B2 (by omega) (by omega) q1 (by omega) (by omega) b0 b1 b3 b4 b5
theorem k_bf {pa m : Nat} {Y : RYt} {l : Int} {xl : Int64} {xm : Int32} (ok : pa_ok h pa) (I : cs_of h (z_i h) (h_r h pa 0) (ps_le (ry_s Y) l)) (P : pr_of h pa Y) (sh : ps_sh (ry_s Y)) (hs : ∀ u : Nat, u < ry_v Y → hp_in (ry_s Y) (ry_h Y u)) (cap : ps_n (ry_s Y) + 378 ≤ 16000) (t9 : tb_ok h pa (h_r h pa 9)) (t10 : tb_ok h pa (h_r h pa 10)) (ne : h_r h pa 9 ≠ h_r h pa 10) (qm : xm.toInt = (m : Int)) (m2 : 2 ≤ m) (m5 : m ≤ 5) (g : ∀ (x : Int32) (h' : MH) (f : Nat), bf_I h pa f Y h' → Q (some (.int x)) h') : HJ 172 0 (lv_args 0 [.ref pa, .long xl, .int xm]) [] h Q := by
  have B0 : bf_I h pa 0 Y h := ⟨⟨ok, fun _ => rfl⟩, ⟨FW.ofFX FX.same, fun _ _ => rfl⟩, ⟨l, I⟩, P, fun _ => rfl, ⟨t9, t10⟩, fun k hk => absurd hk (Nat.not_lt_zero k)⟩
  refine r_bf0 (RX.start h) rfl rfl rfl qm (fun x1 q1 x3 q3 lv4 a0 a1 a3 a4 a5 => ?_)
  refine l_bf6 qm (fun h1 lv xf f B f5 qf b0 b1 b3 b4 => ?_) 41 h lv4 x1 x3 0 0 (by decide) B0 (by decide) q1 q3 (by decide) (by decide) a0 a1 a3 a4 a5
  refine r_bf51 (RX.start h1) b0 b1 b3 qm b4 qf (fun xe _ xo qo xi qi lv6 c0 c1 c3 c4 c5 c6 c7 _ => ?_) (fun xe _ xo _ xi qi lv6 c0 c1 c3 c4 c5 c6 c7 e => ?_)
  · exact r_bf70 (RX.start h1) c0 c1 c3 qm c4 qf c5 rfl c6 qo c7 qi B.1.1.1.2.1 B.1.1.1.1 (fun _ => g xe h1 f B) (fun c => absurd rfl c) (fun c => absurd rfl c)
  · have ef : f = m := by omega
    subst ef
    exact l_bf70 ok sh hs cap ne m2 m5 qm (fun x h' B' => g x h' f B') 120 h1 lv6 xf xe xo xi 0 (by decide) B qf qi (by decide) (by decide) c0 c1 c3 c4 c5 c6 c7
end
