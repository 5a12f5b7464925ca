-- LOWER, THE CLASS'S: the rows of a Nodes and a heap's, apart
def nx_ok (h : MH) (nd : Nat) : Prop := nl_ok h nd ∧ (ap_ok h nd (h_r h nd 2) ∧ (h_k h (h_r h nd 2)).2 ≤ 1000000) ∧ ap_ok h nd (h_r h nd 3) ∧ h_r h nd 2 ≠ h_r h nd 3 ∧ wl_ok h (h_r h nd 4) ∧ ∀ k, k < 7 → h_r h (h_r h nd 4) k ≠ h_r h nd 0 ∧ h_r h (h_r h nd 4) k ≠ h_r h nd 2 ∧ h_r h (h_r h nd 4) k ≠ h_r h nd 3
def hx_ok (h : MH) (nd hp : Nat) : Prop := ap_ok h nd hp ∧ hp ≠ h_r h nd 2 ∧ hp ≠ h_r h nd 3 ∧ ∀ k, k < 7 → hp ≠ h_r h (h_r h nd 4) k
-- what a lowering changes, a node, a heap and the store aside
def lw_Y (h : MH) (nd hp a : Nat) : Prop := a = hp ∨ a = h_r h nd 3 ∨ a = h_r h nd 4 ∨ ∃ k, k < 7 ∧ a = h_r h (h_r h nd 4) k
theorem nx_r {h h' : MH} {nd : Nat} {Y : Nat → Prop} (ok : nx_ok h nd) (F : FX nd Y h h') : h_r h' nd 2 = h_r h nd 2 ∧ h_r h' nd 3 = h_r h nd 3 ∧ h_r h' nd 4 = h_r h nd 4 ∧ ∀ k, h_r h' (h_r h nd 4) k = h_r h (h_r h nd 4) k := by
  have n3 := (F.2.2 nd ok.1.1.2.2).2.1
  have w := ok.2.2.2.2.1
  have wn : h_r h nd 4 ≠ nd := fun z => by
    have a := w.1.1
    rw [z, ok.1.1.1] at a
    omega
  exact ⟨n3 2 (by omega), n3 3 (by omega), n3 4 (by omega), fun k => (F.2.2 _ w.1.2.2).2.1 k (fun z => wn z.1)⟩
theorem wl_FX {h h' : MH} {nd wa : Nat} {Y : Nat → Prop} (ok : wl_ok h wa) (wn : wa ≠ nd) (F : FX nd Y h h') : wl_ok h' wa := by
  obtain ⟨⟨a1, a2, a3⟩, b, c⟩ := ok
  have f := F.2.2 wa a3
  have r : ∀ k, h_r h' wa k = h_r h wa k := fun k => f.2.1 k (fun z => wn z.1)
  have n := F.1
  refine ⟨⟨by rw [f.1]; exact a1, a2, by omega⟩, fun k hk => ?_, fun a b' ha hb hn => by rw [r, r]; exact c a b' ha hb hn⟩
  obtain ⟨b1, b2, b3, b4⟩ := b k hk
  rw [r, (F.2.2 _ b3).1]
  exact ⟨b1, b2, by omega, b4⟩
theorem nx_tr {h : MH} {nd : Nat} (ok : nx_ok h nd) : h_r h nd 4 ≠ nd ∧ h_r h nd 4 ≠ h_r h nd 0 ∧ h_r h nd 4 ≠ h_r h nd 3 ∧ h_r h nd 4 ≠ h_r h nd 2 := by
  have a := ok.2.2.2.2.1.1.1
  refine ⟨fun z => ?_, fun z => ?_, fun z => ?_, fun z => ?_⟩
  · rw [z, ok.1.1.1] at a
    omega
  · rw [z, ok.1.2.1.1] at a
    omega
  · rw [z, ok.2.2.1.1.1] at a
    omega
  · rw [z, ok.2.1.1.1.1] at a
    omega
theorem nx_FX {h h' : MH} {nd : Nat} {Y : Nat → Prop} (ok : nx_ok h nd) (o' : nl_ok h' nd) (F : FX nd Y h h') : nx_ok h' nd := by
  obtain ⟨r2, r3, r4, rw_⟩ := nx_r ok F
  have wn := (nx_tr ok).1
  obtain ⟨a, ⟨b, b2⟩, c, d, w, e⟩ := ok
  unfold nx_ok
  rw [r2, r3, r4]
  refine ⟨o', ⟨ap_FX b F, by rw [(F.2.2 _ b.2.1).1]; exact b2⟩, ap_FX c F, d, wl_FX w wn F, fun k hk => ?_⟩
  rw [rw_]
  obtain ⟨e1, e2, e3⟩ := e k hk
  have l := (w.2.1 k hk).2.2.1
  refine ⟨fun z => ?_, e2, e3⟩
  rcases F.2.1.1 0 (by decide) with f | f
  · exact e1 (z.trans f)
  · omega
theorem hx_FX {h h' : MH} {nd hp : Nat} {Y : Nat → Prop} (ok : nx_ok h nd) (hx : hx_ok h nd hp) (F : FX nd Y h h') : hx_ok h' nd hp := by
  obtain ⟨r2, r3, r4, rw_⟩ := nx_r ok F
  unfold hx_ok
  rw [r2, r3, r4]
  exact ⟨ap_FX hx.1 F, hx.2.1, hx.2.2.1, fun k hk => by rw [rw_]; exact hx.2.2.2 k hk⟩
section
variable {lv : List (Nat × Value)} {Q : Option Value → MH → Prop} {h0 h : MH} {H : Nat → Nat → Int}
theorem r_lw0 {nd hp : Nat} {t k : Int} (M : RX h0 h H) (e0 : m_lk lv 0 = some (.ref nd)) (e1 : m_lk lv 1 = some (.ref hp)) {lx2 : Int32} (e2 : m_lk lv 2 = some (.int lx2)) (lq2 : lx2.toInt = t) {lx3 : Int32} (e3 : m_lk lv 3 = some (.int lx3)) (lq3 : lx3.toInt = k)  (hk0 : (h_k h0 nd).1 = 3) (hs0 : 16 ≤ h_r h0 nd 4) (hk1 : (h_k h0 (h_r h0 nd 4)).1 = 8)
    (g0 : HJ 74 0 (lv_args 0 [.ref (h_r h0 nd 4), .ref nd, .ref hp]) [] h (fun v h' => HJ 73 9 lv (v.toList ++ []) h' Q))
    : HJ 73 0 lv [] h Q := by
  refine hI_al (k := 0) rfl e0 rfl ?_ -- 0
  refine hR_gr (c := 2) (k := 4) M hk0 rfl rfl rfl rfl ?_ -- 1
  refine hI_al (k := 0) rfl e0 rfl ?_ -- 4
  refine hI_al (k := 1) rfl e1 rfl ?_ -- 5
  refine HJ.call (j := 74) (as := [.ref (h_r h0 nd 4), .ref nd, .ref hp]) (rr := []) (pc' := 9) (m_cR (kc := 7) rfl rfl (by decide +kernel) rfl rfl rfl ⟨rfl, by decide +kernel, by decide +kernel⟩ (by decide) hs0 (by rw [M.2.1]; exact hk1)) (by show 3 ≤ m_lc 74; decide +kernel) ?_ -- 6
  exact g0 
theorem r_lw9 {nd hp : Nat} {t k : Int} (M : RX h0 h H) (e0 : m_lk lv 0 = some (.ref nd)) (e1 : m_lk lv 1 = some (.ref hp)) {lx2 : Int32} (e2 : m_lk lv 2 = some (.int lx2)) (lq2 : lx2.toInt = t) {lx3 : Int32} (e3 : m_lk lv 3 = some (.int lx3)) (lq3 : lx3.toInt = k)  (hk0 : (h_k h0 nd).1 = 3) (hs0 : 16 ≤ h_r h0 nd 4) (hk1 : (h_k h0 (h_r h0 nd 4)).1 = 8)
    (g0 : HJ 76 0 (lv_args 0 [.ref (h_r h0 nd 4), .int lx2, .int lx3]) [] h (fun v h' => HJ 73 18 lv (v.toList ++ []) h' Q))
    : HJ 73 9 lv [] h Q := by
  refine hI_al (k := 0) rfl e0 rfl ?_ -- 9
  refine hR_gr (c := 2) (k := 4) M hk0 rfl rfl rfl rfl ?_ -- 10
  refine hI_il (k := 2) rfl e2 rfl ?_ -- 13
  refine hI_il (k := 3) rfl e3 rfl ?_ -- 14
  refine HJ.call (j := 76) (as := [.ref (h_r h0 nd 4), .int lx2, .int lx3]) (rr := []) (pc' := 18) (m_cR (kc := 7) rfl rfl (by decide +kernel) rfl rfl rfl ⟨rfl, by decide +kernel, by decide +kernel⟩ (by decide) hs0 (by rw [M.2.1]; exact hk1)) (by show 3 ≤ m_lc 76; decide +kernel) ?_ -- 15
  exact g0 
theorem r_lw18 {nd hp : Nat} {t k p : Int} (M : RX h0 h H) (e0 : m_lk lv 0 = some (.ref nd)) (e1 : m_lk lv 1 = some (.ref hp)) {lx2 : Int32} (e2 : m_lk lv 2 = some (.int lx2)) (lq2 : lx2.toInt = t) {lx3 : Int32} (e3 : m_lk lv 3 = some (.int lx3)) (lq3 : lx3.toInt = k) {sx0 : Int32} (sq0 : sx0.toInt = p) (pp0 : -1 ≤ p) (pp1 : p < 63) (hk0 : (h_k h0 nd).1 = 3) (hk1 : (h_k h0 (h_r h0 nd 4)).1 = 8) (ha0 : (h_k h0 (h_r h0 (h_r h0 nd 4) 3)).1 = 20) (hl0 : 63 ≤ ((h_k h0 (h_r h0 (h_r h0 nd 4) 3)).2 : Int))
    (g0 : ∀ x5 : Int32, x5.toInt = 0 → ∀ lv4 : List (Nat × Value), p ≠ (-1) → H (h_r h0 (h_r h0 nd 4) 3) (p).toNat < 0 → Q (some (.int x5)) h)
    (g1 : ∀ x3 : Int32, x3.toInt = H (h_r h0 (h_r h0 nd 4) 3) (p).toNat → ∀ lv7 : List (Nat × Value), m_lk lv7 0 = some (.ref nd) → m_lk lv7 1 = some (.ref hp) → m_lk lv7 2 = some (.int lx2) → m_lk lv7 3 = some (.int lx3) → m_lk lv7 4 = some (.int sx0) → m_lk lv7 5 = some (.int x3) → m_lk lv7 6 = some (.int x3) → p ≠ (-1) → H (h_r h0 (h_r h0 nd 4) 3) (p).toNat ≥ 0 → H (h_r h0 (h_r h0 nd 4) 3) (p).toNat < 6 → HJ 73 60 lv7 [] h Q)
    (g2 : ∀ x8 : Int32, x8.toInt = 0 → ∀ lv4 : List (Nat × Value), p ≠ (-1) → H (h_r h0 (h_r h0 nd 4) 3) (p).toNat ≥ 0 → H (h_r h0 (h_r h0 nd 4) 3) (p).toNat ≥ 6 → Q (some (.int x8)) h)
    (g3 : ∀ x11 : Int32, x11.toInt = 0 → ∀ lv10 : List (Nat × Value), p = (-1) → Q (some (.int x11)) h)
    : HJ 73 18 lv [.int sx0] h Q := by
  refine hM_si2 (k := 4) rfl (by decide +kernel) rfl (fun lv1 e1_4 u1 => ?_) -- 18
  have e1_0 := u1 0 _ (by decide) (Or.inl rfl) e0
  have e1_1 := u1 1 _ (by decide) (Or.inl rfl) e1
  have e1_2 := u1 2 _ (by decide) (Or.inl rfl) e2
  have e1_3 := u1 3 _ (by decide) (Or.inl rfl) e3
  refine hI_il2 (k := 4) rfl e1_4 rfl ?_ -- 20
  refine hM_ic (n := (-1)) rfl (by decide) rfl (fun x2 q2 => ?_) -- 22
  refine hM_cne (off := 7) (t := 30) rfl sq0 q2 (by decide) rfl (fun c23 => ?_) (fun c23 => ?_) -- 23
  · refine hI_al (k := 0) rfl e1_0 rfl ?_ -- 30
    refine hR_gr (c := 2) (k := 4) M hk0 rfl rfl rfl rfl ?_ -- 31
    refine hR_gr (c := 7) (k := 3) M hk1 rfl rfl rfl rfl ?_ -- 34
    refine hI_il2 (k := 4) rfl e1_4 rfl ?_ -- 37
    refine hR_ia M ha0 sq0 (by omega) (by omega) rfl rfl (fun x3 q3 => ?_) -- 39
    have gb3 : -2147483648 ≤ H (h_r h0 (h_r h0 nd 4) 3) (p).toNat ∧ H (h_r h0 (h_r h0 nd 4) 3) (p).toNat ≤ 2147483647 := by rw [← q3]; exact g_iT _
    refine hM_si2 (k := 5) rfl (by decide +kernel) rfl (fun lv4 e4_5 u4 => ?_) -- 40
    have e4_0 := u4 0 _ (by decide) (Or.inl rfl) e1_0
    have e4_1 := u4 1 _ (by decide) (Or.inl rfl) e1_1
    have e4_2 := u4 2 _ (by decide) (Or.inl rfl) e1_2
    have e4_3 := u4 3 _ (by decide) (Or.inl rfl) e1_3
    have e4_4 := u4 4 _ (by decide) (Or.inl rfl) e1_4
    refine hI_il2 (k := 5) rfl e4_5 rfl ?_ -- 42
    refine hM_zlt (off := 10) (t := 54) rfl q3 (by decide) rfl (fun c44 => ?_) (fun c44 => ?_) -- 44
    · refine hM_ic (n := 0) rfl (by decide) rfl (fun x5 q5 => ?_) -- 54
      refine hM_rb rfl rfl q5 (by omega) (by omega) ?_ -- 55
      exact g0 x5 q5 lv4 c23 c44
    · refine hI_il2 (k := 5) rfl e4_5 rfl ?_ -- 47
      refine hM_bp (n := 6) rfl (by decide) rfl (fun x6 q6 => ?_) -- 49
      refine hM_clt (off := 5) (t := 56) rfl q3 q6 (by decide) rfl (fun c51 => ?_) (fun c51 => ?_) -- 51
      · refine hI_il2 (k := 5) rfl e4_5 rfl ?_ -- 56
        refine hM_si2 (k := 6) rfl (by decide +kernel) rfl (fun lv7 e7_6 u7 => ?_) -- 58
        have e7_0 := u7 0 _ (by decide) (Or.inl rfl) e4_0
        have e7_1 := u7 1 _ (by decide) (Or.inl rfl) e4_1
        have e7_2 := u7 2 _ (by decide) (Or.inl rfl) e4_2
        have e7_3 := u7 3 _ (by decide) (Or.inl rfl) e4_3
        have e7_4 := u7 4 _ (by decide) (Or.inl rfl) e4_4
        have e7_5 := u7 5 _ (by decide) (Or.inl rfl) e4_5
        exact g1 x3 q3 lv7 e7_0 e7_1 e7_2 e7_3 e7_4 e7_5 e7_6 c23 c44 c51
      · refine hM_ic (n := 0) rfl (by decide) rfl (fun x8 q8 => ?_) -- 54
        refine hM_rb rfl rfl q8 (by omega) (by omega) ?_ -- 55
        exact g2 x8 q8 lv4 c23 c44 c51
  · refine hM_ic (n := (-1)) rfl (by decide) rfl (fun x9 q9 => ?_) -- 26
    refine hI_go (pc' := 40) (off := 13) rfl (by decide) ?_ -- 27
    refine hM_si2 (k := 5) rfl (by decide +kernel) rfl (fun lv10 e10_5 u10 => ?_) -- 40
    have e10_0 := u10 0 _ (by decide) (Or.inl rfl) e1_0
    have e10_1 := u10 1 _ (by decide) (Or.inl rfl) e1_1
    have e10_2 := u10 2 _ (by decide) (Or.inl rfl) e1_2
    have e10_3 := u10 3 _ (by decide) (Or.inl rfl) e1_3
    have e10_4 := u10 4 _ (by decide) (Or.inl rfl) e1_4
    refine hI_il2 (k := 5) rfl e10_5 rfl ?_ -- 42
    refine hM_zlt (off := 10) (t := 54) rfl q9 (by decide) rfl (fun c44 => ?_) (fun c44 => ?_) -- 44
    · refine hM_ic (n := 0) rfl (by decide) rfl (fun x11 q11 => ?_) -- 54
      refine hM_rb rfl rfl q11 (by omega) (by omega) ?_ -- 55
      exact g3 x11 q11 lv10 c23
    · exfalso; omega
theorem r_lw60 {nd hp : Nat} {t k p n d : Int} (M : RX h0 h H) (e0 : m_lk lv 0 = some (.ref nd)) (e1 : m_lk lv 1 = some (.ref hp)) {lx2 : Int32} (e2 : m_lk lv 2 = some (.int lx2)) (lq2 : lx2.toInt = t) {lx3 : Int32} (e3 : m_lk lv 3 = some (.int lx3)) (lq3 : lx3.toInt = k) {lx4 : Int32} (e4 : m_lk lv 4 = some (.int lx4)) (lq4 : lx4.toInt = p) {lx5 : Int32} (e5 : m_lk lv 5 = some (.int lx5)) (lq5 : lx5.toInt = n) {lx6 : Int32} (e6 : m_lk lv 6 = some (.int lx6)) (lq6 : lx6.toInt = d) (pd1 : d ≤ 5) (pp0 : -1 ≤ p) (pp1 : p < 63) (px0 : h_r h0 (h_r h0 nd 4) 2 ≠ h_r h0 nd 3) (hk0 : (h_k h0 nd).1 = 3) (hk1 : (h_k h0 (h_r h0 nd 4)).1 = 8) (ha0 : (h_k h0 (h_r h0 (h_r h0 nd 4) 0)).1 = 20) (hl0 : 63 ≤ ((h_k h0 (h_r h0 (h_r h0 nd 4) 0)).2 : Int)) (ha1 : (h_k h0 (h_r h0 nd 3)).1 = 20) (hl1 : 6 ≤ ((h_k h0 (h_r h0 nd 3)).2 : Int)) (hs0 : 16 ≤ h_r h0 nd 3) (ha2 : (h_k h0 (h_r h0 (h_r h0 nd 4) 2)).1 = 20) (hl2 : 63 ≤ ((h_k h0 (h_r h0 (h_r h0 nd 4) 2)).2 : Int))
    (g0 : d < 0 → HJ 73 106 lv [] h Q)
    (g1 : d ≥ 0 → p = (-1) → HJ 73 106 lv [] h Q)
    (g2 : ∀ h3 : MH, ∀ H3 : Nat → Nat → Int, H3 = m_u H (h_r h0 nd 3) (m_u (H (h_r h0 nd 3)) (d).toNat (H (h_r h0 (h_r h0 nd 4) 0) (p).toNat)) → ∀ x4 : Int32, x4.toInt = H (h_r h0 (h_r h0 nd 4) 2) (p).toNat → ∀ x6 : Int32, x6.toInt = d + (-1) → ∀ lv6 : List (Nat × Value), RX h0 h3 H3 → m_lk lv6 0 = some (.ref nd) → m_lk lv6 1 = some (.ref hp) → m_lk lv6 2 = some (.int lx2) → m_lk lv6 3 = some (.int lx3) → m_lk lv6 4 = some (.int x4) → m_lk lv6 5 = some (.int lx5) → m_lk lv6 6 = some (.int x6) → d ≥ 0 → p ≠ (-1) → HJ 73 60 lv6 [] h3 Q)
    : HJ 73 60 lv [] h Q := by
  refine hI_il2 (k := 6) rfl e6 rfl ?_ -- 60
  refine hM_zlt (off := 44) (t := 106) rfl lq6 (by decide) rfl (fun c62 => ?_) (fun c62 => ?_) -- 62
  · exact g0 c62
  · refine hI_il2 (k := 4) rfl e4 rfl ?_ -- 65
    refine hM_ic (n := (-1)) rfl (by decide) rfl (fun x1 q1 => ?_) -- 67
    refine hM_ceq (off := 38) (t := 106) rfl lq4 q1 (by decide) rfl (fun c68 => ?_) (fun c68 => ?_) -- 68
    · exact g1 c62 c68
    · refine hI_al (k := 0) rfl e0 rfl ?_ -- 71
      refine hR_gr (c := 2) (k := 3) M hk0 rfl rfl rfl rfl ?_ -- 72
      refine hI_il2 (k := 6) rfl e6 rfl ?_ -- 75
      refine hI_al (k := 0) rfl e0 rfl ?_ -- 77
      refine hR_gr (c := 2) (k := 4) M hk0 rfl rfl rfl rfl ?_ -- 78
      refine hR_gr (c := 7) (k := 0) M hk1 rfl rfl rfl rfl ?_ -- 81
      refine hI_il2 (k := 4) rfl e4 rfl ?_ -- 84
      refine hR_ia M ha0 lq4 (by omega) (by omega) rfl rfl (fun x2 q2 => ?_) -- 86
      have gb2 : -2147483648 ≤ H (h_r h0 (h_r h0 nd 4) 0) (p).toNat ∧ H (h_r h0 (h_r h0 nd 4) 0) (p).toNat ≤ 2147483647 := by rw [← q2]; exact g_iT _
      refine hR_is M hs0 ha1 lq6 q2 (by omega) (by omega) rfl rfl (fun h3 H3 f3 M3 => ?_) -- 87
      refine hI_al (k := 0) rfl e0 rfl ?_ -- 88
      refine hR_gr (c := 2) (k := 4) M3 hk0 rfl rfl rfl rfl ?_ -- 89
      refine hR_gr (c := 7) (k := 2) M3 hk1 rfl rfl rfl rfl ?_ -- 92
      refine hI_il2 (k := 4) rfl e4 rfl ?_ -- 95
      refine hR_ia M3 ha2 lq4 (by omega) (by omega) rfl rfl (fun x4 q4 => ?_) -- 97
      rw [show H3 (h_r h0 (h_r h0 nd 4) 2) (p).toNat = H (h_r h0 (h_r h0 nd 4) 2) (p).toNat by rw [f3, m_uN _ _ _ _ px0]] at q4
      have gb4 : -2147483648 ≤ H (h_r h0 (h_r h0 nd 4) 2) (p).toNat ∧ H (h_r h0 (h_r h0 nd 4) 2) (p).toNat ≤ 2147483647 := by rw [← q4]; exact g_iT _
      refine hM_si2 (k := 4) rfl (by decide +kernel) rfl (fun lv5 e5_4 u5 => ?_) -- 98
      have e5_0 := u5 0 _ (by decide) (Or.inl rfl) e0
      have e5_1 := u5 1 _ (by decide) (Or.inl rfl) e1
      have e5_2 := u5 2 _ (by decide) (Or.inl rfl) e2
      have e5_3 := u5 3 _ (by decide) (Or.inl rfl) e3
      have e5_5 := u5 5 _ (by decide) (Or.inl rfl) e5
      have e5_6 := u5 6 _ (by decide) (Or.inl rfl) e6
      refine hM_inc (k := 6) (z := (-1)) rfl e5_6 lq6 (by decide) (by omega) (by omega) (by decide +kernel) rfl (fun lv6 x6 q6 e6_6 u6 => ?_) -- 100
      have e6_0 := u6 0 _ (by decide) (Or.inl rfl) e5_0
      have e6_1 := u6 1 _ (by decide) (Or.inl rfl) e5_1
      have e6_2 := u6 2 _ (by decide) (Or.inl rfl) e5_2
      have e6_3 := u6 3 _ (by decide) (Or.inl rfl) e5_3
      have e6_5 := u6 5 _ (by decide) (Or.inl rfl) e5_5
      have e6_4 := u6 4 _ (by decide) (Or.inl rfl) e5_4
      refine hI_go (pc' := 60) (off := (-43)) rfl (by decide) ?_ -- 103
      exact g2 h3 H3 f3 x4 q4 x6 q6 lv6 M3 e6_0 e6_1 e6_2 e6_3 e6_4 e6_5 e6_6 c62 c68
theorem r_lw106 {nd hp : Nat} {t k n : Int} (M : RX h0 h H) (e0 : m_lk lv 0 = some (.ref nd)) (e1 : m_lk lv 1 = some (.ref hp)) {lx2 : Int32} (e2 : m_lk lv 2 = some (.int lx2)) (lq2 : lx2.toInt = t) {lx3 : Int32} (e3 : m_lk lv 3 = some (.int lx3)) (lq3 : lx3.toInt = k) {lx5 : Int32} (e5 : m_lk lv 5 = some (.int lx5)) (lq5 : lx5.toInt = n) 
    (g0 : HJ 60 0 (lv_args 0 [.int lx2, .int lx3]) [] h (fun v h' => HJ 73 111 lv (v.toList ++ []) h' Q))
    : HJ 73 106 lv [] h Q := by
  refine hI_il (k := 2) rfl e2 rfl ?_ -- 106
  refine hI_il (k := 3) rfl e3 rfl ?_ -- 107
  refine hM_is0 (as := [.int lx2, .int lx3]) (r := []) rfl rfl (by decide +kernel) rfl rfl rfl rfl rfl ?_ -- 108
  exact g0 
theorem r_lw111 {nd hp : Nat} {t k n w : Int} (M : RX h0 h H) (e0 : m_lk lv 0 = some (.ref nd)) (e1 : m_lk lv 1 = some (.ref hp)) {lx2 : Int32} (e2 : m_lk lv 2 = some (.int lx2)) (lq2 : lx2.toInt = t) {lx3 : Int32} (e3 : m_lk lv 3 = some (.int lx3)) (lq3 : lx3.toInt = k) {lx5 : Int32} (e5 : m_lk lv 5 = some (.int lx5)) (lq5 : lx5.toInt = n) {sx0 : Int32} (sq0 : sx0.toInt = w) 
    (g0 : ∀ lv2 : List (Nat × Value), m_lk lv2 0 = some (.ref nd) → m_lk lv2 1 = some (.ref hp) → m_lk lv2 2 = some (.int lx2) → m_lk lv2 3 = some (.int lx3) → m_lk lv2 5 = some (.int lx5) → m_lk lv2 6 = some (.int sx0) → m_lk lv2 7 = some (.int lx5) → HJ 73 117 lv2 [] h Q)
    : HJ 73 111 lv [.int sx0] h Q := by
  refine hM_si2 (k := 6) rfl (by decide +kernel) rfl (fun lv1 e1_6 u1 => ?_) -- 111
  have e1_0 := u1 0 _ (by decide) (Or.inl rfl) e0
  have e1_1 := u1 1 _ (by decide) (Or.inl rfl) e1
  have e1_2 := u1 2 _ (by decide) (Or.inl rfl) e2
  have e1_3 := u1 3 _ (by decide) (Or.inl rfl) e3
  have e1_5 := u1 5 _ (by decide) (Or.inl rfl) e5
  refine hI_il2 (k := 5) rfl e1_5 rfl ?_ -- 113
  refine hM_si2 (k := 7) rfl (by decide +kernel) rfl (fun lv2 e2_7 u2 => ?_) -- 115
  have e2_0 := u2 0 _ (by decide) (Or.inl rfl) e1_0
  have e2_1 := u2 1 _ (by decide) (Or.inl rfl) e1_1
  have e2_2 := u2 2 _ (by decide) (Or.inl rfl) e1_2
  have e2_3 := u2 3 _ (by decide) (Or.inl rfl) e1_3
  have e2_5 := u2 5 _ (by decide) (Or.inl rfl) e1_5
  have e2_6 := u2 6 _ (by decide) (Or.inl rfl) e1_6
  exact g0 lv2 e2_0 e2_1 e2_2 e2_3 e2_5 e2_6 e2_7
theorem r_lw117 {nd hp : Nat} {t k n w e : Int} (M : RX h0 h H) (e0 : m_lk lv 0 = some (.ref nd)) (e1 : m_lk lv 1 = some (.ref hp)) {lx2 : Int32} (e2 : m_lk lv 2 = some (.int lx2)) (lq2 : lx2.toInt = t) {lx3 : Int32} (e3 : m_lk lv 3 = some (.int lx3)) (lq3 : lx3.toInt = k) {lx5 : Int32} (e5 : m_lk lv 5 = some (.int lx5)) (lq5 : lx5.toInt = n) {lx6 : Int32} (e6 : m_lk lv 6 = some (.int lx6)) (lq6 : lx6.toInt = w) {lx7 : Int32} (e7 : m_lk lv 7 = some (.int lx7)) (lq7 : lx7.toInt = e) (pe1 : e ≤ 5) (hk0 : (h_k h0 nd).1 = 3) (ha0 : (h_k h0 (h_r h0 nd 3)).1 = 20) (hl0 : 6 ≤ ((h_k h0 (h_r h0 nd 3)).2 : Int)) (hs0 : 16 ≤ nd)
    (g0 : e ≤ 0 → HJ 73 146 lv [] h Q)
    (g1 : ∀ x3 : Int32, x3.toInt = H (h_r h0 nd 3) (e - 1).toNat → e > 0 → HJ 66 0 (lv_args 0 [.ref nd, .int x3]) [] h (fun v h' => HJ 73 137 lv (v.toList ++ [.int lx6]) h' Q))
    : HJ 73 117 lv [] h Q := by
  refine hI_il2 (k := 7) rfl e7 rfl ?_ -- 117
  refine hM_zle (off := 27) (t := 146) rfl lq7 (by decide) rfl (fun c119 => ?_) (fun c119 => ?_) -- 119
  · exact g0 c119
  · refine hI_il2 (k := 6) rfl e6 rfl ?_ -- 122
    refine hI_al (k := 0) rfl e0 rfl ?_ -- 124
    refine hI_al (k := 0) rfl e0 rfl ?_ -- 125
    refine hR_gr (c := 2) (k := 3) M hk0 rfl rfl rfl rfl ?_ -- 126
    refine hI_il2 (k := 7) rfl e7 rfl ?_ -- 129
    refine hM_ic (n := 1) rfl (by decide) rfl (fun x1 q1 => ?_) -- 131
    refine hM_sub rfl lq7 q1 (by omega) (by omega) rfl (fun x2 q2 => ?_) -- 132
    refine hR_ia M ha0 q2 (by omega) (by omega) rfl rfl (fun x3 q3 => ?_) -- 133
    have gb3 : -2147483648 ≤ H (h_r h0 nd 3) (e - 1).toNat ∧ H (h_r h0 nd 3) (e - 1).toNat ≤ 2147483647 := by rw [← q3]; exact g_iT _
    refine HJ.call (j := 66) (as := [.ref nd, .int x3]) (rr := [.int lx6]) (pc' := 137) (m_cR (kc := 2) rfl rfl (by decide +kernel) rfl rfl rfl ⟨rfl, by decide +kernel, by decide +kernel⟩ (by decide) hs0 (by rw [M.2.1]; exact hk0)) (by show 2 ≤ m_lc 66; decide +kernel) ?_ -- 134
    exact g1 x3 q3 c119
theorem r_lw137 {nd hp : Nat} {t k n w e w1 z : Int} (M : RX h0 h H) (e0 : m_lk lv 0 = some (.ref nd)) (e1 : m_lk lv 1 = some (.ref hp)) {lx2 : Int32} (e2 : m_lk lv 2 = some (.int lx2)) (lq2 : lx2.toInt = t) {lx3 : Int32} (e3 : m_lk lv 3 = some (.int lx3)) (lq3 : lx3.toInt = k) {lx5 : Int32} (e5 : m_lk lv 5 = some (.int lx5)) (lq5 : lx5.toInt = n) {lx6 : Int32} (e6 : m_lk lv 6 = some (.int lx6)) (lq6 : lx6.toInt = w) {lx7 : Int32} (e7 : m_lk lv 7 = some (.int lx7)) (lq7 : lx7.toInt = e) {sx0 : Int32} (sq0 : sx0.toInt = w1) {sx1 : Int32} (sq1 : sx1.toInt = z) (pe0 : 1 ≤ e) (pe1 : e ≤ 5)
    (g0 : w1 ≥ z → HJ 73 146 lv [] h Q)
    (g1 : ∀ x1 : Int32, x1.toInt = e + (-1) → ∀ lv1 : List (Nat × Value), m_lk lv1 0 = some (.ref nd) → m_lk lv1 1 = some (.ref hp) → m_lk lv1 2 = some (.int lx2) → m_lk lv1 3 = some (.int lx3) → m_lk lv1 5 = some (.int lx5) → m_lk lv1 6 = some (.int lx6) → m_lk lv1 7 = some (.int x1) → w1 < z → HJ 73 117 lv1 [] h Q)
    : HJ 73 137 lv [.int sx1, .int sx0] h Q := by
  refine hM_cge (off := 9) (t := 146) rfl sq0 sq1 (by decide) rfl (fun c137 => ?_) (fun c137 => ?_) -- 137
  · exact g0 c137
  · refine hM_inc (k := 7) (z := (-1)) rfl e7 lq7 (by decide) (by omega) (by omega) (by decide +kernel) rfl (fun lv1 x1 q1 e1_7 u1 => ?_) -- 140
    have e1_0 := u1 0 _ (by decide) (Or.inl rfl) e0
    have e1_1 := u1 1 _ (by decide) (Or.inl rfl) e1
    have e1_2 := u1 2 _ (by decide) (Or.inl rfl) e2
    have e1_3 := u1 3 _ (by decide) (Or.inl rfl) e3
    have e1_5 := u1 5 _ (by decide) (Or.inl rfl) e5
    have e1_6 := u1 6 _ (by decide) (Or.inl rfl) e6
    refine hI_go (pc' := 117) (off := (-26)) rfl (by decide) ?_ -- 143
    exact g1 x1 q1 lv1 e1_0 e1_1 e1_2 e1_3 e1_5 e1_6 e1_7 c137
theorem r_lw146 {nd hp : Nat} {t k n w e : Int} (M : RX h0 h H) (e0 : m_lk lv 0 = some (.ref nd)) (e1 : m_lk lv 1 = some (.ref hp)) {lx2 : Int32} (e2 : m_lk lv 2 = some (.int lx2)) (lq2 : lx2.toInt = t) {lx3 : Int32} (e3 : m_lk lv 3 = some (.int lx3)) (lq3 : lx3.toInt = k) {lx5 : Int32} (e5 : m_lk lv 5 = some (.int lx5)) (lq5 : lx5.toInt = n) {lx6 : Int32} (e6 : m_lk lv 6 = some (.int lx6)) (lq6 : lx6.toInt = w) {lx7 : Int32} (e7 : m_lk lv 7 = some (.int lx7)) (lq7 : lx7.toInt = e)  (hk0 : (h_k h0 nd).1 = 3)
    (g0 : ∀ x1 : Int32, x1.toInt = H nd 5 → ∀ x3 : Int32, x3.toInt = 0 → ∀ lv4 : List (Nat × Value), m_lk lv4 0 = some (.ref nd) → m_lk lv4 1 = some (.ref hp) → m_lk lv4 2 = some (.int lx2) → m_lk lv4 3 = some (.int lx3) → m_lk lv4 5 = some (.int lx5) → m_lk lv4 6 = some (.int lx6) → m_lk lv4 7 = some (.int lx7) → m_lk lv4 8 = some (.int x1) → m_lk lv4 9 = some (.int x3) → HJ 73 155 lv4 [] h Q)
    : HJ 73 146 lv [] h Q := by
  refine hI_al (k := 0) rfl e0 rfl ?_ -- 146
  refine hR_gi (c := 2) (k := 5) M hk0 rfl rfl rfl rfl (fun x1 q1 => ?_) -- 147
  have gb1 : -2147483648 ≤ H nd 5 ∧ H nd 5 ≤ 2147483647 := by rw [← q1]; exact g_iT _
  refine hM_si2 (k := 8) rfl (by decide +kernel) rfl (fun lv2 e2_8 u2 => ?_) -- 150
  have e2_0 := u2 0 _ (by decide) (Or.inl rfl) e0
  have e2_1 := u2 1 _ (by decide) (Or.inl rfl) e1
  have e2_2 := u2 2 _ (by decide) (Or.inl rfl) e2
  have e2_3 := u2 3 _ (by decide) (Or.inl rfl) e3
  have e2_5 := u2 5 _ (by decide) (Or.inl rfl) e5
  have e2_6 := u2 6 _ (by decide) (Or.inl rfl) e6
  have e2_7 := u2 7 _ (by decide) (Or.inl rfl) e7
  refine hM_ic (n := 0) rfl (by decide) rfl (fun x3 q3 => ?_) -- 152
  refine hM_si2 (k := 9) rfl (by decide +kernel) rfl (fun lv4 e4_9 u4 => ?_) -- 153
  have e4_0 := u4 0 _ (by decide) (Or.inl rfl) e2_0
  have e4_1 := u4 1 _ (by decide) (Or.inl rfl) e2_1
  have e4_2 := u4 2 _ (by decide) (Or.inl rfl) e2_2
  have e4_3 := u4 3 _ (by decide) (Or.inl rfl) e2_3
  have e4_5 := u4 5 _ (by decide) (Or.inl rfl) e2_5
  have e4_6 := u4 6 _ (by decide) (Or.inl rfl) e2_6
  have e4_7 := u4 7 _ (by decide) (Or.inl rfl) e2_7
  have e4_8 := u4 8 _ (by decide) (Or.inl rfl) e2_8
  exact g0 x1 q1 x3 q3 lv4 e4_0 e4_1 e4_2 e4_3 e4_5 e4_6 e4_7 e4_8 e4_9
theorem r_lw155 {nd hp : Nat} {t k n w e f d : Int} (M : RX h0 h H) (e0 : m_lk lv 0 = some (.ref nd)) (e1 : m_lk lv 1 = some (.ref hp)) {lx2 : Int32} (e2 : m_lk lv 2 = some (.int lx2)) (lq2 : lx2.toInt = t) {lx3 : Int32} (e3 : m_lk lv 3 = some (.int lx3)) (lq3 : lx3.toInt = k) {lx5 : Int32} (e5 : m_lk lv 5 = some (.int lx5)) (lq5 : lx5.toInt = n) {lx6 : Int32} (e6 : m_lk lv 6 = some (.int lx6)) (lq6 : lx6.toInt = w) {lx7 : Int32} (e7 : m_lk lv 7 = some (.int lx7)) (lq7 : lx7.toInt = e) {lx8 : Int32} (e8 : m_lk lv 8 = some (.int lx8)) (lq8 : lx8.toInt = f) {lx9 : Int32} (e9 : m_lk lv 9 = some (.int lx9)) (lq9 : lx9.toInt = d) (pd0 : 0 ≤ d) (pe0 : 0 ≤ e) (pn5 : n ≤ 5) (hk0 : (h_k h0 nd).1 = 3) (ha0 : (h_k h0 (h_r h0 nd 3)).1 = 20) (hl0 : 6 ≤ ((h_k h0 (h_r h0 nd 3)).2 : Int)) (hs0 : 16 ≤ nd)
    (g0 : d > n → HJ 73 266 lv [] h Q)
    (g1 : ∀ x1 : Int32, x1.toInt = H (h_r h0 nd 3) (d).toNat → ∀ x2 : Int32, x2.toInt = H (h_r h0 nd 3) (d).toNat → d ≤ n → d ≠ e → d ≤ e → HJ 66 0 (lv_args 0 [.ref nd, .int x2]) [] h (fun v h' => HJ 73 207 lv (v.toList ++ [.int x1, .ref nd]) h' Q))
    (g2 : ∀ x1 : Int32, x1.toInt = H (h_r h0 nd 3) (d).toNat → ∀ x5 : Int32, x5.toInt = H (h_r h0 nd 3) (d - 1).toNat → d ≤ n → d ≠ e → d > e → HJ 66 0 (lv_args 0 [.ref nd, .int x5]) [] h (fun v h' => HJ 73 207 lv (v.toList ++ [.int x1, .ref nd]) h' Q))
    (g3 : ∀ x1 : Int32, x1.toInt = H (h_r h0 nd 3) (d).toNat → d ≤ n → d = e → HJ 79 0 (lv_args 0 [.ref nd, .int x1, .int lx6]) [] h (fun v h' => HJ 73 210 lv (v.toList ++ []) h' Q))
    : HJ 73 155 lv [] h Q := by
  refine hI_il2 (k := 9) rfl e9 rfl ?_ -- 155
  refine hI_il2 (k := 5) rfl e5 rfl ?_ -- 157
  refine hM_cgt (off := 107) (t := 266) rfl lq9 lq5 (by decide) rfl (fun c159 => ?_) (fun c159 => ?_) -- 159
  · exact g0 c159
  · refine hI_al (k := 0) rfl e0 rfl ?_ -- 162
    refine hI_al (k := 0) rfl e0 rfl ?_ -- 163
    refine hR_gr (c := 2) (k := 3) M hk0 rfl rfl rfl rfl ?_ -- 164
    refine hI_il2 (k := 9) rfl e9 rfl ?_ -- 167
    refine hR_ia M ha0 lq9 (by omega) (by omega) rfl rfl (fun x1 q1 => ?_) -- 169
    have gb1 : -2147483648 ≤ H (h_r h0 nd 3) (d).toNat ∧ H (h_r h0 nd 3) (d).toNat ≤ 2147483647 := by rw [← q1]; exact g_iT _
    refine hI_il2 (k := 9) rfl e9 rfl ?_ -- 170
    refine hI_il2 (k := 7) rfl e7 rfl ?_ -- 172
    refine hM_cne (off := 8) (t := 182) rfl lq9 lq7 (by decide) rfl (fun c174 => ?_) (fun c174 => ?_) -- 174
    · refine hI_al (k := 0) rfl e0 rfl ?_ -- 182
      refine hI_al (k := 0) rfl e0 rfl ?_ -- 183
      refine hR_gr (c := 2) (k := 3) M hk0 rfl rfl rfl rfl ?_ -- 184
      refine hI_il2 (k := 9) rfl e9 rfl ?_ -- 187
      refine hI_il2 (k := 7) rfl e7 rfl ?_ -- 189
      refine hM_cle (off := 10) (t := 201) rfl lq9 lq7 (by decide) rfl (fun c191 => ?_) (fun c191 => ?_) -- 191
      · refine hI_il2 (k := 9) rfl e9 rfl ?_ -- 201
        refine hR_ia M ha0 lq9 (by omega) (by omega) rfl rfl (fun x2 q2 => ?_) -- 203
        have gb2 : -2147483648 ≤ H (h_r h0 nd 3) (d).toNat ∧ H (h_r h0 nd 3) (d).toNat ≤ 2147483647 := by rw [← q2]; exact g_iT _
        refine HJ.call (j := 66) (as := [.ref nd, .int x2]) (rr := [.int x1, .ref nd]) (pc' := 207) (m_cR (kc := 2) rfl rfl (by decide +kernel) rfl rfl rfl ⟨rfl, by decide +kernel, by decide +kernel⟩ (by decide) hs0 (by rw [M.2.1]; exact hk0)) (by show 2 ≤ m_lc 66; decide +kernel) ?_ -- 204
        exact g1 x1 q1 x2 q2 c159 c174 c191
      · refine hI_il2 (k := 9) rfl e9 rfl ?_ -- 194
        refine hM_ic (n := 1) rfl (by decide) rfl (fun x3 q3 => ?_) -- 196
        refine hM_sub rfl lq9 q3 (by omega) (by omega) rfl (fun x4 q4 => ?_) -- 197
        refine hI_go (pc' := 203) (off := 5) rfl (by decide) ?_ -- 198
        refine hR_ia M ha0 q4 (by omega) (by omega) rfl rfl (fun x5 q5 => ?_) -- 203
        have gb5 : -2147483648 ≤ H (h_r h0 nd 3) (d - 1).toNat ∧ H (h_r h0 nd 3) (d - 1).toNat ≤ 2147483647 := by rw [← q5]; exact g_iT _
        refine HJ.call (j := 66) (as := [.ref nd, .int x5]) (rr := [.int x1, .ref nd]) (pc' := 207) (m_cR (kc := 2) rfl rfl (by decide +kernel) rfl rfl rfl ⟨rfl, by decide +kernel, by decide +kernel⟩ (by decide) hs0 (by rw [M.2.1]; exact hk0)) (by show 2 ≤ m_lc 66; decide +kernel) ?_ -- 204
        exact g2 x1 q1 x5 q5 c159 c174 c191
    · refine hI_il2 (k := 6) rfl e6 rfl ?_ -- 177
      refine hI_go (pc' := 207) (off := 28) rfl (by decide) ?_ -- 179
      refine HJ.call (j := 79) (as := [.ref nd, .int x1, .int lx6]) (rr := []) (pc' := 210) (m_cR (kc := 2) rfl rfl (by decide +kernel) rfl rfl rfl ⟨rfl, by decide +kernel, by decide +kernel⟩ (by decide) hs0 (by rw [M.2.1]; exact hk0)) (by show 3 ≤ m_lc 79; decide +kernel) ?_ -- 207
      exact g3 x1 q1 c159 c174
theorem r_lw207 {nd hp : Nat} {t k n w e f d v z : Int} (M : RX h0 h H) (e0 : m_lk lv 0 = some (.ref nd)) (e1 : m_lk lv 1 = some (.ref hp)) {lx2 : Int32} (e2 : m_lk lv 2 = some (.int lx2)) (lq2 : lx2.toInt = t) {lx3 : Int32} (e3 : m_lk lv 3 = some (.int lx3)) (lq3 : lx3.toInt = k) {lx5 : Int32} (e5 : m_lk lv 5 = some (.int lx5)) (lq5 : lx5.toInt = n) {lx6 : Int32} (e6 : m_lk lv 6 = some (.int lx6)) (lq6 : lx6.toInt = w) {lx7 : Int32} (e7 : m_lk lv 7 = some (.int lx7)) (lq7 : lx7.toInt = e) {lx8 : Int32} (e8 : m_lk lv 8 = some (.int lx8)) (lq8 : lx8.toInt = f) {lx9 : Int32} (e9 : m_lk lv 9 = some (.int lx9)) (lq9 : lx9.toInt = d) {sx1 : Int32} (sq1 : sx1.toInt = v) {sx2 : Int32} (sq2 : sx2.toInt = z)  (hs0 : 16 ≤ nd) (hk0 : (h_k h0 nd).1 = 3)
    (g0 : HJ 79 0 (lv_args 0 [.ref nd, .int sx1, .int sx2]) [] h (fun v h' => HJ 73 210 lv (v.toList ++ []) h' Q))
    : HJ 73 207 lv [.int sx2, .int sx1, .ref nd] h Q := by
  refine HJ.call (j := 79) (as := [.ref nd, .int sx1, .int sx2]) (rr := []) (pc' := 210) (m_cR (kc := 2) rfl rfl (by decide +kernel) rfl rfl rfl ⟨rfl, by decide +kernel, by decide +kernel⟩ (by decide) hs0 (by rw [M.2.1]; exact hk0)) (by show 3 ≤ m_lc 79; decide +kernel) ?_ -- 207
  exact g0 
theorem r_lw210 {nd hp : Nat} {t k n w e f d : Int} (M : RX h0 h H) (e0 : m_lk lv 0 = some (.ref nd)) (e1 : m_lk lv 1 = some (.ref hp)) {lx2 : Int32} (e2 : m_lk lv 2 = some (.int lx2)) (lq2 : lx2.toInt = t) {lx3 : Int32} (e3 : m_lk lv 3 = some (.int lx3)) (lq3 : lx3.toInt = k) {lx5 : Int32} (e5 : m_lk lv 5 = some (.int lx5)) (lq5 : lx5.toInt = n) {lx6 : Int32} (e6 : m_lk lv 6 = some (.int lx6)) (lq6 : lx6.toInt = w) {lx7 : Int32} (e7 : m_lk lv 7 = some (.int lx7)) (lq7 : lx7.toInt = e) {lx8 : Int32} (e8 : m_lk lv 8 = some (.int lx8)) (lq8 : lx8.toInt = f) {lx9 : Int32} (e9 : m_lk lv 9 = some (.int lx9)) (lq9 : lx9.toInt = d) (pd0 : 0 ≤ d) (pn5 : n ≤ 5) (pf0 : 0 ≤ f) (pf1 : f ≤ 16000) (hk0 : (h_k h0 nd).1 = 3) (ha0 : (h_k h0 (h_r h0 nd 3)).1 = 20) (hl0 : 6 ≤ ((h_k h0 (h_r h0 nd 3)).2 : Int)) (hs0 : 16 ≤ nd)
    (g0 : d ≥ n → HJ 73 260 lv [] h Q)
    (g1 : ∀ x1 : Int32, x1.toInt = f + d → ∀ x2 : Int32, x2.toInt = H (h_r h0 nd 3) (d).toNat → d < n → HJ 67 0 (lv_args 0 [.ref nd, .int x2]) [] h (fun v h' => HJ 73 234 lv (v.toList ++ [.int x1, .ref nd]) h' Q))
    : HJ 73 210 lv [] h Q := by
  refine hI_il2 (k := 9) rfl e9 rfl ?_ -- 210
  refine hI_il2 (k := 5) rfl e5 rfl ?_ -- 212
  refine hM_cge (off := 46) (t := 260) rfl lq9 lq5 (by decide) rfl (fun c214 => ?_) (fun c214 => ?_) -- 214
  · exact g0 c214
  · refine hI_al (k := 0) rfl e0 rfl ?_ -- 217
    refine hI_il2 (k := 8) rfl e8 rfl ?_ -- 218
    refine hI_il2 (k := 9) rfl e9 rfl ?_ -- 220
    refine hM_add rfl lq8 lq9 (by omega) (by omega) rfl (fun x1 q1 => ?_) -- 222
    refine hI_al (k := 0) rfl e0 rfl ?_ -- 223
    refine hI_al (k := 0) rfl e0 rfl ?_ -- 224
    refine hR_gr (c := 2) (k := 3) M hk0 rfl rfl rfl rfl ?_ -- 225
    refine hI_il2 (k := 9) rfl e9 rfl ?_ -- 228
    refine hR_ia M ha0 lq9 (by omega) (by omega) rfl rfl (fun x2 q2 => ?_) -- 230
    have gb2 : -2147483648 ≤ H (h_r h0 nd 3) (d).toNat ∧ H (h_r h0 nd 3) (d).toNat ≤ 2147483647 := by rw [← q2]; exact g_iT _
    refine HJ.call (j := 67) (as := [.ref nd, .int x2]) (rr := [.int x1, .ref nd]) (pc' := 234) (m_cR (kc := 2) rfl rfl (by decide +kernel) rfl rfl rfl ⟨rfl, by decide +kernel, by decide +kernel⟩ (by decide) hs0 (by rw [M.2.1]; exact hk0)) (by show 2 ≤ m_lc 67; decide +kernel) ?_ -- 231
    exact g1 x1 q1 x2 q2 c214
theorem r_lw234 {nd hp : Nat} {t k n w e f d g a : Int} (M : RX h0 h H) (e0 : m_lk lv 0 = some (.ref nd)) (e1 : m_lk lv 1 = some (.ref hp)) {lx2 : Int32} (e2 : m_lk lv 2 = some (.int lx2)) (lq2 : lx2.toInt = t) {lx3 : Int32} (e3 : m_lk lv 3 = some (.int lx3)) (lq3 : lx3.toInt = k) {lx5 : Int32} (e5 : m_lk lv 5 = some (.int lx5)) (lq5 : lx5.toInt = n) {lx6 : Int32} (e6 : m_lk lv 6 = some (.int lx6)) (lq6 : lx6.toInt = w) {lx7 : Int32} (e7 : m_lk lv 7 = some (.int lx7)) (lq7 : lx7.toInt = e) {lx8 : Int32} (e8 : m_lk lv 8 = some (.int lx8)) (lq8 : lx8.toInt = f) {lx9 : Int32} (e9 : m_lk lv 9 = some (.int lx9)) (lq9 : lx9.toInt = d) {sx1 : Int32} (sq1 : sx1.toInt = g) {sx2 : Int32} (sq2 : sx2.toInt = a) (pd0 : 0 ≤ d) (pd1 : d ≤ 4) (pa0 : 0 ≤ a) (pa1 : a ≤ 5) (hk0 : (h_k h0 nd).1 = 3) (ha0 : (h_k h0 (h_r h0 nd 3)).1 = 20) (hl0 : 6 ≤ ((h_k h0 (h_r h0 nd 3)).2 : Int)) (hs0 : 16 ≤ nd)
    (g0 : ∀ x2 : Int32, x2.toInt = a - 1 → ∀ x5 : Int32, x5.toInt = H (h_r h0 nd 3) (d + 1).toNat → HJ 67 0 (lv_args 0 [.ref nd, .int x5]) [] h (fun v h' => HJ 73 249 lv (v.toList ++ [.int x2, .int sx1, .ref nd]) h' Q))
    : HJ 73 234 lv [.int sx2, .int sx1, .ref nd] h Q := by
  refine hM_ic (n := 1) rfl (by decide) rfl (fun x1 q1 => ?_) -- 234
  refine hM_sub rfl sq2 q1 (by omega) (by omega) rfl (fun x2 q2 => ?_) -- 235
  refine hI_al (k := 0) rfl e0 rfl ?_ -- 236
  refine hI_al (k := 0) rfl e0 rfl ?_ -- 237
  refine hR_gr (c := 2) (k := 3) M hk0 rfl rfl rfl rfl ?_ -- 238
  refine hI_il2 (k := 9) rfl e9 rfl ?_ -- 241
  refine hM_ic (n := 1) rfl (by decide) rfl (fun x3 q3 => ?_) -- 243
  refine hM_add rfl lq9 q3 (by omega) (by omega) rfl (fun x4 q4 => ?_) -- 244
  refine hR_ia M ha0 q4 (by omega) (by omega) rfl rfl (fun x5 q5 => ?_) -- 245
  have gb5 : -2147483648 ≤ H (h_r h0 nd 3) (d + 1).toNat ∧ H (h_r h0 nd 3) (d + 1).toNat ≤ 2147483647 := by rw [← q5]; exact g_iT _
  refine HJ.call (j := 67) (as := [.ref nd, .int x5]) (rr := [.int x2, .int sx1, .ref nd]) (pc' := 249) (m_cR (kc := 2) rfl rfl (by decide +kernel) rfl rfl rfl ⟨rfl, by decide +kernel, by decide +kernel⟩ (by decide) hs0 (by rw [M.2.1]; exact hk0)) (by show 2 ≤ m_lc 67; decide +kernel) ?_ -- 246
  exact g0 x2 q2 x5 q5
theorem r_lw249 {nd hp : Nat} {t k n w e f d g a b : Int} (M : RX h0 h H) (e0 : m_lk lv 0 = some (.ref nd)) (e1 : m_lk lv 1 = some (.ref hp)) {lx2 : Int32} (e2 : m_lk lv 2 = some (.int lx2)) (lq2 : lx2.toInt = t) {lx3 : Int32} (e3 : m_lk lv 3 = some (.int lx3)) (lq3 : lx3.toInt = k) {lx5 : Int32} (e5 : m_lk lv 5 = some (.int lx5)) (lq5 : lx5.toInt = n) {lx6 : Int32} (e6 : m_lk lv 6 = some (.int lx6)) (lq6 : lx6.toInt = w) {lx7 : Int32} (e7 : m_lk lv 7 = some (.int lx7)) (lq7 : lx7.toInt = e) {lx8 : Int32} (e8 : m_lk lv 8 = some (.int lx8)) (lq8 : lx8.toInt = f) {lx9 : Int32} (e9 : m_lk lv 9 = some (.int lx9)) (lq9 : lx9.toInt = d) {sx1 : Int32} (sq1 : sx1.toInt = g) {sx2 : Int32} (sq2 : sx2.toInt = a) {sx3 : Int32} (sq3 : sx3.toInt = b) (pd0 : 0 ≤ d) (pd1 : d ≤ 4) (pa0 : -1 ≤ a) (pa1 : a ≤ 5) (pb0 : 0 ≤ b) (pb1 : b ≤ 5) (pf0 : 0 ≤ f) (pf1 : f ≤ 16000) (hs0 : 16 ≤ nd) (hk0 : (h_k h0 nd).1 = 3)
    (g0 : ∀ x1 : Int32, x1.toInt = a - b → ∀ x4 : Int32, x4.toInt = (f + d) + 1 → HJ 68 0 (lv_args 0 [.ref nd, .int sx1, .int x1, .int x4]) [] h (fun v h' => HJ 73 260 lv (v.toList ++ []) h' Q))
    : HJ 73 249 lv [.int sx3, .int sx2, .int sx1, .ref nd] h Q := by
  refine hM_sub rfl sq2 sq3 (by omega) (by omega) rfl (fun x1 q1 => ?_) -- 249
  refine hI_il2 (k := 8) rfl e8 rfl ?_ -- 250
  refine hI_il2 (k := 9) rfl e9 rfl ?_ -- 252
  refine hM_add rfl lq8 lq9 (by omega) (by omega) rfl (fun x2 q2 => ?_) -- 254
  refine hM_ic (n := 1) rfl (by decide) rfl (fun x3 q3 => ?_) -- 255
  refine hM_add rfl q2 q3 (by omega) (by omega) rfl (fun x4 q4 => ?_) -- 256
  refine HJ.call (j := 68) (as := [.ref nd, .int sx1, .int x1, .int x4]) (rr := []) (pc' := 260) (m_cR (kc := 2) rfl rfl (by decide +kernel) rfl rfl rfl ⟨rfl, by decide +kernel, by decide +kernel⟩ (by decide) hs0 (by rw [M.2.1]; exact hk0)) (by show 4 ≤ m_lc 68; decide +kernel) ?_ -- 257
  exact g0 x1 q1 x4 q4
theorem r_lw260 {nd hp : Nat} {t k n w e f d : Int} (M : RX h0 h H) (e0 : m_lk lv 0 = some (.ref nd)) (e1 : m_lk lv 1 = some (.ref hp)) {lx2 : Int32} (e2 : m_lk lv 2 = some (.int lx2)) (lq2 : lx2.toInt = t) {lx3 : Int32} (e3 : m_lk lv 3 = some (.int lx3)) (lq3 : lx3.toInt = k) {lx5 : Int32} (e5 : m_lk lv 5 = some (.int lx5)) (lq5 : lx5.toInt = n) {lx6 : Int32} (e6 : m_lk lv 6 = some (.int lx6)) (lq6 : lx6.toInt = w) {lx7 : Int32} (e7 : m_lk lv 7 = some (.int lx7)) (lq7 : lx7.toInt = e) {lx8 : Int32} (e8 : m_lk lv 8 = some (.int lx8)) (lq8 : lx8.toInt = f) {lx9 : Int32} (e9 : m_lk lv 9 = some (.int lx9)) (lq9 : lx9.toInt = d) (pd0 : 0 ≤ d) (pd1 : d ≤ 5)
    (g0 : ∀ x1 : Int32, x1.toInt = d + 1 → ∀ lv1 : List (Nat × Value), m_lk lv1 0 = some (.ref nd) → m_lk lv1 1 = some (.ref hp) → m_lk lv1 2 = some (.int lx2) → m_lk lv1 3 = some (.int lx3) → m_lk lv1 5 = some (.int lx5) → m_lk lv1 6 = some (.int lx6) → m_lk lv1 7 = some (.int lx7) → m_lk lv1 8 = some (.int lx8) → m_lk lv1 9 = some (.int x1) → HJ 73 155 lv1 [] h Q)
    : HJ 73 260 lv [] h Q := by
  refine hM_inc (k := 9) (z := 1) rfl e9 lq9 (by decide) (by omega) (by omega) (by decide +kernel) rfl (fun lv1 x1 q1 e1_9 u1 => ?_) -- 260
  have e1_0 := u1 0 _ (by decide) (Or.inl rfl) e0
  have e1_1 := u1 1 _ (by decide) (Or.inl rfl) e1
  have e1_2 := u1 2 _ (by decide) (Or.inl rfl) e2
  have e1_3 := u1 3 _ (by decide) (Or.inl rfl) e3
  have e1_5 := u1 5 _ (by decide) (Or.inl rfl) e5
  have e1_6 := u1 6 _ (by decide) (Or.inl rfl) e6
  have e1_7 := u1 7 _ (by decide) (Or.inl rfl) e7
  have e1_8 := u1 8 _ (by decide) (Or.inl rfl) e8
  refine hI_go (pc' := 155) (off := (-108)) rfl (by decide) ?_ -- 263
  exact g0 x1 q1 lv1 e1_0 e1_1 e1_2 e1_3 e1_5 e1_6 e1_7 e1_8 e1_9
theorem r_lw266 {nd hp : Nat} {t k n w e f d : Int} (M : RX h0 h H) (e0 : m_lk lv 0 = some (.ref nd)) (e1 : m_lk lv 1 = some (.ref hp)) {lx2 : Int32} (e2 : m_lk lv 2 = some (.int lx2)) (lq2 : lx2.toInt = t) {lx3 : Int32} (e3 : m_lk lv 3 = some (.int lx3)) (lq3 : lx3.toInt = k) {lx5 : Int32} (e5 : m_lk lv 5 = some (.int lx5)) (lq5 : lx5.toInt = n) {lx6 : Int32} (e6 : m_lk lv 6 = some (.int lx6)) (lq6 : lx6.toInt = w) {lx7 : Int32} (e7 : m_lk lv 7 = some (.int lx7)) (lq7 : lx7.toInt = e) {lx8 : Int32} (e8 : m_lk lv 8 = some (.int lx8)) (lq8 : lx8.toInt = f) {lx9 : Int32} (e9 : m_lk lv 9 = some (.int lx9)) (lq9 : lx9.toInt = d)  (hk0 : (h_k h0 nd).1 = 3) (ha0 : (h_k h0 (h_r h0 nd 3)).1 = 20) (hl0 : 6 ≤ ((h_k h0 (h_r h0 nd 3)).2 : Int)) (hs0 : 16 ≤ nd)
    (g0 : ∀ x2 : Int32, x2.toInt = H (h_r h0 nd 3) (0 : Int).toNat → HJ 67 0 (lv_args 0 [.ref nd, .int x2]) [] h (fun v h' => HJ 73 276 lv (v.toList ++ []) h' Q))
    : HJ 73 266 lv [] h Q := by
  refine hI_al (k := 0) rfl e0 rfl ?_ -- 266
  refine hI_al (k := 0) rfl e0 rfl ?_ -- 267
  refine hR_gr (c := 2) (k := 3) M hk0 rfl rfl rfl rfl ?_ -- 268
  refine hM_ic (n := 0) rfl (by decide) rfl (fun x1 q1 => ?_) -- 271
  refine hR_ia M ha0 q1 (by omega) (by omega) rfl rfl (fun x2 q2 => ?_) -- 272
  have gb2 : -2147483648 ≤ H (h_r h0 nd 3) (0 : Int).toNat ∧ H (h_r h0 nd 3) (0 : Int).toNat ≤ 2147483647 := by rw [← q2]; exact g_iT _
  refine HJ.call (j := 67) (as := [.ref nd, .int x2]) (rr := []) (pc' := 276) (m_cR (kc := 2) rfl rfl (by decide +kernel) rfl rfl rfl ⟨rfl, by decide +kernel, by decide +kernel⟩ (by decide) hs0 (by rw [M.2.1]; exact hk0)) (by show 2 ≤ m_lc 67; decide +kernel) ?_ -- 273
  exact g0 x2 q2
theorem r_lw276 {nd hp : Nat} {t k n w e f d r : Int} (M : RX h0 h H) (e0 : m_lk lv 0 = some (.ref nd)) (e1 : m_lk lv 1 = some (.ref hp)) {lx2 : Int32} (e2 : m_lk lv 2 = some (.int lx2)) (lq2 : lx2.toInt = t) {lx3 : Int32} (e3 : m_lk lv 3 = some (.int lx3)) (lq3 : lx3.toInt = k) {lx5 : Int32} (e5 : m_lk lv 5 = some (.int lx5)) (lq5 : lx5.toInt = n) {lx6 : Int32} (e6 : m_lk lv 6 = some (.int lx6)) (lq6 : lx6.toInt = w) {lx7 : Int32} (e7 : m_lk lv 7 = some (.int lx7)) (lq7 : lx7.toInt = e) {lx8 : Int32} (e8 : m_lk lv 8 = some (.int lx8)) (lq8 : lx8.toInt = f) {lx9 : Int32} (e9 : m_lk lv 9 = some (.int lx9)) (lq9 : lx9.toInt = d) {sx0 : Int32} (sq0 : sx0.toInt = r)  (ha0 : (h_k h0 hp).1 = 20) (hl0 : 6 ≤ ((h_k h0 hp).2 : Int)) (hs0 : 16 ≤ hp)
    (g0 : ∀ x2 : Int32, x2.toInt = 1 → ∀ lv1 : List (Nat × Value), r < 0 → Q (some (.int x2)) h)
    (g1 : ∀ x4 : Int32, x4.toInt = 1 → ∀ lv1 : List (Nat × Value), r ≥ 0 → r ≥ 6 → Q (some (.int x4)) h)
    (g2 : ∀ h5 : MH, ∀ H5 : Nat → Nat → Int, H5 = m_u H hp (m_u (H hp) (r).toNat (f)) → ∀ x6 : Int32, x6.toInt = 1 → ∀ lv1 : List (Nat × Value), RX h0 h5 H5 → r ≥ 0 → r < 6 → Q (some (.int x6)) h5)
    : HJ 73 276 lv [.int sx0] h Q := by
  refine hM_si2 (k := 9) rfl (by decide +kernel) rfl (fun lv1 e1_9 u1 => ?_) -- 276
  have e1_0 := u1 0 _ (by decide) (Or.inl rfl) e0
  have e1_1 := u1 1 _ (by decide) (Or.inl rfl) e1
  have e1_2 := u1 2 _ (by decide) (Or.inl rfl) e2
  have e1_3 := u1 3 _ (by decide) (Or.inl rfl) e3
  have e1_5 := u1 5 _ (by decide) (Or.inl rfl) e5
  have e1_6 := u1 6 _ (by decide) (Or.inl rfl) e6
  have e1_7 := u1 7 _ (by decide) (Or.inl rfl) e7
  have e1_8 := u1 8 _ (by decide) (Or.inl rfl) e8
  refine hI_il2 (k := 9) rfl e1_9 rfl ?_ -- 278
  refine hM_zlt (off := 16) (t := 296) rfl sq0 (by decide) rfl (fun c280 => ?_) (fun c280 => ?_) -- 280
  · refine hM_ic (n := 1) rfl (by decide) rfl (fun x2 q2 => ?_) -- 296
    refine hM_rb rfl rfl q2 (by omega) (by omega) ?_ -- 297
    exact g0 x2 q2 lv1 c280
  · refine hI_il2 (k := 9) rfl e1_9 rfl ?_ -- 283
    refine hM_bp (n := 6) rfl (by decide) rfl (fun x3 q3 => ?_) -- 285
    refine hM_cge (off := 9) (t := 296) rfl sq0 q3 (by decide) rfl (fun c287 => ?_) (fun c287 => ?_) -- 287
    · refine hM_ic (n := 1) rfl (by decide) rfl (fun x4 q4 => ?_) -- 296
      refine hM_rb rfl rfl q4 (by omega) (by omega) ?_ -- 297
      exact g1 x4 q4 lv1 c280 c287
    · refine hI_al (k := 1) rfl e1_1 rfl ?_ -- 290
      refine hI_il2 (k := 9) rfl e1_9 rfl ?_ -- 291
      refine hI_il2 (k := 8) rfl e1_8 rfl ?_ -- 293
      refine hR_is M hs0 ha0 sq0 lq8 (by omega) (by omega) rfl rfl (fun h5 H5 f5 M5 => ?_) -- 295
      refine hM_ic (n := 1) rfl (by decide) rfl (fun x6 q6 => ?_) -- 296
      refine hM_rb rfl rfl q6 (by omega) (by omega) ?_ -- 297
      exact g2 h5 H5 f5 x6 q6 lv1 M5 c280 c287
-- the way up
theorem l_lwP {nd hp : Nat} {S : PSt} {O : WKt} {p t k : Int} {n : Nat} {H1 : Nat → Nat → Int} {xt xk xn : Int32} (ok : nx_ok h0 nd) (okO : wk_ok S O) (P : wl_of h0 H1 (h_r h0 nd 4) S O) (w63 : O.1 ≤ 63) (p0 : 0 ≤ p) (p1 : p < (O.1 : Int)) (en : O.2.2.2 p.toNat = (n : Int)) (n5 : n ≤ 5) (qt : xt.toInt = t) (qk : xk.toInt = k) (qn : xn.toInt = (n : Int)) (g : ∀ (lv : List (Nat × Value)) (h' : MH) (H' : Nat → Nat → Int), RX h0 h' H' → (∀ a, a ≠ h_r h0 nd 3 → H' a = H1 a) → (∀ j, j ≤ n → H' (h_r h0 nd 3) j = (lw_y O p n j : Int)) → m_lk lv 0 = some (.ref nd) → m_lk lv 1 = some (.ref hp) → m_lk lv 2 = some (.int xt) → m_lk lv 3 = some (.int xk) → m_lk lv 5 = some (.int xn) → HJ 73 106 lv [] h' Q) : ∀ (e : Nat) (lv : List (Nat × Value)) (h : MH) (H : Nat → Nat → Int) (xp xd : Int32), e ≤ n + 1 → xd.toInt = (e : Int) - 1 → xp.toInt = lw_an O p (n + 1 - e) → RX h0 h H → (∀ a, a ≠ h_r h0 nd 3 → H a = H1 a) → (∀ j, e ≤ j → j ≤ n → H (h_r h0 nd 3) j = (lw_y O p n j : Int)) → m_lk lv 0 = some (.ref nd) → m_lk lv 1 = some (.ref hp) → m_lk lv 2 = some (.int xt) → m_lk lv 3 = some (.int xk) → m_lk lv 4 = some (.int xp) → m_lk lv 5 = some (.int xn) → m_lk lv 6 = some (.int xd) → HJ 73 60 lv [] h Q := by
  obtain ⟨P1, P2⟩ := P
  have w := ok.2.2.2.2.1
  obtain ⟨ka0, kb0, -, kc0⟩ := w.2.1 0 (by decide)
  obtain ⟨ka2, kb2, -, kc2⟩ := w.2.1 2 (by decide)
  have x0 := ok.2.2.2.2.2 0 (by decide)
  have x2 := ok.2.2.2.2.2 2 (by decide)
  have pth := ok.2.2.1.1
  intro e
  induction e with
  | zero =>
    intro lv h H xp xd he qd qp M q1 q2 e0 e1 e2 e3 e4 e5 e6
    have z := lw_anE okO p0 p1 en
    rw [Nat.sub_zero, z] at qp
    exact r_lw60 M e0 e1 e2 qt e3 qk e4 qp e5 qn e6 qd (by omega) (by omega) (by omega) x2.2.2 ok.1.1.1 w.1.1 ka0 kc0 pth.1 pth.2.2 pth.2.1 ka2 kc2 (fun _ => g lv h H M q1 (fun j hj => q2 j (Nat.zero_le _) hj) e0 e1 e2 e3 e5) (fun c => absurd c (by omega)) (fun _ _ _ _ _ _ _ _ _ _ _ _ _ _ _ _ c => absurd c (by omega))
  | succ e ih =>
    intro lv h H xp xd he qd qp M q1 q2 e0 e1 e2 e3 e4 e5 e6
    rw [show n + 1 - (e + 1) = n - e by omega] at qp
    obtain ⟨a0, a1, a2⟩ := lw_anP okO p0 p1 (n - e) (by omega)
    obtain ⟨y1, y2⟩ := lw_yP okO p0 p1 en (d := e) (by omega)
    obtain ⟨c0, -, c2, -⟩ := P2 (lw_an O p (n - e)).toNat (by omega)
    refine r_lw60 M e0 e1 e2 qt e3 qk e4 qp e5 qn e6 qd (by omega) (by omega) (by omega) x2.2.2 ok.1.1.1 w.1.1 ka0 kc0 pth.1 pth.2.2 pth.2.1 ka2 kc2 (fun c => absurd c (by omega)) (fun _ c => absurd c (by omega)) (fun h3 H3 f3 x4 q4 x6 q6 lv6 M3 b0 b1 b2 b3 b4 b5 b6 _ _ => ?_)
    rw [q1 _ x0.2.2, c0, y1, show (((e + 1 : Nat) : Int) - 1).toNat = e by omega] at f3
    rw [q1 _ x2.2.2, c2] at q4
    refine ih lv6 h3 H3 x4 x6 (by omega) (by omega) ?_ M3 (fun a ha => by rw [f3, m_uN _ _ _ _ ha]; exact q1 a ha) (fun j hj hn => ?_) b0 b1 b2 b3 b4 b5 b6
    · rw [q4, show n + 1 - e = (n - e) + 1 by omega]
      rfl
    · rw [f3, m_uE]
      by_cases z : j = e
      · rw [z, m_uE]
      · rw [m_uN _ _ _ _ z]
        exact q2 j (by omega) hn
-- how far it rises
theorem l_lwR {nd hp : Nat} {S : PSt} {t k w : Int} {n : Nat} {y : Nat → Nat} {xt xk xn xw : Int32} (M : RX h0 h H) (ok : nx_ok h0 nd) (nok : nd_ok h0 nd (ps_n S)) (I : cs_of h0 H nd S) (pt : ∀ j, j ≤ n → H (h_r h0 nd 3) j = (y j : Int) ∧ y j < ps_n S) (n5 : n ≤ 5) (t0 : 0 ≤ t) (t1 : t ≤ 127) (qt : xt.toInt = t) (qk : xk.toInt = k) (qn : xn.toInt = (n : Int)) (qw : xw.toInt = w) (ew : w = 128 * k + t) (g : ∀ (lv : List (Nat × Value)) (xe : Int32), xe.toInt = (lw_ri S t k y n : Int) → m_lk lv 0 = some (.ref nd) → m_lk lv 1 = some (.ref hp) → m_lk lv 2 = some (.int xt) → m_lk lv 3 = some (.int xk) → m_lk lv 5 = some (.int xn) → m_lk lv 6 = some (.int xw) → m_lk lv 7 = some (.int xe) → HJ 73 146 lv [] h Q) : ∀ (e : Nat) (lv : List (Nat × Value)) (xe : Int32), e ≤ n → xe.toInt = (e : Int) → lw_ri S t k y n = lw_ri S t k y e → m_lk lv 0 = some (.ref nd) → m_lk lv 1 = some (.ref hp) → m_lk lv 2 = some (.int xt) → m_lk lv 3 = some (.int xk) → m_lk lv 5 = some (.int xn) → m_lk lv 6 = some (.int xw) → m_lk lv 7 = some (.int xe) → HJ 73 117 lv [] h Q := by
  have pth := ok.2.2.1.1
  intro e
  induction e with
  | zero =>
    intro lv xe he qe er e0 e1 e2 e3 e5 e6 e7
    exact r_lw117 M e0 e1 e2 qt e3 qk e5 qn e6 qw e7 qe (by omega) ok.1.1.1 pth.1 pth.2.2 ok.1.1.2.1 (fun _ => g lv xe (by rw [er]; exact qe) e0 e1 e2 e3 e5 e6 e7) (fun _ _ c => absurd c (by omega))
  | succ e ih =>
    intro lv xe he qe er e0 e1 e2 e3 e5 e6 e7
    obtain ⟨p1, p2⟩ := pt e (by omega)
    obtain ⟨-, ct, cy, -⟩ := I.2.2.2.2 (y e) p2
    refine r_lw117 M e0 e1 e2 qt e3 qk e5 qn e6 qw e7 qe (by omega) ok.1.1.1 pth.1 pth.2.2 ok.1.1.2.1 (fun c => absurd c (by omega)) (fun x3 q3 _ => ?_)
    rw [show (((e + 1 : Nat) : Int) - 1).toNat = e by omega, p1] at q3
    refine k_wt M nok I q3 (by omega) (by omega) (fun xz qz => ?_)
    rw [Int.toNat_natCast] at qz
    refine r_lw137 M e0 e1 e2 qt e3 qk e5 qn e6 qw e7 qe qw qz (by omega) (by omega) (fun c => ?_) (fun x1 q1 lv1 a0 a1 a2 a3 a5 a6 a7 c => ?_)
    · refine g lv xe ?_ e0 e1 e2 e3 e5 e6 e7
      rw [er, lw_ri, if_neg (by omega)]
      exact qe
    · refine ih lv1 x1 (by omega) (by omega) ?_ a0 a1 a2 a3 a5 a6 a7
      rw [er, lw_ri, if_pos (by omega)]
-- the nodes of the way made again
theorem l_lwM {nd hp : Nat} {S : PSt} {t k w : Int} {n r : Nat} {y : Nat → Nat} {xt xk xn xw xe xf : Int32} (ok0 : nx_ok h0 nd) (sh : ps_sh S) (hy : ∀ j, j ≤ n → y j < ps_n S) (n5 : n ≤ 5) (cap : ps_n S + 6 ≤ 16000) (t0 : 0 ≤ t) (t1 : t ≤ 127) (k0 : 0 ≤ k) (k1 : k ≤ 99) (qt : xt.toInt = t) (qk : xk.toInt = k) (qn : xn.toInt = (n : Int)) (qw : xw.toInt = w) (ew : w = 128 * k + t) (qe : xe.toInt = (r : Int)) (qf : xf.toInt = (ps_n S : Int)) (g : ∀ (lv : List (Nat × Value)) (h' : MH) (xd : Int32), nl_ok h' nd → cs_of h' (z_i h') nd (lw_mk S t k y n r (n + 1)) → (∀ j, j ≤ n → z_i h' (h_r h0 nd 3) j = (y j : Int)) → FX nd (fun _ => False) h0 h' → m_lk lv 0 = some (.ref nd) → m_lk lv 1 = some (.ref hp) → m_lk lv 2 = some (.int xt) → m_lk lv 3 = some (.int xk) → m_lk lv 5 = some (.int xn) → m_lk lv 6 = some (.int xw) → m_lk lv 7 = some (.int xe) → m_lk lv 8 = some (.int xf) → m_lk lv 9 = some (.int xd) → HJ 73 266 lv [] h' Q) : ∀ (e d : Nat) (lv : List (Nat × Value)) (h : MH) (xd : Int32), d + e = n + 1 → xd.toInt = (d : Int) → nl_ok h nd → cs_of h (z_i h) nd (lw_mk S t k y n r d) → (∀ j, j ≤ n → z_i h (h_r h0 nd 3) j = (y j : Int)) → FX nd (fun _ => False) h0 h → m_lk lv 0 = some (.ref nd) → m_lk lv 1 = some (.ref hp) → m_lk lv 2 = some (.int xt) → m_lk lv 3 = some (.int xk) → m_lk lv 5 = some (.int xn) → m_lk lv 6 = some (.int xw) → m_lk lv 7 = some (.int xe) → m_lk lv 8 = some (.int xf) → m_lk lv 9 = some (.int xd) → HJ 73 155 lv [] h Q := by
  intro e
  induction e with
  | zero =>
    intro d lv h xd hd qd ok I pt F e0 e1 e2 e3 e5 e6 e7 e8 e9
    have dn : d = n + 1 := by omega
    subst dn
    obtain ⟨-, r3, -, -⟩ := nx_r ok0 F
    have pth := (ap_FX ok0.2.2.1 F).1
    exact r_lw155 (RX.start h) e0 e1 e2 qt e3 qk e5 qn e6 qw e7 qe e8 qf e9 qd (by omega) (by omega) (by omega) ok.1.1 (by rw [r3]; exact pth.1) (by rw [r3]; exact pth.2.2) ok.1.2.1 (fun _ => g lv h xd ok I pt F e0 e1 e2 e3 e5 e6 e7 e8 e9) (fun _ _ _ _ c => absurd c (by omega)) (fun _ _ _ _ c => absurd c (by omega)) (fun _ _ c => absurd c (by omega))
  | succ e ih =>
    intro d lv h xd hd qd ok I pt F e0 e1 e2 e3 e5 e6 e7 e8 e9
    obtain ⟨-, r3, -, -⟩ := nx_r ok0 F
    have pth := (ap_FX ok0.2.2.1 F).1
    obtain ⟨⟨v1, v2⟩, v3, v4⟩ := lw_mkV (S := S) (t := t) (k := k) (y := y) (n := n) (e := r) d
    have nok := nl_nd ok I.1
    have M := RX.start h
    have yd := hy d (by omega)
    obtain ⟨b1, b2, b3, b4⟩ := v3 (y d) yd
    have P3 : ∀ j, j ≤ n → (h_i h (h_r h nd 3) j).toInt = (y j : Int) := fun j hj => by rw [r3]; exact pt j hj
    have kd := sh (y d) yd
    -- one node made again, its child on the way set
    have mk : ∀ (xv xz : Int32) (ty tt : Int), xv.toInt = (y d : Int) → xz.toInt = 128 * ty + tt → 0 ≤ tt → tt ≤ 127 → 0 ≤ ty → ty ≤ 99 → tt = (if d = r then t else ps_t S (y (if r < d then d - 1 else d))) → ty = (if d = r then k else ps_y S (y (if r < d then d - 1 else d))) → HJ 79 0 (lv_args 0 [.ref nd, .int xv, .int xz]) [] h (fun v h' => HJ 73 210 lv (v.toList ++ []) h' Q) := fun xv xz ty tt qv qz u0 u1 u2 u3 et ey => by
      refine k_remake ok I (by rw [v1]; omega) qv (by omega) (by rw [v1]; omega) qz u0 u1 u2 u3 (fun h1 ok1 I1 F1 => ?_)
      rw [Int.toNat_natCast, b3] at I1
      have F01 := F.trans F1
      obtain ⟨-, r31, -, -⟩ := nx_r ok0 F01
      have pth1 := (ap_FX ok0.2.2.1 F01).1
      have P1 : ∀ j, j ≤ n → z_i h1 (h_r h1 nd 3) j = (y j : Int) := fun j hj => by
        rw [r31, ap_kp ok (ap_FX ok0.2.2.1 F) (fun z => z) F1 j]
        exact pt j hj
      have M1 := RX.start h1
      have nok1 := nl_nd ok1 I1.1
      have n1 : ps_n (ps_mk (lw_mk S t k y n r d) tt ty (ps_k S (y d)) (fun r_1 => ps_b (lw_mk S t k y n r d) (6 * y d + r_1))) = ps_n S + d + 1 := by
        show ps_n (lw_mk S t k y n r d) + 1 = _
        rw [v1]
      have k1_ : ∀ j, j ≤ n → ps_k (ps_mk (lw_mk S t k y n r d) tt ty (ps_k S (y d)) (fun r_1 => ps_b (lw_mk S t k y n r d) (6 * y d + r_1))) (y j) = ps_k S (y j) := fun j hj => by
        show m_u (ps_k (lw_mk S t k y n r d)) (ps_n (lw_mk S t k y n r d)) (ps_k S (y d)) (y j) = _
        have := hy j hj
        rw [m_uN _ _ _ _ (by rw [v1]; omega)]
        exact (v3 _ this).2.2.1
      have fin : ∀ (h2 : MH) (lv2 : List (Nat × Value)), nl_ok h2 nd → cs_of h2 (z_i h2) nd (lw_mk S t k y n r (d + 1)) → (∀ j, j ≤ n → z_i h2 (h_r h0 nd 3) j = (y j : Int)) → FX nd (fun _ => False) h0 h2 → HJ 73 260 lv [] h2 Q := fun h2 _ ok2 I2 pt2 F2 => r_lw260 (RX.start h2) e0 e1 e2 qt e3 qk e5 qn e6 qw e7 qe e8 qf e9 qd (by omega) (by omega) (fun x1 q1 lv1 a0 a1 a2 a3 a5 a6 a7 a8 a9 => ih (d + 1) lv1 h2 x1 (by omega) (by omega) ok2 I2 pt2 F2 a0 a1 a2 a3 a5 a6 a7 a8 a9)
      have eS : lw_mk S t k y n r (d + 1) = ps_mk (lw_mk S t k y n r d) tt ty (ps_k S (y d)) (fun r => if d < n ∧ (r : Int) = ps_k S (y (d + 1)) then ((ps_n S + d + 1 : Nat) : Int) else ps_b S (6 * y d + r)) := by rw [lw_mk, et, ey]
      have pt1 : ∀ j, j ≤ n → z_i h1 (h_r h0 nd 3) j = (y j : Int) := fun j hj => by rw [← r31]; exact P1 j hj
      have same : (∀ q : Nat, (q : Int) < ps_k S (y d) → ¬ (d < n ∧ (q : Int) = ps_k S (y (d + 1)))) → cs_of h1 (z_i h1) nd (lw_mk S t k y n r (d + 1)) := fun z => by
        rw [eS]
        refine cs_fe I1 (fun q hq => ?_)
        rw [if_neg (z q hq)]
        exact (b4 q (by omega)).symm
      refine r_lw210 M1 e0 e1 e2 qt e3 qk e5 qn e6 qw e7 qe e8 qf e9 qd (by omega) (by omega) (by omega) (by omega) ok1.1.1 (by rw [r31]; exact pth1.1) (by rw [r31]; exact pth1.2.2) ok1.1.2.1 (fun c => fin h1 lv ok1 (same (fun q _ z => by omega)) pt1 F01) (fun x1 q1 x2 q2 c => ?_)
      have q2 : x2.toInt = (y d : Int) := by
        rw [q2, Int.toNat_natCast]
        exact P1 d (by omega)
      refine k_rk M1 nok1 I1 q2 (by omega) (by rw [n1]; omega) (fun xa qa => ?_)
      rw [Int.toNat_natCast, k1_ d (by omega)] at qa
      refine r_lw234 M1 e0 e1 e2 qt e3 qk e5 qn e6 qw e7 qe e8 qf e9 qd q1 qa (by omega) (by omega) kd.1.1 kd.1.2 ok1.1.1 (by rw [r31]; exact pth1.1) (by rw [r31]; exact pth1.2.2) ok1.1.2.1 (fun x3 q3 x5 q5 => ?_)
      have q5 : x5.toInt = (y (d + 1) : Int) := by
        rw [q5, show ((d : Int) + 1).toNat = d + 1 by omega]
        exact P1 (d + 1) (by omega)
      have yd1 := hy (d + 1) (by omega)
      have kd1 := (sh (y (d + 1)) yd1).1
      refine k_rk M1 nok1 I1 q5 (by omega) (by rw [n1]; omega) (fun xb qb => ?_)
      rw [Int.toNat_natCast, k1_ (d + 1) (by omega)] at qb
      refine r_lw249 M1 e0 e1 e2 qt e3 qk e5 qn e6 qw e7 qe e8 qf e9 qd q1 q3 qb (by omega) (by omega) (by omega) (by omega) kd1.1 kd1.2 (by omega) (by omega) ok1.1.2.1 ok1.1.1 (fun x6 q6 x7 q7 => ?_)
      by_cases lt : ps_k S (y (d + 1)) < ps_k S (y d)
      · have i5 : z_i h1 nd 5 = ((ps_n S + d + 1 : Nat) : Int) := I1.1.trans (by rw [n1])
        have nok2 : nd_ok h1 nd ((fun a j => (h_i h1 a j).toInt) nd 5).toNat := nl_nd ok1 (by show z_i h1 nd 5 = ((z_i h1 nd 5).toNat : Int); omega)
        have i5' : (h_i h1 nd 5).toInt = ((ps_n S + d + 1 : Nat) : Int) := i5
        refine k_sc M1 nok2 (by omega) (by omega) q1 q6 q7 (by omega) (by omega) (by omega) (by omega) (fun h2 H2 f2 M2 => ?_)
        have ix : 7 * ((ps_n S : Int) + (d : Int)).toNat + 2 + (ps_k S (y d) - 1 - ps_k S (y (d + 1))).toNat = 7 * ps_n (lw_mk S t k y n r d) + 2 + ((ps_k S (y d)).toNat - 1 - (ps_k S (y (d + 1))).toNat) := by rw [v1]; omega
        rw [ix] at f2
        have nC : nd ≠ h_r h1 nd 0 := fun z => by have a := ok1.1.1; have b := ok1.2.1.1; rw [← z] at b; omega
        have I2 : cs_of h1 H2 nd (lw_mk S t k y n r (d + 1)) := by
          rw [eS]
          refine cs_sc (q := (ps_k S (y (d + 1))).toNat) I1 (by omega) nC f2 (fun q hq => ?_)
          by_cases z : q = (ps_k S (y (d + 1))).toNat
          · rw [if_pos z, if_pos ⟨by omega, by omega⟩]
            omega
          · rw [if_neg z, if_neg (fun w => by omega)]
            exact (b4 q (by omega)).symm
        have r2 : h_r h2 nd 0 = h_r h1 nd 0 := by rw [M2.2.2.1.1]
        have I3 : cs_of h2 (z_i h2) nd (lw_mk S t k y n r (d + 1)) := cs_mv I2 (M2.zi nd 5) (M2.zi nd 6) (fun q _ => by rw [r2]; exact M2.zi _ _)
        have F2 : FX nd (fun _ => False) h1 h2 := FX.ofRX M2 (by rw [f2, m_uN _ _ _ _ nC]; rfl) (fun a ha j => by
          rw [f2, m_uN _ _ _ _ (fun z => ha (Or.inr (Or.inl z)))]
          rfl)
        have ok2 : nl_ok h2 nd := nl_RX ok1 M2 (by rw [f2, m_uN _ _ _ _ nC]; rfl)
        exact fin h2 lv ok2 I3 (fun j hj => by rw [ap_kp ok1 (ap_FX ok0.2.2.1 F01) (fun z => z) F2 j]; exact pt1 j hj) (F01.trans F2)
      · refine r_sc M1 rfl rfl q1 rfl q6 rfl q7 (by have := I1.1; rw [n1] at this; show 0 ≤ z_i h1 nd 5; omega) (by have := I1.1; rw [n1] at this; show z_i h1 nd 5 ≤ 16000; omega) ok1.1.1 ok1.2.1.1 (by have := nok1.2.2; rw [n1] at this; have e := I1.1; rw [n1] at e; show 7 * z_i h1 nd 5 ≤ _; omega) ok1.2.1.2.1 (fun c => absurd c (by omega)) (fun _ c => absurd c (by have := I1.1; rw [n1] at this; show ¬ (_ ≥ z_i h1 nd 5); omega)) (fun _ _ _ => fin h1 lv ok1 (same (fun q hq z => by omega)) pt1 F01) (fun _ _ c => absurd c (by omega)) (fun _ _ _ _ _ _ c => absurd c (by omega))
    have T := I.2.2.2.2 (y d) (by rw [v1]; omega)
    have wt : ∀ j, j ≤ n → (0 ≤ ps_t S (y j) ∧ ps_t S (y j) ≤ 127) ∧ (0 ≤ ps_y S (y j) ∧ ps_y S (y j) ≤ 99) := fun j hj => by
      have h1 := hy j hj
      obtain ⟨-, a, b, -⟩ := I.2.2.2.2 (y j) (by rw [v1]; omega)
      rw [(v3 _ h1).1] at a
      rw [(v3 _ h1).2.1] at b
      exact ⟨a, b⟩
    refine r_lw155 M e0 e1 e2 qt e3 qk e5 qn e6 qw e7 qe e8 qf e9 qd (by omega) (by omega) (by omega) ok.1.1 (by rw [r3]; exact pth.1) (by rw [r3]; exact pth.2.2) ok.1.2.1 (fun c => absurd c (by omega)) (fun x1 q1 x2 q2 _ c1 c2 => ?_) (fun x1 q1 x5 q5 _ c1 c2 => ?_) (fun x1 q1 _ c1 => ?_)
    · rw [Int.toNat_natCast, P3 d (by omega)] at q1 q2
      refine k_wt M nok I q2 (by omega) (by rw [v1]; omega) (fun xz qz => ?_)
      rw [Int.toNat_natCast, b1, b2] at qz
      obtain ⟨w1, w2⟩ := wt d (by omega)
      exact r_lw207 M e0 e1 e2 qt e3 qk e5 qn e6 qw e7 qe e8 qf e9 qd q1 qz ok.1.2.1 ok.1.1 (mk x1 xz _ _ q1 qz w1.1 w1.2 w2.1 w2.2 (by rw [if_neg (by omega), if_neg (by omega)]) (by rw [if_neg (by omega), if_neg (by omega)]))
    · rw [Int.toNat_natCast, P3 d (by omega)] at q1
      rw [show ((d : Int) - 1).toNat = d - 1 by omega, P3 (d - 1) (by omega)] at q5
      have yd' := hy (d - 1) (by omega)
      refine k_wt M nok I q5 (by omega) (by rw [v1]; omega) (fun xz qz => ?_)
      rw [Int.toNat_natCast, (v3 _ yd').1, (v3 _ yd').2.1] at qz
      obtain ⟨w1, w2⟩ := wt (d - 1) (by omega)
      exact r_lw207 M e0 e1 e2 qt e3 qk e5 qn e6 qw e7 qe e8 qf e9 qd q1 qz ok.1.2.1 ok.1.1 (mk x1 xz _ _ q1 qz w1.1 w1.2 w2.1 w2.2 (by rw [if_neg (by omega), if_pos (by omega)]) (by rw [if_neg (by omega), if_pos (by omega)]))
    · rw [Int.toNat_natCast, P3 d (by omega)] at q1
      exact mk x1 xw k t q1 (by rw [qw]; exact ew) t0 t1 k0 k1 (by rw [if_pos (by omega)]) (by rw [if_pos (by omega)])
theorem lw_Yr {h0 : MH} {nd hp : Nat} (ok : nx_ok h0 nd) (hx : hx_ok h0 nd hp) : (nd ≠ h_r h0 nd 4 ∧ ∀ k, k < 7 → nd ≠ h_r h0 (h_r h0 nd 4) k) ∧ (h_r h0 nd 0 ≠ h_r h0 nd 4 ∧ ∀ k, k < 7 → h_r h0 nd 0 ≠ h_r h0 (h_r h0 nd 4) k) ∧ (hp ≠ h_r h0 nd 4 ∧ ∀ k, k < 7 → hp ≠ h_r h0 (h_r h0 nd 4) k) := by
  obtain ⟨a, b, c, d⟩ := nx_tr ok
  have w := ok.2.2.2.2.1
  refine ⟨⟨Ne.symm a, fun k hk z => ?_⟩, ⟨Ne.symm b, fun k hk z => (ok.2.2.2.2.2 k hk).1 z.symm⟩, ⟨fun z => ?_, hx.2.2.2⟩⟩
  · have u := (w.2.1 k hk).1
    rw [← z, ok.1.1.1] at u
    omega
  · have u := w.1.1
    rw [← z, hx.1.1.1] at u
    omega
theorem k_lower {nd hp : Nat} {S : PSt} {f : Nat → Int} {t k : Int} {xt xk : Int32} (ok : nx_ok h nd) (hx : hx_ok h nd hp) (I : cs_of h (z_i h) nd S) (ef : hp6 (z_i h hp) f) (sh : ps_sh S) (hf : hp_in S f) (cap : ps_n S + 6 ≤ 16000) (qt : xt.toInt = t) (qk : xk.toInt = k) (k0 : 0 ≤ k) (g : ∀ (x : Int32) (h' : MH), (x.toInt = 0 ∧ lw_do S f t k = none ∧ cs_of h' (z_i h') nd S ∧ hp6 (z_i h' hp) f) ∨ (x.toInt = 1 ∧ ∃ X, lw_do S f t k = some X ∧ cs_of h' (z_i h') nd X.1 ∧ hp6 (z_i h' hp) X.2) → nl_ok h' nd → FX nd (lw_Y h nd hp) h h' → Q (some (.int x)) h') : HJ 73 0 (lv_args 0 [.ref nd, .ref hp, .int xt, .int xk]) [] h Q := by
  have w := ok.2.2.2.2.1
  obtain ⟨⟨nw, nwk⟩, ⟨cw, cwk⟩, hw_⟩ := lw_Yr ok hx
  obtain ⟨okO, wO⟩ := wk_allI sh hf
  have L := p_wsL (f := f) 6
  have e6 : (2 : Nat) ^ 6 = 64 := by decide
  rw [e6] at L
  have nok := nl_nd ok.1 I.1
  have M := RX.start h
  refine r_lw0 M rfl rfl rfl qt rfl qk ok.1.1.1 w.1.2.1 w.1.1 ?_
  refine k_look M w nok I ⟨nw, nwk⟩ ⟨cw, cwk⟩ hx.1.1 hw_ ef sh hf (fun h1 H1 M1 fr P => ?_)
  have I1 : cs_of h H1 nd S := cs_mv (h1 := h) I (by rw [fr nd nw nwk]; rfl) (by rw [fr nd nw nwk]; rfl) (fun q _ => by rw [fr _ cw cwk]; rfl)
  have cut1 : ∀ {h2 : MH} {H2 : Nat → Nat → Int}, RX h h2 H2 → (∀ a, a ≠ h_r h nd 3 → H2 a = H1 a) → nl_ok h2 nd ∧ cs_of h2 (z_i h2) nd S ∧ hp6 (z_i h2 hp) f ∧ FX nd (lw_Y h nd hp) h h2 := fun {h2 H2} M2 e2 => by
    have p0 := nl_ap ok.1 ok.2.2.1.1.1 ok.2.2.1.2.2
    have r2 : h_r h2 nd 0 = h_r h nd 0 := by rw [M2.2.2.1.1]
    refine ⟨nl_RX ok.1 M2 (by rw [e2 nd (Ne.symm p0.1), fr nd nw nwk]; rfl), cs_mv I1 (by rw [M2.zi, e2 nd (Ne.symm p0.1)]) (by rw [M2.zi, e2 nd (Ne.symm p0.1)]) (fun q _ => by rw [r2, M2.zi, e2 _ (Ne.symm p0.2.1)]), fun q hq => ?_, FX.ofRX M2 (by rw [e2 nd (Ne.symm p0.1), fr nd nw nwk]; rfl) (fun a ha j => ?_)⟩
    · rw [M2.zi, e2 hp hx.2.2.1, fr hp hw_.1 hw_.2]
      exact ef q hq
    · have na : ¬ lw_Y h nd hp a := fun z => ha (Or.inr (Or.inr (Or.inr z)))
      rw [e2 a (fun z => na (Or.inr (Or.inl z))), fr a (fun z => na (Or.inr (Or.inr (Or.inl z)))) (fun k hk z => na (Or.inr (Or.inr (Or.inr ⟨k, hk, z⟩))))]
      rfl
  refine r_lw9 M1 rfl rfl rfl qt rfl qk ok.1.1.1 w.1.2.1 w.1.1 ?_
  refine k_fnb M1 w P (fun i hi => ?_) (by omega) qt qk (fun xp qp => ?_)
  · have := okO i hi
    obtain ⟨-, a, b, -⟩ := I.2.2.2.2 ((wk_all S f).2.1 i).toNat (by omega)
    exact ⟨a, b.1⟩
  obtain ⟨kd3, -, -, ld3⟩ := w.2.1 3 (by decide)
  by_cases c : lw_f S t k (wk_all S f) (wk_all S f).1 0 = -1
  · refine r_lw18 M1 rfl rfl rfl qt rfl qk qp (by omega) (by omega) ok.1.1.1 w.1.1 kd3 ld3 (fun _ _ _ z _ => absurd c z) (fun _ _ _ _ _ _ _ _ _ _ z _ _ => absurd c z) (fun _ _ _ z _ _ => absurd c z) (fun x11 q11 _ _ => ?_)
    obtain ⟨o1, i1, e1, f1⟩ := cut1 M1 (fun _ _ => rfl)
    exact g x11 h1 (Or.inl ⟨q11, lw_do0 c, i1, e1⟩) o1 f1
  · obtain ⟨p0, p1, pt, pk⟩ := lw_fP c
    have p0 : 0 ≤ lw_f S t k (wk_all S f) (wk_all S f).1 0 := by omega
    have p1 : lw_f S t k (wk_all S f) (wk_all S f).1 0 < ((wk_all S f).1 : Int) := by omega
    obtain ⟨⟨ra, rb⟩, -, D⟩ := okO (lw_f S t k (wk_all S f) (wk_all S f).1 0).toNat (by omega)
    have kk := (sh ((wk_all S f).2.1 (lw_f S t k (wk_all S f) (wk_all S f).1 0).toNat).toNat (by omega)).1
    obtain ⟨-, tt, yy, -⟩ := I.2.2.2.2 ((wk_all S f).2.1 (lw_f S t k (wk_all S f) (wk_all S f).1 0).toNat).toNat (by omega)
    rw [pt] at tt
    obtain ⟨n, en⟩ : ∃ n : Nat, (wk_all S f).2.2.2 (lw_f S t k (wk_all S f) (wk_all S f).1 0).toNat = (n : Int) := ⟨((wk_all S f).2.2.2 (lw_f S t k (wk_all S f) (wk_all S f).1 0).toNat).toNat, by omega⟩
    have n5 : n ≤ 5 := by omega
    have Hd : H1 (h_r h (h_r h nd 4) 3) (lw_f S t k (wk_all S f) (wk_all S f).1 0).toNat = (n : Int) := by rw [(P.2 _ (by omega)).2.2.2]; exact en
    have eDo := lw_do1 (S := S) (h := f) (t := t) (k := k) (n := n) rfl c (by rw [en]; exact Int.toNat_natCast n) rfl
    have hy : ∀ j, j ≤ n → lw_y (wk_all S f) (lw_f S t k (wk_all S f) (wk_all S f).1 0) n j < ps_n S := fun j hj => (lw_yP okO p0 p1 en hj).2
    generalize hp_ : lw_f S t k (wk_all S f) (wk_all S f).1 0 = p at *
    generalize hyy : lw_y (wk_all S f) p n = y at *
    refine r_lw18 M1 rfl rfl rfl qt rfl qk qp (by omega) (by omega) ok.1.1.1 w.1.1 kd3 ld3 (fun _ _ _ _ z => by omega) (fun x3 q3 lv7 e0 e1 e2 e3 e4 e5 e6 _ _ _ => ?_) (fun _ _ _ _ _ z => by omega) (fun _ _ _ z => absurd z c)
    have q3 : x3.toInt = (n : Int) := q3.trans Hd
    refine l_lwP (O := wk_all S f) (p := p) ok okO P (by omega) p0 p1 en n5 qt qk q3 (fun lvA hA HA MA qa1 qa2 a0 a1 a2 a3 a5 => ?_) (n + 1) lv7 h1 H1 xp x3 (Nat.le_refl _) (by omega) (by rw [Nat.sub_self]; exact qp) M1 (fun _ _ => rfl) (fun j h1 h2 => by omega) e0 e1 e2 e3 e4 e5 e6
    rw [hyy] at qa2
    obtain ⟨okA, IA, eA, FA⟩ := cut1 MA qa1
    refine r_lw106 MA a0 a1 a2 qt a3 qk a5 q3 ?_
    refine k_weigh qt qk tt.1 tt.2 k0 (by omega) (fun xw qw => ?_)
    refine r_lw111 MA a0 a1 a2 qt a3 qk a5 q3 qw (fun lvB b0 b1 b2 b3 b5 b6 b7 => ?_)
    have JA : cs_of h HA nd S := by
      have p0 := nl_ap ok.1 ok.2.2.1.1.1 ok.2.2.1.2.2
      exact cs_mv (h1 := h) I1 (by rw [qa1 nd (Ne.symm p0.1)]) (by rw [qa1 nd (Ne.symm p0.1)]) (fun q _ => by rw [qa1 _ (Ne.symm p0.2.1)])
    refine l_lwR (w := 128 * k + t) MA ok nok JA (fun j hj => ⟨qa2 j hj, hy j hj⟩) n5 tt.1 tt.2 qt qk q3 qw rfl (fun lvC xe qe c0 c1 c2 c3 c5 c6 c7 => ?_) n lvB x3 (Nat.le_refl _) q3 rfl b0 b1 b2 b3 b5 b6 b7
    refine r_lw146 MA c0 c1 c2 qt c3 qk c5 q3 c6 qw c7 qe ok.1.1.1 (fun xf qf xd qd lvD d0 d1 d2 d3 d5 d6 d7 d8 d9 => ?_)
    have qf : xf.toInt = (ps_n S : Int) := qf.trans JA.1
    have nxA := nx_FX ok okA FA
    obtain ⟨-, r3A, -, -⟩ := nx_r ok FA
    refine l_lwM (w := 128 * k + t) (r := lw_ri S t k y n) (y := y) nxA sh hy n5 cap tt.1 tt.2 k0 (by omega) qt qk q3 qw rfl qe qf (fun lvE hE xd' okE IE ptE FE s0 s1 s2 s3 s5 s6 s7 s8 s9 => ?_) (n + 1) 0 lvD hA xd (by omega) qd okA IA (fun j hj => by rw [r3A, MA.zi]; exact qa2 j hj) FX.same d0 d1 d2 d3 d5 d6 d7 d8 d9
    have nxE := nx_FX nxA okE FE
    have hxE := hx_FX nxA (hx_FX ok hx FA) FE
    obtain ⟨-, r3E, -, -⟩ := nx_r nxA FE
    have ME := RX.start hE
    have nokE := nl_nd okE IE.1
    obtain ⟨⟨v1, -⟩, v3, -⟩ := lw_mkV (S := S) (t := t) (k := k) (y := y) (n := n) (e := lw_ri S t k y n) (n + 1)
    have pthE := nxE.2.2.1.1
    refine r_lw266 ME s0 s1 s2 qt s3 qk s5 q3 s6 qw s7 qe s8 qf s9 rfl okE.1.1 pthE.1 pthE.2.2 okE.1.2.1 (fun xr qr => ?_)
    have y0 := hy 0 (Nat.zero_le _)
    have qr : xr.toInt = (y 0 : Int) := qr.trans (by rw [r3E]; exact ptE 0 (Nat.zero_le _))
    refine k_rk ME nokE IE qr (by omega) (by rw [v1]; omega) (fun xk0 qk0 => ?_)
    rw [Int.toNat_natCast, (v3 _ y0).2.2.1] at qk0
    have kr := (sh (y 0) y0).1
    refine r_lw276 ME s0 s1 s2 qt s3 qk s5 q3 s6 qw s7 qe s8 qf s9 rfl qk0 hxE.1.1.1 hxE.1.1.2.2 hxE.1.1.2.1 (fun _ _ _ z => absurd z (by omega)) (fun _ _ _ _ z => absurd z (by omega)) (fun h5 H5 f5 x6 q6 _ M5 _ _ => ?_)
    obtain ⟨ok5, I5⟩ := st_cs M5 f5 okE hxE.1 IE
    have eE : hp6 (z_i hE hp) f := fun q hq => by
      rw [ap_kp okA (hx_FX ok hx FA).1 (fun z => z) FE q]
      exact eA q hq
    refine g x6 h5 (Or.inr ⟨q6, _, eDo, I5, st_hp M5 f5 eE⟩) ok5 ((FA.trans (FE.mono (fun _ z => z.elim))).trans ((st_FX (Ne.symm (nl_ap okE hxE.1.1.1 hxE.1.2.2).1) M5 f5).mono (fun a z => Or.inl z)))
end
