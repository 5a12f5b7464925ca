-- THE ACTS OF A ROW, ONE AFTER THE OTHER
theorem ac_FX {h h' : MH} {pa ac : Nat} {T : Nat → Int} {N : Nat} (ok : pa_ok h pa) (o' : nl_ok h' (h_r h pa 0)) (F : FX (h_r h pa 0) (run_Y h pa) h h') (ao : ac_ok h pa ac) (A : ac_of (z_i h) ac (h_r h ac 0) (h_r h ac 1) T N) : ac_ok h' pa ac ∧ ac_of (z_i h') ac (h_r h' ac 0) (h_r h' ac 1) T N := by
  obtain ⟨okp, re, rw_⟩ := pa_FX ok o' F
  obtain ⟨⟨a1, a2, a3⟩, ⟨b1, b2, b3⟩, ⟨c1, c2, c3⟩, d⟩ := ao
  have n := F.1
  have acn : ac ≠ h_r h pa 0 := fun z => by rw [z, ok.2.1.1.1] at a1; omega
  have R : ∀ k, h_r h' ac k = h_r h ac k := fun k => (F.2.2 ac a3).2.1 k (fun z => acn z.1)
  have kd : ∀ {x : Nat}, x < 16 + h_n h → h_k h' x = h_k h x := fun {x} hx => (F.2.2 x hx).1
  have row : ∀ q, q < 16 + h_n h → (h_k h q).1 = 20 → (∀ i, i < 59 → q ≠ pa_w h pa i) → ∀ j, z_i h' q j = z_i h q j := fun q ql qk qw => by
    refine (F.kp ql (fun z => ?_) (qw 11 (by decide)) (fun z => ?_) (fun z => ?_)).2.1
    · rw [z, ok.2.1.1.1] at qk
      omega
    · rw [z, ok.2.1.2.2.1.1] at qk
      omega
    · rcases z with z | z | ⟨i, hi, z⟩ | z
      · rw [z, ok.1.1] at qk
        omega
      · rw [z, ok.2.2.1.1] at qk
        omega
      · exact qw i hi z
      · rw [z, ok.2.2.2.2.2.1.1] at qk
        omega
  have az : ∀ j, z_i h' ac j = z_i h ac j := by
    refine (F.kp a3 acn (fun z => ?_) (fun z => ?_) (fun z => ?_)).2.1
    · rw [z, ok.2.1.2.1.1] at a1
      omega
    · rw [z, ok.2.1.2.2.1.1] at a1
      omega
    · rcases z with z | z | ⟨i, hi, z⟩ | z
      · rw [z, ok.1.1] at a1
        omega
      · rw [z, ok.2.2.1.1] at a1
        omega
      · have u := (ok.2.2.2.2.2.2.1 i hi).1
        rw [← z, a1] at u
        omega
      · rw [z, ok.2.2.2.2.2.1.1] at a1
        omega
  have w11 : pa_w h' pa 11 = pa_w h pa 11 ∨ 16 + h_n h ≤ pa_w h' pa 11 := by
    have e : pa_w h' pa 11 = h_r h' (h_r h pa 0) 0 := by
      show h_r h' (h_r h' pa 0) 0 = _
      rw [re]
    rw [e]
    exact F.2.1.1 0 (by decide)
  unfold ac_ok ac_of
  rw [R, R, kd a3, kd b2, kd c2, az]
  refine ⟨⟨⟨a1, a2, by omega⟩, ⟨b1, by omega, b3⟩, ⟨c1, by omega, c3⟩, fun i hi => ?_⟩, A.1, fun k hk => ⟨?_, fun i hi => ?_⟩⟩
  · by_cases e : i = 11
    · subst e
      obtain ⟨d1, d2⟩ := d 11 (by decide)
      rcases w11 with z | z
      · rw [z]
        exact ⟨d1, d2⟩
      · exact ⟨by omega, by omega⟩
    · rw [rw_ i hi e]
      exact d i hi
  · rw [row _ b2 b1 (fun i hi => (d i hi).1)]
    exact (A.2 k hk).1
  · rw [row _ c2 c1 (fun i hi => (d i hi).2)]
    exact (A.2 k hk).2 i hi
theorem FX.run2 {h h1 h2 : MH} {pa : Nat} (ok : pa_ok h pa) (o1 : nl_ok h1 (h_r h pa 0)) (a : FX (h_r h pa 0) (run_Y h pa) h h1) (b : FX (h_r h pa 0) (run_Y h1 pa) h1 h2) : FX (h_r h pa 0) (run_Y h pa) h h2 := a.trans2 b (fun _ hq z => run_Ye ok o1 a hq z)
section
variable {lv : List (Nat × Value)} {Q : Option Value → MH → Prop} {h0 h : MH} {H : Nat → Nat → Int}
theorem k_keepA {pa ac k N : Nat} {T : Nat → Int} {Y : RYt} {X : PSt × (Nat → Int) × Int} {b : Int} {xk xn : Int32} (ok : pa_ok h pa) (ao : ac_ok h pa ac) (A : ac_of (z_i h) ac (h_r h ac 0) (h_r h ac 1) T N) (N40 : N ≤ 40) (hk : k < N) (bk : bk_of h pa Y) (O : ry_ok Y k) (eX : ry_do (ry_z Y) (T (4 * k)) (T (4 * k + 1)) (T (4 * k + 2)) b = some X) (w0 : T (4 * k) = 0 → T (4 * k + 1) = -1) (I : cs_of h (z_i h) (h_r h pa 0) X.1) (eh : hp6 (z_i h (h_r h pa 7)) X.2.1) (et : z_i h pa 12 = X.2.2) (qk : xk.toInt = (k : Int)) (qn : xn.toInt = (ps_n (ry_s Y) : Int)) (g : ∀ h' : MH, nl_ok h' (h_r h pa 0) → pk_of h' pa (ry_kp (ry_z Y) k (T (4 * k)) (T (4 * k + 1)) (T (4 * k + 2)) X) → FX (h_r h pa 0) (run_Y h pa) h h' → Q none h') : HJ 81 0 (lv_args 0 [.ref pa, .ref ac, .int xk, .int xn]) [] h Q := by
  have M := RX.start h
  have O' := ry_okS O eX w0
  have nX : ps_n (ry_s Y) ≤ ps_n X.1 := (ry_doI (Y := ry_z Y) O.1.1 O.1.2 eX).2.1.1.1
  have vk := O.2.1.1
  have pp := O'.2.2 (ry_v Y) (by show ry_v Y < ry_v Y + 1; omega)
  have pa' : ry_a (ry_kp (ry_z Y) k (T (4 * k)) (T (4 * k + 1)) (T (4 * k + 2)) X) (ry_v Y) = (if T (4 * k) = 0 then -1 else T (4 * k + 1)) := m_uE _ _ _
  have pb' : ry_b (ry_kp (ry_z Y) k (T (4 * k)) (T (4 * k + 1)) (T (4 * k + 2)) X) (ry_v Y) = (if T (4 * k) = 2 then T (4 * k + 2) else -1) := m_uE _ _ _
  rw [pa', pb'] at pp
  have ev : T (4 * k + 1) = (if T (4 * k) = 0 then -1 else T (4 * k + 1)) := by
    by_cases c : T (4 * k) = 0
    · rw [if_pos c]
      exact w0 c
    · rw [if_neg c]
  rw [← ev] at pp
  have A' : ac_of (fun a j => (h_i h a j).toInt) ac (h_r h ac 0) (h_r h ac 1) T N := A
  refine r_ka0 M rfl rfl rfl qk rfl qn ao.1.2.1 ao.1.1 (fun x1 q1 => ?_)
  refine k_nof (i := 0) M ao A' N40 hk (by decide) qk q1 (fun xv qv => ?_)
  have qv : xv.toInt = T (4 * k + 1) := qv
  refine r_ka6 M rfl rfl rfl qk rfl qn qv ao.1.2.1 ao.1.1 (fun lv1 e0 e1 e2 e3 e4 => ?_)
  refine k_kof M ao A' N40 hk qk (fun xw qw => ?_)
  have fin : ∀ (b2 : Int) (xb : Int32) (lv2 : List (Nat × Value)), xb.toInt = b2 → b2 = (if T (4 * k) = 2 then T (4 * k + 2) else -1) → m_lk lv2 0 = some (.ref pa) → m_lk lv2 1 = some (.ref ac) → m_lk lv2 2 = some (.int xk) → m_lk lv2 3 = some (.int xn) → m_lk lv2 4 = some (.int xv) → m_lk lv2 5 = some (.int xb) → HJ 81 29 lv2 [] h Q := fun b2 xb lv2 qb eb d0 d1 d2 d3 d4 d5 => by
    rw [← eb] at pp
    exact k_ka29 (ac := ac) ok bk O (by omega) I eh et nX pp.1 pp.2 ev eb qk qn qv qb d0 d1 d2 d3 d4 d5 (fun h' o1 o2 o3 _ => g h' o1 o2 o3)
  refine r_ka13 M e0 e1 e2 qk e3 qn e4 qv qw ao.1.2.1 ao.1.1 (fun x2 q2 lv3 d0 d1 d2 d3 d4 d5 c => ?_) (fun x4 q4 c => ?_)
  · exact fin (-1) x2 lv3 q2 (by rw [if_neg c]) d0 d1 d2 d3 d4 d5
  · refine k_nof (i := 1) M ao A' N40 hk (by decide) qk q4 (fun xb qb => ?_)
    refine r_ka23 M e0 e1 e2 qk e3 qn e4 qv qb (fun lv4 d0 d1 d2 d3 d4 d5 => ?_)
    exact fin (T (4 * k + 2)) xb lv4 qb (by rw [if_pos c]) d0 d1 d2 d3 d4 d5
theorem r_ra44 {pa ac : Nat} {c k : Int} (M : RX h0 h H) (e0 : m_lk lv 0 = some (.ref pa)) (e1 : m_lk lv 1 = some (.ref ac)) {lx2 : Int32} (e2 : m_lk lv 2 = some (.int lx2)) (lq2 : lx2.toInt = c) {lx3 : Int32} (e3 : m_lk lv 3 = some (.int lx3)) (lq3 : lx3.toInt = k)  (hk0 : (h_k h0 ac).1 = 1) (hk1 : (h_k h0 pa).1 = 4) (hk2 : (h_k h0 (h_r h0 pa 0)).1 = 3) (hs0 : 16 ≤ ac)
    (g0 : c = 0 → HJ 45 125 lv [] h Q)
    (g1 : c ≠ 0 → k ≥ H ac 2 → HJ 45 125 lv [] h Q)
    (g2 : c ≠ 0 → k < H ac 2 → k ≥ 40 → HJ 45 125 lv [] h Q)
    (g3 : ∀ x3 : Int32, x3.toInt = H (h_r h0 pa 0) 5 → ∀ h6 : MH, ∀ H6 : Nat → Nat → Int, H6 = m_u H (h_r h0 pa 0) (m_u (H (h_r h0 pa 0)) 6 (0)) → ∀ lv4 : List (Nat × Value), RX h0 h6 H6 → m_lk lv4 0 = some (.ref pa) → m_lk lv4 1 = some (.ref ac) → m_lk lv4 2 = some (.int lx2) → m_lk lv4 3 = some (.int lx3) → m_lk lv4 4 = some (.int x3) → c ≠ 0 → k < H ac 2 → k < 40 → HJ 54 0 (lv_args 0 [.ref ac, .int lx3]) [] h6 (fun v h' => HJ 45 85 lv4 (v.toList ++ [.ref pa]) h' Q))
    : HJ 45 44 lv [] h Q := by
  refine hI_il (k := 2) rfl e2 rfl ?_ -- 44
  refine hM_zeq (off := 80) (t := 125) rfl lq2 (by decide) rfl (fun c45 => ?_) (fun c45 => ?_) -- 45
  · exact g0 c45
  · refine hI_il (k := 3) rfl e3 rfl ?_ -- 48
    refine hI_al (k := 1) rfl e1 rfl ?_ -- 49
    refine hR_gi (c := 0) (k := 2) M hk0 rfl rfl rfl rfl (fun x1 q1 => ?_) -- 50
    have gb1 : -2147483648 ≤ H ac 2 ∧ H ac 2 ≤ 2147483647 := by rw [← q1]; exact g_iT _
    refine hM_cge (off := 72) (t := 125) rfl lq3 q1 (by decide) rfl (fun c53 => ?_) (fun c53 => ?_) -- 53
    · exact g1 c45 c53
    · refine hI_il (k := 3) rfl e3 rfl ?_ -- 56
      refine hM_bp (n := 40) rfl (by decide) rfl (fun x2 q2 => ?_) -- 57
      refine hM_cge (off := 66) (t := 125) rfl lq3 q2 (by decide) rfl (fun c59 => ?_) (fun c59 => ?_) -- 59
      · exact g2 c45 c53 c59
      · refine hI_al (k := 0) rfl e0 rfl ?_ -- 62
        refine hR_gr (c := 3) (k := 0) M hk1 rfl rfl rfl rfl ?_ -- 63
        refine hR_gi (c := 2) (k := 5) M hk2 rfl rfl rfl rfl (fun x3 q3 => ?_) -- 66
        have gb3 : -2147483648 ≤ H (h_r h0 pa 0) 5 ∧ H (h_r h0 pa 0) 5 ≤ 2147483647 := by rw [← q3]; exact g_iT _
        refine hM_si2 (k := 4) rfl (by decide +kernel) rfl (fun lv4 e4_4 u4 => ?_) -- 69
        have e4_0 := u4 0 _ (by decide) (Or.inl rfl) e0
        have e4_1 := u4 1 _ (by decide) (Or.inl rfl) e1
        have e4_2 := u4 2 _ (by decide) (Or.inl rfl) e2
        have e4_3 := u4 3 _ (by decide) (Or.inl rfl) e3
        refine hI_al (k := 0) rfl e4_0 rfl ?_ -- 71
        refine hR_gr (c := 3) (k := 0) M hk1 rfl rfl rfl rfl ?_ -- 72
        refine hM_ic (n := 0) rfl (by decide) rfl (fun x5 q5 => ?_) -- 75
        refine hR_pi (c := 2) (k := 6) M hk2 rfl rfl ⟨by decide, by decide +kernel, rfl⟩ q5 rfl (fun h6 H6 f6 M6 => ?_) -- 76
        refine hI_al (k := 0) rfl e4_0 rfl ?_ -- 79
        refine hI_al (k := 1) rfl e4_1 rfl ?_ -- 80
        refine hI_il (k := 3) rfl e4_3 rfl ?_ -- 81
        refine HJ.call (j := 54) (as := [.ref ac, .int lx3]) (rr := [.ref pa]) (pc' := 85) (m_cR (kc := 0) rfl rfl (by decide +kernel) rfl rfl rfl ⟨rfl, by decide +kernel, by decide +kernel⟩ (by decide) hs0 (by rw [M6.2.1]; exact hk0)) (by show 2 ≤ m_lc 54; decide +kernel) ?_ -- 82
        exact g3 x3 q3 h6 H6 f6 lv4 M6 e4_0 e4_1 e4_2 e4_3 e4_4 c45 c53 c59
theorem r_ra85 {pa ac : Nat} {c k n w : Int} (M : RX h0 h H) (e0 : m_lk lv 0 = some (.ref pa)) (e1 : m_lk lv 1 = some (.ref ac)) {lx2 : Int32} (e2 : m_lk lv 2 = some (.int lx2)) (lq2 : lx2.toInt = c) {lx3 : Int32} (e3 : m_lk lv 3 = some (.int lx3)) (lq3 : lx3.toInt = k) {lx4 : Int32} (e4 : m_lk lv 4 = some (.int lx4)) (lq4 : lx4.toInt = n) {sx1 : Int32} (sq1 : sx1.toInt = w)  (hs0 : 16 ≤ ac) (hk0 : (h_k h0 ac).1 = 1)
    (g0 : ∀ x1 : Int32, x1.toInt = 0 → HJ 55 0 (lv_args 0 [.ref ac, .int lx3, .int x1]) [] h (fun v h' => HJ 45 91 lv (v.toList ++ [.int sx1, .ref pa]) h' Q))
    : HJ 45 85 lv [.int sx1, .ref pa] h Q := by
  refine hI_al (k := 1) rfl e1 rfl ?_ -- 85
  refine hI_il (k := 3) rfl e3 rfl ?_ -- 86
  refine hM_ic (n := 0) rfl (by decide) rfl (fun x1 q1 => ?_) -- 87
  refine HJ.call (j := 55) (as := [.ref ac, .int lx3, .int x1]) (rr := [.int sx1, .ref pa]) (pc' := 91) (m_cR (kc := 0) rfl rfl (by decide +kernel) rfl rfl rfl ⟨rfl, by decide +kernel, by decide +kernel⟩ (by decide) hs0 (by rw [M.2.1]; exact hk0)) (by show 3 ≤ m_lc 55; decide +kernel) ?_ -- 88
  exact g0 x1 q1
theorem r_ra91 {pa ac : Nat} {c k n w v : Int} (M : RX h0 h H) (e0 : m_lk lv 0 = some (.ref pa)) (e1 : m_lk lv 1 = some (.ref ac)) {lx2 : Int32} (e2 : m_lk lv 2 = some (.int lx2)) (lq2 : lx2.toInt = c) {lx3 : Int32} (e3 : m_lk lv 3 = some (.int lx3)) (lq3 : lx3.toInt = k) {lx4 : Int32} (e4 : m_lk lv 4 = some (.int lx4)) (lq4 : lx4.toInt = n) {sx1 : Int32} (sq1 : sx1.toInt = w) {sx2 : Int32} (sq2 : sx2.toInt = v)  (hs0 : 16 ≤ ac) (hk0 : (h_k h0 ac).1 = 1)
    (g0 : ∀ x1 : Int32, x1.toInt = 1 → HJ 55 0 (lv_args 0 [.ref ac, .int lx3, .int x1]) [] h (fun v h' => HJ 45 97 lv (v.toList ++ [.int sx2, .int sx1, .ref pa]) h' Q))
    : HJ 45 91 lv [.int sx2, .int sx1, .ref pa] h Q := by
  refine hI_al (k := 1) rfl e1 rfl ?_ -- 91
  refine hI_il (k := 3) rfl e3 rfl ?_ -- 92
  refine hM_ic (n := 1) rfl (by decide) rfl (fun x1 q1 => ?_) -- 93
  refine HJ.call (j := 55) (as := [.ref ac, .int lx3, .int x1]) (rr := [.int sx2, .int sx1, .ref pa]) (pc' := 97) (m_cR (kc := 0) rfl rfl (by decide +kernel) rfl rfl rfl ⟨rfl, by decide +kernel, by decide +kernel⟩ (by decide) hs0 (by rw [M.2.1]; exact hk0)) (by show 3 ≤ m_lc 55; decide +kernel) ?_ -- 94
  exact g0 x1 q1
theorem r_ra97 {pa ac : Nat} {c k n w v a : Int} (M : RX h0 h H) (e0 : m_lk lv 0 = some (.ref pa)) (e1 : m_lk lv 1 = some (.ref ac)) {lx2 : Int32} (e2 : m_lk lv 2 = some (.int lx2)) (lq2 : lx2.toInt = c) {lx3 : Int32} (e3 : m_lk lv 3 = some (.int lx3)) (lq3 : lx3.toInt = k) {lx4 : Int32} (e4 : m_lk lv 4 = some (.int lx4)) (lq4 : lx4.toInt = n) {sx1 : Int32} (sq1 : sx1.toInt = w) {sx2 : Int32} (sq2 : sx2.toInt = v) {sx3 : Int32} (sq3 : sx3.toInt = a)  (hs0 : 16 ≤ ac) (hk0 : (h_k h0 ac).1 = 1)
    (g0 : ∀ x1 : Int32, x1.toInt = 2 → HJ 55 0 (lv_args 0 [.ref ac, .int lx3, .int x1]) [] h (fun v h' => HJ 45 103 lv (v.toList ++ [.int sx3, .int sx2, .int sx1, .ref pa]) h' Q))
    : HJ 45 97 lv [.int sx3, .int sx2, .int sx1, .ref pa] h Q := by
  refine hI_al (k := 1) rfl e1 rfl ?_ -- 97
  refine hI_il (k := 3) rfl e3 rfl ?_ -- 98
  refine hM_ic (n := 2) rfl (by decide) rfl (fun x1 q1 => ?_) -- 99
  refine HJ.call (j := 55) (as := [.ref ac, .int lx3, .int x1]) (rr := [.int sx3, .int sx2, .int sx1, .ref pa]) (pc' := 103) (m_cR (kc := 0) rfl rfl (by decide +kernel) rfl rfl rfl ⟨rfl, by decide +kernel, by decide +kernel⟩ (by decide) hs0 (by rw [M.2.1]; exact hk0)) (by show 3 ≤ m_lc 55; decide +kernel) ?_ -- 100
  exact g0 x1 q1
theorem r_ra103 {pa ac : Nat} {c k n w v a b : Int} (M : RX h0 h H) (e0 : m_lk lv 0 = some (.ref pa)) (e1 : m_lk lv 1 = some (.ref ac)) {lx2 : Int32} (e2 : m_lk lv 2 = some (.int lx2)) (lq2 : lx2.toInt = c) {lx3 : Int32} (e3 : m_lk lv 3 = some (.int lx3)) (lq3 : lx3.toInt = k) {lx4 : Int32} (e4 : m_lk lv 4 = some (.int lx4)) (lq4 : lx4.toInt = n) {sx1 : Int32} (sq1 : sx1.toInt = w) {sx2 : Int32} (sq2 : sx2.toInt = v) {sx3 : Int32} (sq3 : sx3.toInt = a) {sx4 : Int32} (sq4 : sx4.toInt = b)  (hs0 : 16 ≤ pa) (hk0 : (h_k h0 pa).1 = 4)
    (g0 : HJ 56 0 (lv_args 0 [.ref pa, .int sx1, .int sx2, .int sx3, .int sx4]) [] h (fun v h' => HJ 45 106 lv (v.toList ++ []) h' Q))
    : HJ 45 103 lv [.int sx4, .int sx3, .int sx2, .int sx1, .ref pa] h Q := by
  refine HJ.call (j := 56) (as := [.ref pa, .int sx1, .int sx2, .int sx3, .int sx4]) (rr := []) (pc' := 106) (m_cR (kc := 3) rfl rfl (by decide +kernel) rfl rfl rfl ⟨rfl, by decide +kernel, by decide +kernel⟩ (by decide) hs0 (by rw [M.2.1]; exact hk0)) (by show 5 ≤ m_lc 56; decide +kernel) ?_ -- 103
  exact g0 
theorem r_ra106 {pa ac : Nat} {c k n z : Int} (M : RX h0 h H) (e0 : m_lk lv 0 = some (.ref pa)) (e1 : m_lk lv 1 = some (.ref ac)) {lx2 : Int32} (e2 : m_lk lv 2 = some (.int lx2)) (lq2 : lx2.toInt = c) {lx3 : Int32} (e3 : m_lk lv 3 = some (.int lx3)) (lq3 : lx3.toInt = k) {lx4 : Int32} (e4 : m_lk lv 4 = some (.int lx4)) (lq4 : lx4.toInt = n) {sx0 : Int32} (sq0 : sx0.toInt = z)  (hs0 : 16 ≤ pa) (hk0 : (h_k h0 pa).1 = 4)
    (g0 : ∀ lv1 : List (Nat × Value), m_lk lv1 0 = some (.ref pa) → m_lk lv1 1 = some (.ref ac) → m_lk lv1 2 = some (.int sx0) → m_lk lv1 3 = some (.int lx3) → m_lk lv1 4 = some (.int lx4) → z = 0 → HJ 45 119 lv1 [] h Q)
    (g1 : ∀ lv1 : List (Nat × Value), m_lk lv1 0 = some (.ref pa) → m_lk lv1 1 = some (.ref ac) → m_lk lv1 2 = some (.int sx0) → m_lk lv1 3 = some (.int lx3) → m_lk lv1 4 = some (.int lx4) → z ≠ 0 → HJ 81 0 (lv_args 0 [.ref pa, .ref ac, .int lx3, .int lx4]) [] h (fun v h' => HJ 45 119 lv1 (v.toList ++ []) h' Q))
    : HJ 45 106 lv [.int sx0] h Q := by
  refine hM_si (k := 2) rfl (by decide +kernel) rfl (fun lv1 e1_2 u1 => ?_) -- 106
  have e1_0 := u1 0 _ (by decide) (Or.inl rfl) e0
  have e1_1 := u1 1 _ (by decide) (Or.inl rfl) e1
  have e1_3 := u1 3 _ (by decide) (Or.inl rfl) e3
  have e1_4 := u1 4 _ (by decide) (Or.inl rfl) e4
  refine hI_il (k := 2) rfl e1_2 rfl ?_ -- 107
  refine hM_zeq (off := 11) (t := 119) rfl sq0 (by decide) rfl (fun c108 => ?_) (fun c108 => ?_) -- 108
  · exact g0 lv1 e1_0 e1_1 e1_2 e1_3 e1_4 c108
  · refine hI_al (k := 0) rfl e1_0 rfl ?_ -- 111
    refine hI_al (k := 1) rfl e1_1 rfl ?_ -- 112
    refine hI_il (k := 3) rfl e1_3 rfl ?_ -- 113
    refine hI_il2 (k := 4) rfl e1_4 rfl ?_ -- 114
    refine HJ.call (j := 81) (as := [.ref pa, .ref ac, .int lx3, .int lx4]) (rr := []) (pc' := 119) (m_cR (kc := 3) rfl rfl (by decide +kernel) rfl rfl rfl ⟨rfl, by decide +kernel, by decide +kernel⟩ (by decide) hs0 (by rw [M.2.1]; exact hk0)) (by show 4 ≤ m_lc 81; decide +kernel) ?_ -- 116
    exact g1 lv1 e1_0 e1_1 e1_2 e1_3 e1_4 c108
theorem r_ra119 {pa ac : Nat} {c k : Int} (M : RX h0 h H) (e0 : m_lk lv 0 = some (.ref pa)) (e1 : m_lk lv 1 = some (.ref ac)) {lx2 : Int32} (e2 : m_lk lv 2 = some (.int lx2)) (lq2 : lx2.toInt = c) {lx3 : Int32} (e3 : m_lk lv 3 = some (.int lx3)) (lq3 : lx3.toInt = k) (pk0 : 0 ≤ k) (pk1 : k ≤ 39)
    (g0 : ∀ x1 : Int32, x1.toInt = k + 1 → ∀ lv1 : List (Nat × Value), m_lk lv1 0 = some (.ref pa) → m_lk lv1 1 = some (.ref ac) → m_lk lv1 2 = some (.int lx2) → m_lk lv1 3 = some (.int x1) → HJ 45 44 lv1 [] h Q)
    : HJ 45 119 lv [] h Q := by
  refine hM_inc (k := 3) (z := 1) rfl e3 lq3 (by decide) (by omega) (by omega) (by decide +kernel) rfl (fun lv1 x1 q1 e1_3 u1 => ?_) -- 119
  have e1_0 := u1 0 _ (by decide) (Or.inl rfl) e0
  have e1_1 := u1 1 _ (by decide) (Or.inl rfl) e1
  have e1_2 := u1 2 _ (by decide) (Or.inl rfl) e2
  refine hI_go (pc' := 44) (off := (-78)) rfl (by decide) ?_ -- 122
  exact g0 x1 q1 lv1 e1_0 e1_1 e1_2 e1_3
theorem l_raR {pa ac N : Nat} {T : Nat → Int} (ok0 : pa_ok h0 pa) (ao0 : ac_ok h0 pa ac) (A0 : ac_of (z_i h0) ac (h_r h0 ac 0) (h_r h0 ac 1) T N) (N40 : N ≤ 40) (av : ∀ k, k < N → av_2 T k) (g : ∀ (lv : List (Nat × Value)) (h' : MH) (k : Nat), k ≤ N → ry_ok (ry_run T N).1 k → nl_ok h' (h_r h0 pa 0) → pk_of h' pa (ry_run T N).1 → FX (h_r h0 pa 0) (run_Y h0 pa) h0 h' → m_lk lv 0 = some (.ref pa) → m_lk lv 1 = some (.ref ac) → HJ 45 125 lv [] h' Q) : ∀ (e k : Nat) (lv : List (Nat × Value)) (h : MH) (xc xk : Int32), k + e = N → ry_ok (ry_run T k).1 k → (ry_run T k).2 = true → nl_ok h (h_r h0 pa 0) → pk_of h pa (ry_run T k).1 → FX (h_r h0 pa 0) (run_Y h0 pa) h0 h → xc.toInt = 1 → xk.toInt = (k : Int) → m_lk lv 0 = some (.ref pa) → m_lk lv 1 = some (.ref ac) → m_lk lv 2 = some (.int xc) → m_lk lv 3 = some (.int xk) → HJ 45 44 lv [] h Q := by
  intro e
  induction e with
  | zero =>
    intro k lv h xc xk he O f ok B F qc qk e0 e1 e2 e3
    have kN : k = N := by omega
    subst kN
    obtain ⟨okp, re, rw_⟩ := pa_FX ok0 ok F
    obtain ⟨ao, A⟩ := ac_FX ok0 ok F ao0 A0
    have a1 : (h_i h ac 2).toInt = (k : Int) := A.1
    exact r_ra44 (RX.start h) e0 e1 e2 qc e3 qk ao.1.1 okp.1.1 (by rw [re]; exact ok.1.1) ao.1.2.1 (fun c => absurd c (by omega)) (fun _ _ => g lv h k (Nat.le_refl _) O ok B F e0 e1) (fun _ c => absurd c (by omega)) (fun _ _ _ _ _ _ _ _ _ _ _ _ _ c => absurd c (by omega))
  | succ e ih =>
    intro k lv h xc xk he O f ok B F qc qk e0 e1 e2 e3
    obtain ⟨okp, re, rw_⟩ := pa_FX ok0 ok F
    obtain ⟨ao, A⟩ := ac_FX ok0 ok F ao0 A0
    have a1 : (h_i h ac 2).toInt = (N : Int) := A.1
    obtain ⟨I, Bt, Bk⟩ := B
    obtain ⟨⟨v1, v2⟩, v3, v4⟩ := av k (by omega)
    have O' := O
    obtain ⟨⟨O1, O2⟩, ⟨O3, O4, O5, O6⟩, O7⟩ := O
    have i3 := I.2.2.1
    have M := RX.start h
    refine r_ra44 M e0 e1 e2 qc e3 qk ao.1.1 okp.1.1 (by rw [re]; exact ok.1.1) ao.1.2.1 (fun c => absurd c (by omega)) (fun _ c => absurd c (by omega)) (fun _ _ c => absurd c (by omega)) (fun x3 q3 h6 H6 f6 lv4 M6 d0 d1 d2 d3 d4 _ _ _ => ?_)
    have q3 : x3.toInt = (ps_n (ry_s (ry_run T k).1) : Int) := q3.trans I.1
    have r6 : h_r h6 = h_r h := M6.2.2.1.1
    have nd' : h_r h pa 0 = h_r h0 pa 0 := re 0
    have o6 : ∀ q, q ≠ h_r h pa 0 → H6 q = z_i h q := fun q hq => by rw [f6, m_uN _ _ _ _ hq]; rfl
    have ok' : nl_ok h (h_r h pa 0) := by rw [nd']; exact ok
    have ok6 : nl_ok h6 (h_r h pa 0) := nl_RX ok' M6 (by rw [f6, m_uE, m_uN _ _ _ _ (by decide)]; rfl)
    have F6 : FX (h_r h pa 0) (py_Y h pa) h h6 := FX.ofRX M6 (by rw [f6, m_uE, m_uN _ _ _ _ (by decide)]; rfl) (fun a ha j => by rw [o6 a (fun z => ha (Or.inl z))])
    have pn := (pa_ne okp (i := 11) (by decide))
    have cn : h_r h (h_r h pa 0) 0 ≠ h_r h pa 0 := Ne.symm pn.2.1
    have I6 : cs_of h6 (z_i h6) (h_r h pa 0) (ps_le (ry_s (ry_run T k).1) 0) := cs_le I (by rw [M6.zi, f6, m_uE, m_uN _ _ _ _ (by decide)]; rfl) (by rw [M6.zi, f6, m_uE, m_uE]) (Int.le_refl _) (by omega) (fun q _ => by rw [r6, M6.zi, o6 _ cn])
    have z6 : ∀ q, z_i h6 pa q = z_i h pa q := fun q => by rw [M6.zi, o6 pa pn.2.2.2.1]
    have B6 : bk_of h6 pa (ry_run T k).1 := bk_FX okp ok6 F6 (z6 11) Bk
    obtain ⟨okp6, re6, rw6⟩ := pa_FX okp ok6 F6
    have acn : ac ≠ h_r h pa 0 := fun z => by have := ao.1.1; rw [z, ok'.1.1] at this; omega
    have arn : h_r h ac 0 ≠ h_r h pa 0 := fun z => by have := ao.2.1.1; rw [z, ok'.1.1] at this; omega
    have arn1 : h_r h ac 1 ≠ h_r h pa 0 := fun z => by have := ao.2.2.1.1; rw [z, ok'.1.1] at this; omega
    have A6 : ac_of H6 ac (h_r h ac 0) (h_r h ac 1) T N := ⟨by rw [o6 ac acn]; exact A.1, fun q hq => ⟨by rw [o6 _ arn]; exact (A.2 q hq).1, fun i hi => by rw [o6 _ arn1]; exact (A.2 q hq).2 i hi⟩⟩
    refine k_kof M6 ao A6 N40 (by omega) qk (fun xw qw => ?_)
    refine r_ra85 M6 d0 d1 d2 qc d3 qk d4 q3 qw ao.1.2.1 ao.1.1 (fun x7 q7 => ?_)
    refine k_nof (i := 0) M6 ao A6 N40 (by omega) (by decide) qk q7 (fun xv qv => ?_)
    have qv : xv.toInt = T (4 * k + 1) := qv
    refine r_ra91 M6 d0 d1 d2 qc d3 qk d4 q3 qw qv ao.1.2.1 ao.1.1 (fun x8 q8 => ?_)
    refine k_nof (i := 1) M6 ao A6 N40 (by omega) (by decide) qk q8 (fun xa qa => ?_)
    have qa : xa.toInt = T (4 * k + 2) := qa
    refine r_ra97 M6 d0 d1 d2 qc d3 qk d4 q3 qw qv qa ao.1.2.1 ao.1.1 (fun x9 q9 => ?_)
    refine k_nof (i := 2) M6 ao A6 N40 (by omega) (by decide) qk q9 (fun xb qb => ?_)
    have qb : xb.toInt = T (4 * k + 3) := qb
    refine r_ra103 M6 d0 d1 d2 qc d3 qk d4 q3 qw qv qa qb okp.1.2.1 okp.1.1 ?_
    have nd6 : h_r h6 pa 0 = h_r h pa 0 := re6 0
    refine k_perform (Y := (ry_run T k).1) okp6 (by rw [nd6]; exact I6) B6.1 O1 O2 (by omega) ((z6 12).trans Bt) O5 (by omega) v1 v2 v3 qw qv qa qb (fun xz h7 hz ok7 F7 z7 => ?_)
    rw [nd6] at hz ok7 F7
    rw [re6] at hz
    have F67 : FX (h_r h pa 0) (run_Y h pa) h h7 := (F6.mono (fun _ z => py_run z)).trans2 F7 (fun q hq z => run_Ye okp ok6 (F6.mono (fun _ z => py_run z)) hq (py_run z))
    have F67' : FX (h_r h6 pa 0) (py_Y h6 pa) h6 h7 := by rw [nd6]; exact F7
    have B7 : bk_of h7 pa (ry_run T k).1 := bk_FX okp6 (by rw [nd6]; exact ok7) F67' (z7 11 (by decide)) B6
    obtain ⟨okp7, re7, rw7⟩ := pa_FX okp ok7 F67
    have nd7 : h_r h7 pa 0 = h_r h pa 0 := re7 0
    have F07 : FX (h_r h0 pa 0) (run_Y h0 pa) h0 h7 := FX.run2 ok0 ok F (by rw [← nd']; exact F67)
    rcases hz with ⟨x0, xn, xI, xt⟩ | ⟨x1, X, xe, xI, xh, xt⟩
    · -- it can't be
      have er : ry_run T (k + 1) = (ry_z (ry_run T k).1, false) := ry_run0 f xn
      have eN : ry_run T N = (ry_z (ry_run T k).1, false) := by
        have := ry_runE (T := T) (k := k + 1) (by rw [er]) e
        rw [show k + 1 + e = N by omega, er] at this
        exact this
      refine r_ra106 (RX.start h7) d0 d1 d2 qc d3 qk d4 q3 x0 okp7.1.2.1 okp7.1.1 (fun lv5 b0 b1 b2 b3 b4 _ => ?_) (fun _ _ _ _ _ _ c => absurd rfl c)
      refine r_ra119 (RX.start h7) b0 b1 b2 x0 b3 qk (by omega) (by omega) (fun x10 q10 lv6 c0 c1 c2 c3 => ?_)
      obtain ⟨ao7, A7⟩ := ac_FX ok0 (by rw [← nd']; exact ok7) F07 ao0 A0
      refine r_ra44 (RX.start h7) c0 c1 c2 x0 c3 q10 ao7.1.1 okp7.1.1 (by rw [nd7]; exact ok7.1.1) ao7.1.2.1 (fun _ => ?_) (fun c => absurd rfl c) (fun c => absurd rfl c) (fun _ _ _ _ _ _ _ _ _ _ _ _ c => absurd rfl c)
      refine g lv6 h7 k (by omega) (by rw [eN]; exact O') (by rw [← nd']; exact ok7) ?_ F07 c0 c1
      rw [eN]
      refine ⟨?_, xt, B7⟩
      rw [nd7]
      exact xI
    · have er : ry_run T (k + 1) = (ry_kp (ry_z (ry_run T k).1) k (T (4 * k)) (T (4 * k + 1)) (T (4 * k + 2)) X, true) := ry_run1 f xe
      refine r_ra106 (RX.start h7) d0 d1 d2 qc d3 qk d4 q3 x1 okp7.1.2.1 okp7.1.1 (fun _ _ _ _ _ _ c => absurd c (by decide)) (fun lv5 b0 b1 b2 b3 b4 _ => ?_)
      obtain ⟨ao7, A7⟩ := ac_FX ok0 (by rw [← nd']; exact ok7) F07 ao0 A0
      refine k_keepA (b := T (4 * k + 3)) okp7 ao7 A7 N40 (by omega) B7 O' xe v4 (by rw [nd7]; exact xI) (by rw [re7]; exact xh) xt qk q3 (fun h8 ok8 B8 F8 => ?_)
      rw [nd7] at ok8 F8
      have F08 : FX (h_r h0 pa 0) (run_Y h0 pa) h0 h8 := FX.run2 ok0 (by rw [← nd']; exact ok7) F07 (by rw [← nd']; exact F8)
      refine r_ra119 (RX.start h8) b0 b1 b2 x1 b3 qk (by omega) (by omega) (fun x10 q10 lv6 c0 c1 c2 c3 => ?_)
      exact ih (k + 1) lv6 h8 xz x10 (by omega) (by rw [er]; exact ry_okS O' xe v4) (by rw [er]) (by rw [← nd']; exact ok8) (by rw [er]; exact B8) F08 x1 (by omega) c0 c1 c2 c3
end
