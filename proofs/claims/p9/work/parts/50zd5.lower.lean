-- A NODE LOWERED: pure
theorem lw_anP {S : PSt} {O : WKt} {p : Int} (ok : wk_ok S O) (p0 : 0 ≤ p) (p1 : p < (O.1 : Int)) : ∀ j : Nat, (j : Int) ≤ O.2.2.2 p.toNat → 0 ≤ lw_an O p j ∧ lw_an O p j < (O.1 : Int) ∧ O.2.2.2 (lw_an O p j).toNat = O.2.2.2 p.toNat - j
  | 0, _ => ⟨p0, p1, (Int.sub_zero _).symm⟩
  | j + 1, h => by
    obtain ⟨a0, a1, a2⟩ := lw_anP ok p0 p1 j (by omega)
    obtain ⟨-, b, -⟩ := ok (lw_an O p j).toNat (by omega)
    rcases b with ⟨z1, z2⟩ | ⟨z1, z2, z3⟩
    · omega
    · exact ⟨z1, by show O.2.2.1 (lw_an O p j).toNat < _; omega, by show O.2.2.2 (O.2.2.1 (lw_an O p j).toNat).toNat = _; omega⟩
theorem lw_anE {S : PSt} {O : WKt} {p : Int} {n : Nat} (ok : wk_ok S O) (p0 : 0 ≤ p) (p1 : p < (O.1 : Int)) (en : O.2.2.2 p.toNat = (n : Int)) : lw_an O p (n + 1) = -1 := by
  obtain ⟨a0, a1, a2⟩ := lw_anP ok p0 p1 n (by omega)
  obtain ⟨-, b, -⟩ := ok (lw_an O p n).toNat (by omega)
  show O.2.2.1 (lw_an O p n).toNat = -1
  rcases b with ⟨z1, z2⟩ | ⟨z1, z2, z3⟩
  · exact z1
  · exfalso
    have := (ok (O.2.2.1 (lw_an O p n).toNat).toNat (by omega)).2.2.1
    omega
theorem lw_yP {S : PSt} {O : WKt} {p : Int} {n d : Nat} (ok : wk_ok S O) (p0 : 0 ≤ p) (p1 : p < (O.1 : Int)) (en : O.2.2.2 p.toNat = (n : Int)) (hd : d ≤ n) : O.2.1 (lw_an O p (n - d)).toNat = (lw_y O p n d : Int) ∧ lw_y O p n d < ps_n S := by
  obtain ⟨a0, a1, a2⟩ := lw_anP ok p0 p1 (n - d) (by omega)
  obtain ⟨⟨b0, b1⟩, -, -⟩ := ok (lw_an O p (n - d)).toNat (by omega)
  unfold lw_y
  exact ⟨by omega, by omega⟩
theorem lw_riL {S : PSt} {t k : Int} {y : Nat → Nat} : ∀ i, lw_ri S t k y i ≤ i
  | 0 => Nat.le_refl _
  | i + 1 => by
    rw [lw_ri]
    by_cases c : k < ps_y S (y i) ∨ (k = ps_y S (y i) ∧ t < ps_t S (y i))
    · rw [if_pos c]
      exact Nat.le_succ_of_le (lw_riL i)
    · rw [if_neg c]
      exact Nat.le_refl _
theorem lw_mkS {S : PSt} {t k : Int} {y : Nat → Nat} {n e : Nat} {f : Nat → Int} (sh : ps_sh S) (hf : hp_in S f) (hy : ∀ j, j ≤ n → y j < ps_n S) : ps_sh (lw_mk S t k y n e (n + 1)) ∧ hp_in (lw_mk S t k y n e (n + 1)) (m_u f (ps_k S (y 0)).toNat (ps_n S : Int)) ∧ ps_ex S (lw_mk S t k y n e (n + 1)) ∧ ps_n (lw_mk S t k y n e (n + 1)) = ps_n S + (n + 1) := by
  obtain ⟨⟨a1, a2⟩, a3, a4⟩ := lw_mkV (S := S) (t := t) (k := k) (y := y) (n := n) (e := e) (n + 1)
  have ex : ps_ex S (lw_mk S t k y n e (n + 1)) := ⟨by omega, fun v hv => ⟨(a3 v hv).2.2.1, (a3 v hv).1, (a3 v hv).2.1, (a3 v hv).2.2.2⟩⟩
  refine ⟨fun v hv => ?_, fun r hr => ?_, ex, a1⟩
  · rw [a1] at hv ⊢
    by_cases c : v < ps_n S
    · obtain ⟨b1, b2, b3, b4⟩ := a3 v c
      obtain ⟨s1, s2⟩ := sh v c
      refine ⟨by rw [b3]; exact s1, fun r hr => ?_⟩
      rw [b3] at hr
      obtain ⟨c0, c1, c2⟩ := s2 r hr
      rw [b4 r (by omega)]
      exact ⟨c0, by omega, by rw [(a3 _ (by omega)).2.2.1]; exact c2⟩
    · obtain ⟨j, rfl⟩ : ∃ j, v = ps_n S + j := ⟨v - ps_n S, by omega⟩
      obtain ⟨b1, b2, b3, b4⟩ := a4 j (by omega)
      obtain ⟨s1, s2⟩ := sh (y j) (hy j (by omega))
      refine ⟨by rw [b3]; exact s1, fun r hr => ?_⟩
      rw [b3] at hr
      rw [b4 r (by omega)]
      by_cases q : j < n ∧ (r : Int) = ps_k S (y (j + 1))
      · rw [if_pos q, Int.toNat_natCast]
        refine ⟨Int.natCast_nonneg _, by omega, ?_⟩
        rw [show ps_n S + j + 1 = ps_n S + (j + 1) by omega, (a4 (j + 1) (by omega)).2.2.1]
        exact q.2.symm
      · rw [if_neg q]
        obtain ⟨c0, c1, c2⟩ := s2 r hr
        exact ⟨c0, by omega, by rw [(a3 _ (by omega)).2.2.1]; exact c2⟩
  · by_cases c : r = (ps_k S (y 0)).toNat
    · rw [c, m_uE]
      have s1 := (sh (y 0) (hy 0 (by omega))).1
      refine Or.inr ⟨Int.natCast_nonneg _, by omega, ?_⟩
      rw [Int.toNat_natCast]
      have this : ps_k (lw_mk S t k y n e (n + 1)) (ps_n S) = ps_k S (y 0) := (a4 0 (by omega)).2.2.1
      rw [this]
      omega
    · rw [m_uN _ _ _ _ c]
      exact hp_inE ex hf r hr
theorem lw_doI {S : PSt} {f : Nat → Int} {t k : Int} {X : PSt × (Nat → Int)} (sh : ps_sh S) (hf : hp_in S f) (e : lw_do S f t k = some X) : ps_sh X.1 ∧ hp_in X.1 X.2 ∧ ps_ex S X.1 ∧ ps_n X.1 ≤ ps_n S + 6 := by
  obtain ⟨ok, w⟩ := wk_allI sh hf
  by_cases c : lw_f S t k (wk_all S f) (wk_all S f).1 0 = -1
  · rw [lw_do0 c] at e
    cases e
  · obtain ⟨p0, p1, -, -⟩ := lw_fP c
    have p0 : 0 ≤ lw_f S t k (wk_all S f) (wk_all S f).1 0 := by omega
    have p1 : lw_f S t k (wk_all S f) (wk_all S f).1 0 < ((wk_all S f).1 : Int) := by omega
    have D := (ok (lw_f S t k (wk_all S f) (wk_all S f).1 0).toNat (by omega)).2.2
    have kk := (sh _ (show ((wk_all S f).2.1 (lw_f S t k (wk_all S f) (wk_all S f).1 0).toNat).toNat < ps_n S by have := (ok (lw_f S t k (wk_all S f) (wk_all S f).1 0).toNat (by omega)).1; omega)).1
    obtain ⟨n, en⟩ : ∃ n : Nat, (wk_all S f).2.2.2 (lw_f S t k (wk_all S f) (wk_all S f).1 0).toNat = (n : Int) := ⟨((wk_all S f).2.2.2 (lw_f S t k (wk_all S f) (wk_all S f).1 0).toNat).toNat, by omega⟩
    rw [lw_do1 (n := n) rfl c (by rw [en]; exact Int.toNat_natCast n) rfl] at e
    cases e
    obtain ⟨a, b, c', d⟩ := lw_mkS (t := t) (k := k) (e := lw_ri S t k (lw_y (wk_all S f) (lw_f S t k (wk_all S f) (wk_all S f).1 0) n) n) sh hf (fun j hj => (lw_yP ok p0 p1 en hj).2)
    exact ⟨a, b, c', by show ps_n (lw_mk _ _ _ _ _ _ _) ≤ _; omega⟩
-- THE CLASS'S: a node made again
theorem cs_fe {h1 : MH} {H1 : Nat → Nat → Int} {nd : Nat} {S : PSt} {t y k : Int} {f f' : Nat → Int} (I : cs_of h1 H1 nd (ps_mk S t y k f)) (e : ∀ r : Nat, (r : Int) < k → f' r = f r) : cs_of h1 H1 nd (ps_mk S t y k f') := by
  obtain ⟨i1, i2, i3, i4, i5⟩ := I
  refine ⟨i1, i2, i3, i4, fun v hv => ?_⟩
  have hv : v < ps_n S + 1 := hv
  obtain ⟨a1, a2, a3, a4, a5, a6⟩ := i5 v hv
  have k5 : m_u (ps_k S) (ps_n S) k v ≤ 5 := a5.2
  refine ⟨a1, a2, a3, a4, a5, fun r hr => ?_⟩
  have hr : (r : Int) < m_u (ps_k S) (ps_n S) k v := hr
  refine (a6 r hr).trans ?_
  have r5 : r < 6 := by omega
  by_cases c : v = ps_n S
  · subst c
    rw [m_uE] at hr
    rw [ps_mkC r5, ps_mkC r5, e r hr]
  · rw [ps_mkB (by omega), ps_mkB (by omega)]
-- one child of the last node set anew
theorem cs_sc {h1 : MH} {H1 H2 : Nat → Nat → Int} {nd : Nat} {S : PSt} {t y k x : Int} {q : Nat} {f f' : Nat → Int} (I : cs_of h1 H1 nd (ps_mk S t y k f)) (qk : (q : Int) < k) (nC : nd ≠ h_r h1 nd 0) (f2 : H2 = m_u H1 (h_r h1 nd 0) (m_u (H1 (h_r h1 nd 0)) (7 * ps_n S + 2 + (k.toNat - 1 - q)) x)) (e : ∀ r : Nat, (r : Int) < k → f' r = if r = q then x else f r) : cs_of h1 H2 nd (ps_mk S t y k f') := by
  obtain ⟨i1, i2, i3, i4, i5⟩ := I
  have en : H2 nd = H1 nd := by rw [f2, m_uN _ _ _ _ nC]
  refine ⟨by rw [en]; exact i1, by rw [en]; exact i2, i3, i4, fun v hv => ?_⟩
  obtain ⟨a1, a2, a3, a4, a5, a6⟩ := i5 v hv
  have hv : v < ps_n S + 1 := hv
  have k5 : k ≤ 5 := by
    have := (i5 (ps_n S) (Nat.lt_succ_self _)).2.2.2.2.1.2
    have e : ps_k (ps_mk S t y k f) (ps_n S) = k := m_uE _ _ _
    omega
  have hC : ∀ j, j ≠ 7 * ps_n S + 2 + (k.toNat - 1 - q) → H2 (h_r h1 nd 0) j = H1 (h_r h1 nd 0) j := fun j hj => by rw [f2, m_uE, m_uN _ _ _ _ hj]
  have hX : H2 (h_r h1 nd 0) (7 * ps_n S + 2 + (k.toNat - 1 - q)) = x := by rw [f2, m_uE, m_uE]
  by_cases c : v = ps_n S
  · subst c
    have ek : ps_k (ps_mk S t y k f') (ps_n S) = k := m_uE _ _ _
    have ek0 : ps_k (ps_mk S t y k f) (ps_n S) = k := m_uE _ _ _
    refine ⟨by rw [hC _ (by omega)]; exact a1, a2, a3, by rw [hC _ (by omega)]; exact a4, a5, fun r hr => ?_⟩
    rw [ek] at hr ⊢
    rw [ps_mkC (by omega), e r hr]
    by_cases z : r = q
    · rw [if_pos z, z]
      exact hX
    · rw [if_neg z, hC _ (by omega)]
      have := a6 r (by rw [ek0]; exact hr)
      rw [ek0, ps_mkC (by omega)] at this
      exact this
  · have ek : ps_k (ps_mk S t y k f') v = ps_k (ps_mk S t y k f) v := by
      show m_u (ps_k S) (ps_n S) k v = m_u (ps_k S) (ps_n S) k v
      rfl
    refine ⟨by rw [hC _ (by omega)]; exact a1, a2, a3, by rw [hC _ (by omega)]; exact a4, a5, fun r hr => ?_⟩
    have r6 : r < 6 := by rw [ek] at hr; omega
    rw [hC _ (by rw [ek] at hr ⊢; omega), ps_mkB (by omega)]
    have := a6 r hr
    rw [ps_mkB (by omega)] at this
    exact this
section
variable {lv : List (Nat × Value)} {Q : Option Value → MH → Prop} {h0 h : MH} {H : Nat → Nat → Int}
theorem r_rm0 {nd : Nat} {v w : Int} (M : RX h0 h H) (e0 : m_lk lv 0 = some (.ref nd)) {lx1 : Int32} (e1 : m_lk lv 1 = some (.int lx1)) (lq1 : lx1.toInt = v) {lx2 : Int32} (e2 : m_lk lv 2 = some (.int lx2)) (lq2 : lx2.toInt = w)  (hs0 : 16 ≤ nd) (hk0 : (h_k h0 nd).1 = 3)
    (g0 : HJ 67 0 (lv_args 0 [.ref nd, .int lx1]) [] h (fun v h' => HJ 79 5 lv (v.toList ++ []) h' Q))
    : HJ 79 0 lv [] h Q := by
  refine hI_al (k := 0) rfl e0 rfl ?_ -- 0
  refine hI_il (k := 1) rfl e1 rfl ?_ -- 1
  refine HJ.call (j := 67) (as := [.ref nd, .int lx1]) (rr := []) (pc' := 5) (m_cR (kc := 2) rfl rfl (by decide +kernel) rfl rfl rfl ⟨rfl, by decide +kernel, by decide +kernel⟩ (by decide) hs0 (by rw [M.2.1]; exact hk0)) (by show 2 ≤ m_lc 67; decide +kernel) ?_ -- 2
  exact g0 
theorem r_rm5 {nd : Nat} {v w k : Int} (M : RX h0 h H) (e0 : m_lk lv 0 = some (.ref nd)) {lx1 : Int32} (e1 : m_lk lv 1 = some (.int lx1)) (lq1 : lx1.toInt = v) {lx2 : Int32} (e2 : m_lk lv 2 = some (.int lx2)) (lq2 : lx2.toInt = w) {sx0 : Int32} (sq0 : sx0.toInt = k)  (hs0 : 16 ≤ nd) (hk0 : (h_k h0 nd).1 = 3)
    (g0 : ∀ lv1 : List (Nat × Value), m_lk lv1 0 = some (.ref nd) → m_lk lv1 1 = some (.int lx1) → m_lk lv1 2 = some (.int lx2) → m_lk lv1 3 = some (.int sx0) → HJ 61 0 (lv_args 0 [.ref nd, .int lx2, .int sx0]) [] h (fun v h' => HJ 79 12 lv1 (v.toList ++ []) h' Q))
    : HJ 79 5 lv [.int sx0] h Q := by
  refine hM_si (k := 3) rfl (by decide +kernel) rfl (fun lv1 e1_3 u1 => ?_) -- 5
  have e1_0 := u1 0 _ (by decide) (Or.inl rfl) e0
  have e1_1 := u1 1 _ (by decide) (Or.inl rfl) e1
  have e1_2 := u1 2 _ (by decide) (Or.inl rfl) e2
  refine hI_al (k := 0) rfl e1_0 rfl ?_ -- 6
  refine hI_il (k := 2) rfl e1_2 rfl ?_ -- 7
  refine hI_il (k := 3) rfl e1_3 rfl ?_ -- 8
  refine HJ.call (j := 61) (as := [.ref nd, .int lx2, .int sx0]) (rr := []) (pc' := 12) (m_cR (kc := 2) rfl rfl (by decide +kernel) rfl rfl rfl ⟨rfl, by decide +kernel, by decide +kernel⟩ (by decide) hs0 (by rw [M.2.1]; exact hk0)) (by show 3 ≤ m_lc 61; decide +kernel) ?_ -- 9
  exact g0 lv1 e1_0 e1_1 e1_2 e1_3
theorem r_rm12 {nd : Nat} {v w k n : Int} (M : RX h0 h H) (e0 : m_lk lv 0 = some (.ref nd)) {lx1 : Int32} (e1 : m_lk lv 1 = some (.int lx1)) (lq1 : lx1.toInt = v) {lx2 : Int32} (e2 : m_lk lv 2 = some (.int lx2)) (lq2 : lx2.toInt = w) {lx3 : Int32} (e3 : m_lk lv 3 = some (.int lx3)) (lq3 : lx3.toInt = k) {sx0 : Int32} (sq0 : sx0.toInt = n) 
    (g0 : ∀ x2 : Int32, x2.toInt = 0 → ∀ lv3 : List (Nat × Value), m_lk lv3 0 = some (.ref nd) → m_lk lv3 1 = some (.int lx1) → m_lk lv3 2 = some (.int lx2) → m_lk lv3 3 = some (.int lx3) → m_lk lv3 4 = some (.int sx0) → m_lk lv3 5 = some (.int x2) → HJ 79 17 lv3 [] h Q)
    : HJ 79 12 lv [.int sx0] h Q := by
  refine hM_si2 (k := 4) rfl (by decide +kernel) rfl (fun lv1 e1_4 u1 => ?_) -- 12
  have e1_0 := u1 0 _ (by decide) (Or.inl rfl) e0
  have e1_1 := u1 1 _ (by decide) (Or.inl rfl) e1
  have e1_2 := u1 2 _ (by decide) (Or.inl rfl) e2
  have e1_3 := u1 3 _ (by decide) (Or.inl rfl) e3
  refine hM_ic (n := 0) rfl (by decide) rfl (fun x2 q2 => ?_) -- 14
  refine hM_si2 (k := 5) rfl (by decide +kernel) rfl (fun lv3 e3_5 u3 => ?_) -- 15
  have e3_0 := u3 0 _ (by decide) (Or.inl rfl) e1_0
  have e3_1 := u3 1 _ (by decide) (Or.inl rfl) e1_1
  have e3_2 := u3 2 _ (by decide) (Or.inl rfl) e1_2
  have e3_3 := u3 3 _ (by decide) (Or.inl rfl) e1_3
  have e3_4 := u3 4 _ (by decide) (Or.inl rfl) e1_4
  exact g0 x2 q2 lv3 e3_0 e3_1 e3_2 e3_3 e3_4 e3_5
theorem r_rm17 {nd : Nat} {v w k n i : Int} (M : RX h0 h H) (e0 : m_lk lv 0 = some (.ref nd)) {lx1 : Int32} (e1 : m_lk lv 1 = some (.int lx1)) (lq1 : lx1.toInt = v) {lx2 : Int32} (e2 : m_lk lv 2 = some (.int lx2)) (lq2 : lx2.toInt = w) {lx3 : Int32} (e3 : m_lk lv 3 = some (.int lx3)) (lq3 : lx3.toInt = k) {lx4 : Int32} (e4 : m_lk lv 4 = some (.int lx4)) (lq4 : lx4.toInt = n) {lx5 : Int32} (e5 : m_lk lv 5 = some (.int lx5)) (lq5 : lx5.toInt = i)  (hs0 : 16 ≤ nd) (hk0 : (h_k h0 nd).1 = 3)
    (g0 : i ≥ k → Q none h)
    (g1 : i < k → HJ 69 0 (lv_args 0 [.ref nd, .int lx1, .int lx5]) [] h (fun v h' => HJ 79 35 lv (v.toList ++ [.int lx5, .int lx4, .ref nd]) h' Q))
    : HJ 79 17 lv [] h Q := by
  refine hI_il2 (k := 5) rfl e5 rfl ?_ -- 17
  refine hI_il (k := 3) rfl e3 rfl ?_ -- 19
  refine hM_cge (off := 24) (t := 44) rfl lq5 lq3 (by decide) rfl (fun c20 => ?_) (fun c20 => ?_) -- 20
  · refine hI_rv rfl rfl ?_
    exact g0 c20
  · refine hI_al (k := 0) rfl e0 rfl ?_ -- 23
    refine hI_il2 (k := 4) rfl e4 rfl ?_ -- 24
    refine hI_il2 (k := 5) rfl e5 rfl ?_ -- 26
    refine hI_al (k := 0) rfl e0 rfl ?_ -- 28
    refine hI_il (k := 1) rfl e1 rfl ?_ -- 29
    refine hI_il2 (k := 5) rfl e5 rfl ?_ -- 30
    refine HJ.call (j := 69) (as := [.ref nd, .int lx1, .int lx5]) (rr := [.int lx5, .int lx4, .ref nd]) (pc' := 35) (m_cR (kc := 2) rfl rfl (by decide +kernel) rfl rfl rfl ⟨rfl, by decide +kernel, by decide +kernel⟩ (by decide) hs0 (by rw [M.2.1]; exact hk0)) (by show 3 ≤ m_lc 69; decide +kernel) ?_ -- 32
    exact g1 c20
theorem r_rm35 {nd : Nat} {v w k n i n2 i2 c : Int} (M : RX h0 h H) (e0 : m_lk lv 0 = some (.ref nd)) {lx1 : Int32} (e1 : m_lk lv 1 = some (.int lx1)) (lq1 : lx1.toInt = v) {lx2 : Int32} (e2 : m_lk lv 2 = some (.int lx2)) (lq2 : lx2.toInt = w) {lx3 : Int32} (e3 : m_lk lv 3 = some (.int lx3)) (lq3 : lx3.toInt = k) {lx4 : Int32} (e4 : m_lk lv 4 = some (.int lx4)) (lq4 : lx4.toInt = n) {lx5 : Int32} (e5 : m_lk lv 5 = some (.int lx5)) (lq5 : lx5.toInt = i) {sx1 : Int32} (sq1 : sx1.toInt = n2) {sx2 : Int32} (sq2 : sx2.toInt = i2) {sx3 : Int32} (sq3 : sx3.toInt = c)  (hs0 : 16 ≤ nd) (hk0 : (h_k h0 nd).1 = 3)
    (g0 : HJ 68 0 (lv_args 0 [.ref nd, .int sx1, .int sx2, .int sx3]) [] h (fun v h' => HJ 79 38 lv (v.toList ++ []) h' Q))
    : HJ 79 35 lv [.int sx3, .int sx2, .int sx1, .ref nd] h Q := by
  refine HJ.call (j := 68) (as := [.ref nd, .int sx1, .int sx2, .int sx3]) (rr := []) (pc' := 38) (m_cR (kc := 2) rfl rfl (by decide +kernel) rfl rfl rfl ⟨rfl, by decide +kernel, by decide +kernel⟩ (by decide) hs0 (by rw [M.2.1]; exact hk0)) (by show 4 ≤ m_lc 68; decide +kernel) ?_ -- 35
  exact g0 
theorem r_rm38 {nd : Nat} {v w k n i : Int} (M : RX h0 h H) (e0 : m_lk lv 0 = some (.ref nd)) {lx1 : Int32} (e1 : m_lk lv 1 = some (.int lx1)) (lq1 : lx1.toInt = v) {lx2 : Int32} (e2 : m_lk lv 2 = some (.int lx2)) (lq2 : lx2.toInt = w) {lx3 : Int32} (e3 : m_lk lv 3 = some (.int lx3)) (lq3 : lx3.toInt = k) {lx4 : Int32} (e4 : m_lk lv 4 = some (.int lx4)) (lq4 : lx4.toInt = n) {lx5 : Int32} (e5 : m_lk lv 5 = some (.int lx5)) (lq5 : lx5.toInt = i) (pi0 : 0 ≤ i) (pi1 : i ≤ 5)
    (g0 : ∀ x1 : Int32, x1.toInt = i + 1 → ∀ lv1 : List (Nat × Value), m_lk lv1 0 = some (.ref nd) → m_lk lv1 1 = some (.int lx1) → m_lk lv1 2 = some (.int lx2) → m_lk lv1 3 = some (.int lx3) → m_lk lv1 4 = some (.int lx4) → m_lk lv1 5 = some (.int x1) → HJ 79 17 lv1 [] h Q)
    : HJ 79 38 lv [] h Q := by
  refine hM_inc (k := 5) (z := 1) rfl e5 lq5 (by decide) (by omega) (by omega) (by decide +kernel) rfl (fun lv1 x1 q1 e1_5 u1 => ?_) -- 38
  have e1_0 := u1 0 _ (by decide) (Or.inl rfl) e0
  have e1_1 := u1 1 _ (by decide) (Or.inl rfl) e1
  have e1_2 := u1 2 _ (by decide) (Or.inl rfl) e2
  have e1_3 := u1 3 _ (by decide) (Or.inl rfl) e3
  have e1_4 := u1 4 _ (by decide) (Or.inl rfl) e4
  refine hI_go (pc' := 17) (off := (-24)) rfl (by decide) ?_ -- 41
  exact g0 x1 q1 lv1 e1_0 e1_1 e1_2 e1_3 e1_4 e1_5
theorem l_rmC {nd n v k : Nat} {H1 : Nat → Nat → Int} {xv xw xk xn : Int32} (ok : nl_ok h0 nd) (s0 : H1 nd 5 = (n : Int) + 1) (s1 : (n : Int) + 1 ≤ ((h_k h0 (h_r h0 nd 1)).2 : Int)) (n1 : n ≤ 15999) (vn : v < n) (k5 : k ≤ 5) (qv : xv.toInt = (v : Int)) (qk : xk.toInt = (k : Int)) (qn : xn.toInt = (n : Int)) (g : ∀ (h' : MH) (H' : Nat → Nat → Int), RX h0 h' H' → (∀ a, a ≠ h_r h0 nd 0 → H' a = H1 a) → (∀ q, q < 7 * n + 2 → H' (h_r h0 nd 0) q = H1 (h_r h0 nd 0) q) → (∀ q, q < k → H' (h_r h0 nd 0) (7 * n + 2 + q) = H1 (h_r h0 nd 0) (7 * v + 2 + q)) → Q none h') : ∀ (e j : Nat) (lv : List (Nat × Value)) (h : MH) (H : Nat → Nat → Int) (xj : Int32), j + e = k → xj.toInt = (j : Int) → RX h0 h H → (∀ a, a ≠ h_r h0 nd 0 → H a = H1 a) → (∀ q, q < 7 * n + 2 → H (h_r h0 nd 0) q = H1 (h_r h0 nd 0) q) → (∀ q, q < j → H (h_r h0 nd 0) (7 * n + 2 + q) = H1 (h_r h0 nd 0) (7 * v + 2 + q)) → m_lk lv 0 = some (.ref nd) → m_lk lv 1 = some (.int xv) → m_lk lv 2 = some (.int xw) → m_lk lv 3 = some (.int xk) → m_lk lv 4 = some (.int xn) → m_lk lv 5 = some (.int xj) → HJ 79 17 lv [] h Q := by
  obtain ⟨⟨o1, o2, o3⟩, ⟨c1, c16, cl⟩, ⟨d1, d16, dl⟩, l1, ⟨m0, m1⟩, l2, l3⟩ := ok
  have nC : nd ≠ h_r h0 nd 0 := fun z => by rw [← z] at c1; omega
  intro e
  induction e with
  | zero =>
    intro j lv h H xj he hj M p1 p2 p4 e0 e1 e2 e3 e4 e5
    exact r_rm17 M e0 e1 qv e2 rfl e3 qk e4 qn e5 hj o2 o1 (fun _ => g h H M p1 p2 (fun q hq => p4 q (by omega))) (fun c => absurd c (by omega))
  | succ e ih =>
    intro j lv h H xj he hj M p1 p2 p4 e0 e1 e2 e3 e4 e5
    have h5 : H nd 5 = (n : Int) + 1 := by rw [p1 nd nC]; exact s0
    refine r_rm17 M e0 e1 qv e2 rfl e3 qk e4 qn e5 hj o2 o1 (fun c => absurd c (by omega)) (fun _ => ?_)
    refine r_ch M rfl rfl qv rfl hj (by omega) (by omega) o1 c1 (by omega) (fun _ _ _ c => absurd c (by omega)) (fun _ _ _ _ c => absurd c (by omega)) (fun _ _ _ _ _ c => absurd c (by omega)) (fun _ _ _ _ _ _ c => absurd c (by omega)) (fun xc qc _ _ _ _ _ => ?_)
    rw [show ((v : Int) * 7 + 2 + (j : Int)).toNat = 7 * v + 2 + j by omega, p2 _ (by omega)] at qc
    refine r_rm35 M e0 e1 qv e2 rfl e3 qk e4 qn e5 hj (sq1 := qn) (sq2 := hj) (sq3 := qc) o2 o1 ?_
    refine k_sc M ⟨⟨o1, o2⟩, ⟨c1, c16⟩, by omega⟩ (by omega) (by omega) qn hj qc (by omega) (by omega) (by omega) (by omega) (fun h2 H2 f2 M2 => ?_)
    refine r_rm38 M2 e0 e1 qv e2 rfl e3 qk e4 qn e5 hj (by omega) (by omega) (fun x3 q3 lv3 a0 a1 a2 a3 a4 a5 => ?_)
    have ix : 7 * (n : Int).toNat + 2 + (j : Int).toNat = 7 * n + 2 + j := by omega
    rw [ix] at f2
    refine ih (j + 1) lv3 h2 H2 x3 (by omega) (by omega) M2 (fun a ha => by rw [f2, m_uN _ _ _ _ ha]; exact p1 a ha) (fun q hq => by rw [f2, m_uE, m_uN _ _ _ _ (by omega)]; exact p2 q hq) (fun q hq => ?_) a0 a1 a2 a3 a4 a5
    rw [f2, m_uE]
    by_cases z : q = j
    · rw [z, m_uE]
    · rw [m_uN _ _ _ _ (by omega)]
      exact p4 q (by omega)
theorem k_remake {nd : Nat} {S : PSt} {v t y : Int} {xv xw : Int32} (ok : nl_ok h nd) (I : cs_of h (z_i h) nd S) (cap : ps_n S ≤ 15999) (qv : xv.toInt = v) (v0 : 0 ≤ v) (v1 : v < (ps_n S : Int)) (qw : xw.toInt = 128 * y + t) (t0 : 0 ≤ t) (t1 : t ≤ 127) (y0 : 0 ≤ y) (y1 : y ≤ 99) (g : ∀ h' : MH, nl_ok h' nd → cs_of h' (z_i h') nd (ps_mk S t y (ps_k S v.toNat) (fun r => ps_b S (6 * v.toNat + r))) → FX nd (fun _ => False) h h' → Q none h') : HJ 79 0 (lv_args 0 [.ref nd, .int xv, .int xw]) [] h Q := by
  have M := RX.start h
  have i1 : z_i h nd 5 = (ps_n S : Int) := I.1
  have i2 : z_i h nd 6 = ps_l S := I.2.1
  have i3 := I.2.2.1
  obtain ⟨vw, vt, vy, vr, vk, vc⟩ := I.2.2.2.2 v.toNat (by omega)
  have nok := nl_nd ok i1
  refine r_rm0 M rfl rfl qv rfl qw ok.1.2.1 ok.1.1 (k_rk M nok I qv v0 v1 (fun xk qk => ?_))
  refine r_rm5 M rfl rfl qv rfl qw qk ok.1.2.1 ok.1.1 (fun lv1 a0 a1 a2 a3 => ?_)
  refine k_make ok (by omega) qw qk (fun xn h1 qn T => ?_)
  obtain ⟨ok1, F1, t5, tk, tc, tw, tr, tl, tz⟩ := T
  rw [i1] at t5 tc tw tr tl tz qn
  rw [Int.toNat_natCast] at tw tr tz
  have nC : nd ≠ h_r h1 nd 0 := fun z => by have a := ok1.1.1; have b := ok1.2.1.1; rw [← z] at b; omega
  have m1 := ok1.2.2.2.2.1.2
  refine r_rm12 (RX.start h1) a0 a1 qv a2 qw a3 qk qn (fun x3 q3 lv3 d0 d1 d2 d3 d4 d5 => ?_)
  refine l_rmC (n := ps_n S) (v := v.toNat) (k := (ps_k S v.toNat).toNat) (H1 := z_i h1) ok1 t5 (by omega) cap (by omega) (by omega) (by omega) (by omega) qn (fun h4 H4 M4 p1 p2 p4 => ?_) (ps_k S v.toNat).toNat 0 lv3 h1 (z_i h1) x3 (by omega) q3 (RX.start h1) (fun _ _ => rfl) (fun _ _ => rfl) (fun q hq => by omega) d0 d1 d2 d3 d4 d5
  have r4 : h_r h4 nd 0 = h_r h1 nd 0 := by rw [M4.2.2.1.1]
  have C4 : ∀ j, z_i h4 (h_r h4 nd 0) j = H4 (h_r h1 nd 0) j := fun j => by rw [r4, M4.zi]
  refine g h4 (nl_RX ok1 M4 (by rw [p1 nd nC])) (cs_mk (l := ps_l S) (f := fun r => ps_b S (6 * v.toNat + r)) I cap ?_ ?_ (by omega) (by omega) (fun j hj => ?_) t0 t1 y0 y1 vk.1 vk.2 ?_ ?_ (fun r hr => ?_)) (F1.trans (FX.ofRX M4 (by rw [p1 nd nC]) (fun a ha j => ?_)))
  · rw [M4.zi, p1 nd nC]
    exact t5
  · rw [M4.zi, p1 nd nC, tk 6 (by decide)]
    exact i2
  · rw [C4, p2 j (by omega)]
    exact tc j (by omega)
  · rw [C4, p2 _ (by omega)]
    exact tw
  · rw [C4, p2 _ (by omega)]
    exact tr
  · rw [C4, p4 _ (by omega)]
    show z_i h1 (h_r h1 nd 0) _ = ps_b S (6 * v.toNat + r)
    rw [tc _ (by omega)]
    exact vc r hr
  · rw [p1 a (fun z => ha (Or.inr (Or.inl z)))]
-- the first one that is not below
theorem r_fn0 {wa : Nat} {t k : Int} (M : RX h0 h H) (e0 : m_lk lv 0 = some (.ref wa)) {lx1 : Int32} (e1 : m_lk lv 1 = some (.int lx1)) (lq1 : lx1.toInt = t) {lx2 : Int32} (e2 : m_lk lv 2 = some (.int lx2)) (lq2 : lx2.toInt = k) 
    (g0 : ∀ x1 : Int32, x1.toInt = 0 → ∀ lv2 : List (Nat × Value), m_lk lv2 0 = some (.ref wa) → m_lk lv2 1 = some (.int lx1) → m_lk lv2 2 = some (.int lx2) → m_lk lv2 3 = some (.int x1) → HJ 76 2 lv2 [] h Q)
    : HJ 76 0 lv [] h Q := by
  refine hM_ic (n := 0) rfl (by decide) rfl (fun x1 q1 => ?_) -- 0
  refine hM_si (k := 3) rfl (by decide +kernel) rfl (fun lv2 e2_3 u2 => ?_) -- 1
  have e2_0 := u2 0 _ (by decide) (Or.inl rfl) e0
  have e2_1 := u2 1 _ (by decide) (Or.inl rfl) e1
  have e2_2 := u2 2 _ (by decide) (Or.inl rfl) e2
  exact g0 x1 q1 lv2 e2_0 e2_1 e2_2 e2_3
theorem r_fn2 {wa : Nat} {t k i : Int} (M : RX h0 h H) (e0 : m_lk lv 0 = some (.ref wa)) {lx1 : Int32} (e1 : m_lk lv 1 = some (.int lx1)) (lq1 : lx1.toInt = t) {lx2 : Int32} (e2 : m_lk lv 2 = some (.int lx2)) (lq2 : lx2.toInt = k) {lx3 : Int32} (e3 : m_lk lv 3 = some (.int lx3)) (lq3 : lx3.toInt = i) (pi0 : 0 ≤ i) (pw1 : H wa 8 ≤ 63) (hk0 : (h_k h0 wa).1 = 8) (ha0 : (h_k h0 (h_r h0 wa 1)).1 = 20) (hl0 : 63 ≤ ((h_k h0 (h_r h0 wa 1)).2 : Int))
    (g0 : ∀ x2 : Int32, x2.toInt = (-1) → i ≥ H wa 8 → Q (some (.int x2)) h)
    (g1 : ∀ x3 : Int32, x3.toInt = H (h_r h0 wa 1) (i).toNat → i < H wa 8 → HJ 77 0 (lv_args 0 [.int x3]) [] h (fun v h' => HJ 76 19 lv (v.toList ++ []) h' Q))
    : HJ 76 2 lv [] h Q := by
  refine hI_il (k := 3) rfl e3 rfl ?_ -- 2
  refine hI_al (k := 0) rfl e0 rfl ?_ -- 3
  refine hR_gi (c := 7) (k := 8) M hk0 rfl rfl rfl rfl (fun x1 q1 => ?_) -- 4
  have gb1 : -2147483648 ≤ H wa 8 ∧ H wa 8 ≤ 2147483647 := by rw [← q1]; exact g_iT _
  refine hM_cge (off := 37) (t := 44) rfl lq3 q1 (by decide) rfl (fun c7 => ?_) (fun c7 => ?_) -- 7
  · refine hM_ic (n := (-1)) rfl (by decide) rfl (fun x2 q2 => ?_) -- 44
    refine hI_ri rfl rfl ?_ -- 45
    exact g0 x2 q2 c7
  · refine hI_al (k := 0) rfl e0 rfl ?_ -- 10
    refine hR_gr (c := 7) (k := 1) M hk0 rfl rfl rfl rfl ?_ -- 11
    refine hI_il (k := 3) rfl e3 rfl ?_ -- 14
    refine hR_ia M ha0 lq3 (by omega) (by omega) rfl rfl (fun x3 q3 => ?_) -- 15
    have gb3 : -2147483648 ≤ H (h_r h0 wa 1) (i).toNat ∧ H (h_r h0 wa 1) (i).toNat ≤ 2147483647 := by rw [← q3]; exact g_iT _
    refine hM_is0 (as := [.int x3]) (r := []) rfl rfl (by decide +kernel) rfl rfl rfl rfl rfl ?_ -- 16
    exact g1 x3 q3 c7
theorem r_fn19 {wa : Nat} {t k i z : Int} (M : RX h0 h H) (e0 : m_lk lv 0 = some (.ref wa)) {lx1 : Int32} (e1 : m_lk lv 1 = some (.int lx1)) (lq1 : lx1.toInt = t) {lx2 : Int32} (e2 : m_lk lv 2 = some (.int lx2)) (lq2 : lx2.toInt = k) {lx3 : Int32} (e3 : m_lk lv 3 = some (.int lx3)) (lq3 : lx3.toInt = i) {sx0 : Int32} (sq0 : sx0.toInt = z) (pi0 : 0 ≤ i) (pi1 : i < 63) (hk0 : (h_k h0 wa).1 = 8) (ha0 : (h_k h0 (h_r h0 wa 1)).1 = 20) (hl0 : 63 ≤ ((h_k h0 (h_r h0 wa 1)).2 : Int))
    (g0 : z ≠ t → HJ 76 38 lv [] h Q)
    (g1 : ∀ x1 : Int32, x1.toInt = H (h_r h0 wa 1) (i).toNat → z = t → HJ 78 0 (lv_args 0 [.int x1]) [] h (fun v h' => HJ 76 32 lv (v.toList ++ []) h' Q))
    : HJ 76 19 lv [.int sx0] h Q := by
  refine hI_il (k := 1) rfl e1 rfl ?_ -- 19
  refine hM_cne (off := 18) (t := 38) rfl sq0 lq1 (by decide) rfl (fun c20 => ?_) (fun c20 => ?_) -- 20
  · exact g0 c20
  · refine hI_al (k := 0) rfl e0 rfl ?_ -- 23
    refine hR_gr (c := 7) (k := 1) M hk0 rfl rfl rfl rfl ?_ -- 24
    refine hI_il (k := 3) rfl e3 rfl ?_ -- 27
    refine hR_ia M ha0 lq3 (by omega) (by omega) rfl rfl (fun x1 q1 => ?_) -- 28
    have gb1 : -2147483648 ≤ H (h_r h0 wa 1) (i).toNat ∧ H (h_r h0 wa 1) (i).toNat ≤ 2147483647 := by rw [← q1]; exact g_iT _
    refine hM_is0 (as := [.int x1]) (r := []) rfl rfl (by decide +kernel) rfl rfl rfl rfl rfl ?_ -- 29
    exact g1 x1 q1 c20
theorem r_fn32 {wa : Nat} {t k i z : Int} (M : RX h0 h H) (e0 : m_lk lv 0 = some (.ref wa)) {lx1 : Int32} (e1 : m_lk lv 1 = some (.int lx1)) (lq1 : lx1.toInt = t) {lx2 : Int32} (e2 : m_lk lv 2 = some (.int lx2)) (lq2 : lx2.toInt = k) {lx3 : Int32} (e3 : m_lk lv 3 = some (.int lx3)) (lq3 : lx3.toInt = i) {sx0 : Int32} (sq0 : sx0.toInt = z) 
    (g0 : z < k → HJ 76 38 lv [] h Q)
    (g1 : z ≥ k → Q (some (.int lx3)) h)
    : HJ 76 32 lv [.int sx0] h Q := by
  refine hI_il (k := 2) rfl e2 rfl ?_ -- 32
  refine hM_clt (off := 5) (t := 38) rfl sq0 lq2 (by decide) rfl (fun c33 => ?_) (fun c33 => ?_) -- 33
  · exact g0 c33
  · refine hI_il (k := 3) rfl e3 rfl ?_ -- 36
    refine hI_ri rfl rfl ?_ -- 37
    exact g1 c33
theorem r_fn38 {wa : Nat} {t k i : Int} (M : RX h0 h H) (e0 : m_lk lv 0 = some (.ref wa)) {lx1 : Int32} (e1 : m_lk lv 1 = some (.int lx1)) (lq1 : lx1.toInt = t) {lx2 : Int32} (e2 : m_lk lv 2 = some (.int lx2)) (lq2 : lx2.toInt = k) {lx3 : Int32} (e3 : m_lk lv 3 = some (.int lx3)) (lq3 : lx3.toInt = i) (pi0 : 0 ≤ i) (pi1 : i < 63)
    (g0 : ∀ x1 : Int32, x1.toInt = i + 1 → ∀ lv1 : List (Nat × Value), m_lk lv1 0 = some (.ref wa) → m_lk lv1 1 = some (.int lx1) → m_lk lv1 2 = some (.int lx2) → m_lk lv1 3 = some (.int x1) → HJ 76 2 lv1 [] h Q)
    : HJ 76 38 lv [] h Q := by
  refine hM_inc (k := 3) (z := 1) rfl e3 lq3 (by decide) (by omega) (by omega) (by decide +kernel) rfl (fun lv1 x1 q1 e1_3 u1 => ?_) -- 38
  have e1_0 := u1 0 _ (by decide) (Or.inl rfl) e0
  have e1_1 := u1 1 _ (by decide) (Or.inl rfl) e1
  have e1_2 := u1 2 _ (by decide) (Or.inl rfl) e2
  refine hI_go (pc' := 2) (off := (-39)) rfl (by decide) ?_ -- 41
  exact g0 x1 q1 lv1 e1_0 e1_1 e1_2 e1_3
theorem l_fn {wa : Nat} {S : PSt} {O : WKt} {t k : Int} {xt xk : Int32} (M : RX h0 h H) (ok : wl_ok h0 wa) (P : wl_of h0 H wa S O) (R : ∀ i, i < O.1 → (0 ≤ ps_t S (O.2.1 i).toNat ∧ ps_t S (O.2.1 i).toNat ≤ 127) ∧ 0 ≤ ps_y S (O.2.1 i).toNat) (w63 : O.1 ≤ 63) (qt : xt.toInt = t) (qk : xk.toInt = k) (g : ∀ x : Int32, x.toInt = lw_f S t k O O.1 0 → Q (some (.int x)) h) : ∀ (d i : Nat) (lv : List (Nat × Value)) (xi : Int32), i + d = O.1 → xi.toInt = (i : Int) → lw_f S t k O O.1 0 = lw_f S t k O d i → m_lk lv 0 = some (.ref wa) → m_lk lv 1 = some (.int xt) → m_lk lv 2 = some (.int xk) → m_lk lv 3 = some (.int xi) → HJ 76 2 lv [] h Q := by
  obtain ⟨P1, P2⟩ := P
  obtain ⟨k1, -, -, l1⟩ := ok.2.1 1 (by decide)
  intro d
  induction d with
  | zero =>
    intro i lv xi hd qi e e0 e1 e2 e3
    exact r_fn2 M e0 e1 qt e2 qk e3 qi (by omega) (by omega) ok.1.1 k1 l1 (fun x2 q2 _ => g x2 (by rw [e]; exact q2)) (fun _ _ c => absurd c (by omega))
  | succ d ih =>
    intro i lv xi hd qi e e0 e1 e2 e3
    obtain ⟨-, pw, -, -⟩ := P2 i (by omega)
    obtain ⟨⟨t0, t1⟩, y0⟩ := R i (by omega)
    have nxt : ¬ (ps_t S (O.2.1 i).toNat = t ∧ k ≤ ps_y S (O.2.1 i).toNat) → HJ 76 38 lv [] h Q := fun c => r_fn38 M e0 e1 qt e2 qk e3 qi (by omega) (by omega) (fun x1 q1 lv1 a0 a1 a2 a3 => ih (i + 1) lv1 x1 (by omega) (by omega) (by rw [e, lw_f, if_neg c]) a0 a1 a2 a3)
    refine r_fn2 M e0 e1 qt e2 qk e3 qi (by omega) (by omega) ok.1.1 k1 l1 (fun _ _ c => absurd c (by omega)) (fun x3 q3 _ => ?_)
    rw [Int.toNat_natCast, pw] at q3
    refine k_thIn q3 t0 t1 y0 (fun w qw => ?_)
    refine r_fn19 M e0 e1 qt e2 qk e3 qi qw (by omega) (by omega) ok.1.1 k1 l1 (fun c => nxt (fun z => c z.1)) (fun x1 q1 c => ?_)
    rw [Int.toNat_natCast, pw] at q1
    refine k_keyIn q1 t0 t1 y0 (fun w2 qw2 => ?_)
    refine r_fn32 M e0 e1 qt e2 qk e3 qi qw2 (fun c2 => nxt (fun z => by omega)) (fun c2 => g xi ?_)
    rw [e, lw_f, if_pos ⟨c, by omega⟩]
    exact qi
theorem k_fnb {wa : Nat} {S : PSt} {O : WKt} {t k : Int} {xt xk : Int32} (M : RX h0 h H) (ok : wl_ok h0 wa) (P : wl_of h0 H wa S O) (R : ∀ i, i < O.1 → (0 ≤ ps_t S (O.2.1 i).toNat ∧ ps_t S (O.2.1 i).toNat ≤ 127) ∧ 0 ≤ ps_y S (O.2.1 i).toNat) (w63 : O.1 ≤ 63) (qt : xt.toInt = t) (qk : xk.toInt = k) (g : ∀ x : Int32, x.toInt = lw_f S t k O O.1 0 → Q (some (.int x)) h) : HJ 76 0 (lv_args 0 [.ref wa, .int xt, .int xk]) [] h Q := by
  refine r_fn0 M rfl rfl qt rfl qk (fun x1 q1 lv2 e0 e1 e2 e3 => ?_)
  exact l_fn M ok P R w63 qt qk g O.1 0 lv2 x1 (by omega) q1 rfl e0 e1 e2 e3
end
