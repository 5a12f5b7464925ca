-- THE CLASS'S NODES AGAINST THE PURE STORE
def nd_ok (h0 : MH) (nd : Nat) (n : Nat) : Prop := ((h_k h0 nd).1 = 3 ∧ 16 ≤ nd) ∧ ((h_k h0 (h_r h0 nd 0)).1 = 20 ∧ 16 ≤ h_r h0 nd 0) ∧ 7 * (n : Int) ≤ ((h_k h0 (h_r h0 nd 0)).2 : Int)
section
variable {lv : List (Nat × Value)} {Q : Option Value → MH → Prop} {h0 h : MH} {H : Nat → Nat → Int}
theorem r_wt {nd : Nat} {v : Int} (M : RX h0 h H) (e0 : m_lk lv 0 = some (.ref nd)) {lx1 : Int32} (e1 : m_lk lv 1 = some (.int lx1)) (lq1 : lx1.toInt = v) (n0 : 0 ≤ H nd 5) (n1 : H nd 5 ≤ 16000) (hk0 : (h_k h0 nd).1 = 3) (ha0 : (h_k h0 (h_r h0 nd 0)).1 = 20) (hl0 : 7 * H nd 5 ≤ ((h_k h0 (h_r h0 nd 0)).2 : Int))
    (g0 : ∀ x1 : Int32, x1.toInt = (-1) → v < 0 → Q (some (.int x1)) h)
    (g1 : ∀ x3 : Int32, x3.toInt = (-1) → v ≥ 0 → v ≥ H nd 5 → Q (some (.int x3)) h)
    (g2 : ∀ x8 : Int32, x8.toInt = H (h_r h0 nd 0) ((v * 7) + 0).toNat → v ≥ 0 → v < H nd 5 → Q (some (.int x8)) h)
    : HJ 66 0 lv [] h Q := by
  refine hI_il (k := 1) rfl e1 rfl ?_ -- 0
  refine hM_zlt (off := 25) (t := 26) rfl lq1 (by decide) rfl (fun c1 => ?_) (fun c1 => ?_) -- 1
  · refine hM_ic (n := (-1)) rfl (by decide) rfl (fun x1 q1 => ?_) -- 26
    refine hI_ri rfl rfl ?_ -- 27
    exact g0 x1 q1 c1
  · refine hI_il (k := 1) rfl e1 rfl ?_ -- 4
    refine hI_al (k := 0) rfl e0 rfl ?_ -- 5
    refine hR_gi (c := 2) (k := 5) M hk0 rfl rfl rfl rfl (fun x2 q2 => ?_) -- 6
    have gb2 : -2147483648 ≤ H nd 5 ∧ H nd 5 ≤ 2147483647 := by rw [← q2]; exact g_iT _
    refine hM_cge (off := 17) (t := 26) rfl lq1 q2 (by decide) rfl (fun c9 => ?_) (fun c9 => ?_) -- 9
    · refine hM_ic (n := (-1)) rfl (by decide) rfl (fun x3 q3 => ?_) -- 26
      refine hI_ri rfl rfl ?_ -- 27
      exact g1 x3 q3 c1 c9
    · refine hI_al (k := 0) rfl e0 rfl ?_ -- 12
      refine hR_gr (c := 2) (k := 0) M hk0 rfl rfl rfl rfl ?_ -- 13
      refine hI_il (k := 1) rfl e1 rfl ?_ -- 16
      refine hM_bp (n := 7) rfl (by decide) rfl (fun x4 q4 => ?_) -- 17
      refine hM_mul rfl lq1 q4 (by omega) (by omega) rfl (fun x5 q5 => ?_) -- 19
      refine hM_ic (n := 0) rfl (by decide) rfl (fun x6 q6 => ?_) -- 20
      refine hM_add rfl q5 q6 (by omega) (by omega) rfl (fun x7 q7 => ?_) -- 21
      refine hR_ia M ha0 q7 (by omega) (by omega) rfl rfl (fun x8 q8 => ?_) -- 22
      have gb8 : -2147483648 ≤ H (h_r h0 nd 0) ((v * 7) + 0).toNat ∧ H (h_r h0 nd 0) ((v * 7) + 0).toNat ≤ 2147483647 := by rw [← q8]; exact g_iT _
      refine hI_go (pc' := 27) (off := 4) rfl (by decide) ?_ -- 23
      refine hI_ri rfl rfl ?_ -- 27
      exact g2 x8 q8 c1 c9
theorem r_rk {nd : Nat} {v : Int} (M : RX h0 h H) (e0 : m_lk lv 0 = some (.ref nd)) {lx1 : Int32} (e1 : m_lk lv 1 = some (.int lx1)) (lq1 : lx1.toInt = v) (n0 : 0 ≤ H nd 5) (n1 : H nd 5 ≤ 16000) (hk0 : (h_k h0 nd).1 = 3) (ha0 : (h_k h0 (h_r h0 nd 0)).1 = 20) (hl0 : 7 * H nd 5 ≤ ((h_k h0 (h_r h0 nd 0)).2 : Int))
    (g0 : ∀ x1 : Int32, x1.toInt = (-1) → v < 0 → Q (some (.int x1)) h)
    (g1 : ∀ x3 : Int32, x3.toInt = (-1) → v ≥ 0 → v ≥ H nd 5 → Q (some (.int x3)) h)
    (g2 : ∀ x8 : Int32, x8.toInt = H (h_r h0 nd 0) ((v * 7) + 1).toNat → v ≥ 0 → v < H nd 5 → Q (some (.int x8)) h)
    : HJ 67 0 lv [] h Q := by
  refine hI_il (k := 1) rfl e1 rfl ?_ -- 0
  refine hM_zlt (off := 25) (t := 26) rfl lq1 (by decide) rfl (fun c1 => ?_) (fun c1 => ?_) -- 1
  · refine hM_ic (n := (-1)) rfl (by decide) rfl (fun x1 q1 => ?_) -- 26
    refine hI_ri rfl rfl ?_ -- 27
    exact g0 x1 q1 c1
  · refine hI_il (k := 1) rfl e1 rfl ?_ -- 4
    refine hI_al (k := 0) rfl e0 rfl ?_ -- 5
    refine hR_gi (c := 2) (k := 5) M hk0 rfl rfl rfl rfl (fun x2 q2 => ?_) -- 6
    have gb2 : -2147483648 ≤ H nd 5 ∧ H nd 5 ≤ 2147483647 := by rw [← q2]; exact g_iT _
    refine hM_cge (off := 17) (t := 26) rfl lq1 q2 (by decide) rfl (fun c9 => ?_) (fun c9 => ?_) -- 9
    · refine hM_ic (n := (-1)) rfl (by decide) rfl (fun x3 q3 => ?_) -- 26
      refine hI_ri rfl rfl ?_ -- 27
      exact g1 x3 q3 c1 c9
    · refine hI_al (k := 0) rfl e0 rfl ?_ -- 12
      refine hR_gr (c := 2) (k := 0) M hk0 rfl rfl rfl rfl ?_ -- 13
      refine hI_il (k := 1) rfl e1 rfl ?_ -- 16
      refine hM_bp (n := 7) rfl (by decide) rfl (fun x4 q4 => ?_) -- 17
      refine hM_mul rfl lq1 q4 (by omega) (by omega) rfl (fun x5 q5 => ?_) -- 19
      refine hM_ic (n := 1) rfl (by decide) rfl (fun x6 q6 => ?_) -- 20
      refine hM_add rfl q5 q6 (by omega) (by omega) rfl (fun x7 q7 => ?_) -- 21
      refine hR_ia M ha0 q7 (by omega) (by omega) rfl rfl (fun x8 q8 => ?_) -- 22
      have gb8 : -2147483648 ≤ H (h_r h0 nd 0) ((v * 7) + 1).toNat ∧ H (h_r h0 nd 0) ((v * 7) + 1).toNat ≤ 2147483647 := by rw [← q8]; exact g_iT _
      refine hI_go (pc' := 27) (off := 4) rfl (by decide) ?_ -- 23
      refine hI_ri rfl rfl ?_ -- 27
      exact g2 x8 q8 c1 c9
theorem r_ch {nd : Nat} {v j : Int} (M : RX h0 h H) (e0 : m_lk lv 0 = some (.ref nd)) {lx1 : Int32} (e1 : m_lk lv 1 = some (.int lx1)) (lq1 : lx1.toInt = v) {lx2 : Int32} (e2 : m_lk lv 2 = some (.int lx2)) (lq2 : lx2.toInt = j) (n0 : 0 ≤ H nd 5) (n1 : H nd 5 ≤ 16000) (hk0 : (h_k h0 nd).1 = 3) (ha0 : (h_k h0 (h_r h0 nd 0)).1 = 20) (hl0 : 7 * H nd 5 ≤ ((h_k h0 (h_r h0 nd 0)).2 : Int))
    (g0 : ∀ x3 : Int32, x3.toInt = (-1) → ∀ lv2 : List (Nat × Value), v < 0 → Q (some (.int x3)) h)
    (g1 : ∀ x7 : Int32, x7.toInt = (-1) → ∀ lv6 : List (Nat × Value), v ≥ 0 → v ≥ H nd 5 → Q (some (.int x7)) h)
    (g2 : ∀ x10 : Int32, x10.toInt = (-1) → ∀ lv9 : List (Nat × Value), v ≥ 0 → v < H nd 5 → j < 0 → Q (some (.int x10)) h)
    (g3 : ∀ x14 : Int32, x14.toInt = (-1) → ∀ lv13 : List (Nat × Value), v ≥ 0 → v < H nd 5 → j ≥ 0 → j ≥ 5 → Q (some (.int x14)) h)
    (g4 : ∀ x22 : Int32, x22.toInt = H (h_r h0 nd 0) (((v * 7) + 2) + j).toNat → ∀ lv16 : List (Nat × Value), v ≥ 0 → v < H nd 5 → j ≥ 0 → j < 5 → Q (some (.int x22)) h)
    : HJ 69 0 lv [] h Q := by
  refine hI_il (k := 1) rfl e1 rfl ?_ -- 0
  refine hM_zlt (off := 24) (t := 25) rfl lq1 (by decide) rfl (fun c1 => ?_) (fun c1 => ?_) -- 1
  · refine hM_ic (n := 0) rfl (by decide) rfl (fun x1 q1 => ?_) -- 25
    refine hM_si (k := 3) rfl (by decide +kernel) rfl (fun lv2 e2_3 u2 => ?_) -- 26
    have e2_0 := u2 0 _ (by decide) (Or.inl rfl) e0
    have e2_1 := u2 1 _ (by decide) (Or.inl rfl) e1
    have e2_2 := u2 2 _ (by decide) (Or.inl rfl) e2
    refine hI_il (k := 3) rfl e2_3 rfl ?_ -- 27
    refine hM_zeq (off := 19) (t := 47) rfl q1 (by decide) rfl (fun c28 => ?_) (fun c28 => ?_) -- 28
    · refine hM_ic (n := (-1)) rfl (by decide) rfl (fun x3 q3 => ?_) -- 47
      refine hI_ri rfl rfl ?_ -- 48
      exact g0 x3 q3 lv2 c1
    · exfalso; omega
  · refine hI_il (k := 1) rfl e1 rfl ?_ -- 4
    refine hI_al (k := 0) rfl e0 rfl ?_ -- 5
    refine hR_gi (c := 2) (k := 5) M hk0 rfl rfl rfl rfl (fun x4 q4 => ?_) -- 6
    have gb4 : -2147483648 ≤ H nd 5 ∧ H nd 5 ≤ 2147483647 := by rw [← q4]; exact g_iT _
    refine hM_cge (off := 16) (t := 25) rfl lq1 q4 (by decide) rfl (fun c9 => ?_) (fun c9 => ?_) -- 9
    · refine hM_ic (n := 0) rfl (by decide) rfl (fun x5 q5 => ?_) -- 25
      refine hM_si (k := 3) rfl (by decide +kernel) rfl (fun lv6 e6_3 u6 => ?_) -- 26
      have e6_0 := u6 0 _ (by decide) (Or.inl rfl) e0
      have e6_1 := u6 1 _ (by decide) (Or.inl rfl) e1
      have e6_2 := u6 2 _ (by decide) (Or.inl rfl) e2
      refine hI_il (k := 3) rfl e6_3 rfl ?_ -- 27
      refine hM_zeq (off := 19) (t := 47) rfl q5 (by decide) rfl (fun c28 => ?_) (fun c28 => ?_) -- 28
      · refine hM_ic (n := (-1)) rfl (by decide) rfl (fun x7 q7 => ?_) -- 47
        refine hI_ri rfl rfl ?_ -- 48
        exact g1 x7 q7 lv6 c1 c9
      · exfalso; omega
    · refine hI_il (k := 2) rfl e2 rfl ?_ -- 12
      refine hM_zlt (off := 12) (t := 25) rfl lq2 (by decide) rfl (fun c13 => ?_) (fun c13 => ?_) -- 13
      · refine hM_ic (n := 0) rfl (by decide) rfl (fun x8 q8 => ?_) -- 25
        refine hM_si (k := 3) rfl (by decide +kernel) rfl (fun lv9 e9_3 u9 => ?_) -- 26
        have e9_0 := u9 0 _ (by decide) (Or.inl rfl) e0
        have e9_1 := u9 1 _ (by decide) (Or.inl rfl) e1
        have e9_2 := u9 2 _ (by decide) (Or.inl rfl) e2
        refine hI_il (k := 3) rfl e9_3 rfl ?_ -- 27
        refine hM_zeq (off := 19) (t := 47) rfl q8 (by decide) rfl (fun c28 => ?_) (fun c28 => ?_) -- 28
        · refine hM_ic (n := (-1)) rfl (by decide) rfl (fun x10 q10 => ?_) -- 47
          refine hI_ri rfl rfl ?_ -- 48
          exact g2 x10 q10 lv9 c1 c9 c13
        · exfalso; omega
      · refine hI_il (k := 2) rfl e2 rfl ?_ -- 16
        refine hM_ic (n := 5) rfl (by decide) rfl (fun x11 q11 => ?_) -- 17
        refine hM_cge (off := 7) (t := 25) rfl lq2 q11 (by decide) rfl (fun c18 => ?_) (fun c18 => ?_) -- 18
        · refine hM_ic (n := 0) rfl (by decide) rfl (fun x12 q12 => ?_) -- 25
          refine hM_si (k := 3) rfl (by decide +kernel) rfl (fun lv13 e13_3 u13 => ?_) -- 26
          have e13_0 := u13 0 _ (by decide) (Or.inl rfl) e0
          have e13_1 := u13 1 _ (by decide) (Or.inl rfl) e1
          have e13_2 := u13 2 _ (by decide) (Or.inl rfl) e2
          refine hI_il (k := 3) rfl e13_3 rfl ?_ -- 27
          refine hM_zeq (off := 19) (t := 47) rfl q12 (by decide) rfl (fun c28 => ?_) (fun c28 => ?_) -- 28
          · refine hM_ic (n := (-1)) rfl (by decide) rfl (fun x14 q14 => ?_) -- 47
            refine hI_ri rfl rfl ?_ -- 48
            exact g3 x14 q14 lv13 c1 c9 c13 c18
          · exfalso; omega
        · refine hM_ic (n := 1) rfl (by decide) rfl (fun x15 q15 => ?_) -- 21
          refine hI_go (pc' := 26) (off := 4) rfl (by decide) ?_ -- 22
          refine hM_si (k := 3) rfl (by decide +kernel) rfl (fun lv16 e16_3 u16 => ?_) -- 26
          have e16_0 := u16 0 _ (by decide) (Or.inl rfl) e0
          have e16_1 := u16 1 _ (by decide) (Or.inl rfl) e1
          have e16_2 := u16 2 _ (by decide) (Or.inl rfl) e2
          refine hI_il (k := 3) rfl e16_3 rfl ?_ -- 27
          refine hM_zeq (off := 19) (t := 47) rfl q15 (by decide) rfl (fun c28 => ?_) (fun c28 => ?_) -- 28
          · exfalso; omega
          · refine hI_al (k := 0) rfl e16_0 rfl ?_ -- 31
            refine hR_gr (c := 2) (k := 0) M hk0 rfl rfl rfl rfl ?_ -- 32
            refine hI_il (k := 1) rfl e16_1 rfl ?_ -- 35
            refine hM_bp (n := 7) rfl (by decide) rfl (fun x17 q17 => ?_) -- 36
            refine hM_mul rfl lq1 q17 (by omega) (by omega) rfl (fun x18 q18 => ?_) -- 38
            refine hM_ic (n := 2) rfl (by decide) rfl (fun x19 q19 => ?_) -- 39
            refine hM_add rfl q18 q19 (by omega) (by omega) rfl (fun x20 q20 => ?_) -- 40
            refine hI_il (k := 2) rfl e16_2 rfl ?_ -- 41
            refine hM_add rfl q20 lq2 (by omega) (by omega) rfl (fun x21 q21 => ?_) -- 42
            refine hR_ia M ha0 q21 (by omega) (by omega) rfl rfl (fun x22 q22 => ?_) -- 43
            have gb22 : -2147483648 ≤ H (h_r h0 nd 0) (((v * 7) + 2) + j).toNat ∧ H (h_r h0 nd 0) (((v * 7) + 2) + j).toNat ≤ 2147483647 := by rw [← q22]; exact g_iT _
            refine hI_go (pc' := 48) (off := 4) rfl (by decide) ?_ -- 44
            refine hI_ri rfl rfl ?_ -- 48
            exact g4 x22 q22 lv16 c1 c9 c13 c18
theorem r_sc {nd : Nat} {v j x : Int} (M : RX h0 h H) (e0 : m_lk lv 0 = some (.ref nd)) {lx1 : Int32} (e1 : m_lk lv 1 = some (.int lx1)) (lq1 : lx1.toInt = v) {lx2 : Int32} (e2 : m_lk lv 2 = some (.int lx2)) (lq2 : lx2.toInt = j) {lx3 : Int32} (e3 : m_lk lv 3 = some (.int lx3)) (lq3 : lx3.toInt = x) (n0 : 0 ≤ H nd 5) (n1 : H nd 5 ≤ 16000) (hk0 : (h_k h0 nd).1 = 3) (ha0 : (h_k h0 (h_r h0 nd 0)).1 = 20) (hl0 : 7 * H nd 5 ≤ ((h_k h0 (h_r h0 nd 0)).2 : Int)) (hs0 : 16 ≤ h_r h0 nd 0)
    (g0 : v < 0 → Q none h)
    (g1 : v ≥ 0 → v ≥ H nd 5 → Q none h)
    (g2 : v ≥ 0 → v < H nd 5 → j < 0 → Q none h)
    (g3 : v ≥ 0 → v < H nd 5 → j ≥ 0 → j ≥ 5 → Q none h)
    (g4 : ∀ h8 : MH, ∀ H8 : Nat → Nat → Int, H8 = m_u H (h_r h0 nd 0) (m_u (H (h_r h0 nd 0)) (((v * 7) + 2) + j).toNat (x)) → RX h0 h8 H8 → v ≥ 0 → v < H nd 5 → j ≥ 0 → j < 5 → Q none h8)
    : HJ 68 0 lv [] h Q := by
  refine hI_il (k := 1) rfl e1 rfl ?_ -- 0
  refine hM_zlt (off := 34) (t := 35) rfl lq1 (by decide) rfl (fun c1 => ?_) (fun c1 => ?_) -- 1
  · refine hI_rv rfl rfl ?_
    exact g0 c1
  · refine hI_il (k := 1) rfl e1 rfl ?_ -- 4
    refine hI_al (k := 0) rfl e0 rfl ?_ -- 5
    refine hR_gi (c := 2) (k := 5) M hk0 rfl rfl rfl rfl (fun x1 q1 => ?_) -- 6
    have gb1 : -2147483648 ≤ H nd 5 ∧ H nd 5 ≤ 2147483647 := by rw [← q1]; exact g_iT _
    refine hM_cge (off := 26) (t := 35) rfl lq1 q1 (by decide) rfl (fun c9 => ?_) (fun c9 => ?_) -- 9
    · refine hI_rv rfl rfl ?_
      exact g1 c1 c9
    · refine hI_il (k := 2) rfl e2 rfl ?_ -- 12
      refine hM_zlt (off := 22) (t := 35) rfl lq2 (by decide) rfl (fun c13 => ?_) (fun c13 => ?_) -- 13
      · refine hI_rv rfl rfl ?_
        exact g2 c1 c9 c13
      · refine hI_il (k := 2) rfl e2 rfl ?_ -- 16
        refine hM_ic (n := 5) rfl (by decide) rfl (fun x2 q2 => ?_) -- 17
        refine hM_cge (off := 17) (t := 35) rfl lq2 q2 (by decide) rfl (fun c18 => ?_) (fun c18 => ?_) -- 18
        · refine hI_rv rfl rfl ?_
          exact g3 c1 c9 c13 c18
        · refine hI_al (k := 0) rfl e0 rfl ?_ -- 21
          refine hR_gr (c := 2) (k := 0) M hk0 rfl rfl rfl rfl ?_ -- 22
          refine hI_il (k := 1) rfl e1 rfl ?_ -- 25
          refine hM_bp (n := 7) rfl (by decide) rfl (fun x3 q3 => ?_) -- 26
          refine hM_mul rfl lq1 q3 (by omega) (by omega) rfl (fun x4 q4 => ?_) -- 28
          refine hM_ic (n := 2) rfl (by decide) rfl (fun x5 q5 => ?_) -- 29
          refine hM_add rfl q4 q5 (by omega) (by omega) rfl (fun x6 q6 => ?_) -- 30
          refine hI_il (k := 2) rfl e2 rfl ?_ -- 31
          refine hM_add rfl q6 lq2 (by omega) (by omega) rfl (fun x7 q7 => ?_) -- 32
          refine hI_il (k := 3) rfl e3 rfl ?_ -- 33
          refine hR_is M hs0 ha0 q7 lq3 (by omega) (by omega) rfl rfl (fun h8 H8 f8 M8 => ?_) -- 34
          refine hI_rv rfl rfl ?_
          exact g4 h8 H8 f8 M8 c1 c9 c13 c18
theorem k_wt {nd : Nat} {S : PSt} {v : Int} {xv : Int32} (M : RX h0 h H) (ok : nd_ok h0 nd (ps_n S)) (I : cs_of h0 H nd S) (hv : xv.toInt = v) (v0 : 0 ≤ v) (v1 : v < (ps_n S : Int)) (g : ∀ x : Int32, x.toInt = 128 * ps_y S v.toNat + ps_t S v.toNat → Q (some (.int x)) h) : HJ 66 0 (lv_args 0 [.ref nd, .int xv]) [] h Q := by
  obtain ⟨i1, -, -, i4, i5⟩ := I
  refine r_wt M rfl rfl hv (by omega) (by omega) ok.1.1 ok.2.1.1 (by rw [i1]; exact ok.2.2) (fun _ _ c => absurd c (by omega)) (fun _ _ _ c => absurd c (by omega)) (fun x q _ _ => g x ?_)
  rw [q, show (v * 7 + 0).toNat = 7 * v.toNat by omega]
  exact (i5 v.toNat (by omega)).1
theorem k_rk {nd : Nat} {S : PSt} {v : Int} {xv : Int32} (M : RX h0 h H) (ok : nd_ok h0 nd (ps_n S)) (I : cs_of h0 H nd S) (hv : xv.toInt = v) (v0 : 0 ≤ v) (v1 : v < (ps_n S : Int)) (g : ∀ x : Int32, x.toInt = ps_k S v.toNat → Q (some (.int x)) h) : HJ 67 0 (lv_args 0 [.ref nd, .int xv]) [] h Q := by
  obtain ⟨i1, -, -, i4, i5⟩ := I
  refine r_rk M rfl rfl hv (by omega) (by omega) ok.1.1 ok.2.1.1 (by rw [i1]; exact ok.2.2) (fun _ _ c => absurd c (by omega)) (fun _ _ _ c => absurd c (by omega)) (fun x q _ _ => g x ?_)
  rw [q, show (v * 7 + 1).toNat = 7 * v.toNat + 1 by omega]
  exact (i5 v.toNat (by omega)).2.2.2.1
-- a child, by its rank
theorem k_ch {nd : Nat} {S : PSt} {v j : Int} {r : Nat} {xv xj : Int32} (M : RX h0 h H) (ok : nd_ok h0 nd (ps_n S)) (I : cs_of h0 H nd S) (hv : xv.toInt = v) (hj : xj.toInt = j) (v0 : 0 ≤ v) (v1 : v < (ps_n S : Int)) (r1 : (r : Int) < ps_k S v.toNat) (jr : j = ps_k S v.toNat - 1 - r) (g : ∀ x : Int32, x.toInt = ps_b S (6 * v.toNat + r) → Q (some (.int x)) h) : HJ 69 0 (lv_args 0 [.ref nd, .int xv, .int xj]) [] h Q := by
  obtain ⟨i1, -, -, i4, i5⟩ := I
  obtain ⟨-, -, -, -, k5, kb⟩ := i5 v.toNat (by omega)
  refine r_ch M rfl rfl hv rfl hj (by omega) (by omega) ok.1.1 ok.2.1.1 (by rw [i1]; exact ok.2.2) (fun _ _ _ c => absurd c (by omega)) (fun _ _ _ _ c => absurd c (by omega)) (fun _ _ _ _ _ c => absurd c (by omega)) (fun _ _ _ _ _ _ c => absurd c (by omega)) (fun x q _ _ _ _ _ => g x ?_)
  rw [q, ← kb r r1, show (v * 7 + 2 + j).toNat = 7 * v.toNat + 2 + ((ps_k S v.toNat).toNat - 1 - r) by omega]
theorem k_sc {nd : Nat} {v j x : Int} {xv xj xx : Int32} (M : RX h0 h H) (ok : nd_ok h0 nd (H nd 5).toNat) (n0 : 0 ≤ H nd 5) (n1 : H nd 5 ≤ 16000) (hv : xv.toInt = v) (hj : xj.toInt = j) (hx : xx.toInt = x) (v0 : 0 ≤ v) (v1 : v < H nd 5) (j0 : 0 ≤ j) (j1 : j < 5) (g : ∀ (h' : MH) (H' : Nat → Nat → Int), H' = m_u H (h_r h0 nd 0) (m_u (H (h_r h0 nd 0)) (7 * v.toNat + 2 + j.toNat) x) → RX h0 h' H' → Q none h') : HJ 68 0 (lv_args 0 [.ref nd, .int xv, .int xj, .int xx]) [] h Q := by
  refine r_sc M rfl rfl hv rfl hj rfl hx n0 n1 ok.1.1 ok.2.1.1 (by have := ok.2.2; omega) ok.2.1.2 (fun c => absurd c (by omega)) (fun _ c => absurd c (by omega)) (fun _ _ c => absurd c (by omega)) (fun _ _ _ c => absurd c (by omega)) (fun h8 H8 f8 M8 _ _ _ _ => g h8 H8 ?_ M8)
  rw [f8, show (v * 7 + 2 + j).toNat = 7 * v.toNat + 2 + j.toNat by omega]
-- the least root's rank
theorem r_lr0 {nd hp : Nat} (M : RX h0 h H) (e0 : m_lk lv 0 = some (.ref nd)) (e1 : m_lk lv 1 = some (.ref hp)) 
    (g0 : ∀ x1 : Int32, x1.toInt = (-1) → ∀ x3 : Int32, x3.toInt = 0 → ∀ lv4 : List (Nat × Value), m_lk lv4 0 = some (.ref nd) → m_lk lv4 1 = some (.ref hp) → m_lk lv4 2 = some (.int x1) → m_lk lv4 3 = some (.int x3) → HJ 72 4 lv4 [] h Q)
    : HJ 72 0 lv [] h Q := by
  refine hM_ic (n := (-1)) rfl (by decide) rfl (fun x1 q1 => ?_) -- 0
  refine hM_si (k := 2) rfl (by decide +kernel) rfl (fun lv2 e2_2 u2 => ?_) -- 1
  have e2_0 := u2 0 _ (by decide) (Or.inl rfl) e0
  have e2_1 := u2 1 _ (by decide) (Or.inl rfl) e1
  refine hM_ic (n := 0) rfl (by decide) rfl (fun x3 q3 => ?_) -- 2
  refine hM_si (k := 3) rfl (by decide +kernel) rfl (fun lv4 e4_3 u4 => ?_) -- 3
  have e4_0 := u4 0 _ (by decide) (Or.inl rfl) e2_0
  have e4_1 := u4 1 _ (by decide) (Or.inl rfl) e2_1
  have e4_2 := u4 2 _ (by decide) (Or.inl rfl) e2_2
  exact g0 x1 q1 x3 q3 lv4 e4_0 e4_1 e4_2 e4_3
theorem r_lr4 {nd hp : Nat} {b r : Int} (M : RX h0 h H) (e0 : m_lk lv 0 = some (.ref nd)) (e1 : m_lk lv 1 = some (.ref hp)) {lx2 : Int32} (e2 : m_lk lv 2 = some (.int lx2)) (lq2 : lx2.toInt = b) {lx3 : Int32} (e3 : m_lk lv 3 = some (.int lx3)) (lq3 : lx3.toInt = r) (r0 : 0 ≤ r) (b0 : -1 ≤ b) (b1 : b ≤ 5) (ha0 : (h_k h0 hp).1 = 20) (hl0 : 6 ≤ ((h_k h0 hp).2 : Int)) (hs0 : 16 ≤ nd) (hk0 : (h_k h0 nd).1 = 3)
    (g0 : r ≥ 6 → Q (some (.int lx2)) h)
    (g1 : r < 6 → H hp (r).toNat = (-1) → HJ 72 41 lv [] h Q)
    (g2 : r < 6 → H hp (r).toNat ≠ (-1) → b = (-1) → HJ 72 39 lv [] h Q)
    (g3 : ∀ x5 : Int32, x5.toInt = H hp (r).toNat → r < 6 → H hp (r).toNat ≠ (-1) → b ≠ (-1) → HJ 66 0 (lv_args 0 [.ref nd, .int x5]) [] h (fun v h' => HJ 72 29 lv (v.toList ++ []) h' Q))
    : HJ 72 4 lv [] h Q := by
  refine hI_il (k := 3) rfl e3 rfl ?_ -- 4
  refine hM_bp (n := 6) rfl (by decide) rfl (fun x1 q1 => ?_) -- 5
  refine hM_cge (off := 40) (t := 47) rfl lq3 q1 (by decide) rfl (fun c7 => ?_) (fun c7 => ?_) -- 7
  · refine hI_il (k := 2) rfl e2 rfl ?_ -- 47
    refine hI_ri rfl rfl ?_ -- 48
    exact g0 c7
  · refine hI_al (k := 1) rfl e1 rfl ?_ -- 10
    refine hI_il (k := 3) rfl e3 rfl ?_ -- 11
    refine hR_ia M ha0 lq3 (by omega) (by omega) rfl rfl (fun x2 q2 => ?_) -- 12
    have gb2 : -2147483648 ≤ H hp (r).toNat ∧ H hp (r).toNat ≤ 2147483647 := by rw [← q2]; exact g_iT _
    refine hM_ic (n := (-1)) rfl (by decide) rfl (fun x3 q3 => ?_) -- 13
    refine hM_ceq (off := 27) (t := 41) rfl q2 q3 (by decide) rfl (fun c14 => ?_) (fun c14 => ?_) -- 14
    · exact g1 c7 c14
    · refine hI_il (k := 2) rfl e2 rfl ?_ -- 17
      refine hM_ic (n := (-1)) rfl (by decide) rfl (fun x4 q4 => ?_) -- 18
      refine hM_ceq (off := 20) (t := 39) rfl lq2 q4 (by decide) rfl (fun c19 => ?_) (fun c19 => ?_) -- 19
      · exact g2 c7 c14 c19
      · refine hI_al (k := 0) rfl e0 rfl ?_ -- 22
        refine hI_al (k := 1) rfl e1 rfl ?_ -- 23
        refine hI_il (k := 3) rfl e3 rfl ?_ -- 24
        refine hR_ia M ha0 lq3 (by omega) (by omega) rfl rfl (fun x5 q5 => ?_) -- 25
        have gb5 : -2147483648 ≤ H hp (r).toNat ∧ H hp (r).toNat ≤ 2147483647 := by rw [← q5]; exact g_iT _
        refine HJ.call (j := 66) (as := [.ref nd, .int x5]) (rr := []) (pc' := 29) (m_cR (kc := 2) rfl rfl (by decide +kernel) rfl rfl rfl ⟨rfl, by decide +kernel, by decide +kernel⟩ (by decide) hs0 (by rw [M.2.1]; exact hk0)) (by show 2 ≤ m_lc 66; decide +kernel) ?_ -- 26
        exact g3 x5 q5 c7 c14 c19
theorem r_lr29 {nd hp : Nat} {b r w : Int} (M : RX h0 h H) (e0 : m_lk lv 0 = some (.ref nd)) (e1 : m_lk lv 1 = some (.ref hp)) {lx2 : Int32} (e2 : m_lk lv 2 = some (.int lx2)) (lq2 : lx2.toInt = b) {lx3 : Int32} (e3 : m_lk lv 3 = some (.int lx3)) (lq3 : lx3.toInt = r) {sx0 : Int32} (sq0 : sx0.toInt = w) (b0 : 0 ≤ b) (b1 : b ≤ 5) (ha0 : (h_k h0 hp).1 = 20) (hl0 : 6 ≤ ((h_k h0 hp).2 : Int)) (hs0 : 16 ≤ nd) (hk0 : (h_k h0 nd).1 = 3)
    (g0 : ∀ x1 : Int32, x1.toInt = H hp (b).toNat → HJ 66 0 (lv_args 0 [.ref nd, .int x1]) [] h (fun v h' => HJ 72 36 lv (v.toList ++ [.int sx0]) h' Q))
    : HJ 72 29 lv [.int sx0] h Q := by
  refine hI_al (k := 0) rfl e0 rfl ?_ -- 29
  refine hI_al (k := 1) rfl e1 rfl ?_ -- 30
  refine hI_il (k := 2) rfl e2 rfl ?_ -- 31
  refine hR_ia M ha0 lq2 (by omega) (by omega) rfl rfl (fun x1 q1 => ?_) -- 32
  have gb1 : -2147483648 ≤ H hp (b).toNat ∧ H hp (b).toNat ≤ 2147483647 := by rw [← q1]; exact g_iT _
  refine HJ.call (j := 66) (as := [.ref nd, .int x1]) (rr := [.int sx0]) (pc' := 36) (m_cR (kc := 2) rfl rfl (by decide +kernel) rfl rfl rfl ⟨rfl, by decide +kernel, by decide +kernel⟩ (by decide) hs0 (by rw [M.2.1]; exact hk0)) (by show 2 ≤ m_lc 66; decide +kernel) ?_ -- 33
  exact g0 x1 q1
theorem r_lr36 {nd hp : Nat} {b r w u : Int} (M : RX h0 h H) (e0 : m_lk lv 0 = some (.ref nd)) (e1 : m_lk lv 1 = some (.ref hp)) {lx2 : Int32} (e2 : m_lk lv 2 = some (.int lx2)) (lq2 : lx2.toInt = b) {lx3 : Int32} (e3 : m_lk lv 3 = some (.int lx3)) (lq3 : lx3.toInt = r) {sx0 : Int32} (sq0 : sx0.toInt = w) {sx1 : Int32} (sq1 : sx1.toInt = u) 
    (g0 : w ≥ u → HJ 72 41 lv [] h Q)
    (g1 : w < u → HJ 72 39 lv [] h Q)
    : HJ 72 36 lv [.int sx1, .int sx0] h Q := by
  refine hM_cge (off := 5) (t := 41) rfl sq0 sq1 (by decide) rfl (fun c36 => ?_) (fun c36 => ?_) -- 36
  · exact g0 c36
  · exact g1 c36
theorem r_lr39 {nd hp : Nat} {b r : Int} (M : RX h0 h H) (e0 : m_lk lv 0 = some (.ref nd)) (e1 : m_lk lv 1 = some (.ref hp)) {lx2 : Int32} (e2 : m_lk lv 2 = some (.int lx2)) (lq2 : lx2.toInt = b) {lx3 : Int32} (e3 : m_lk lv 3 = some (.int lx3)) (lq3 : lx3.toInt = r) (r0 : 0 ≤ r) (r1 : r ≤ 5)
    (g0 : ∀ x2 : Int32, x2.toInt = r + 1 → ∀ lv2 : List (Nat × Value), m_lk lv2 0 = some (.ref nd) → m_lk lv2 1 = some (.ref hp) → m_lk lv2 2 = some (.int lx3) → m_lk lv2 3 = some (.int x2) → HJ 72 4 lv2 [] h Q)
    : HJ 72 39 lv [] h Q := by
  refine hI_il (k := 3) rfl e3 rfl ?_ -- 39
  refine hM_si (k := 2) rfl (by decide +kernel) rfl (fun lv1 e1_2 u1 => ?_) -- 40
  have e1_0 := u1 0 _ (by decide) (Or.inl rfl) e0
  have e1_1 := u1 1 _ (by decide) (Or.inl rfl) e1
  have e1_3 := u1 3 _ (by decide) (Or.inl rfl) e3
  refine hM_inc (k := 3) (z := 1) rfl e1_3 lq3 (by decide) (by omega) (by omega) (by decide +kernel) rfl (fun lv2 x2 q2 e2_3 u2 => ?_) -- 41
  have e2_0 := u2 0 _ (by decide) (Or.inl rfl) e1_0
  have e2_1 := u2 1 _ (by decide) (Or.inl rfl) e1_1
  have e2_2 := u2 2 _ (by decide) (Or.inl rfl) e1_2
  refine hI_go (pc' := 4) (off := (-40)) rfl (by decide) ?_ -- 44
  exact g0 x2 q2 lv2 e2_0 e2_1 e2_2 e2_3
theorem r_lr41 {nd hp : Nat} {b r : Int} (M : RX h0 h H) (e0 : m_lk lv 0 = some (.ref nd)) (e1 : m_lk lv 1 = some (.ref hp)) {lx2 : Int32} (e2 : m_lk lv 2 = some (.int lx2)) (lq2 : lx2.toInt = b) {lx3 : Int32} (e3 : m_lk lv 3 = some (.int lx3)) (lq3 : lx3.toInt = r) (r0 : 0 ≤ r) (r1 : r ≤ 5)
    (g0 : ∀ x1 : Int32, x1.toInt = r + 1 → ∀ lv1 : List (Nat × Value), m_lk lv1 0 = some (.ref nd) → m_lk lv1 1 = some (.ref hp) → m_lk lv1 2 = some (.int lx2) → m_lk lv1 3 = some (.int x1) → HJ 72 4 lv1 [] h Q)
    : HJ 72 41 lv [] h Q := by
  refine hM_inc (k := 3) (z := 1) rfl e3 lq3 (by decide) (by omega) (by omega) (by decide +kernel) rfl (fun lv1 x1 q1 e1_3 u1 => ?_) -- 41
  have e1_0 := u1 0 _ (by decide) (Or.inl rfl) e0
  have e1_1 := u1 1 _ (by decide) (Or.inl rfl) e1
  have e1_2 := u1 2 _ (by decide) (Or.inl rfl) e2
  refine hI_go (pc' := 4) (off := (-40)) rfl (by decide) ?_ -- 44
  exact g0 x1 q1 lv1 e1_0 e1_1 e1_2 e1_3
def hp_ok (h0 : MH) (hp : Nat) : Prop := (h_k h0 hp).1 = 20 ∧ 16 ≤ hp ∧ (6 : Int) ≤ ((h_k h0 hp).2 : Int)
def hp_in (S : PSt) (f : Nat → Int) : Prop := ∀ r, r < 6 → f r = -1 ∨ (0 ≤ f r ∧ f r < (ps_n S : Int) ∧ ps_k S (f r).toNat = (r : Int))
theorem cs_ls {nd : Nat} {S : PSt} {a b : Int} (I : cs_of h0 H nd S) (a0 : 0 ≤ a) (a1 : a < (ps_n S : Int)) (b0 : 0 ≤ b) (b1 : b < (ps_n S : Int)) : (128 * ps_y S a.toNat + ps_t S a.toNat < 128 * ps_y S b.toNat + ps_t S b.toNat) ↔ ps_ls S a b := by
  obtain ⟨-, -, -, -, i5⟩ := I
  obtain ⟨-, t1, -⟩ := i5 a.toNat (by omega)
  obtain ⟨-, t2, -⟩ := i5 b.toNat (by omega)
  unfold ps_ls
  omega
theorem k_le {nd hp : Nat} {S : PSt} {f : Nat → Int} (M : RX h0 h H) (ok : nd_ok h0 nd (ps_n S)) (I : cs_of h0 H nd S) (hok : hp_ok h0 hp) (e : hp6 (H hp) f) (ho : hp_in S f) (g : ∀ x : Int32, x.toInt = pm_le S f 6 → Q (some (.int x)) h) : ∀ (d r : Nat) (lv : List (Nat × Value)) (xb xr : Int32), r + d = 6 → xb.toInt = pm_le S f r → (xb.toInt = -1 ∨ (0 ≤ xb.toInt ∧ xb.toInt < r ∧ f xb.toInt.toNat ≠ -1)) → xr.toInt = (r : Int) → m_lk lv 0 = some (.ref nd) → m_lk lv 1 = some (.ref hp) → m_lk lv 2 = some (.int xb) → m_lk lv 3 = some (.int xr) → HJ 72 4 lv [] h Q := by
  intro d
  induction d with
  | zero =>
    intro r lv xb xr hd hb bb hr e0 e1 e2 e3
    have r6 : r = 6 := by omega
    subst r6
    exact r_lr4 M e0 e1 e2 rfl e3 hr (by omega) (by omega) (by omega) hok.1 hok.2.2 ok.1.2 ok.1.1 (fun _ => g xb hb) (fun c _ => absurd c (by omega)) (fun c _ _ => absurd c (by omega)) (fun _ _ c _ _ => absurd c (by omega))
  | succ d ih =>
    intro r lv xb xr hd hb bb hr e0 e1 e2 e3
    have rN : (r : Int).toNat = r := Int.toNat_natCast r
    have er := e r (by omega)
    have keep : (f r = -1 ∨ (pm_le S f r ≠ -1 ∧ ¬ ps_ls S (f r) (f (pm_le S f r).toNat))) → HJ 72 41 lv [] h Q := fun c => r_lr41 M e0 e1 e2 rfl e3 hr (by omega) (by omega) (fun x1 q1 lv1 a0 a1 a2 a3 => ih (r + 1) lv1 xb x1 (by omega) (by rw [hb, pm_le, if_neg]; intro z; rcases c with c | ⟨c1, c2⟩; exact z.1 c; exact z.2.elim c1 c2) (by rcases bb with z | ⟨z1, z2, z3⟩; exact Or.inl z; exact Or.inr ⟨z1, by omega, z3⟩) (by omega) a0 a1 a2 a3)
    have take : f r ≠ -1 → (pm_le S f r = -1 ∨ ps_ls S (f r) (f (pm_le S f r).toNat)) → HJ 72 39 lv [] h Q := fun c1 c2 => r_lr39 M e0 e1 e2 rfl e3 hr (by omega) (by omega) (fun x2 q2 lv2 a0 a1 a2 a3 => ih (r + 1) lv2 xr x2 (by omega) (by rw [hr, pm_le, if_pos ⟨c1, c2⟩]) (Or.inr ⟨by omega, by omega, by rw [hr, rN]; exact c1⟩) (by omega) a0 a1 a2 a3)
    refine r_lr4 M e0 e1 e2 rfl e3 hr (by omega) (by omega) (by omega) hok.1 hok.2.2 ok.1.2 ok.1.1 (fun c => absurd c (by omega)) (fun _ c => keep (Or.inl (by rw [← er, ← rN]; exact c))) (fun _ c1 c2 => take (by rw [← er, ← rN]; exact c1) (Or.inl (hb.symm.trans c2))) (fun x5 q5 _ c1 c2 => ?_)
    rw [rN, er] at q5 c1
    obtain ⟨z1, z2, z3⟩ := bb.resolve_left c2
    obtain ⟨a0, a1, -⟩ := (ho r (by omega)).resolve_left c1
    obtain ⟨b0, b1, -⟩ := (ho xb.toInt.toNat (by omega)).resolve_left z3
    refine k_wt M ok I q5 a0 a1 (fun w qw => ?_)
    refine r_lr29 (r := (r : Int)) (w := w.toInt) M e0 e1 e2 rfl e3 hr rfl (by omega) (by omega) hok.1 hok.2.2 ok.1.2 ok.1.1 (fun x6 q6 => ?_)
    rw [e xb.toInt.toNat (by omega)] at q6
    refine k_wt M ok I q6 b0 b1 (fun u qu => ?_)
    have L := cs_ls I a0 a1 b0 b1
    refine r_lr36 (b := xb.toInt) (r := (r : Int)) (w := w.toInt) (u := u.toInt) M e0 e1 e2 rfl e3 hr rfl rfl (fun c => keep (Or.inr ⟨fun z => c2 (hb.trans z), fun z => ?_⟩)) (fun c => take c1 (Or.inr ?_))
    · rw [← hb] at z
      have := L.mpr z
      omega
    · rw [← hb]
      exact L.mp (by omega)
theorem k_least {nd hp : Nat} {S : PSt} {f : Nat → Int} (M : RX h0 h H) (ok : nd_ok h0 nd (ps_n S)) (I : cs_of h0 H nd S) (hok : hp_ok h0 hp) (e : hp6 (H hp) f) (ho : hp_in S f) (g : ∀ x : Int32, x.toInt = pm_le S f 6 → Q (some (.int x)) h) : HJ 72 0 (lv_args 0 [.ref nd, .ref hp]) [] h Q := by
  refine r_lr0 M rfl rfl (fun x1 q1 x3 q3 lv4 a0 a1 a2 a3 => ?_)
  exact k_le M ok I hok e ho g 6 0 lv4 x1 x3 rfl q1 (Or.inl q1) q3 a0 a1 a2 a3
end
