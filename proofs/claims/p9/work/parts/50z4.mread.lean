-- THE REFERENCE'S LINES
theorem rt_mE {t : Int} : (rt_m t = 0 ↔ t = 0) ∧ (rt_m t = 2 ↔ t = 1) ∧ (rt_m t = 3 ↔ t = 2) ∧ (rt_m t = 4 ↔ t = 3) := by
  unfold rt_m
  refine ⟨?_, ?_, ?_, ?_⟩ <;> (split <;> (try split) <;> (try split) <;> (try split) <;> omega)
theorem rd_kdk {T : Nat → Int} {s b k : Nat} (h : ∀ j, j < 6 → (rd_ib T s b (rd_nm j) = true ↔ j = k)) : ∀ n, n ≤ 6 → rd_kd T s b n = if k < n then (k : Int) else -1
  | 0, _ => rfl
  | n + 1, hn => by
    rw [rd_kd, rd_kdk h n (by omega)]
    by_cases e : n = k
    · rw [if_pos ((h n (by omega)).mpr e), if_pos (by omega), e]
    · rw [if_neg (fun z => e ((h n (by omega)).mp z))]
      by_cases c : k < n
      · rw [if_pos c, if_pos (by omega)]
      · rw [if_neg c, if_neg (by omega)]
theorem rd_Wi : ∀ j k : Fin 6, Int64.ofNat (rd_W k.val) = Int64.ofNat (rd_W j.val) ↔ j = k := by decide +kernel
theorem wd_kd {w : Int64} {T : Nat → Int} {s b k : Nat} (ok : wd_ok w T s b) (hk : k < 6) (e : w = Int64.ofNat (rd_W k)) : rd_kd T s b 6 = k := by
  rw [rd_kdk (k := k) (fun j hj => ?_) 6 (Nat.le_refl _), if_pos hk]
  have h1 := ok j hj
  rw [e] at h1
  have h2 := rd_Wi ⟨j, hj⟩ ⟨k, hk⟩
  exact h1.symm.trans (h2.trans ⟨fun z => congrArg Fin.val z, fun z => Fin.ext z⟩)
theorem wd_kn {w : Int64} {T : Nat → Int} {s b : Nat} (ok : wd_ok w T s b) (ne : ∀ k, k < 6 → w ≠ Int64.ofNat (rd_W k)) : rd_kd T s b 6 = -1 := by
  rw [rd_kdk (k := 6) (fun j hj => ⟨fun z => absurd ((ok j hj).mpr z) (ne j hj), fun z => by omega⟩) 6 (Nat.le_refl _), if_neg (Nat.lt_irrefl _)]
def tk_ok (T : Nat → Int) (n : Nat) (q : Nat × (Nat × (Int × Int))) (F : Nat → Int) (w : Int64) : Prop := F 8 = (n : Int) ∧ F 7 = (rt_b q : Int) ∧ F 9 = (rt_s q : Int) ∧ F 10 = rt_m (rt_t q) ∧ (rt_t q = 2 → F 11 = rt_v q) ∧ (rt_t q = 1 → wd_ok w T (rt_s q) (rt_b q))
def fl_ok (F : Nat → Int) (S : RLS) : Prop := F 14 = ls_f S ∧ (ls_f S ≠ 0 → F 15 = ls_l S ∧ ls_l S < (ls_p S : Int))
def td_ok (U : Nat → Int) (c g : Nat) (t : Nat → Int) : Prop := U 0 = (((if c ≤ 40 then c else 40) : Nat) : Int) ∧ ∀ k, k < 40 → k < g → ∀ i, i < 4 → U (4 * k + 1 + i) = t (4 * k + 1 + i)
theorem td_0 {U : Nat → Int} {c g : Nat} {t : Nat → Int} (h : td_ok U c g t) : 0 ≤ U 0 ∧ U 0 ≤ 40 ∧ (U 0 < 40 ↔ c < 40) ∧ (c < 40 → U 0 = (c : Int)) ∧ (40 ≤ c → U 0 = 40) := by
  have := h.1
  split at this <;> omega
theorem td_set {U : Nat → Int} {c g j : Nat} {t : Nat → Int} {v : Int} (h : td_ok U c g t) (j1 : 1 ≤ j) : td_ok (m_u U j v) c g (m_u t j v) := by
  refine ⟨by rw [m_uN _ _ _ _ (by omega)]; exact h.1, fun k hk kg i hi => ?_⟩
  by_cases e : 4 * k + 1 + i = j
  · rw [e, m_uE, m_uE]
  · rw [m_uN _ _ _ _ e, m_uN _ _ _ _ e]
    exact h.2 k hk kg i hi
section
variable {lv : List (Nat × Value)} {Q : Option Value → MH → Prop} {W : List (Nat × Nat)} {ρ : Nat → Nat} {m : Nat} {A : Nat → Nat} {h0 h : MH} {F : Nat → Int} {V : Nat → Nat → Int} {G : Nat → Nat → Int64}
theorem s_lat {w p : Int} (M : MX 49 W ρ m A h0 h F V G) (e0 : m_lk lv 0 = some (.ref m)) {lx1 : Int32} (e1 : m_lk lv 1 = some (.int lx1)) (lq1 : lx1.toInt = w) {lx2 : Int32} (e2 : m_lk lv 2 = some (.int lx2)) (lq2 : lx2.toInt = p) (hw : d_sub [(49, 14), (49, 15)] W = true)
    (g0 : ∀ h2 : MH, ∀ F2 : Nat → Int, F2 = m_u F 14 (w) → ∀ h3 : MH, ∀ F3 : Nat → Int, F3 = m_u F2 15 (p) → MX 49 W ρ m A h0 h3 F3 V G → (-2147483648) ≤ F 14 → F 14 ≤ 2147483647 → F 14 = 0 → Q none h3)
    (g1 : ∀ h5 : MH, ∀ F5 : Nat → Int, F5 = m_u F 14 (w) → ∀ h6 : MH, ∀ F6 : Nat → Int, F6 = m_u F5 15 (p) → MX 49 W ρ m A h0 h6 F6 V G → (-2147483648) ≤ F 14 → F 14 ≤ 2147483647 → F 14 ≠ 0 → (-2147483648) ≤ F 15 → F 15 ≤ 2147483647 → p < F 15 → Q none h6)
    (g2 : (-2147483648) ≤ F 14 → F 14 ≤ 2147483647 → F 14 ≠ 0 → (-2147483648) ≤ F 15 → F 15 ≤ 2147483647 → p ≥ F 15 → p ≠ F 15 → Q none h)
    (g3 : (-2147483648) ≤ F 14 → F 14 ≤ 2147483647 → F 14 ≠ 0 → (-2147483648) ≤ F 15 → F 15 ≤ 2147483647 → p ≥ F 15 → p = F 15 → w ≥ F 14 → Q none h)
    (g4 : ∀ h9 : MH, ∀ F9 : Nat → Int, F9 = m_u F 14 (w) → ∀ h10 : MH, ∀ F10 : Nat → Int, F10 = m_u F9 15 (p) → MX 49 W ρ m A h0 h10 F10 V G → (-2147483648) ≤ F 14 → F 14 ≤ 2147483647 → F 14 ≠ 0 → (-2147483648) ≤ F 15 → F 15 ≤ 2147483647 → p ≥ F 15 → p = F 15 → w < F 14 → Q none h10)
    : HJ 194 0 lv [] h Q := by
  have lb1 : -2147483648 ≤ w ∧ w ≤ 2147483647 := by rw [← lq1]; exact g_iT _
  have lb2 : -2147483648 ≤ p ∧ p ≤ 2147483647 := by rw [← lq2]; exact g_iT _
  refine hI_al (k := 0) rfl e0 rfl ?_ -- 0
  refine hM_gi M (by decide) rfl rfl rfl (k := 14) (c := 9) (lo := (-2147483648)) (hi := 2147483647) rfl rfl rfl rfl rfl (fun x1 q1 a1 b1 => ?_) -- 1
  refine hM_zeq (off := 27) (t := 31) rfl q1 (by decide) rfl (fun c4 => ?_) (fun c4 => ?_) -- 4
  · refine hI_al (k := 0) rfl e0 rfl ?_ -- 31
    refine hI_il (k := 1) rfl e1 rfl ?_ -- 32
    refine hM_pi M (by decide) ok_49 rfl rfl (k := 14) (c := 9) (lo := (-2147483648)) (hi := 2147483647) rfl rfl ⟨by decide, by decide +kernel, rfl⟩ rfl (d_subm hw (by decide +kernel)) lq1 (by omega) (by omega) rfl (fun h2 F2 f2 M2 => ?_) -- 33
    refine hI_al (k := 0) rfl e0 rfl ?_ -- 36
    refine hI_il (k := 2) rfl e2 rfl ?_ -- 37
    refine hM_pi M2 (by decide) ok_49 rfl rfl (k := 15) (c := 9) (lo := (-2147483648)) (hi := 2147483647) rfl rfl ⟨by decide, by decide +kernel, rfl⟩ rfl (d_subm hw (by decide +kernel)) lq2 (by omega) (by omega) rfl (fun h3 F3 f3 M3 => ?_) -- 38
    refine hI_rv rfl rfl ?_
    exact g0 h2 F2 f2 h3 F3 f3 M3 a1 b1 c4
  · refine hI_il (k := 2) rfl e2 rfl ?_ -- 7
    refine hI_al (k := 0) rfl e0 rfl ?_ -- 8
    refine hM_gi M (by decide) rfl rfl rfl (k := 15) (c := 9) (lo := (-2147483648)) (hi := 2147483647) rfl rfl rfl rfl rfl (fun x4 q4 a4 b4 => ?_) -- 9
    refine hM_clt (off := 19) (t := 31) rfl lq2 q4 (by decide) rfl (fun c12 => ?_) (fun c12 => ?_) -- 12
    · refine hI_al (k := 0) rfl e0 rfl ?_ -- 31
      refine hI_il (k := 1) rfl e1 rfl ?_ -- 32
      refine hM_pi M (by decide) ok_49 rfl rfl (k := 14) (c := 9) (lo := (-2147483648)) (hi := 2147483647) rfl rfl ⟨by decide, by decide +kernel, rfl⟩ rfl (d_subm hw (by decide +kernel)) lq1 (by omega) (by omega) rfl (fun h5 F5 f5 M5 => ?_) -- 33
      refine hI_al (k := 0) rfl e0 rfl ?_ -- 36
      refine hI_il (k := 2) rfl e2 rfl ?_ -- 37
      refine hM_pi M5 (by decide) ok_49 rfl rfl (k := 15) (c := 9) (lo := (-2147483648)) (hi := 2147483647) rfl rfl ⟨by decide, by decide +kernel, rfl⟩ rfl (d_subm hw (by decide +kernel)) lq2 (by omega) (by omega) rfl (fun h6 F6 f6 M6 => ?_) -- 38
      refine hI_rv rfl rfl ?_
      exact g1 h5 F5 f5 h6 F6 f6 M6 a1 b1 c4 a4 b4 c12
    · refine hI_il (k := 2) rfl e2 rfl ?_ -- 15
      refine hI_al (k := 0) rfl e0 rfl ?_ -- 16
      refine hM_gi M (by decide) rfl rfl rfl (k := 15) (c := 9) (lo := (-2147483648)) (hi := 2147483647) rfl rfl rfl rfl rfl (fun x7 q7 a7 b7 => ?_) -- 17
      refine hM_cne (off := 21) (t := 41) rfl lq2 q7 (by decide) rfl (fun c20 => ?_) (fun c20 => ?_) -- 20
      · refine hI_rv rfl rfl ?_
        exact g2 a1 b1 c4 a4 b4 c12 c20
      · refine hI_il (k := 1) rfl e1 rfl ?_ -- 23
        refine hI_al (k := 0) rfl e0 rfl ?_ -- 24
        refine hM_gi M (by decide) rfl rfl rfl (k := 14) (c := 9) (lo := (-2147483648)) (hi := 2147483647) rfl rfl rfl rfl rfl (fun x8 q8 a8 b8 => ?_) -- 25
        refine hM_cge (off := 13) (t := 41) rfl lq1 q8 (by decide) rfl (fun c28 => ?_) (fun c28 => ?_) -- 28
        · refine hI_rv rfl rfl ?_
          exact g3 a1 b1 c4 a4 b4 c12 c20 c28
        · refine hI_al (k := 0) rfl e0 rfl ?_ -- 31
          refine hI_il (k := 1) rfl e1 rfl ?_ -- 32
          refine hM_pi M (by decide) ok_49 rfl rfl (k := 14) (c := 9) (lo := (-2147483648)) (hi := 2147483647) rfl rfl ⟨by decide, by decide +kernel, rfl⟩ rfl (d_subm hw (by decide +kernel)) lq1 (by omega) (by omega) rfl (fun h9 F9 f9 M9 => ?_) -- 33
          refine hI_al (k := 0) rfl e0 rfl ?_ -- 36
          refine hI_il (k := 2) rfl e2 rfl ?_ -- 37
          refine hM_pi M9 (by decide) ok_49 rfl rfl (k := 15) (c := 9) (lo := (-2147483648)) (hi := 2147483647) rfl rfl ⟨by decide, by decide +kernel, rfl⟩ rfl (d_subm hw (by decide +kernel)) lq2 (by omega) (by omega) rfl (fun h10 F10 f10 M10 => ?_) -- 38
          refine hI_rv rfl rfl ?_
          exact g4 h9 F9 f9 h10 F10 f10 M10 a1 b1 c4 a4 b4 c12 c20 c28
theorem s_sto (M : MX 49 W ρ m A h0 h F V G) (e0 : m_lk lv 0 = some (.ref m)) (hw : d_sub [(49, 13)] W = true)
    (g0 : ∀ h2 : MH, ∀ F2 : Nat → Int, F2 = m_u F 13 (F 9) → ∀ x3 : Int32, x3.toInt = 0 → MX 49 W ρ m A h0 h2 F2 V G → 0 ≤ F 9 → F 9 ≤ 600 → Q (some (.int x3)) h2)
    : HJ 193 0 lv [] h Q := by
  refine hI_al (k := 0) rfl e0 rfl ?_ -- 0
  refine hI_al (k := 0) rfl e0 rfl ?_ -- 1
  refine hM_gi M (by decide) rfl rfl rfl (k := 9) (c := 9) (lo := 0) (hi := 600) rfl rfl rfl rfl rfl (fun x1 q1 a1 b1 => ?_) -- 2
  refine hM_pi M (by decide) ok_49 rfl rfl (k := 13) (c := 9) (lo := (-2147483648)) (hi := 2147483647) rfl rfl ⟨by decide, by decide +kernel, rfl⟩ rfl (d_subm hw (by decide +kernel)) q1 (by omega) (by omega) rfl (fun h2 F2 f2 M2 => ?_) -- 5
  refine hM_ic (n := 0) rfl (by decide) rfl (fun x3 q3 => ?_) -- 8
  refine hM_rb rfl rfl q3 (by omega) (by omega) ?_ -- 9
  exact g0 h2 F2 f2 x3 q3 M2 a1 b1
theorem s_ta0 {i z : Int} (M : MX 49 W ρ m A h0 h F V G) (e0 : m_lk lv 0 = some (.ref m)) {lx1 : Int32} (e1 : m_lk lv 1 = some (.int lx1)) (lq1 : lx1.toInt = i) {lx2 : Int32} (e2 : m_lk lv 2 = some (.int lx2)) (lq2 : lx2.toInt = z) 
    (g0 : (-2147483648) ≤ F 10 → F 10 ≤ 2147483647 → F 10 = 3 → (-2147483648) ≤ F 11 → F 11 ≤ 2147483647 → F 11 ≤ z → HJ 195 30 lv [] h Q)
    (g1 : ∀ x4 : Int32, x4.toInt = 2 → ∀ x5 : Int32, x5.toInt = F 9 → (-2147483648) ≤ F 10 → F 10 ≤ 2147483647 → F 10 = 3 → (-2147483648) ≤ F 11 → F 11 ≤ 2147483647 → F 11 > z → 0 ≤ F 9 → F 9 ≤ 600 → HJ 194 0 (lv_args 0 [.ref m, .int x4, .int x5]) [] h (fun v h' => HJ 195 30 lv (v.toList ++ []) h' Q))
    (g2 : (-2147483648) ≤ F 10 → F 10 ≤ 2147483647 → F 10 ≠ 3 → HJ 193 0 (lv_args 0 [.ref m]) [] h (fun v h' => HJ 195 12 lv (v.toList ++ []) h' Q))
    : HJ 195 0 lv [] h Q := by
  refine hI_al (k := 0) rfl e0 rfl ?_ -- 0
  refine hM_gi M (by decide) rfl rfl rfl (k := 10) (c := 9) (lo := (-2147483648)) (hi := 2147483647) rfl rfl rfl rfl rfl (fun x1 q1 a1 b1 => ?_) -- 1
  refine hM_ic (n := 3) rfl (by decide) rfl (fun x2 q2 => ?_) -- 4
  refine hM_ceq (off := 8) (t := 13) rfl q1 q2 (by decide) rfl (fun c5 => ?_) (fun c5 => ?_) -- 5
  · refine hI_al (k := 0) rfl e0 rfl ?_ -- 13
    refine hM_gi M (by decide) rfl rfl rfl (k := 11) (c := 9) (lo := (-2147483648)) (hi := 2147483647) rfl rfl rfl rfl rfl (fun x3 q3 a3 b3 => ?_) -- 14
    refine hI_il (k := 2) rfl e2 rfl ?_ -- 17
    refine hM_cle (off := 12) (t := 30) rfl q3 lq2 (by decide) rfl (fun c18 => ?_) (fun c18 => ?_) -- 18
    · exact g0 a1 b1 c5 a3 b3 c18
    · refine hI_al (k := 0) rfl e0 rfl ?_ -- 21
      refine hM_ic (n := 2) rfl (by decide) rfl (fun x4 q4 => ?_) -- 22
      refine hI_al (k := 0) rfl e0 rfl ?_ -- 23
      refine hM_gi M (by decide) rfl rfl rfl (k := 9) (c := 9) (lo := 0) (hi := 600) rfl rfl rfl rfl rfl (fun x5 q5 a5 b5 => ?_) -- 24
      refine hM_iv M (by decide) rfl rfl (by decide) (as := [.int x4, .int x5]) (r := []) rfl rfl (by decide +kernel) rfl (by decide +kernel) rfl rfl rfl rfl rfl ?_ -- 27
      exact g1 x4 q4 x5 q5 a1 b1 c5 a3 b3 c18 a5 b5
  · refine hI_al (k := 0) rfl e0 rfl ?_ -- 8
    refine hM_iv M (by decide) rfl rfl (by decide) (as := []) (r := []) rfl rfl (by decide +kernel) rfl (by decide +kernel) rfl rfl rfl rfl rfl ?_ -- 9
    exact g2 a1 b1 c5
theorem s_ta12 {z : Int}  {sx0 : Int32} (sq0 : sx0.toInt = z) (z0 : 0 ≤ z) (z1 : z ≤ 1)
    (g0 : Q (some (.int sx0)) h)
    : HJ 195 12 lv [.int sx0] h Q := by
  refine hM_rb rfl rfl sq0 (by omega) (by omega) ?_ -- 12
  exact g0 
theorem s_ta30 {i z : Int} (M : MX 49 W ρ m A h0 h F V G) (e0 : m_lk lv 0 = some (.ref m)) {lx1 : Int32} (e1 : m_lk lv 1 = some (.int lx1)) (lq1 : lx1.toInt = i) {lx2 : Int32} (e2 : m_lk lv 2 = some (.int lx2)) (lq2 : lx2.toInt = z) (i0 : 1 ≤ i) (i1 : i ≤ 3) (t0 : 0 ≤ V 16 (0 : Int).toNat) (t1 : V 16 (0 : Int).toNat ≤ 40)(hw : d_sub [(56, 1001)] W = true)
    (g0 : V 16 (0 : Int).toNat ≥ 40 → HJ 190 0 (lv_args 0 [.ref m]) [] h (fun v h' => HJ 195 66 lv (v.toList ++ []) h' Q))
    (g1 : ∀ h12 : MH, ∀ V12 : Nat → Nat → Int, V12 = m_u V 16 (m_u (V 16) ((1 + (4 * (V 16 (0 : Int).toNat))) + i).toNat (F 11)) → MX 49 W ρ m A h0 h12 F V12 G → V 16 (0 : Int).toNat < 40 → (-2147483648) ≤ F 11 → F 11 ≤ 2147483647 → HJ 190 0 (lv_args 0 [.ref m]) [] h12 (fun v h' => HJ 195 66 lv (v.toList ++ []) h' Q))
    : HJ 195 30 lv [] h Q := by
  refine hI_al (k := 0) rfl e0 rfl ?_ -- 30
  refine hM_ga M (by decide) rfl rfl (k := 16) (c := 9) rfl rfl rfl (by decide +kernel) rfl ?_ -- 31
  refine hM_ic (n := 0) rfl (by decide) rfl (fun x1 q1 => ?_) -- 34
  refine hM_ia M (by decide) (K := 16) (R2 := 56) (L := 161) (H := 161) (lo := (-2147483648)) (hi := 2147483647) rfl (by decide) rfl rfl (fun _ => rfl) rfl q1 (by omega) (by omega) rfl (fun x2 q2 a2 b2 => ?_) -- 35
  refine hM_bp (n := 40) rfl (by decide) rfl (fun x3 q3 => ?_) -- 36
  refine hM_cge (off := 24) (t := 62) rfl q2 q3 (by decide) rfl (fun c38 => ?_) (fun c38 => ?_) -- 38
  · refine hI_al (k := 0) rfl e0 rfl ?_ -- 62
    refine hM_iv M (by decide) rfl rfl (by decide) (as := []) (r := []) rfl rfl (by decide +kernel) rfl (by decide +kernel) rfl rfl rfl rfl rfl ?_ -- 63
    exact g0 c38
  · refine hI_al (k := 0) rfl e0 rfl ?_ -- 41
    refine hM_ga M (by decide) rfl rfl (k := 16) (c := 9) rfl rfl rfl (by decide +kernel) rfl ?_ -- 42
    refine hM_ic (n := 1) rfl (by decide) rfl (fun x4 q4 => ?_) -- 45
    refine hM_ic (n := 4) rfl (by decide) rfl (fun x5 q5 => ?_) -- 46
    refine hI_al (k := 0) rfl e0 rfl ?_ -- 47
    refine hM_ga M (by decide) rfl rfl (k := 16) (c := 9) rfl rfl rfl (by decide +kernel) rfl ?_ -- 48
    refine hM_ic (n := 0) rfl (by decide) rfl (fun x6 q6 => ?_) -- 51
    refine hM_ia M (by decide) (K := 16) (R2 := 56) (L := 161) (H := 161) (lo := (-2147483648)) (hi := 2147483647) rfl (by decide) rfl rfl (fun _ => rfl) rfl q6 (by omega) (by omega) rfl (fun x7 q7 a7 b7 => ?_) -- 52
    refine hM_mul rfl q5 q7 (by omega) (by omega) rfl (fun x8 q8 => ?_) -- 53
    refine hM_add rfl q4 q8 (by omega) (by omega) rfl (fun x9 q9 => ?_) -- 54
    refine hI_il (k := 1) rfl e1 rfl ?_ -- 55
    refine hM_add rfl q9 lq1 (by omega) (by omega) rfl (fun x10 q10 => ?_) -- 56
    refine hI_al (k := 0) rfl e0 rfl ?_ -- 57
    refine hM_gi M (by decide) rfl rfl rfl (k := 11) (c := 9) (lo := (-2147483648)) (hi := 2147483647) rfl rfl rfl rfl rfl (fun x11 q11 a11 b11 => ?_) -- 58
    refine hM_is M (by decide) ok_49 (K := 16) (R2 := 56) (L := 161) (H := 161) (lo := (-2147483648)) (hi := 2147483647) rfl (by decide) rfl rfl rfl (fun _ => rfl) (d_subm hw (by decide +kernel)) rfl q10 q11 (by omega) (by omega) (by omega) (by omega) rfl (fun h12 V12 f12 M12 => ?_) -- 61
    refine hI_al (k := 0) rfl e0 rfl ?_ -- 62
    refine hM_iv M12 (by decide) rfl rfl (by decide) (as := []) (r := []) rfl rfl (by decide +kernel) rfl (by decide +kernel) rfl rfl rfl rfl rfl ?_ -- 63
    exact g1 h12 V12 f12 M12 c38 a11 b11
theorem s_ta66   
    (g0 : ∀ x1 : Int32, x1.toInt = 1 → Q (some (.int x1)) h)
    : HJ 195 66 lv [] h Q := by
  refine hM_ic (n := 1) rfl (by decide) rfl (fun x1 q1 => ?_) -- 66
  refine hM_rb rfl rfl q1 (by omega) (by omega) ?_ -- 67
  exact g0 x1 q1
theorem s_ml0 {p : Int} {w : Int64} (M : MX 49 W ρ m A h0 h F V G) (e0 : m_lk lv 0 = some (.ref m)) {lx1 : Int32} (e1 : m_lk lv 1 = some (.int lx1)) (lq1 : lx1.toInt = p) (wl : h_l h m 12 = w)
    (g0 : ∀ lv3 : List (Nat × Value), m_lk lv3 0 = some (.ref m) → m_lk lv3 1 = some (.int lx1) → m_lk lv3 2 = some (.long (Int64.ofNat (0 : Fin 2).val)) → (-2147483648) ≤ F 10 → F 10 ≤ 2147483647 → F 10 ≠ 2 → HJ 192 17 lv3 [] h Q)
    (g1 : ∀ lv4 : List (Nat × Value), m_lk lv4 0 = some (.ref m) → m_lk lv4 1 = some (.int lx1) → m_lk lv4 2 = some (.long w) → (-2147483648) ≤ F 10 → F 10 ≤ 2147483647 → F 10 = 2 → HJ 192 17 lv4 [] h Q)
    : HJ 192 0 lv [] h Q := by
  refine hI_al (k := 0) rfl e0 rfl ?_ -- 0
  refine hM_gi M (by decide) rfl rfl rfl (k := 10) (c := 9) (lo := (-2147483648)) (hi := 2147483647) rfl rfl rfl rfl rfl (fun x1 q1 a1 b1 => ?_) -- 1
  refine hM_ic (n := 2) rfl (by decide) rfl (fun x2 q2 => ?_) -- 4
  refine hM_cne (off := 10) (t := 15) rfl q1 q2 (by decide) rfl (fun c5 => ?_) (fun c5 => ?_) -- 5
  · refine hI_lc (n := 0) rfl rfl ?_ -- 15
    refine hM_sl (k := 2) rfl (by decide +kernel) rfl (fun lv3 e3_2 u3 => ?_) -- 16
    have e3_0 := u3 0 _ (by decide) (by decide) (Or.inl rfl) e0
    have e3_1 := u3 1 _ (by decide) (by decide) (Or.inl rfl) e1
    exact g0 lv3 e3_0 e3_1 e3_2 a1 b1 c5
  · refine hI_al (k := 0) rfl e0 rfl ?_ -- 8
    refine hM_gl M (by decide) rfl rfl (k := 12) (c := 9) rfl rfl rfl wl rfl ?_ -- 9
    refine hI_go (pc' := 16) (off := 4) rfl (by decide) ?_ -- 12
    refine hM_sl (k := 2) rfl (by decide +kernel) rfl (fun lv4 e4_2 u4 => ?_) -- 16
    have e4_0 := u4 0 _ (by decide) (by decide) (Or.inl rfl) e0
    have e4_1 := u4 1 _ (by decide) (by decide) (Or.inl rfl) e1
    exact g1 lv4 e4_0 e4_1 e4_2 a1 b1 c5
theorem s_ml17 {p : Int} (M : MX 49 W ρ m A h0 h F V G) (e0 : m_lk lv 0 = some (.ref m)) {lx1 : Int32} (e1 : m_lk lv 1 = some (.int lx1)) (lq1 : lx1.toInt = p) {lx2 : Int64} (e2 : m_lk lv 2 = some (.long lx2)) 
    (g0 : ∀ x7 : Int32, x7.toInt = (-1) → ∀ lv8 : List (Nat × Value), m_lk lv8 0 = some (.ref m) → m_lk lv8 1 = some (.int lx1) → m_lk lv8 4 = some (.int x7) → (lg_cmp lx2 (7234935)).toInt ≠ 0 → (lg_cmp lx2 (7370100)).toInt ≠ 0 → (lg_cmp lx2 (1835363428)).toInt ≠ 0 → (lg_cmp lx2 (1818588019)).toInt ≠ 0 → (lg_cmp lx2 (465726563698)).toInt ≠ 0 → (lg_cmp lx2 (6518132)).toInt ≠ 0 → HJ 192 92 lv8 [] h Q)
    (g1 : ∀ x9 : Int32, x9.toInt = 5 → ∀ lv10 : List (Nat × Value), m_lk lv10 0 = some (.ref m) → m_lk lv10 1 = some (.int lx1) → m_lk lv10 4 = some (.int x9) → (lg_cmp lx2 (7234935)).toInt ≠ 0 → (lg_cmp lx2 (7370100)).toInt ≠ 0 → (lg_cmp lx2 (1835363428)).toInt ≠ 0 → (lg_cmp lx2 (1818588019)).toInt ≠ 0 → (lg_cmp lx2 (465726563698)).toInt ≠ 0 → (lg_cmp lx2 (6518132)).toInt = 0 → HJ 192 92 lv10 [] h Q)
    (g2 : ∀ x11 : Int32, x11.toInt = 4 → ∀ lv12 : List (Nat × Value), m_lk lv12 0 = some (.ref m) → m_lk lv12 1 = some (.int lx1) → m_lk lv12 4 = some (.int x11) → (lg_cmp lx2 (7234935)).toInt ≠ 0 → (lg_cmp lx2 (7370100)).toInt ≠ 0 → (lg_cmp lx2 (1835363428)).toInt ≠ 0 → (lg_cmp lx2 (1818588019)).toInt ≠ 0 → (lg_cmp lx2 (465726563698)).toInt = 0 → HJ 192 92 lv12 [] h Q)
    (g3 : ∀ x13 : Int32, x13.toInt = 3 → ∀ lv14 : List (Nat × Value), m_lk lv14 0 = some (.ref m) → m_lk lv14 1 = some (.int lx1) → m_lk lv14 4 = some (.int x13) → (lg_cmp lx2 (7234935)).toInt ≠ 0 → (lg_cmp lx2 (7370100)).toInt ≠ 0 → (lg_cmp lx2 (1835363428)).toInt ≠ 0 → (lg_cmp lx2 (1818588019)).toInt = 0 → HJ 192 92 lv14 [] h Q)
    (g4 : ∀ x15 : Int32, x15.toInt = 2 → ∀ lv16 : List (Nat × Value), m_lk lv16 0 = some (.ref m) → m_lk lv16 1 = some (.int lx1) → m_lk lv16 4 = some (.int x15) → (lg_cmp lx2 (7234935)).toInt ≠ 0 → (lg_cmp lx2 (7370100)).toInt ≠ 0 → (lg_cmp lx2 (1835363428)).toInt = 0 → HJ 192 92 lv16 [] h Q)
    (g5 : ∀ x17 : Int32, x17.toInt = 1 → ∀ lv18 : List (Nat × Value), m_lk lv18 0 = some (.ref m) → m_lk lv18 1 = some (.int lx1) → m_lk lv18 4 = some (.int x17) → (lg_cmp lx2 (7234935)).toInt ≠ 0 → (lg_cmp lx2 (7370100)).toInt = 0 → HJ 192 92 lv18 [] h Q)
    (g6 : ∀ x19 : Int32, x19.toInt = 0 → ∀ lv20 : List (Nat × Value), m_lk lv20 0 = some (.ref m) → m_lk lv20 1 = some (.int lx1) → m_lk lv20 4 = some (.int x19) → (lg_cmp lx2 (7234935)).toInt = 0 → HJ 192 92 lv20 [] h Q)
    : HJ 192 17 lv [] h Q := by
  refine hI_ll (k := 2) rfl e2 rfl ?_ -- 17
  refine hM_jc (x := 7234935) rfl rfl rfl ?_ -- 18
  refine hM_lcmp rfl rfl (fun x1 q1 => ?_) -- 21
  refine hM_zne (off := 7) (t := 29) rfl q1 (by decide) rfl (fun c22 => ?_) (fun c22 => ?_) -- 22
  · refine hI_ll (k := 2) rfl e2 rfl ?_ -- 29
    refine hM_jc (x := 7370100) rfl rfl rfl ?_ -- 30
    refine hM_lcmp rfl rfl (fun x2 q2 => ?_) -- 33
    refine hM_zne (off := 7) (t := 41) rfl q2 (by decide) rfl (fun c34 => ?_) (fun c34 => ?_) -- 34
    · refine hI_ll (k := 2) rfl e2 rfl ?_ -- 41
      refine hM_jc (x := 1835363428) rfl rfl rfl ?_ -- 42
      refine hM_lcmp rfl rfl (fun x3 q3 => ?_) -- 45
      refine hM_zne (off := 7) (t := 53) rfl q3 (by decide) rfl (fun c46 => ?_) (fun c46 => ?_) -- 46
      · refine hI_ll (k := 2) rfl e2 rfl ?_ -- 53
        refine hM_jc (x := 1818588019) rfl rfl rfl ?_ -- 54
        refine hM_lcmp rfl rfl (fun x4 q4 => ?_) -- 57
        refine hM_zne (off := 7) (t := 65) rfl q4 (by decide) rfl (fun c58 => ?_) (fun c58 => ?_) -- 58
        · refine hI_ll (k := 2) rfl e2 rfl ?_ -- 65
          refine hM_jc (x := 465726563698) rfl rfl rfl ?_ -- 66
          refine hM_lcmp rfl rfl (fun x5 q5 => ?_) -- 69
          refine hM_zne (off := 7) (t := 77) rfl q5 (by decide) rfl (fun c70 => ?_) (fun c70 => ?_) -- 70
          · refine hI_ll (k := 2) rfl e2 rfl ?_ -- 77
            refine hM_jc (x := 6518132) rfl rfl rfl ?_ -- 78
            refine hM_lcmp rfl rfl (fun x6 q6 => ?_) -- 81
            refine hM_zne (off := 7) (t := 89) rfl q6 (by decide) rfl (fun c82 => ?_) (fun c82 => ?_) -- 82
            · refine hM_ic (n := (-1)) rfl (by decide) rfl (fun x7 q7 => ?_) -- 89
              refine hM_si2 (k := 4) rfl (by decide +kernel) rfl (fun lv8 e8_4 u8 => ?_) -- 90
              have e8_0 := u8 0 _ (by decide) (Or.inl rfl) e0
              have e8_1 := u8 1 _ (by decide) (Or.inl rfl) e1
              have e8_2 := u8 2 _ (by decide) (Or.inr (by decide)) e2
              exact g0 x7 q7 lv8 e8_0 e8_1 e8_4 c22 c34 c46 c58 c70 c82
            · refine hM_ic (n := 5) rfl (by decide) rfl (fun x9 q9 => ?_) -- 85
              refine hI_go (pc' := 90) (off := 4) rfl (by decide) ?_ -- 86
              refine hM_si2 (k := 4) rfl (by decide +kernel) rfl (fun lv10 e10_4 u10 => ?_) -- 90
              have e10_0 := u10 0 _ (by decide) (Or.inl rfl) e0
              have e10_1 := u10 1 _ (by decide) (Or.inl rfl) e1
              have e10_2 := u10 2 _ (by decide) (Or.inr (by decide)) e2
              exact g1 x9 q9 lv10 e10_0 e10_1 e10_4 c22 c34 c46 c58 c70 c82
          · refine hM_ic (n := 4) rfl (by decide) rfl (fun x11 q11 => ?_) -- 73
            refine hI_go (pc' := 90) (off := 16) rfl (by decide) ?_ -- 74
            refine hM_si2 (k := 4) rfl (by decide +kernel) rfl (fun lv12 e12_4 u12 => ?_) -- 90
            have e12_0 := u12 0 _ (by decide) (Or.inl rfl) e0
            have e12_1 := u12 1 _ (by decide) (Or.inl rfl) e1
            have e12_2 := u12 2 _ (by decide) (Or.inr (by decide)) e2
            exact g2 x11 q11 lv12 e12_0 e12_1 e12_4 c22 c34 c46 c58 c70
        · refine hM_ic (n := 3) rfl (by decide) rfl (fun x13 q13 => ?_) -- 61
          refine hI_go (pc' := 90) (off := 28) rfl (by decide) ?_ -- 62
          refine hM_si2 (k := 4) rfl (by decide +kernel) rfl (fun lv14 e14_4 u14 => ?_) -- 90
          have e14_0 := u14 0 _ (by decide) (Or.inl rfl) e0
          have e14_1 := u14 1 _ (by decide) (Or.inl rfl) e1
          have e14_2 := u14 2 _ (by decide) (Or.inr (by decide)) e2
          exact g3 x13 q13 lv14 e14_0 e14_1 e14_4 c22 c34 c46 c58
      · refine hM_ic (n := 2) rfl (by decide) rfl (fun x15 q15 => ?_) -- 49
        refine hI_go (pc' := 90) (off := 40) rfl (by decide) ?_ -- 50
        refine hM_si2 (k := 4) rfl (by decide +kernel) rfl (fun lv16 e16_4 u16 => ?_) -- 90
        have e16_0 := u16 0 _ (by decide) (Or.inl rfl) e0
        have e16_1 := u16 1 _ (by decide) (Or.inl rfl) e1
        have e16_2 := u16 2 _ (by decide) (Or.inr (by decide)) e2
        exact g4 x15 q15 lv16 e16_0 e16_1 e16_4 c22 c34 c46
    · refine hM_ic (n := 1) rfl (by decide) rfl (fun x17 q17 => ?_) -- 37
      refine hI_go (pc' := 90) (off := 52) rfl (by decide) ?_ -- 38
      refine hM_si2 (k := 4) rfl (by decide +kernel) rfl (fun lv18 e18_4 u18 => ?_) -- 90
      have e18_0 := u18 0 _ (by decide) (Or.inl rfl) e0
      have e18_1 := u18 1 _ (by decide) (Or.inl rfl) e1
      have e18_2 := u18 2 _ (by decide) (Or.inr (by decide)) e2
      exact g5 x17 q17 lv18 e18_0 e18_1 e18_4 c22 c34
  · refine hM_ic (n := 0) rfl (by decide) rfl (fun x19 q19 => ?_) -- 25
    refine hI_go (pc' := 90) (off := 64) rfl (by decide) ?_ -- 26
    refine hM_si2 (k := 4) rfl (by decide +kernel) rfl (fun lv20 e20_4 u20 => ?_) -- 90
    have e20_0 := u20 0 _ (by decide) (Or.inl rfl) e0
    have e20_1 := u20 1 _ (by decide) (Or.inl rfl) e1
    have e20_2 := u20 2 _ (by decide) (Or.inr (by decide)) e2
    exact g6 x19 q19 lv20 e20_0 e20_1 e20_4 c22
theorem s_ml92 {p k : Int} (M : MX 49 W ρ m A h0 h F V G) (e0 : m_lk lv 0 = some (.ref m)) {lx1 : Int32} (e1 : m_lk lv 1 = some (.int lx1)) (lq1 : lx1.toInt = p) {lx4 : Int32} (e4 : m_lk lv 4 = some (.int lx4)) (lq4 : lx4.toInt = k) 
    (g0 : k ≠ (-1) → HJ 192 103 lv [] h Q)
    (g1 : k = (-1) → HJ 193 0 (lv_args 0 [.ref m]) [] h (fun v h' => HJ 192 102 lv (v.toList ++ []) h' Q))
    : HJ 192 92 lv [] h Q := by
  refine hI_il2 (k := 4) rfl e4 rfl ?_ -- 92
  refine hM_ic (n := (-1)) rfl (by decide) rfl (fun x1 q1 => ?_) -- 94
  refine hM_cne (off := 8) (t := 103) rfl lq4 q1 (by decide) rfl (fun c95 => ?_) (fun c95 => ?_) -- 95
  · exact g0 c95
  · refine hI_al (k := 0) rfl e0 rfl ?_ -- 98
    refine hM_iv M (by decide) rfl rfl (by decide) (as := []) (r := []) rfl rfl (by decide +kernel) rfl (by decide +kernel) rfl rfl rfl rfl rfl ?_ -- 99
    exact g1 c95
theorem s_ml102 {z : Int}  {sx0 : Int32} (sq0 : sx0.toInt = z) (z0 : 0 ≤ z) (z1 : z ≤ 1)
    (g0 : Q (some (.int sx0)) h)
    : HJ 192 102 lv [.int sx0] h Q := by
  refine hM_rb rfl rfl sq0 (by omega) (by omega) ?_ -- 102
  exact g0 
theorem s_ml103 {p k : Int} (M : MX 49 W ρ m A h0 h F V G) (e0 : m_lk lv 0 = some (.ref m)) {lx1 : Int32} (e1 : m_lk lv 1 = some (.int lx1)) (lq1 : lx1.toInt = p) {lx4 : Int32} (e4 : m_lk lv 4 = some (.int lx4)) (lq4 : lx4.toInt = k) 
    (g0 : V 16 (0 : Int).toNat ≠ 40 → HJ 192 120 lv [] h Q)
    (g1 : ∀ x4 : Int32, x4.toInt = 3 → V 16 (0 : Int).toNat = 40 → HJ 194 0 (lv_args 0 [.ref m, .int x4, .int lx1]) [] h (fun v h' => HJ 192 120 lv (v.toList ++ []) h' Q))
    : HJ 192 103 lv [] h Q := by
  refine hI_al (k := 0) rfl e0 rfl ?_ -- 103
  refine hM_ga M (by decide) rfl rfl (k := 16) (c := 9) rfl rfl rfl (by decide +kernel) rfl ?_ -- 104
  refine hM_ic (n := 0) rfl (by decide) rfl (fun x1 q1 => ?_) -- 107
  refine hM_ia M (by decide) (K := 16) (R2 := 56) (L := 161) (H := 161) (lo := (-2147483648)) (hi := 2147483647) rfl (by decide) rfl rfl (fun _ => rfl) rfl q1 (by omega) (by omega) rfl (fun x2 q2 a2 b2 => ?_) -- 108
  refine hM_bp (n := 40) rfl (by decide) rfl (fun x3 q3 => ?_) -- 109
  refine hM_cne (off := 9) (t := 120) rfl q2 q3 (by decide) rfl (fun c111 => ?_) (fun c111 => ?_) -- 111
  · exact g0 c111
  · refine hI_al (k := 0) rfl e0 rfl ?_ -- 114
    refine hM_ic (n := 3) rfl (by decide) rfl (fun x4 q4 => ?_) -- 115
    refine hI_il (k := 1) rfl e1 rfl ?_ -- 116
    refine hM_iv M (by decide) rfl rfl (by decide) (as := [.int x4, .int lx1]) (r := []) rfl rfl (by decide +kernel) rfl (by decide +kernel) rfl rfl rfl rfl rfl ?_ -- 117
    exact g1 x4 q4 c111
theorem s_ml120 {k : Int} (M : MX 49 W ρ m A h0 h F V G) (e0 : m_lk lv 0 = some (.ref m)) {lx4 : Int32} (e4 : m_lk lv 4 = some (.int lx4)) (lq4 : lx4.toInt = k) 
    (g0 : HJ 190 0 (lv_args 0 [.ref m]) [] h (fun v h' => HJ 192 124 lv (v.toList ++ []) h' Q))
    : HJ 192 120 lv [] h Q := by
  refine hI_al (k := 0) rfl e0 rfl ?_ -- 120
  refine hM_iv M (by decide) rfl rfl (by decide) (as := []) (r := []) rfl rfl (by decide +kernel) rfl (by decide +kernel) rfl rfl rfl rfl rfl ?_ -- 121
  exact g0 
theorem s_ml124 {k : Int} (M : MX 49 W ρ m A h0 h F V G) (e0 : m_lk lv 0 = some (.ref m)) {lx4 : Int32} (e4 : m_lk lv 4 = some (.int lx4)) (lq4 : lx4.toInt = k) 
    (g0 : ∀ x1 : Int32, x1.toInt = 0 → ∀ lv2 : List (Nat × Value), m_lk lv2 0 = some (.ref m) → m_lk lv2 4 = some (.int lx4) → m_lk lv2 5 = some (.int x1) → HJ 192 127 lv2 [] h Q)
    : HJ 192 124 lv [] h Q := by
  refine hM_ic (n := 0) rfl (by decide) rfl (fun x1 q1 => ?_) -- 124
  refine hM_si2 (k := 5) rfl (by decide +kernel) rfl (fun lv2 e2_5 u2 => ?_) -- 125
  have e2_0 := u2 0 _ (by decide) (Or.inl rfl) e0
  have e2_4 := u2 4 _ (by decide) (Or.inl rfl) e4
  exact g0 x1 q1 lv2 e2_0 e2_4 e2_5
theorem s_ml127 {k i : Int} (M : MX 49 W ρ m A h0 h F V G) (e0 : m_lk lv 0 = some (.ref m)) {lx4 : Int32} (e4 : m_lk lv 4 = some (.int lx4)) (lq4 : lx4.toInt = k) {lx5 : Int32} (e5 : m_lk lv 5 = some (.int lx5)) (lq5 : lx5.toInt = i) (i0 : 0 ≤ i) (t0 : 0 ≤ V 16 (0 : Int).toNat) (t1 : V 16 (0 : Int).toNat ≤ 40)(hw : d_sub [(56, 1001)] W = true)
    (g0 : i ≥ 4 → HJ 192 179 lv [] h Q)
    (g1 : i < 4 → V 16 (0 : Int).toNat ≥ 40 → HJ 192 179 lv [] h Q)
    (g2 : ∀ h13 : MH, ∀ V13 : Nat → Nat → Int, V13 = m_u V 16 (m_u (V 16) ((1 + (4 * (V 16 (0 : Int).toNat))) + i).toNat ((-1))) → ∀ x14 : Int32, x14.toInt = i + 1 → ∀ lv14 : List (Nat × Value), MX 49 W ρ m A h0 h13 F V13 G → m_lk lv14 0 = some (.ref m) → m_lk lv14 4 = some (.int lx4) → m_lk lv14 5 = some (.int x14) → i < 4 → V 16 (0 : Int).toNat < 40 → i ≠ 0 → HJ 192 127 lv14 [] h13 Q)
    (g3 : ∀ h15 : MH, ∀ V15 : Nat → Nat → Int, V15 = m_u V 16 (m_u (V 16) ((1 + (4 * (V 16 (0 : Int).toNat))) + i).toNat (k)) → ∀ x16 : Int32, x16.toInt = i + 1 → ∀ lv16 : List (Nat × Value), MX 49 W ρ m A h0 h15 F V15 G → m_lk lv16 0 = some (.ref m) → m_lk lv16 4 = some (.int lx4) → m_lk lv16 5 = some (.int x16) → i < 4 → V 16 (0 : Int).toNat < 40 → i = 0 → HJ 192 127 lv16 [] h15 Q)
    : HJ 192 127 lv [] h Q := by
  have lb4 : -2147483648 ≤ k ∧ k ≤ 2147483647 := by rw [← lq4]; exact g_iT _
  have lb5 : -2147483648 ≤ i ∧ i ≤ 2147483647 := by rw [← lq5]; exact g_iT _
  refine hI_il2 (k := 5) rfl e5 rfl ?_ -- 127
  refine hM_ic (n := 4) rfl (by decide) rfl (fun x1 q1 => ?_) -- 129
  refine hM_cge (off := 49) (t := 179) rfl lq5 q1 (by decide) rfl (fun c130 => ?_) (fun c130 => ?_) -- 130
  · exact g0 c130
  · refine hI_al (k := 0) rfl e0 rfl ?_ -- 133
    refine hM_ga M (by decide) rfl rfl (k := 16) (c := 9) rfl rfl rfl (by decide +kernel) rfl ?_ -- 134
    refine hM_ic (n := 0) rfl (by decide) rfl (fun x2 q2 => ?_) -- 137
    refine hM_ia M (by decide) (K := 16) (R2 := 56) (L := 161) (H := 161) (lo := (-2147483648)) (hi := 2147483647) rfl (by decide) rfl rfl (fun _ => rfl) rfl q2 (by omega) (by omega) rfl (fun x3 q3 a3 b3 => ?_) -- 138
    refine hM_bp (n := 40) rfl (by decide) rfl (fun x4 q4 => ?_) -- 139
    refine hM_cge (off := 38) (t := 179) rfl q3 q4 (by decide) rfl (fun c141 => ?_) (fun c141 => ?_) -- 141
    · exact g1 c130 c141
    · refine hI_al (k := 0) rfl e0 rfl ?_ -- 144
      refine hM_ga M (by decide) rfl rfl (k := 16) (c := 9) rfl rfl rfl (by decide +kernel) rfl ?_ -- 145
      refine hM_ic (n := 1) rfl (by decide) rfl (fun x5 q5 => ?_) -- 148
      refine hM_ic (n := 4) rfl (by decide) rfl (fun x6 q6 => ?_) -- 149
      refine hI_al (k := 0) rfl e0 rfl ?_ -- 150
      refine hM_ga M (by decide) rfl rfl (k := 16) (c := 9) rfl rfl rfl (by decide +kernel) rfl ?_ -- 151
      refine hM_ic (n := 0) rfl (by decide) rfl (fun x7 q7 => ?_) -- 154
      refine hM_ia M (by decide) (K := 16) (R2 := 56) (L := 161) (H := 161) (lo := (-2147483648)) (hi := 2147483647) rfl (by decide) rfl rfl (fun _ => rfl) rfl q7 (by omega) (by omega) rfl (fun x8 q8 a8 b8 => ?_) -- 155
      refine hM_mul rfl q6 q8 (by omega) (by omega) rfl (fun x9 q9 => ?_) -- 156
      refine hM_add rfl q5 q9 (by omega) (by omega) rfl (fun x10 q10 => ?_) -- 157
      refine hI_il2 (k := 5) rfl e5 rfl ?_ -- 158
      refine hM_add rfl q10 lq5 (by omega) (by omega) rfl (fun x11 q11 => ?_) -- 160
      refine hI_il2 (k := 5) rfl e5 rfl ?_ -- 161
      refine hM_zne (off := 8) (t := 171) rfl lq5 (by decide) rfl (fun c163 => ?_) (fun c163 => ?_) -- 163
      · refine hM_ic (n := (-1)) rfl (by decide) rfl (fun x12 q12 => ?_) -- 171
        refine hM_is M (by decide) ok_49 (K := 16) (R2 := 56) (L := 161) (H := 161) (lo := (-2147483648)) (hi := 2147483647) rfl (by decide) rfl rfl rfl (fun _ => rfl) (d_subm hw (by decide +kernel)) rfl q11 q12 (by omega) (by omega) (by omega) (by omega) rfl (fun h13 V13 f13 M13 => ?_) -- 172
        refine hM_inc (k := 5) (z := 1) rfl e5 lq5 (by decide) (by omega) (by omega) (by decide +kernel) rfl (fun lv14 x14 q14 e14_5 u14 => ?_) -- 173
        have e14_0 := u14 0 _ (by decide) (Or.inl rfl) e0
        have e14_4 := u14 4 _ (by decide) (Or.inl rfl) e4
        refine hI_go (pc' := 127) (off := (-49)) rfl (by decide) ?_ -- 176
        exact g2 h13 V13 f13 x14 q14 lv14 M13 e14_0 e14_4 e14_5 c130 c141 c163
      · refine hI_il2 (k := 4) rfl e4 rfl ?_ -- 166
        refine hI_go (pc' := 172) (off := 4) rfl (by decide) ?_ -- 168
        refine hM_is M (by decide) ok_49 (K := 16) (R2 := 56) (L := 161) (H := 161) (lo := (-2147483648)) (hi := 2147483647) rfl (by decide) rfl rfl rfl (fun _ => rfl) (d_subm hw (by decide +kernel)) rfl q11 lq4 (by omega) (by omega) (by omega) (by omega) rfl (fun h15 V15 f15 M15 => ?_) -- 172
        refine hM_inc (k := 5) (z := 1) rfl e5 lq5 (by decide) (by omega) (by omega) (by decide +kernel) rfl (fun lv16 x16 q16 e16_5 u16 => ?_) -- 173
        have e16_0 := u16 0 _ (by decide) (Or.inl rfl) e0
        have e16_4 := u16 4 _ (by decide) (Or.inl rfl) e4
        refine hI_go (pc' := 127) (off := (-49)) rfl (by decide) ?_ -- 176
        exact g3 h15 V15 f15 x16 q16 lv16 M15 e16_0 e16_4 e16_5 c130 c141 c163
theorem s_ml179 {k : Int} (M : MX 49 W ρ m A h0 h F V G) (e0 : m_lk lv 0 = some (.ref m)) {lx4 : Int32} (e4 : m_lk lv 4 = some (.int lx4)) (lq4 : lx4.toInt = k) 
    (g0 : ∀ x1 : Int32, x1.toInt = 1 → ∀ lv2 : List (Nat × Value), m_lk lv2 0 = some (.ref m) → m_lk lv2 4 = some (.int lx4) → m_lk lv2 5 = some (.int x1) → k = 0 → HJ 192 201 lv2 [] h Q)
    (g1 : ∀ x3 : Int32, x3.toInt = 1 → ∀ x4 : Int32, x4.toInt = 40 → k ≠ 0 → HJ 195 0 (lv_args 0 [.ref m, .int x3, .int x4]) [] h (fun v h' => HJ 192 191 lv (v.toList ++ []) h' Q))
    : HJ 192 179 lv [] h Q := by
  refine hI_il2 (k := 4) rfl e4 rfl ?_ -- 179
  refine hM_zeq (off := 13) (t := 194) rfl lq4 (by decide) rfl (fun c181 => ?_) (fun c181 => ?_) -- 181
  · refine hM_ic (n := 1) rfl (by decide) rfl (fun x1 q1 => ?_) -- 194
    refine hI_go (pc' := 199) (off := 4) rfl (by decide) ?_ -- 195
    refine hM_si2 (k := 5) rfl (by decide +kernel) rfl (fun lv2 e2_5 u2 => ?_) -- 199
    have e2_0 := u2 0 _ (by decide) (Or.inl rfl) e0
    have e2_4 := u2 4 _ (by decide) (Or.inl rfl) e4
    exact g0 x1 q1 lv2 e2_0 e2_4 e2_5 c181
  · refine hI_al (k := 0) rfl e0 rfl ?_ -- 184
    refine hM_ic (n := 1) rfl (by decide) rfl (fun x3 q3 => ?_) -- 185
    refine hM_bp (n := 40) rfl (by decide) rfl (fun x4 q4 => ?_) -- 186
    refine hM_iv M (by decide) rfl rfl (by decide) (as := [.int x3, .int x4]) (r := []) rfl rfl (by decide +kernel) rfl (by decide +kernel) rfl rfl rfl rfl rfl ?_ -- 188
    exact g1 x3 q3 x4 q4 c181
theorem s_ml191 {k z : Int} (M : MX 49 W ρ m A h0 h F V G) (e0 : m_lk lv 0 = some (.ref m)) {lx4 : Int32} (e4 : m_lk lv 4 = some (.int lx4)) (lq4 : lx4.toInt = k) {sx0 : Int32} (sq0 : sx0.toInt = z) 
    (g0 : ∀ x1 : Int32, x1.toInt = 0 → ∀ lv2 : List (Nat × Value), m_lk lv2 0 = some (.ref m) → m_lk lv2 4 = some (.int lx4) → m_lk lv2 5 = some (.int x1) → z = 0 → HJ 192 201 lv2 [] h Q)
    (g1 : ∀ x3 : Int32, x3.toInt = 1 → ∀ lv4 : List (Nat × Value), m_lk lv4 0 = some (.ref m) → m_lk lv4 4 = some (.int lx4) → m_lk lv4 5 = some (.int x3) → z ≠ 0 → HJ 192 201 lv4 [] h Q)
    : HJ 192 191 lv [.int sx0] h Q := by
  refine hM_zeq (off := 7) (t := 198) rfl sq0 (by decide) rfl (fun c191 => ?_) (fun c191 => ?_) -- 191
  · refine hM_ic (n := 0) rfl (by decide) rfl (fun x1 q1 => ?_) -- 198
    refine hM_si2 (k := 5) rfl (by decide +kernel) rfl (fun lv2 e2_5 u2 => ?_) -- 199
    have e2_0 := u2 0 _ (by decide) (Or.inl rfl) e0
    have e2_4 := u2 4 _ (by decide) (Or.inl rfl) e4
    exact g0 x1 q1 lv2 e2_0 e2_4 e2_5 c191
  · refine hM_ic (n := 1) rfl (by decide) rfl (fun x3 q3 => ?_) -- 194
    refine hI_go (pc' := 199) (off := 4) rfl (by decide) ?_ -- 195
    refine hM_si2 (k := 5) rfl (by decide +kernel) rfl (fun lv4 e4_5 u4 => ?_) -- 199
    have e4_0 := u4 0 _ (by decide) (Or.inl rfl) e0
    have e4_4 := u4 4 _ (by decide) (Or.inl rfl) e4
    exact g1 x3 q3 lv4 e4_0 e4_4 e4_5 c191
theorem s_ml201 {k f : Int} (M : MX 49 W ρ m A h0 h F V G) (e0 : m_lk lv 0 = some (.ref m)) {lx4 : Int32} (e4 : m_lk lv 4 = some (.int lx4)) (lq4 : lx4.toInt = k) {lx5 : Int32} (e5 : m_lk lv 5 = some (.int lx5)) (lq5 : lx5.toInt = f) 
    (g0 : f = 0 → HJ 192 248 lv [] h Q)
    (g1 : f ≠ 0 → k = 0 → HJ 192 248 lv [] h Q)
    (g2 : f ≠ 0 → k ≠ 0 → k = 3 → HJ 192 248 lv [] h Q)
    (g3 : ∀ x2 : Int32, x2.toInt = 2 → ∀ x5 : Int32, x5.toInt = 99 → f ≠ 0 → k ≠ 0 → k ≠ 3 → k ≠ 2 → k ≠ 4 → HJ 195 0 (lv_args 0 [.ref m, .int x2, .int x5]) [] h (fun v h' => HJ 192 246 lv (v.toList ++ []) h' Q))
    (g4 : ∀ x2 : Int32, x2.toInt = 2 → ∀ x6 : Int32, x6.toInt = 39 → f ≠ 0 → k ≠ 0 → k ≠ 3 → k ≠ 2 → k = 4 → HJ 195 0 (lv_args 0 [.ref m, .int x2, .int x6]) [] h (fun v h' => HJ 192 246 lv (v.toList ++ []) h' Q))
    (g5 : ∀ x2 : Int32, x2.toInt = 2 → ∀ x7 : Int32, x7.toInt = 40 → f ≠ 0 → k ≠ 0 → k ≠ 3 → k = 2 → HJ 195 0 (lv_args 0 [.ref m, .int x2, .int x7]) [] h (fun v h' => HJ 192 246 lv (v.toList ++ []) h' Q))
    : HJ 192 201 lv [] h Q := by
  refine hI_il2 (k := 5) rfl e5 rfl ?_ -- 201
  refine hM_zeq (off := 45) (t := 248) rfl lq5 (by decide) rfl (fun c203 => ?_) (fun c203 => ?_) -- 203
  · exact g0 c203
  · refine hI_il2 (k := 4) rfl e4 rfl ?_ -- 206
    refine hM_zeq (off := 40) (t := 248) rfl lq4 (by decide) rfl (fun c208 => ?_) (fun c208 => ?_) -- 208
    · exact g1 c203 c208
    · refine hI_il2 (k := 4) rfl e4 rfl ?_ -- 211
      refine hM_ic (n := 3) rfl (by decide) rfl (fun x1 q1 => ?_) -- 213
      refine hM_ceq (off := 34) (t := 248) rfl lq4 q1 (by decide) rfl (fun c214 => ?_) (fun c214 => ?_) -- 214
      · exact g2 c203 c208 c214
      · refine hI_al (k := 0) rfl e0 rfl ?_ -- 217
        refine hM_ic (n := 2) rfl (by decide) rfl (fun x2 q2 => ?_) -- 218
        refine hI_il2 (k := 4) rfl e4 rfl ?_ -- 219
        refine hM_ic (n := 2) rfl (by decide) rfl (fun x3 q3 => ?_) -- 221
        refine hM_cne (off := 8) (t := 230) rfl lq4 q3 (by decide) rfl (fun c222 => ?_) (fun c222 => ?_) -- 222
        · refine hI_il2 (k := 4) rfl e4 rfl ?_ -- 230
          refine hM_ic (n := 4) rfl (by decide) rfl (fun x4 q4 => ?_) -- 232
          refine hM_cne (off := 8) (t := 241) rfl lq4 q4 (by decide) rfl (fun c233 => ?_) (fun c233 => ?_) -- 233
          · refine hM_bp (n := 99) rfl (by decide) rfl (fun x5 q5 => ?_) -- 241
            refine hM_iv M (by decide) rfl rfl (by decide) (as := [.int x2, .int x5]) (r := []) rfl rfl (by decide +kernel) rfl (by decide +kernel) rfl rfl rfl rfl rfl ?_ -- 243
            exact g3 x2 q2 x5 q5 c203 c208 c214 c222 c233
          · refine hM_bp (n := 39) rfl (by decide) rfl (fun x6 q6 => ?_) -- 236
            refine hI_go (pc' := 243) (off := 5) rfl (by decide) ?_ -- 238
            refine hM_iv M (by decide) rfl rfl (by decide) (as := [.int x2, .int x6]) (r := []) rfl rfl (by decide +kernel) rfl (by decide +kernel) rfl rfl rfl rfl rfl ?_ -- 243
            exact g4 x2 q2 x6 q6 c203 c208 c214 c222 c233
        · refine hM_bp (n := 40) rfl (by decide) rfl (fun x7 q7 => ?_) -- 225
          refine hI_go (pc' := 243) (off := 16) rfl (by decide) ?_ -- 227
          refine hM_iv M (by decide) rfl rfl (by decide) (as := [.int x2, .int x7]) (r := []) rfl rfl (by decide +kernel) rfl (by decide +kernel) rfl rfl rfl rfl rfl ?_ -- 243
          exact g5 x2 q2 x7 q7 c203 c208 c214 c222
theorem s_ml246 {k z : Int} (M : MX 49 W ρ m A h0 h F V G) (e0 : m_lk lv 0 = some (.ref m)) {lx4 : Int32} (e4 : m_lk lv 4 = some (.int lx4)) (lq4 : lx4.toInt = k) {sx0 : Int32} (sq0 : sx0.toInt = z) 
    (g0 : ∀ lv1 : List (Nat × Value), m_lk lv1 0 = some (.ref m) → m_lk lv1 4 = some (.int lx4) → m_lk lv1 5 = some (.int sx0) → HJ 192 248 lv1 [] h Q)
    : HJ 192 246 lv [.int sx0] h Q := by
  refine hM_si2 (k := 5) rfl (by decide +kernel) rfl (fun lv1 e1_5 u1 => ?_) -- 246
  have e1_0 := u1 0 _ (by decide) (Or.inl rfl) e0
  have e1_4 := u1 4 _ (by decide) (Or.inl rfl) e4
  exact g0 lv1 e1_0 e1_4 e1_5
theorem s_ml248 {k f : Int} (M : MX 49 W ρ m A h0 h F V G) (e0 : m_lk lv 0 = some (.ref m)) {lx4 : Int32} (e4 : m_lk lv 4 = some (.int lx4)) (lq4 : lx4.toInt = k) {lx5 : Int32} (e5 : m_lk lv 5 = some (.int lx5)) (lq5 : lx5.toInt = f) 
    (g0 : f = 0 → HJ 192 268 lv [] h Q)
    (g1 : f ≠ 0 → k ≠ 4 → HJ 192 268 lv [] h Q)
    (g2 : ∀ x2 : Int32, x2.toInt = 3 → ∀ x3 : Int32, x3.toInt = 99 → f ≠ 0 → k = 4 → HJ 195 0 (lv_args 0 [.ref m, .int x2, .int x3]) [] h (fun v h' => HJ 192 266 lv (v.toList ++ []) h' Q))
    : HJ 192 248 lv [] h Q := by
  refine hI_il2 (k := 5) rfl e5 rfl ?_ -- 248
  refine hM_zeq (off := 18) (t := 268) rfl lq5 (by decide) rfl (fun c250 => ?_) (fun c250 => ?_) -- 250
  · exact g0 c250
  · refine hI_il2 (k := 4) rfl e4 rfl ?_ -- 253
    refine hM_ic (n := 4) rfl (by decide) rfl (fun x1 q1 => ?_) -- 255
    refine hM_cne (off := 12) (t := 268) rfl lq4 q1 (by decide) rfl (fun c256 => ?_) (fun c256 => ?_) -- 256
    · exact g1 c250 c256
    · refine hI_al (k := 0) rfl e0 rfl ?_ -- 259
      refine hM_ic (n := 3) rfl (by decide) rfl (fun x2 q2 => ?_) -- 260
      refine hM_bp (n := 99) rfl (by decide) rfl (fun x3 q3 => ?_) -- 261
      refine hM_iv M (by decide) rfl rfl (by decide) (as := [.int x2, .int x3]) (r := []) rfl rfl (by decide +kernel) rfl (by decide +kernel) rfl rfl rfl rfl rfl ?_ -- 263
      exact g2 x2 q2 x3 q3 c250 c256
theorem s_ml266 {k z : Int} (M : MX 49 W ρ m A h0 h F V G) (e0 : m_lk lv 0 = some (.ref m)) {lx4 : Int32} (e4 : m_lk lv 4 = some (.int lx4)) (lq4 : lx4.toInt = k) {sx0 : Int32} (sq0 : sx0.toInt = z) 
    (g0 : ∀ lv1 : List (Nat × Value), m_lk lv1 0 = some (.ref m) → m_lk lv1 4 = some (.int lx4) → m_lk lv1 5 = some (.int sx0) → HJ 192 268 lv1 [] h Q)
    : HJ 192 266 lv [.int sx0] h Q := by
  refine hM_si2 (k := 5) rfl (by decide +kernel) rfl (fun lv1 e1_5 u1 => ?_) -- 266
  have e1_0 := u1 0 _ (by decide) (Or.inl rfl) e0
  have e1_4 := u1 4 _ (by decide) (Or.inl rfl) e4
  exact g0 lv1 e1_0 e1_4 e1_5
theorem s_ml268 {f : Int} (M : MX 49 W ρ m A h0 h F V G) (e0 : m_lk lv 0 = some (.ref m)) {lx5 : Int32} (e5 : m_lk lv 5 = some (.int lx5)) (lq5 : lx5.toInt = f) (f0 : 0 ≤ f) (f1 : f ≤ 1) (t0 : 0 ≤ V 16 (0 : Int).toNat) (t1 : V 16 (0 : Int).toNat ≤ 40)(hw : d_sub [(56, 1001)] W = true)
    (g0 : ∀ h5 : MH, ∀ V5 : Nat → Nat → Int, V5 = m_u V 16 (m_u (V 16) (0 : Int).toNat ((V 16 (0 : Int).toNat) + 0)) → MX 49 W ρ m A h0 h5 F V5 G → f = 0 → Q (some (.int lx5)) h5)
    (g1 : ∀ h11 : MH, ∀ V11 : Nat → Nat → Int, V11 = m_u V 16 (m_u (V 16) (0 : Int).toNat ((V 16 (0 : Int).toNat) + 0)) → MX 49 W ρ m A h0 h11 F V11 G → f ≠ 0 → V 16 (0 : Int).toNat ≥ 40 → Q (some (.int lx5)) h11)
    (g2 : ∀ h14 : MH, ∀ V14 : Nat → Nat → Int, V14 = m_u V 16 (m_u (V 16) (0 : Int).toNat ((V 16 (0 : Int).toNat) + 1)) → MX 49 W ρ m A h0 h14 F V14 G → f ≠ 0 → V 16 (0 : Int).toNat < 40 → Q (some (.int lx5)) h14)
    : HJ 192 268 lv [] h Q := by
  refine hI_al (k := 0) rfl e0 rfl ?_ -- 268
  refine hM_ga M (by decide) rfl rfl (k := 16) (c := 9) rfl rfl rfl (by decide +kernel) rfl ?_ -- 269
  refine hM_ic (n := 0) rfl (by decide) rfl (fun x1 q1 => ?_) -- 272
  refine hI_dup2 rfl rfl rfl rfl ?_ -- 273
  refine hM_ia M (by decide) (K := 16) (R2 := 56) (L := 161) (H := 161) (lo := (-2147483648)) (hi := 2147483647) rfl (by decide) rfl rfl (fun _ => rfl) rfl q1 (by omega) (by omega) rfl (fun x2 q2 a2 b2 => ?_) -- 274
  refine hI_il2 (k := 5) rfl e5 rfl ?_ -- 275
  refine hM_zeq (off := 18) (t := 295) rfl lq5 (by decide) rfl (fun c277 => ?_) (fun c277 => ?_) -- 277
  · refine hM_ic (n := 0) rfl (by decide) rfl (fun x3 q3 => ?_) -- 295
    refine hM_add rfl q2 q3 (by omega) (by omega) rfl (fun x4 q4 => ?_) -- 296
    refine hM_is M (by decide) ok_49 (K := 16) (R2 := 56) (L := 161) (H := 161) (lo := (-2147483648)) (hi := 2147483647) rfl (by decide) rfl rfl rfl (fun _ => rfl) (d_subm hw (by decide +kernel)) rfl q1 q4 (by omega) (by omega) (by omega) (by omega) rfl (fun h5 V5 f5 M5 => ?_) -- 297
    refine hI_il2 (k := 5) rfl e5 rfl ?_ -- 298
    refine hM_rb rfl rfl lq5 (by omega) (by omega) ?_ -- 300
    exact g0 h5 V5 f5 M5 c277
  · refine hI_al (k := 0) rfl e0 rfl ?_ -- 280
    refine hM_ga M (by decide) rfl rfl (k := 16) (c := 9) rfl rfl rfl (by decide +kernel) rfl ?_ -- 281
    refine hM_ic (n := 0) rfl (by decide) rfl (fun x6 q6 => ?_) -- 284
    refine hM_ia M (by decide) (K := 16) (R2 := 56) (L := 161) (H := 161) (lo := (-2147483648)) (hi := 2147483647) rfl (by decide) rfl rfl (fun _ => rfl) rfl q6 (by omega) (by omega) rfl (fun x7 q7 a7 b7 => ?_) -- 285
    refine hM_bp (n := 40) rfl (by decide) rfl (fun x8 q8 => ?_) -- 286
    refine hM_cge (off := 7) (t := 295) rfl q7 q8 (by decide) rfl (fun c288 => ?_) (fun c288 => ?_) -- 288
    · refine hM_ic (n := 0) rfl (by decide) rfl (fun x9 q9 => ?_) -- 295
      refine hM_add rfl q2 q9 (by omega) (by omega) rfl (fun x10 q10 => ?_) -- 296
      refine hM_is M (by decide) ok_49 (K := 16) (R2 := 56) (L := 161) (H := 161) (lo := (-2147483648)) (hi := 2147483647) rfl (by decide) rfl rfl rfl (fun _ => rfl) (d_subm hw (by decide +kernel)) rfl q1 q10 (by omega) (by omega) (by omega) (by omega) rfl (fun h11 V11 f11 M11 => ?_) -- 297
      refine hI_il2 (k := 5) rfl e5 rfl ?_ -- 298
      refine hM_rb rfl rfl lq5 (by omega) (by omega) ?_ -- 300
      exact g1 h11 V11 f11 M11 c277 c288
    · refine hM_ic (n := 1) rfl (by decide) rfl (fun x12 q12 => ?_) -- 291
      refine hI_go (pc' := 296) (off := 4) rfl (by decide) ?_ -- 292
      refine hM_add rfl q2 q12 (by omega) (by omega) rfl (fun x13 q13 => ?_) -- 296
      refine hM_is M (by decide) ok_49 (K := 16) (R2 := 56) (L := 161) (H := 161) (lo := (-2147483648)) (hi := 2147483647) rfl (by decide) rfl rfl rfl (fun _ => rfl) (d_subm hw (by decide +kernel)) rfl q1 q13 (by omega) (by omega) (by omega) (by omega) rfl (fun h14 V14 f14 M14 => ?_) -- 297
      refine hI_il2 (k := 5) rfl e5 rfl ?_ -- 298
      refine hM_rb rfl rfl lq5 (by omega) (by omega) ?_ -- 300
      exact g2 h14 V14 f14 M14 c277 c288
theorem s_mr0 (M : MX 49 W ρ m A h0 h F V G) (e0 : m_lk lv 0 = some (.ref m)) (hw : d_sub [(56, 1001), (49, 7), (49, 14)] W = true)
    (g0 : ∀ h3 : MH, ∀ V3 : Nat → Nat → Int, V3 = m_u V 16 (m_u (V 16) (0 : Int).toNat (0)) → ∀ h5 : MH, ∀ F5 : Nat → Int, F5 = m_u F 7 (0) → ∀ h7 : MH, ∀ F7 : Nat → Int, F7 = m_u F5 14 (0) → ∀ x8 : Int32, x8.toInt = 1 → ∀ lv9 : List (Nat × Value), MX 49 W ρ m A h0 h7 F7 V3 G → m_lk lv9 0 = some (.ref m) → m_lk lv9 1 = some (.int x8) → HJ 190 0 (lv_args 0 [.ref m]) [] h7 (fun v h' => HJ 189 23 lv9 (v.toList ++ []) h' Q))
    : HJ 189 0 lv [] h Q := by
  refine hI_al (k := 0) rfl e0 rfl ?_ -- 0
  refine hM_ga M (by decide) rfl rfl (k := 16) (c := 9) rfl rfl rfl (by decide +kernel) rfl ?_ -- 1
  refine hM_ic (n := 0) rfl (by decide) rfl (fun x1 q1 => ?_) -- 4
  refine hM_ic (n := 0) rfl (by decide) rfl (fun x2 q2 => ?_) -- 5
  refine hM_is M (by decide) ok_49 (K := 16) (R2 := 56) (L := 161) (H := 161) (lo := (-2147483648)) (hi := 2147483647) rfl (by decide) rfl rfl rfl (fun _ => rfl) (d_subm hw (by decide +kernel)) rfl q1 q2 (by omega) (by omega) (by omega) (by omega) rfl (fun h3 V3 f3 M3 => ?_) -- 6
  refine hI_al (k := 0) rfl e0 rfl ?_ -- 7
  refine hM_ic (n := 0) rfl (by decide) rfl (fun x4 q4 => ?_) -- 8
  refine hM_pi M3 (by decide) ok_49 rfl rfl (k := 7) (c := 9) (lo := 0) (hi := 600) rfl rfl ⟨by decide, by decide +kernel, rfl⟩ rfl (d_subm hw (by decide +kernel)) q4 (by omega) (by omega) rfl (fun h5 F5 f5 M5 => ?_) -- 9
  refine hI_al (k := 0) rfl e0 rfl ?_ -- 12
  refine hM_ic (n := 0) rfl (by decide) rfl (fun x6 q6 => ?_) -- 13
  refine hM_pi M5 (by decide) ok_49 rfl rfl (k := 14) (c := 9) (lo := (-2147483648)) (hi := 2147483647) rfl rfl ⟨by decide, by decide +kernel, rfl⟩ rfl (d_subm hw (by decide +kernel)) q6 (by omega) (by omega) rfl (fun h7 F7 f7 M7 => ?_) -- 14
  refine hM_ic (n := 1) rfl (by decide) rfl (fun x8 q8 => ?_) -- 17
  refine hM_si (k := 1) rfl (by decide +kernel) rfl (fun lv9 e9_1 u9 => ?_) -- 18
  have e9_0 := u9 0 _ (by decide) (Or.inl rfl) e0
  refine hI_al (k := 0) rfl e9_0 rfl ?_ -- 19
  refine hM_iv M7 (by decide) rfl rfl (by decide) (as := []) (r := []) rfl rfl (by decide +kernel) rfl (by decide +kernel) rfl rfl rfl rfl rfl ?_ -- 20
  exact g0 h3 V3 f3 h5 F5 f5 h7 F7 f7 x8 q8 lv9 M7 e9_0 e9_1
theorem s_mr23 {f : Int} (M : MX 49 W ρ m A h0 h F V G) (e0 : m_lk lv 0 = some (.ref m)) {lx1 : Int32} (e1 : m_lk lv 1 = some (.int lx1)) (lq1 : lx1.toInt = f) 
    (g0 : f = 0 → HJ 189 71 lv [] h Q)
    (g1 : f ≠ 0 → (-2147483648) ≤ F 10 → F 10 ≤ 2147483647 → F 10 = 0 → HJ 189 71 lv [] h Q)
    (g2 : ∀ x2 : Int32, x2.toInt = F 9 → f ≠ 0 → (-2147483648) ≤ F 10 → F 10 ≤ 2147483647 → F 10 ≠ 0 → 0 ≤ F 9 → F 9 ≤ 600 → HJ 192 0 (lv_args 0 [.ref m, .int x2]) [] h (fun v h' => HJ 189 42 lv (v.toList ++ []) h' Q))
    : HJ 189 23 lv [] h Q := by
  refine hI_il (k := 1) rfl e1 rfl ?_ -- 23
  refine hM_zeq (off := 47) (t := 71) rfl lq1 (by decide) rfl (fun c24 => ?_) (fun c24 => ?_) -- 24
  · exact g0 c24
  · refine hI_al (k := 0) rfl e0 rfl ?_ -- 27
    refine hM_gi M (by decide) rfl rfl rfl (k := 10) (c := 9) (lo := (-2147483648)) (hi := 2147483647) rfl rfl rfl rfl rfl (fun x1 q1 a1 b1 => ?_) -- 28
    refine hM_zeq (off := 40) (t := 71) rfl q1 (by decide) rfl (fun c31 => ?_) (fun c31 => ?_) -- 31
    · exact g1 c24 a1 b1 c31
    · refine hI_al (k := 0) rfl e0 rfl ?_ -- 34
      refine hI_al (k := 0) rfl e0 rfl ?_ -- 35
      refine hM_gi M (by decide) rfl rfl rfl (k := 9) (c := 9) (lo := 0) (hi := 600) rfl rfl rfl rfl rfl (fun x2 q2 a2 b2 => ?_) -- 36
      refine hM_iv M (by decide) rfl rfl (by decide) (as := [.int x2]) (r := []) rfl rfl (by decide +kernel) rfl (by decide +kernel) rfl rfl rfl rfl rfl ?_ -- 39
      exact g2 x2 q2 c24 a1 b1 c31 a2 b2
theorem s_mr42 {z : Int} (M : MX 49 W ρ m A h0 h F V G) (e0 : m_lk lv 0 = some (.ref m)) {sx0 : Int32} (sq0 : sx0.toInt = z) 
    (g0 : ∀ lv1 : List (Nat × Value), m_lk lv1 0 = some (.ref m) → m_lk lv1 1 = some (.int sx0) → z = 0 → HJ 189 23 lv1 [] h Q)
    (g1 : ∀ lv1 : List (Nat × Value), m_lk lv1 0 = some (.ref m) → m_lk lv1 1 = some (.int sx0) → z ≠ 0 → (-2147483648) ≤ F 10 → F 10 ≤ 2147483647 → F 10 = 4 → HJ 190 0 (lv_args 0 [.ref m]) [] h (fun v h' => HJ 189 68 lv1 (v.toList ++ []) h' Q))
    (g2 : ∀ lv1 : List (Nat × Value), m_lk lv1 0 = some (.ref m) → m_lk lv1 1 = some (.int sx0) → z ≠ 0 → (-2147483648) ≤ F 10 → F 10 ≤ 2147483647 → F 10 ≠ 4 → HJ 193 0 (lv_args 0 [.ref m]) [] h (fun v h' => HJ 189 59 lv1 (v.toList ++ []) h' Q))
    : HJ 189 42 lv [.int sx0] h Q := by
  refine hM_si (k := 1) rfl (by decide +kernel) rfl (fun lv1 e1_1 u1 => ?_) -- 42
  have e1_0 := u1 0 _ (by decide) (Or.inl rfl) e0
  refine hI_il (k := 1) rfl e1_1 rfl ?_ -- 43
  refine hM_zeq (off := 16) (t := 60) rfl sq0 (by decide) rfl (fun c44 => ?_) (fun c44 => ?_) -- 44
  · refine hI_il (k := 1) rfl e1_1 rfl ?_ -- 60
    refine hM_zeq (off := (-38)) (t := 23) rfl sq0 (by decide) rfl (fun c61 => ?_) (fun c61 => ?_) -- 61
    · exact g0 lv1 e1_0 e1_1 c44
    · exfalso; omega
  · refine hI_al (k := 0) rfl e1_0 rfl ?_ -- 47
    refine hM_gi M (by decide) rfl rfl rfl (k := 10) (c := 9) (lo := (-2147483648)) (hi := 2147483647) rfl rfl rfl rfl rfl (fun x2 q2 a2 b2 => ?_) -- 48
    refine hM_ic (n := 4) rfl (by decide) rfl (fun x3 q3 => ?_) -- 51
    refine hM_ceq (off := 8) (t := 60) rfl q2 q3 (by decide) rfl (fun c52 => ?_) (fun c52 => ?_) -- 52
    · refine hI_il (k := 1) rfl e1_1 rfl ?_ -- 60
      refine hM_zeq (off := (-38)) (t := 23) rfl sq0 (by decide) rfl (fun c61 => ?_) (fun c61 => ?_) -- 61
      · exfalso; omega
      · refine hI_al (k := 0) rfl e1_0 rfl ?_ -- 64
        refine hM_iv M (by decide) rfl rfl (by decide) (as := []) (r := []) rfl rfl (by decide +kernel) rfl (by decide +kernel) rfl rfl rfl rfl rfl ?_ -- 65
        exact g1 lv1 e1_0 e1_1 c44 a2 b2 c52
    · refine hI_al (k := 0) rfl e1_0 rfl ?_ -- 55
      refine hM_iv M (by decide) rfl rfl (by decide) (as := []) (r := []) rfl rfl (by decide +kernel) rfl (by decide +kernel) rfl rfl rfl rfl rfl ?_ -- 56
      exact g2 lv1 e1_0 e1_1 c44 a2 b2 c52
theorem s_mr59 {z : Int} (M : MX 49 W ρ m A h0 h F V G) (e0 : m_lk lv 0 = some (.ref m)) {sx0 : Int32} (sq0 : sx0.toInt = z) 
    (g0 : ∀ lv1 : List (Nat × Value), m_lk lv1 0 = some (.ref m) → m_lk lv1 1 = some (.int sx0) → z = 0 → HJ 189 23 lv1 [] h Q)
    (g1 : ∀ lv1 : List (Nat × Value), m_lk lv1 0 = some (.ref m) → m_lk lv1 1 = some (.int sx0) → z ≠ 0 → HJ 190 0 (lv_args 0 [.ref m]) [] h (fun v h' => HJ 189 68 lv1 (v.toList ++ []) h' Q))
    : HJ 189 59 lv [.int sx0] h Q := by
  refine hM_si (k := 1) rfl (by decide +kernel) rfl (fun lv1 e1_1 u1 => ?_) -- 59
  have e1_0 := u1 0 _ (by decide) (Or.inl rfl) e0
  refine hI_il (k := 1) rfl e1_1 rfl ?_ -- 60
  refine hM_zeq (off := (-38)) (t := 23) rfl sq0 (by decide) rfl (fun c61 => ?_) (fun c61 => ?_) -- 61
  · exact g0 lv1 e1_0 e1_1 c61
  · refine hI_al (k := 0) rfl e1_0 rfl ?_ -- 64
    refine hM_iv M (by decide) rfl rfl (by decide) (as := []) (r := []) rfl rfl (by decide +kernel) rfl (by decide +kernel) rfl rfl rfl rfl rfl ?_ -- 65
    exact g1 lv1 e1_0 e1_1 c61
theorem s_mr68 {f : Int} (M : MX 49 W ρ m A h0 h F V G) (e0 : m_lk lv 0 = some (.ref m)) {lx1 : Int32} (e1 : m_lk lv 1 = some (.int lx1)) (lq1 : lx1.toInt = f) 
    (g0 : HJ 189 23 lv [] h Q)
    : HJ 189 68 lv [] h Q := by
  refine hI_go (pc' := 23) (off := (-45)) rfl (by decide) ?_ -- 68
  exact g0 
theorem s_mr71 {f : Int} (M : MX 49 W ρ m A h0 h F V G) (e0 : m_lk lv 0 = some (.ref m)) {lx1 : Int32} (e1 : m_lk lv 1 = some (.int lx1)) (lq1 : lx1.toInt = f) 
    (g0 : f = 0 → HJ 189 100 lv [] h Q)
    (g1 : f ≠ 0 → (-2147483648) ≤ F 14 → F 14 ≤ 2147483647 → F 14 ≠ 0 → HJ 189 100 lv [] h Q)
    (g2 : f ≠ 0 → (-2147483648) ≤ F 14 → F 14 ≤ 2147483647 → F 14 = 0 → V 16 (0 : Int).toNat ≠ 0 → HJ 189 100 lv [] h Q)
    (g3 : ∀ x4 : Int32, x4.toInt = 4 → ∀ x5 : Int32, x5.toInt = F 9 → f ≠ 0 → (-2147483648) ≤ F 14 → F 14 ≤ 2147483647 → F 14 = 0 → V 16 (0 : Int).toNat = 0 → 0 ≤ F 9 → F 9 ≤ 600 → HJ 194 0 (lv_args 0 [.ref m, .int x4, .int x5]) [] h (fun v h' => HJ 189 100 lv (v.toList ++ []) h' Q))
    : HJ 189 71 lv [] h Q := by
  refine hI_il (k := 1) rfl e1 rfl ?_ -- 71
  refine hM_zeq (off := 28) (t := 100) rfl lq1 (by decide) rfl (fun c72 => ?_) (fun c72 => ?_) -- 72
  · exact g0 c72
  · refine hI_al (k := 0) rfl e0 rfl ?_ -- 75
    refine hM_gi M (by decide) rfl rfl rfl (k := 14) (c := 9) (lo := (-2147483648)) (hi := 2147483647) rfl rfl rfl rfl rfl (fun x1 q1 a1 b1 => ?_) -- 76
    refine hM_zne (off := 21) (t := 100) rfl q1 (by decide) rfl (fun c79 => ?_) (fun c79 => ?_) -- 79
    · exact g1 c72 a1 b1 c79
    · refine hI_al (k := 0) rfl e0 rfl ?_ -- 82
      refine hM_ga M (by decide) rfl rfl (k := 16) (c := 9) rfl rfl rfl (by decide +kernel) rfl ?_ -- 83
      refine hM_ic (n := 0) rfl (by decide) rfl (fun x2 q2 => ?_) -- 86
      refine hM_ia M (by decide) (K := 16) (R2 := 56) (L := 161) (H := 161) (lo := (-2147483648)) (hi := 2147483647) rfl (by decide) rfl rfl (fun _ => rfl) rfl q2 (by omega) (by omega) rfl (fun x3 q3 a3 b3 => ?_) -- 87
      refine hM_zne (off := 12) (t := 100) rfl q3 (by decide) rfl (fun c88 => ?_) (fun c88 => ?_) -- 88
      · exact g2 c72 a1 b1 c79 c88
      · refine hI_al (k := 0) rfl e0 rfl ?_ -- 91
        refine hM_ic (n := 4) rfl (by decide) rfl (fun x4 q4 => ?_) -- 92
        refine hI_al (k := 0) rfl e0 rfl ?_ -- 93
        refine hM_gi M (by decide) rfl rfl rfl (k := 9) (c := 9) (lo := 0) (hi := 600) rfl rfl rfl rfl rfl (fun x5 q5 a5 b5 => ?_) -- 94
        refine hM_iv M (by decide) rfl rfl (by decide) (as := [.int x4, .int x5]) (r := []) rfl rfl (by decide +kernel) rfl (by decide +kernel) rfl rfl rfl rfl rfl ?_ -- 97
        exact g3 x4 q4 x5 q5 c72 a1 b1 c79 c88 a5 b5
theorem s_mr100 {f : Int} (M : MX 49 W ρ m A h0 h F V G) (e0 : m_lk lv 0 = some (.ref m)) {lx1 : Int32} (e1 : m_lk lv 1 = some (.int lx1)) (lq1 : lx1.toInt = f) (hw : d_sub [(52, 1001), (53, 1001)] W = true)
    (g0 : ∀ h3 : MH, ∀ V3 : Nat → Nat → Int, V3 = m_u V 3 (m_u (V 3) (0 : Int).toNat (1)) → ∀ h6 : MH, ∀ V6 : Nat → Nat → Int, V6 = m_u V3 4 (m_u (V3 4) (0 : Int).toNat (F 13)) → ∀ x9 : Int32, x9.toInt = 0 → MX 49 W ρ m A h0 h6 F V6 G → f = 0 → (-2147483648) ≤ F 13 → F 13 ≤ 2147483647 → Q (some (.int x9)) h6)
    (g1 : ∀ h11 : MH, ∀ V11 : Nat → Nat → Int, V11 = m_u V 3 (m_u (V 3) (0 : Int).toNat (F 14)) → ∀ h15 : MH, ∀ V15 : Nat → Nat → Int, V15 = m_u V11 4 (m_u (V11 4) (0 : Int).toNat ((-1))) → ∀ x18 : Int32, x18.toInt = 0 → MX 49 W ρ m A h0 h15 F V15 G → f ≠ 0 → (-2147483648) ≤ F 14 → F 14 ≤ 2147483647 → F 14 ≤ 0 → F 14 ≠ 0 → Q (some (.int x18)) h15)
    (g2 : ∀ h11 : MH, ∀ V11 : Nat → Nat → Int, V11 = m_u V 3 (m_u (V 3) (0 : Int).toNat (F 14)) → ∀ h15 : MH, ∀ V15 : Nat → Nat → Int, V15 = m_u V11 4 (m_u (V11 4) (0 : Int).toNat ((-1))) → ∀ x19 : Int32, x19.toInt = 1 → MX 49 W ρ m A h0 h15 F V15 G → f ≠ 0 → (-2147483648) ≤ F 14 → F 14 ≤ 2147483647 → F 14 ≤ 0 → F 14 = 0 → Q (some (.int x19)) h15)
    (g3 : ∀ h11 : MH, ∀ V11 : Nat → Nat → Int, V11 = m_u V 3 (m_u (V 3) (0 : Int).toNat (F 14)) → ∀ h21 : MH, ∀ V21 : Nat → Nat → Int, V21 = m_u V11 4 (m_u (V11 4) (0 : Int).toNat (F 15)) → ∀ x24 : Int32, x24.toInt = 0 → MX 49 W ρ m A h0 h21 F V21 G → f ≠ 0 → (-2147483648) ≤ F 14 → F 14 ≤ 2147483647 → F 14 > 0 → (-2147483648) ≤ F 15 → F 15 ≤ 2147483647 → F 14 ≠ 0 → Q (some (.int x24)) h21)
    (g4 : ∀ h11 : MH, ∀ V11 : Nat → Nat → Int, V11 = m_u V 3 (m_u (V 3) (0 : Int).toNat (F 14)) → ∀ h21 : MH, ∀ V21 : Nat → Nat → Int, V21 = m_u V11 4 (m_u (V11 4) (0 : Int).toNat (F 15)) → ∀ x25 : Int32, x25.toInt = 1 → MX 49 W ρ m A h0 h21 F V21 G → f ≠ 0 → (-2147483648) ≤ F 14 → F 14 ≤ 2147483647 → F 14 > 0 → (-2147483648) ≤ F 15 → F 15 ≤ 2147483647 → F 14 = 0 → Q (some (.int x25)) h21)
    : HJ 189 100 lv [] h Q := by
  refine hI_al (k := 0) rfl e0 rfl ?_ -- 100
  refine hM_ga M (by decide) rfl rfl (k := 3) (c := 9) rfl rfl rfl (by decide +kernel) rfl ?_ -- 101
  refine hM_ic (n := 0) rfl (by decide) rfl (fun x1 q1 => ?_) -- 104
  refine hI_il (k := 1) rfl e1 rfl ?_ -- 105
  refine hM_zeq (off := 10) (t := 116) rfl lq1 (by decide) rfl (fun c106 => ?_) (fun c106 => ?_) -- 106
  · refine hM_ic (n := 1) rfl (by decide) rfl (fun x2 q2 => ?_) -- 116
    refine hM_is M (by decide) ok_49 (K := 3) (R2 := 52) (L := 4) (H := 4) (lo := (-2147483648)) (hi := 2147483647) rfl (by decide) rfl rfl rfl (fun _ => rfl) (d_subm hw (by decide +kernel)) rfl q1 q2 (by omega) (by omega) (by omega) (by omega) rfl (fun h3 V3 f3 M3 => ?_) -- 117
    refine hI_al (k := 0) rfl e0 rfl ?_ -- 118
    refine hM_ga M3 (by decide) rfl rfl (k := 4) (c := 9) rfl rfl rfl (by decide +kernel) rfl ?_ -- 119
    refine hM_ic (n := 0) rfl (by decide) rfl (fun x4 q4 => ?_) -- 122
    refine hI_il (k := 1) rfl e1 rfl ?_ -- 123
    refine hM_zne (off := 10) (t := 134) rfl lq1 (by decide) rfl (fun c124 => ?_) (fun c124 => ?_) -- 124
    · exfalso; omega
    · refine hI_al (k := 0) rfl e0 rfl ?_ -- 127
      refine hM_gi M3 (by decide) rfl rfl rfl (k := 13) (c := 9) (lo := (-2147483648)) (hi := 2147483647) rfl rfl rfl rfl rfl (fun x5 q5 a5 b5 => ?_) -- 128
      refine hI_go (pc' := 149) (off := 18) rfl (by decide) ?_ -- 131
      refine hM_is M3 (by decide) ok_49 (K := 4) (R2 := 53) (L := 4) (H := 4) (lo := (-2147483648)) (hi := 2147483647) rfl (by decide) rfl rfl rfl (fun _ => rfl) (d_subm hw (by decide +kernel)) rfl q4 q5 (by omega) (by omega) (by omega) (by omega) rfl (fun h6 V6 f6 M6 => ?_) -- 149
      refine hI_al (k := 0) rfl e0 rfl ?_ -- 150
      refine hM_ga M6 (by decide) rfl rfl (k := 3) (c := 9) rfl rfl rfl (by decide +kernel) rfl ?_ -- 151
      refine hM_ic (n := 0) rfl (by decide) rfl (fun x7 q7 => ?_) -- 154
      refine hM_ia M6 (by decide) (K := 3) (R2 := 52) (L := 4) (H := 4) (lo := (-2147483648)) (hi := 2147483647) rfl (by decide) rfl rfl (fun _ => rfl) rfl q7 (by omega) (by omega) rfl (fun x8 q8 a8 b8 => ?_) -- 155
      have w8 : V6 3 (0 : Int).toNat = 1 := by rw [f6, m_uN _ _ _ _ (by decide), f3, m_uE, m_uE]
      rw [w8] at q8 a8 b8 -- 155
      refine hM_zne (off := 7) (t := 163) rfl q8 (by decide) rfl (fun c156 => ?_) (fun c156 => ?_) -- 156
      · refine hM_ic (n := 0) rfl (by decide) rfl (fun x9 q9 => ?_) -- 163
        refine hM_rb rfl rfl q9 (by omega) (by omega) ?_ -- 164
        exact g0 h3 V3 f3 h6 V6 f6 x9 q9 M6 c106 a5 b5
      · exfalso; omega
  · refine hI_al (k := 0) rfl e0 rfl ?_ -- 109
    refine hM_gi M (by decide) rfl rfl rfl (k := 14) (c := 9) (lo := (-2147483648)) (hi := 2147483647) rfl rfl rfl rfl rfl (fun x10 q10 a10 b10 => ?_) -- 110
    refine hI_go (pc' := 117) (off := 4) rfl (by decide) ?_ -- 113
    refine hM_is M (by decide) ok_49 (K := 3) (R2 := 52) (L := 4) (H := 4) (lo := (-2147483648)) (hi := 2147483647) rfl (by decide) rfl rfl rfl (fun _ => rfl) (d_subm hw (by decide +kernel)) rfl q1 q10 (by omega) (by omega) (by omega) (by omega) rfl (fun h11 V11 f11 M11 => ?_) -- 117
    refine hI_al (k := 0) rfl e0 rfl ?_ -- 118
    refine hM_ga M11 (by decide) rfl rfl (k := 4) (c := 9) rfl rfl rfl (by decide +kernel) rfl ?_ -- 119
    refine hM_ic (n := 0) rfl (by decide) rfl (fun x12 q12 => ?_) -- 122
    refine hI_il (k := 1) rfl e1 rfl ?_ -- 123
    refine hM_zne (off := 10) (t := 134) rfl lq1 (by decide) rfl (fun c124 => ?_) (fun c124 => ?_) -- 124
    · refine hI_al (k := 0) rfl e0 rfl ?_ -- 134
      refine hM_gi M11 (by decide) rfl rfl rfl (k := 14) (c := 9) (lo := (-2147483648)) (hi := 2147483647) rfl rfl rfl rfl rfl (fun x13 q13 a13 b13 => ?_) -- 135
      refine hM_zle (off := 10) (t := 148) rfl q13 (by decide) rfl (fun c138 => ?_) (fun c138 => ?_) -- 138
      · refine hM_ic (n := (-1)) rfl (by decide) rfl (fun x14 q14 => ?_) -- 148
        refine hM_is M11 (by decide) ok_49 (K := 4) (R2 := 53) (L := 4) (H := 4) (lo := (-2147483648)) (hi := 2147483647) rfl (by decide) rfl rfl rfl (fun _ => rfl) (d_subm hw (by decide +kernel)) rfl q12 q14 (by omega) (by omega) (by omega) (by omega) rfl (fun h15 V15 f15 M15 => ?_) -- 149
        refine hI_al (k := 0) rfl e0 rfl ?_ -- 150
        refine hM_ga M15 (by decide) rfl rfl (k := 3) (c := 9) rfl rfl rfl (by decide +kernel) rfl ?_ -- 151
        refine hM_ic (n := 0) rfl (by decide) rfl (fun x16 q16 => ?_) -- 154
        refine hM_ia M15 (by decide) (K := 3) (R2 := 52) (L := 4) (H := 4) (lo := (-2147483648)) (hi := 2147483647) rfl (by decide) rfl rfl (fun _ => rfl) rfl q16 (by omega) (by omega) rfl (fun x17 q17 a17 b17 => ?_) -- 155
        have w17 : V15 3 (0 : Int).toNat = F 14 := by rw [f15, m_uN _ _ _ _ (by decide), f11, m_uE, m_uE]
        rw [w17] at q17 a17 b17 -- 155
        refine hM_zne (off := 7) (t := 163) rfl q17 (by decide) rfl (fun c156 => ?_) (fun c156 => ?_) -- 156
        · refine hM_ic (n := 0) rfl (by decide) rfl (fun x18 q18 => ?_) -- 163
          refine hM_rb rfl rfl q18 (by omega) (by omega) ?_ -- 164
          exact g1 h11 V11 f11 h15 V15 f15 x18 q18 M15 c106 a10 b10 c138 c156
        · refine hM_ic (n := 1) rfl (by decide) rfl (fun x19 q19 => ?_) -- 159
          refine hI_go (pc' := 164) (off := 4) rfl (by decide) ?_ -- 160
          refine hM_rb rfl rfl q19 (by omega) (by omega) ?_ -- 164
          exact g2 h11 V11 f11 h15 V15 f15 x19 q19 M15 c106 a10 b10 c138 c156
      · refine hI_al (k := 0) rfl e0 rfl ?_ -- 141
        refine hM_gi M11 (by decide) rfl rfl rfl (k := 15) (c := 9) (lo := (-2147483648)) (hi := 2147483647) rfl rfl rfl rfl rfl (fun x20 q20 a20 b20 => ?_) -- 142
        refine hI_go (pc' := 149) (off := 4) rfl (by decide) ?_ -- 145
        refine hM_is M11 (by decide) ok_49 (K := 4) (R2 := 53) (L := 4) (H := 4) (lo := (-2147483648)) (hi := 2147483647) rfl (by decide) rfl rfl rfl (fun _ => rfl) (d_subm hw (by decide +kernel)) rfl q12 q20 (by omega) (by omega) (by omega) (by omega) rfl (fun h21 V21 f21 M21 => ?_) -- 149
        refine hI_al (k := 0) rfl e0 rfl ?_ -- 150
        refine hM_ga M21 (by decide) rfl rfl (k := 3) (c := 9) rfl rfl rfl (by decide +kernel) rfl ?_ -- 151
        refine hM_ic (n := 0) rfl (by decide) rfl (fun x22 q22 => ?_) -- 154
        refine hM_ia M21 (by decide) (K := 3) (R2 := 52) (L := 4) (H := 4) (lo := (-2147483648)) (hi := 2147483647) rfl (by decide) rfl rfl (fun _ => rfl) rfl q22 (by omega) (by omega) rfl (fun x23 q23 a23 b23 => ?_) -- 155
        have w23 : V21 3 (0 : Int).toNat = F 14 := by rw [f21, m_uN _ _ _ _ (by decide), f11, m_uE, m_uE]
        rw [w23] at q23 a23 b23 -- 155
        refine hM_zne (off := 7) (t := 163) rfl q23 (by decide) rfl (fun c156 => ?_) (fun c156 => ?_) -- 156
        · refine hM_ic (n := 0) rfl (by decide) rfl (fun x24 q24 => ?_) -- 163
          refine hM_rb rfl rfl q24 (by omega) (by omega) ?_ -- 164
          exact g3 h11 V11 f11 h21 V21 f21 x24 q24 M21 c106 a10 b10 c138 a20 b20 c156
        · refine hM_ic (n := 1) rfl (by decide) rfl (fun x25 q25 => ?_) -- 159
          refine hI_go (pc' := 164) (off := 4) rfl (by decide) ?_ -- 160
          refine hM_rb rfl rfl q25 (by omega) (by omega) ?_ -- 164
          exact g4 h11 V11 f11 h21 V21 f21 x25 q25 M21 c106 a10 b10 c138 a20 b20 c156
    · exfalso; omega
def w_mlt : List (Nat × Nat) := [(49, 14), (49, 15)]
def w_ml : List (Nat × Nat) := [(49, 7), (49, 9), (49, 10), (49, 11), (49, 12), (49, 13), (49, 14), (49, 15), (56, 1001)]
-- a fault noted
theorem c_later {w p : Int} {xw xp : Int32} (M : MX 49 W ρ m A h0 h F V G) (hw : d_sub w_mlt W = true) (qw : xw.toInt = w) (qp : xp.toInt = p) (hp : F 14 ≠ 0 → F 15 < p) (g : ∀ (h' : MH) (F' : Nat → Int), MX 49 W ρ m A h0 h' F' V G → h_l h' m 12 = h_l h m 12 → F' 14 = (if F 14 = 0 then w else F 14) → F' 15 = (if F 14 = 0 then p else F 15) → (∀ K, K ≠ 14 → K ≠ 15 → F' K = F K) → Q none h') : HJ 194 0 (lv_args 0 [.ref m, .int xw, .int xp]) [] h Q := by
  refine s_lat (MX.again M w_mlt) rfl rfl qw rfl qp (by decide +kernel) (fun h2 F2 f2 h3 F3 f3 M3 a1 b1 c4 => ?_) (fun h5 F5 f5 h6 F6 f6 M6 a1 b1 c4 a4 b4 c12 => ?_) (fun a1 b1 c4 a4 b4 c12 c20 => ?_) (fun a1 b1 c4 a4 b4 c12 c20 c28 => ?_) (fun h9 F9 f9 h10 F10 f10 M10 a1 b1 c4 a4 b4 c12 c20 c28 => ?_)
  · exact g h3 F3 (M.re M3 hw) (M3.lf (by decide) (by decide +kernel)) (by rw [f3, m_uN _ _ _ _ (by decide), f2, m_uE, if_pos c4]) (by rw [f3, m_uE, if_pos c4]) (fun K k1 k2 => by rw [f3, m_uN _ _ _ _ k2, f2, m_uN _ _ _ _ k1])
  · have := hp c4
    omega
  · exact g h F M rfl (by rw [if_neg c4]) (by rw [if_neg c4]) (fun _ _ _ => rfl)
  · exact g h F M rfl (by rw [if_neg c4]) (by rw [if_neg c4]) (fun _ _ _ => rfl)
  · have := hp c4
    omega
-- the reading's state, as the reference has it: one token ahead
def MMr (W : List (Nat × Nat)) (ρ : Nat → Nat) (m : Nat) (A : Nat → Nat) (h0 : MH) (V0 : Nat → Nat → Int) (G : Nat → Nat → Int64) (n c : Nat) (S : RLS) (h : MH) : Prop := ∃ (F : Nat → Int) (V : Nat → Nat → Int), MX 49 W ρ m A h0 h F V G ∧ (∀ K, K ≠ 16 → V K = V0 K) ∧ tk_ok (V0 1) n (rd_tk (V0 1) n (ls_p S)) F (h_l h m 12) ∧ fl_ok F S ∧ td_ok (V 16) c (ls_g S) (ls_t S) ∧ ls_p S ≤ n
def MBr (W : List (Nat × Nat)) (ρ : Nat → Nat) (m : Nat) (A : Nat → Nat) (h0 : MH) (V0 : Nat → Nat → Int) (G : Nat → Nat → Int64) (s : Int) (h : MH) : Prop := ∃ (F : Nat → Int) (V : Nat → Nat → Int), MX 49 W ρ m A h0 h F V G ∧ (∀ K, K ≠ 16 → V K = V0 K) ∧ F 13 = s ∧ 0 ≤ V 16 0 ∧ V 16 0 ≤ 40
-- the next token, read
theorem c_nexm {V0 : Nat → Nat → Int} {n c p : Nat} {S : RLS} (hw : d_sub w_ml W = true) (M : MX 49 W ρ m A h0 h F V G) (vo : ∀ K, K ≠ 16 → V K = V0 K) (q8 : F 8 = (n : Int)) (q7 : F 7 = (p : Int)) (pS : ls_p S = p) (pn : p ≤ n) (fl : fl_ok F S) (td : td_ok (V 16) c (ls_g S) (ls_t S)) (g : ∀ h' : MH, MMr W ρ m A h0 V0 G n c S h' → Q none h') : HJ 190 0 (lv_args 0 [.ref m]) [] h Q := by
  have v1 := vo 1 (by decide)
  refine c_mtk M (d_subm hw (by decide +kernel)) q8 q7 pn (fun h' F' M' a9 a7 a10 a11 a12 o => g h' ⟨F', V, M', vo, ?_, ⟨?_, fun z => ?_⟩, td, by rw [pS]; exact pn⟩)
  · rw [v1] at a9 a7 a10 a11 a12
    rw [pS]
    exact ⟨by rw [o 8 (by decide) (by decide) (by decide) (by decide)]; exact q8, a7, a9, a10, a11, a12⟩
  · rw [o 14 (by decide) (by decide) (by decide) (by decide)]
    exact fl.1
  · rw [o 15 (by decide) (by decide) (by decide) (by decide)]
    exact fl.2 z
-- a number taken
theorem c_take {V0 : Nat → Nat → Int} {n c i : Nat} {hi : Int} {l : List Int} {S : RLS} {R : Bool × RLS} {xa xh : Int32} (hw : d_sub w_ml W = true) (B : MMr W ρ m A h0 V0 G n c S h) (cg : ls_g S = c + 1) (qa : xa.toInt = (i : Int) + 1) (i3 : i < 3) (qh : xh.toInt = hi) (eR : rd_nums (V0 1) n (hi :: l) i S = R)
    (g1 : ∀ (x : Int32) (h' : MH) (S' : RLS), x.toInt = 1 → MMr W ρ m A h0 V0 G n c S' h' → ls_g S' = c + 1 → rd_nums (V0 1) n l (i + 1) S' = R → Q (some (.int x)) h')
    (g0 : ∀ (x : Int32) (h' : MH), x.toInt = 0 → R.1 = false → MBr W ρ m A h0 V0 G (ls_l R.2) h' → Q (some (.int x)) h') : HJ 195 0 (lv_args 0 [.ref m, .int xa, .int xh]) [] h Q := by
  obtain ⟨F, V, M, vo, ⟨k8, k7, k9, k10, k11, k12⟩, ⟨f14, f15⟩, td, pn⟩ := B
  have tb := rd_tkB (T := V0 1) (n := n) (p := ls_p S) pn
  rw [rd_nums] at eR
  generalize hq : rd_tk (V0 1) n (ls_p S) = q at k8 k7 k9 k10 k11 k12 eR tb
  obtain ⟨⟨t1, t2, t3⟩, t4, t5, t6, t7, t8⟩ := tb
  obtain ⟨n1, n2, n3, n4, n5⟩ := rd_numE (l := hi) (i := i) (q := q) (S := S)
  obtain ⟨u0, u1, u2, u3, u4⟩ := td_0 td
  have rest : rt_t q = 2 → ∀ (h1 : MH) (F1 : Nat → Int), MX 49 W ρ m A h0 h1 F1 V G → (∀ K, K ≠ 14 → K ≠ 15 → F1 K = F K) → fl_ok F1 (rd_num hi i q S) → HJ 195 30 (lv_args 0 [.ref m, .int xa, .int xh]) [] h1 Q := fun c2 h1 F1 M1 o1 fl1 => by
    have go : ∀ (h2 : MH) (V2 : Nat → Nat → Int), MX 49 W ρ m A h0 h2 F1 V2 G → (∀ K, K ≠ 16 → V2 K = V0 K) → td_ok (V2 16) c (ls_g (rd_num hi i q S)) (ls_t (rd_num hi i q S)) → HJ 190 0 (lv_args 0 [.ref m]) [] h2 (fun v h' => HJ 195 66 (lv_args 0 [.ref m, .int xa, .int xh]) (v.toList ++ []) h' Q) := fun h2 V2 M2 vo2 td2 =>
      c_nexm (p := rt_b q) hw M2 vo2 (by rw [o1 8 (by decide) (by decide)]; exact k8) (by rw [o1 7 (by decide) (by decide)]; exact k7) n1 t3 fl1 td2 (fun h' B' => s_ta66 (fun x1 q1 => g1 x1 h' _ q1 B' (n2.trans cg) (by rw [if_pos c2] at eR; exact eR)))
    refine s_ta30 M1 rfl rfl qa rfl qh (by omega) (by omega) u0 u1 (d_subm hw (by decide +kernel)) (fun c38 => ?_) (fun h12 V12 f12 M12 c38 _ _ => ?_)
    · have c38 : V 16 0 ≥ 40 := c38
      refine go h1 V M1 vo ?_
      rw [n2, n3, if_neg (by omega)]
      exact td
    · have c38 : V 16 0 < 40 := c38
      have f12 : V12 = m_u V 16 (m_u (V 16) ((1 + (4 * (V 16 0))) + ((i : Int) + 1)).toNat (F1 11)) := f12
      have ej : ((1 + (4 * (V 16 0))) + ((i : Int) + 1)).toNat = 4 * (ls_g S - 1) + 2 + i := by
        have := u3 (u2.mp c38)
        omega
      rw [ej, o1 11 (by decide) (by decide), k11 c2] at f12
      refine go h12 V12 M12 (fun K hK => by rw [f12, m_uN _ _ _ _ hK]; exact vo K hK) ?_
      rw [n2, n3, if_pos (by omega), f12, m_uE]
      exact td_set td (by omega)
  have sm := (rt_mE (t := rt_t q)).2.2.1
  refine s_ta0 M rfl rfl qa rfl qh (fun _ _ c5 _ _ c18 => ?_) (fun x4 q4 x5 q5 _ _ c5 _ _ c18 _ _ => ?_) (fun _ _ c5 => ?_)
  · have c2 : rt_t q = 2 := sm.mp (k10.symm.trans c5)
    have v := k11 c2
    refine rest c2 h F M (fun _ _ _ => rfl) ⟨by rw [n4, if_neg (fun z => by omega)]; exact f14, fun z => ?_⟩
    rw [n4, if_neg (fun z => by omega)] at z
    obtain ⟨y1, y2⟩ := f15 z
    rw [n5, n1, if_neg (fun z => by omega)]
    exact ⟨y1, by omega⟩
  · have c2 : rt_t q = 2 := sm.mp (k10.symm.trans c5)
    have v := k11 c2
    refine c_later M (d_subm hw (by decide +kernel)) q4 (q5.trans k9) (fun z => ?_) (fun h1 F1 M1 _ a14 a15 o1 => rest c2 h1 F1 M1 o1 ⟨?_, fun z => ?_⟩)
    · rw [f14] at z
      obtain ⟨y1, y2⟩ := f15 z
      omega
    · rw [a14, n4, f14]
      by_cases e : ls_f S = 0
      · rw [if_pos e, if_pos ⟨by omega, e⟩]
      · rw [if_neg e, if_neg (fun z => e z.2)]
    · rw [a15, n5, n1, f14]
      have := t4 (by omega)
      by_cases e : ls_f S = 0
      · rw [if_pos e, if_pos ⟨by omega, e⟩]
        exact ⟨rfl, by omega⟩
      · rw [if_neg e, if_neg (fun z => e z.2)]
        obtain ⟨y1, y2⟩ := f15 e
        exact ⟨y1, by omega⟩
  · have c2 : rt_t q ≠ 2 := fun z => c5 (k10.trans (sm.mpr z))
    rw [if_neg c2] at eR
    refine s_sto M rfl (d_subm hw (by decide +kernel)) (fun h2 F2 f2 x3 q3 M2 _ _ => s_ta12 q3 (by decide) (by decide) (g0 x3 h2 q3 (by rw [← eR]) ⟨F2, V, M2, vo, ?_, u0, u1⟩))
    rw [f2, m_uE, ← eR]
    exact k9
end
