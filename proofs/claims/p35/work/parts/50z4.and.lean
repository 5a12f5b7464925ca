section
-- THE REFERENCE'S LINES
theorem rt_mE {t : Int} : (rt_m t = 0 ↔ t = 0) ∧ (rt_m t = 2 ↔ t = 1) ∧ (rt_m t = 3 ↔ t = 2) ∧ (rt_m t = 4 ↔ t = 3) := by
  unfold rt_m
  refine ⟨?_, ?_, ?_, ?_⟩ <;> (split <;> (try split) <;> (try split) <;> (try split) <;> omega)
theorem rd_kdk {T : Nat → Int} {s b k : Nat} (h : ∀ j, j < 6 → (rd_ib T s b (rd_nm j) = true ↔ j = k)) : ∀ n, n ≤ 6 → rd_kd T s b n = if k < n then (k : Int) else -1
  | 0, _ => rfl
  | n + 1, hn => by
    rw [rd_kd, rd_kdk h n (by omega)]
    by_cases e : n = k
    · rw [if_pos ((h n (by omega)).mpr e), if_pos (by omega), e]
    · rw [if_neg (fun z => e ((h n (by omega)).mp z))]
      by_cases c : k < n
      · rw [if_pos c, if_pos (by omega)]
      · rw [if_neg c, if_neg (by omega)]
theorem rd_Wi : ∀ j k : Fin 6, Int64.ofNat (rd_W k.val) = Int64.ofNat (rd_W j.val) ↔ j = k := by decide +kernel
theorem wd_kd {w : Int64} {T : Nat → Int} {s b k : Nat} (ok : wd_ok w T s b) (hk : k < 6) (e : w = Int64.ofNat (rd_W k)) : rd_kd T s b 6 = k := by
  rw [rd_kdk (k := k) (fun j hj => ?_) 6 (Nat.le_refl _), if_pos hk]
  have h1 := ok j hj
  rw [e] at h1
  have h2 := rd_Wi ⟨j, hj⟩ ⟨k, hk⟩
  exact h1.symm.trans (h2.trans ⟨fun z => congrArg Fin.val z, fun z => Fin.ext z⟩)
theorem wd_kn {w : Int64} {T : Nat → Int} {s b : Nat} (ok : wd_ok w T s b) (ne : ∀ k, k < 6 → w ≠ Int64.ofNat (rd_W k)) : rd_kd T s b 6 = -1 := by
  rw [rd_kdk (k := 6) (fun j hj => ⟨fun z => absurd ((ok j hj).mpr z) (ne j hj), fun z => by omega⟩) 6 (Nat.le_refl _), if_neg (Nat.lt_irrefl _)]
def tk_ok (T : Nat → Int) (n : Nat) (q : Nat × (Nat × (Int × Int))) (F : Nat → Int) (w : Int64) : Prop := F 8 = (n : Int) ∧ F 7 = (rt_b q : Int) ∧ F 9 = (rt_s q : Int) ∧ F 10 = rt_m (rt_t q) ∧ (rt_t q = 2 → F 11 = rt_v q) ∧ (rt_t q = 1 → wd_ok w T (rt_s q) (rt_b q))
def fl_ok (F : Nat → Int) (S : RLS) : Prop := F 14 = ls_f S ∧ (ls_f S ≠ 0 → F 15 = ls_l S ∧ ls_l S < (ls_p S : Int))
def td_ok (U : Nat → Int) (c g : Nat) (t : Nat → Int) : Prop := U 0 = (((if c ≤ 40 then c else 40) : Nat) : Int) ∧ ∀ k, k < 40 → k < g → ∀ i, i < 4 → U (4 * k + 1 + i) = t (4 * k + 1 + i)
theorem td_0 {U : Nat → Int} {c g : Nat} {t : Nat → Int} (h : td_ok U c g t) : 0 ≤ U 0 ∧ U 0 ≤ 40 ∧ (U 0 < 40 ↔ c < 40) ∧ (c < 40 → U 0 = (c : Int)) ∧ (40 ≤ c → U 0 = 40) := by
  have := h.1
  split at this <;> omega
theorem td_set {U : Nat → Int} {c g j : Nat} {t : Nat → Int} {v : Int} (h : td_ok U c g t) (j1 : 1 ≤ j) : td_ok (m_u U j v) c g (m_u t j v) := by
  refine ⟨by rw [m_uN _ _ _ _ (by omega)]; exact h.1, fun k hk kg i hi => ?_⟩
  by_cases e : 4 * k + 1 + i = j
  · rw [e, m_uE, m_uE]
  · rw [m_uN _ _ _ _ e, m_uN _ _ _ _ e]
    exact h.2 k hk kg i hi
section
variable {lv : List (Nat × Value)} {Q : Option Value → MH → Prop} {W : List (Nat × Nat)} {ρ : Nat → Nat} {m : Nat} {A : Nat → Nat} {h0 h : MH} {F : Nat → Int} {V : Nat → Nat → Int} {G : Nat → Nat → Int64}
theorem s_lat {w p : Int} (M : MX 49 W ρ m A h0 h F V G) (e0 : m_lk lv 0 = some (.ref m)) {lx1 : Int32} (e1 : m_lk lv 1 = some (.int lx1)) (lq1 : lx1.toInt = w) {lx2 : Int32} (e2 : m_lk lv 2 = some (.int lx2)) (lq2 : lx2.toInt = p) (hw : d_sub [(49, 14), (49, 15)] W = true)
    (g0 : ∀ h2 : MH, ∀ F2 : Nat → Int, F2 = m_u F 14 (w) → ∀ h3 : MH, ∀ F3 : Nat → Int, F3 = m_u F2 15 (p) → MX 49 W ρ m A h0 h3 F3 V G → (-2147483648) ≤ F 14 → F 14 ≤ 2147483647 → F 14 = 0 → Q none h3)
    (g1 : ∀ h5 : MH, ∀ F5 : Nat → Int, F5 = m_u F 14 (w) → ∀ h6 : MH, ∀ F6 : Nat → Int, F6 = m_u F5 15 (p) → MX 49 W ρ m A h0 h6 F6 V G → (-2147483648) ≤ F 14 → F 14 ≤ 2147483647 → F 14 ≠ 0 → (-2147483648) ≤ F 15 → F 15 ≤ 2147483647 → p < F 15 → Q none h6)
    (g2 : (-2147483648) ≤ F 14 → F 14 ≤ 2147483647 → F 14 ≠ 0 → (-2147483648) ≤ F 15 → F 15 ≤ 2147483647 → p ≥ F 15 → p ≠ F 15 → Q none h)
    (g3 : (-2147483648) ≤ F 14 → F 14 ≤ 2147483647 → F 14 ≠ 0 → (-2147483648) ≤ F 15 → F 15 ≤ 2147483647 → p ≥ F 15 → p = F 15 → w ≥ F 14 → Q none h)
    (g4 : ∀ h9 : MH, ∀ F9 : Nat → Int, F9 = m_u F 14 (w) → ∀ h10 : MH, ∀ F10 : Nat → Int, F10 = m_u F9 15 (p) → MX 49 W ρ m A h0 h10 F10 V G → (-2147483648) ≤ F 14 → F 14 ≤ 2147483647 → F 14 ≠ 0 → (-2147483648) ≤ F 15 → F 15 ≤ 2147483647 → p ≥ F 15 → p = F 15 → w < F 14 → Q none h10)
    : HJ 194 0 lv [] h Q := by
  have lb1 : -2147483648 ≤ w ∧ w ≤ 2147483647 := by rw [← lq1]; exact g_iT _
  have lb2 : -2147483648 ≤ p ∧ p ≤ 2147483647 := by rw [← lq2]; exact g_iT _
  refine hI_al (k := 0) rfl e0 rfl ?_ -- 0
  refine hM_gi M (by decide) rfl rfl rfl (k := 14) (c := 9) (lo := (-2147483648)) (hi := 2147483647) rfl rfl rfl rfl rfl (fun x1 q1 a1 b1 => ?_) -- 1
  refine hM_zeq (off := 27) (t := 31) rfl q1 (by decide) rfl (fun c4 => ?_) (fun c4 => ?_) -- 4
  · refine hI_al (k := 0) rfl e0 rfl ?_ -- 31
    refine hI_il (k := 1) rfl e1 rfl ?_ -- 32
    refine hM_pi M (by decide) ok_49 rfl rfl (k := 14) (c := 9) (lo := (-2147483648)) (hi := 2147483647) rfl rfl ⟨by decide, by decide +kernel, rfl⟩ rfl (d_subm hw (by decide +kernel)) lq1 (by omega) (by omega) rfl (fun h2 F2 f2 M2 => ?_) -- 33
    refine hI_al (k := 0) rfl e0 rfl ?_ -- 36
    refine hI_il (k := 2) rfl e2 rfl ?_ -- 37
    refine hM_pi M2 (by decide) ok_49 rfl rfl (k := 15) (c := 9) (lo := (-2147483648)) (hi := 2147483647) rfl rfl ⟨by decide, by decide +kernel, rfl⟩ rfl (d_subm hw (by decide +kernel)) lq2 (by omega) (by omega) rfl (fun h3 F3 f3 M3 => ?_) -- 38
    refine hI_rv rfl rfl ?_
    exact g0 h2 F2 f2 h3 F3 f3 M3 a1 b1 c4
  · refine hI_il (k := 2) rfl e2 rfl ?_ -- 7
    refine hI_al (k := 0) rfl e0 rfl ?_ -- 8
    refine hM_gi M (by decide) rfl rfl rfl (k := 15) (c := 9) (lo := (-2147483648)) (hi := 2147483647) rfl rfl rfl rfl rfl (fun x4 q4 a4 b4 => ?_) -- 9
    refine hM_clt (off := 19) (t := 31) rfl lq2 q4 (by decide) rfl (fun c12 => ?_) (fun c12 => ?_) -- 12
    · refine hI_al (k := 0) rfl e0 rfl ?_ -- 31
      refine hI_il (k := 1) rfl e1 rfl ?_ -- 32
      refine hM_pi M (by decide) ok_49 rfl rfl (k := 14) (c := 9) (lo := (-2147483648)) (hi := 2147483647) rfl rfl ⟨by decide, by decide +kernel, rfl⟩ rfl (d_subm hw (by decide +kernel)) lq1 (by omega) (by omega) rfl (fun h5 F5 f5 M5 => ?_) -- 33
      refine hI_al (k := 0) rfl e0 rfl ?_ -- 36
      refine hI_il (k := 2) rfl e2 rfl ?_ -- 37
      refine hM_pi M5 (by decide) ok_49 rfl rfl (k := 15) (c := 9) (lo := (-2147483648)) (hi := 2147483647) rfl rfl ⟨by decide, by decide +kernel, rfl⟩ rfl (d_subm hw (by decide +kernel)) lq2 (by omega) (by omega) rfl (fun h6 F6 f6 M6 => ?_) -- 38
      refine hI_rv rfl rfl ?_
      exact g1 h5 F5 f5 h6 F6 f6 M6 a1 b1 c4 a4 b4 c12
    · refine hI_il (k := 2) rfl e2 rfl ?_ -- 15
      refine hI_al (k := 0) rfl e0 rfl ?_ -- 16
      refine hM_gi M (by decide) rfl rfl rfl (k := 15) (c := 9) (lo := (-2147483648)) (hi := 2147483647) rfl rfl rfl rfl rfl (fun x7 q7 a7 b7 => ?_) -- 17
      refine hM_cne (off := 21) (t := 41) rfl lq2 q7 (by decide) rfl (fun c20 => ?_) (fun c20 => ?_) -- 20
      · refine hI_rv rfl rfl ?_
        exact g2 a1 b1 c4 a4 b4 c12 c20
      · refine hI_il (k := 1) rfl e1 rfl ?_ -- 23
        refine hI_al (k := 0) rfl e0 rfl ?_ -- 24
        refine hM_gi M (by decide) rfl rfl rfl (k := 14) (c := 9) (lo := (-2147483648)) (hi := 2147483647) rfl rfl rfl rfl rfl (fun x8 q8 a8 b8 => ?_) -- 25
        refine hM_cge (off := 13) (t := 41) rfl lq1 q8 (by decide) rfl (fun c28 => ?_) (fun c28 => ?_) -- 28
        · refine hI_rv rfl rfl ?_
          exact g3 a1 b1 c4 a4 b4 c12 c20 c28
        · refine hI_al (k := 0) rfl e0 rfl ?_ -- 31
          refine hI_il (k := 1) rfl e1 rfl ?_ -- 32
          refine hM_pi M (by decide) ok_49 rfl rfl (k := 14) (c := 9) (lo := (-2147483648)) (hi := 2147483647) rfl rfl ⟨by decide, by decide +kernel, rfl⟩ rfl (d_subm hw (by decide +kernel)) lq1 (by omega) (by omega) rfl (fun h9 F9 f9 M9 => ?_) -- 33
          refine hI_al (k := 0) rfl e0 rfl ?_ -- 36
          refine hI_il (k := 2) rfl e2 rfl ?_ -- 37
          refine hM_pi M9 (by decide) ok_49 rfl rfl (k := 15) (c := 9) (lo := (-2147483648)) (hi := 2147483647) rfl rfl ⟨by decide, by decide +kernel, rfl⟩ rfl (d_subm hw (by decide +kernel)) lq2 (by omega) (by omega) rfl (fun h10 F10 f10 M10 => ?_) -- 38
          refine hI_rv rfl rfl ?_
          exact g4 h9 F9 f9 h10 F10 f10 M10 a1 b1 c4 a4 b4 c12 c20 c28
theorem s_sto (M : MX 49 W ρ m A h0 h F V G) (e0 : m_lk lv 0 = some (.ref m)) (hw : d_sub [(49, 13)] W = true)
    (g0 : ∀ h2 : MH, ∀ F2 : Nat → Int, F2 = m_u F 13 (F 9) → ∀ x3 : Int32, x3.toInt = 0 → MX 49 W ρ m A h0 h2 F2 V G → 0 ≤ F 9 → F 9 ≤ 600 → Q (some (.int x3)) h2)
    : HJ 193 0 lv [] h Q := by
  refine hI_al (k := 0) rfl e0 rfl ?_ -- 0
  refine hI_al (k := 0) rfl e0 rfl ?_ -- 1
  refine hM_gi M (by decide) rfl rfl rfl (k := 9) (c := 9) (lo := 0) (hi := 600) rfl rfl rfl rfl rfl (fun x1 q1 a1 b1 => ?_) -- 2
  refine hM_pi M (by decide) ok_49 rfl rfl (k := 13) (c := 9) (lo := (-2147483648)) (hi := 2147483647) rfl rfl ⟨by decide, by decide +kernel, rfl⟩ rfl (d_subm hw (by decide +kernel)) q1 (by omega) (by omega) rfl (fun h2 F2 f2 M2 => ?_) -- 5
  refine hM_ic (n := 0) rfl (by decide) rfl (fun x3 q3 => ?_) -- 8
  refine hM_rb rfl rfl q3 (by omega) (by omega) ?_ -- 9
  exact g0 h2 F2 f2 x3 q3 M2 a1 b1
theorem s_ta0 {i z : Int} (M : MX 49 W ρ m A h0 h F V G) (e0 : m_lk lv 0 = some (.ref m)) {lx1 : Int32} (e1 : m_lk lv 1 = some (.int lx1)) (lq1 : lx1.toInt = i) {lx2 : Int32} (e2 : m_lk lv 2 = some (.int lx2)) (lq2 : lx2.toInt = z) 
    (g0 : (-2147483648) ≤ F 10 → F 10 ≤ 2147483647 → F 10 = 3 → (-2147483648) ≤ F 11 → F 11 ≤ 2147483647 → F 11 ≤ z → HJ 195 30 lv [] h Q)
    (g1 : ∀ x4 : Int32, x4.toInt = 2 → ∀ x5 : Int32, x5.toInt = F 9 → (-2147483648) ≤ F 10 → F 10 ≤ 2147483647 → F 10 = 3 → (-2147483648) ≤ F 11 → F 11 ≤ 2147483647 → F 11 > z → 0 ≤ F 9 → F 9 ≤ 600 → HJ 194 0 (lv_args 0 [.ref m, .int x4, .int x5]) [] h (fun v h' => HJ 195 30 lv (v.toList ++ []) h' Q))
    (g2 : (-2147483648) ≤ F 10 → F 10 ≤ 2147483647 → F 10 ≠ 3 → HJ 193 0 (lv_args 0 [.ref m]) [] h (fun v h' => HJ 195 12 lv (v.toList ++ []) h' Q))
    : HJ 195 0 lv [] h Q := by
  refine hI_al (k := 0) rfl e0 rfl ?_ -- 0
  refine hM_gi M (by decide) rfl rfl rfl (k := 10) (c := 9) (lo := (-2147483648)) (hi := 2147483647) rfl rfl rfl rfl rfl (fun x1 q1 a1 b1 => ?_) -- 1
  refine hM_ic (n := 3) rfl (by decide) rfl (fun x2 q2 => ?_) -- 4
  refine hM_ceq (off := 8) (t := 13) rfl q1 q2 (by decide) rfl (fun c5 => ?_) (fun c5 => ?_) -- 5
  · refine hI_al (k := 0) rfl e0 rfl ?_ -- 13
    refine hM_gi M (by decide) rfl rfl rfl (k := 11) (c := 9) (lo := (-2147483648)) (hi := 2147483647) rfl rfl rfl rfl rfl (fun x3 q3 a3 b3 => ?_) -- 14
    refine hI_il (k := 2) rfl e2 rfl ?_ -- 17
    refine hM_cle (off := 12) (t := 30) rfl q3 lq2 (by decide) rfl (fun c18 => ?_) (fun c18 => ?_) -- 18
    · exact g0 a1 b1 c5 a3 b3 c18
    · refine hI_al (k := 0) rfl e0 rfl ?_ -- 21
      refine hM_ic (n := 2) rfl (by decide) rfl (fun x4 q4 => ?_) -- 22
      refine hI_al (k := 0) rfl e0 rfl ?_ -- 23
      refine hM_gi M (by decide) rfl rfl rfl (k := 9) (c := 9) (lo := 0) (hi := 600) rfl rfl rfl rfl rfl (fun x5 q5 a5 b5 => ?_) -- 24
      refine hM_iv M (by decide) rfl rfl (by decide) (as := [.int x4, .int x5]) (r := []) rfl rfl (by decide +kernel) rfl (by decide +kernel) rfl rfl rfl rfl rfl ?_ -- 27
      exact g1 x4 q4 x5 q5 a1 b1 c5 a3 b3 c18 a5 b5
  · refine hI_al (k := 0) rfl e0 rfl ?_ -- 8
    refine hM_iv M (by decide) rfl rfl (by decide) (as := []) (r := []) rfl rfl (by decide +kernel) rfl (by decide +kernel) rfl rfl rfl rfl rfl ?_ -- 9
    exact g2 a1 b1 c5
theorem s_ta12 {z : Int}  {sx0 : Int32} (sq0 : sx0.toInt = z) (z0 : 0 ≤ z) (z1 : z ≤ 1)
    (g0 : Q (some (.int sx0)) h)
    : HJ 195 12 lv [.int sx0] h Q := by
  refine hM_rb rfl rfl sq0 (by omega) (by omega) ?_ -- 12
  exact g0 
theorem s_ta30 {i z : Int} (M : MX 49 W ρ m A h0 h F V G) (e0 : m_lk lv 0 = some (.ref m)) {lx1 : Int32} (e1 : m_lk lv 1 = some (.int lx1)) (lq1 : lx1.toInt = i) {lx2 : Int32} (e2 : m_lk lv 2 = some (.int lx2)) (lq2 : lx2.toInt = z) (i0 : 1 ≤ i) (i1 : i ≤ 3) (t0 : 0 ≤ V 16 (0 : Int).toNat) (t1 : V 16 (0 : Int).toNat ≤ 40)(hw : d_sub [(56, 1001)] W = true)
    (g0 : V 16 (0 : Int).toNat ≥ 40 → HJ 190 0 (lv_args 0 [.ref m]) [] h (fun v h' => HJ 195 66 lv (v.toList ++ []) h' Q))
    (g1 : ∀ h12 : MH, ∀ V12 : Nat → Nat → Int, V12 = m_u V 16 (m_u (V 16) ((1 + (4 * (V 16 (0 : Int).toNat))) + i).toNat (F 11)) → MX 49 W ρ m A h0 h12 F V12 G → V 16 (0 : Int).toNat < 40 → (-2147483648) ≤ F 11 → F 11 ≤ 2147483647 → HJ 190 0 (lv_args 0 [.ref m]) [] h12 (fun v h' => HJ 195 66 lv (v.toList ++ []) h' Q))
    : HJ 195 30 lv [] h Q := by
  refine hI_al (k := 0) rfl e0 rfl ?_ -- 30
  refine hM_ga M (by decide) rfl rfl (k := 16) (c := 9) rfl rfl rfl (by decide +kernel) rfl ?_ -- 31
  refine hM_ic (n := 0) rfl (by decide) rfl (fun x1 q1 => ?_) -- 34
  refine hM_ia M (by decide) (K := 16) (R2 := 56) (L := 161) (H := 161) (lo := (-2147483648)) (hi := 2147483647) rfl (by decide) rfl rfl (fun _ => rfl) rfl q1 (by omega) (by omega) rfl (fun x2 q2 a2 b2 => ?_) -- 35
  refine hM_bp (n := 40) rfl (by decide) rfl (fun x3 q3 => ?_) -- 36
  refine hM_cge (off := 24) (t := 62) rfl q2 q3 (by decide) rfl (fun c38 => ?_) (fun c38 => ?_) -- 38
  · refine hI_al (k := 0) rfl e0 rfl ?_ -- 62
    refine hM_iv M (by decide) rfl rfl (by decide) (as := []) (r := []) rfl rfl (by decide +kernel) rfl (by decide +kernel) rfl rfl rfl rfl rfl ?_ -- 63
    exact g0 c38
  · refine hI_al (k := 0) rfl e0 rfl ?_ -- 41
    refine hM_ga M (by decide) rfl rfl (k := 16) (c := 9) rfl rfl rfl (by decide +kernel) rfl ?_ -- 42
    refine hM_ic (n := 1) rfl (by decide) rfl (fun x4 q4 => ?_) -- 45
    refine hM_ic (n := 4) rfl (by decide) rfl (fun x5 q5 => ?_) -- 46
    refine hI_al (k := 0) rfl e0 rfl ?_ -- 47
    refine hM_ga M (by decide) rfl rfl (k := 16) (c := 9) rfl rfl rfl (by decide +kernel) rfl ?_ -- 48
    refine hM_ic (n := 0) rfl (by decide) rfl (fun x6 q6 => ?_) -- 51
    refine hM_ia M (by decide) (K := 16) (R2 := 56) (L := 161) (H := 161) (lo := (-2147483648)) (hi := 2147483647) rfl (by decide) rfl rfl (fun _ => rfl) rfl q6 (by omega) (by omega) rfl (fun x7 q7 a7 b7 => ?_) -- 52
    refine hM_mul rfl q5 q7 (by omega) (by omega) rfl (fun x8 q8 => ?_) -- 53
    refine hM_add rfl q4 q8 (by omega) (by omega) rfl (fun x9 q9 => ?_) -- 54
    refine hI_il (k := 1) rfl e1 rfl ?_ -- 55
    refine hM_add rfl q9 lq1 (by omega) (by omega) rfl (fun x10 q10 => ?_) -- 56
    refine hI_al (k := 0) rfl e0 rfl ?_ -- 57
    refine hM_gi M (by decide) rfl rfl rfl (k := 11) (c := 9) (lo := (-2147483648)) (hi := 2147483647) rfl rfl rfl rfl rfl (fun x11 q11 a11 b11 => ?_) -- 58
    refine hM_is M (by decide) ok_49 (K := 16) (R2 := 56) (L := 161) (H := 161) (lo := (-2147483648)) (hi := 2147483647) rfl (by decide) rfl rfl rfl (fun _ => rfl) (d_subm hw (by decide +kernel)) rfl q10 q11 (by omega) (by omega) (by omega) (by omega) rfl (fun h12 V12 f12 M12 => ?_) -- 61
    refine hI_al (k := 0) rfl e0 rfl ?_ -- 62
    refine hM_iv M12 (by decide) rfl rfl (by decide) (as := []) (r := []) rfl rfl (by decide +kernel) rfl (by decide +kernel) rfl rfl rfl rfl rfl ?_ -- 63
    exact g1 h12 V12 f12 M12 c38 a11 b11
theorem s_ta66   
    (g0 : ∀ x1 : Int32, x1.toInt = 1 → Q (some (.int x1)) h)
    : HJ 195 66 lv [] h Q := by
  refine hM_ic (n := 1) rfl (by decide) rfl (fun x1 q1 => ?_) -- 66
  refine hM_rb rfl rfl q1 (by omega) (by omega) ?_ -- 67
  exact g0 x1 q1
theorem s_ml0 {p : Int} {w : Int64} (M : MX 49 W ρ m A h0 h F V G) (e0 : m_lk lv 0 = some (.ref m)) {lx1 : Int32} (e1 : m_lk lv 1 = some (.int lx1)) (lq1 : lx1.toInt = p) (wl : h_l h m 12 = w)
    (g0 : ∀ lv3 : List (Nat × Value), m_lk lv3 0 = some (.ref m) → m_lk lv3 1 = some (.int lx1) → m_lk lv3 2 = some (.long (Int64.ofNat (0 : Fin 2).val)) → (-2147483648) ≤ F 10 → F 10 ≤ 2147483647 → F 10 ≠ 2 → HJ 192 17 lv3 [] h Q)
    (g1 : ∀ lv4 : List (Nat × Value), m_lk lv4 0 = some (.ref m) → m_lk lv4 1 = some (.int lx1) → m_lk lv4 2 = some (.long w) → (-2147483648) ≤ F 10 → F 10 ≤ 2147483647 → F 10 = 2 → HJ 192 17 lv4 [] h Q)
    : HJ 192 0 lv [] h Q := by
  refine hI_al (k := 0) rfl e0 rfl ?_ -- 0
  refine hM_gi M (by decide) rfl rfl rfl (k := 10) (c := 9) (lo := (-2147483648)) (hi := 2147483647) rfl rfl rfl rfl rfl (fun x1 q1 a1 b1 => ?_) -- 1
  refine hM_ic (n := 2) rfl (by decide) rfl (fun x2 q2 => ?_) -- 4
  refine hM_cne (off := 10) (t := 15) rfl q1 q2 (by decide) rfl (fun c5 => ?_) (fun c5 => ?_) -- 5
  · refine hI_lc (n := 0) rfl rfl ?_ -- 15
    refine hM_sl (k := 2) rfl (by decide +kernel) rfl (fun lv3 e3_2 u3 => ?_) -- 16
    have e3_0 := u3 0 _ (by decide) (by decide) (Or.inl rfl) e0
    have e3_1 := u3 1 _ (by decide) (by decide) (Or.inl rfl) e1
    exact g0 lv3 e3_0 e3_1 e3_2 a1 b1 c5
  · refine hI_al (k := 0) rfl e0 rfl ?_ -- 8
    refine hM_gl M (by decide) rfl rfl (k := 12) (c := 9) rfl rfl rfl wl rfl ?_ -- 9
    refine hI_go (pc' := 16) (off := 4) rfl (by decide) ?_ -- 12
    refine hM_sl (k := 2) rfl (by decide +kernel) rfl (fun lv4 e4_2 u4 => ?_) -- 16
    have e4_0 := u4 0 _ (by decide) (by decide) (Or.inl rfl) e0
    have e4_1 := u4 1 _ (by decide) (by decide) (Or.inl rfl) e1
    exact g1 lv4 e4_0 e4_1 e4_2 a1 b1 c5
theorem s_ml17 {p : Int} (M : MX 49 W ρ m A h0 h F V G) (e0 : m_lk lv 0 = some (.ref m)) {lx1 : Int32} (e1 : m_lk lv 1 = some (.int lx1)) (lq1 : lx1.toInt = p) {lx2 : Int64} (e2 : m_lk lv 2 = some (.long lx2)) 
    (g0 : ∀ x7 : Int32, x7.toInt = (-1) → ∀ lv8 : List (Nat × Value), m_lk lv8 0 = some (.ref m) → m_lk lv8 1 = some (.int lx1) → m_lk lv8 4 = some (.int x7) → (lg_cmp lx2 (7234935)).toInt ≠ 0 → (lg_cmp lx2 (7370100)).toInt ≠ 0 → (lg_cmp lx2 (1835363428)).toInt ≠ 0 → (lg_cmp lx2 (1818588019)).toInt ≠ 0 → (lg_cmp lx2 (465726563698)).toInt ≠ 0 → (lg_cmp lx2 (6518132)).toInt ≠ 0 → HJ 192 92 lv8 [] h Q)
    (g1 : ∀ x9 : Int32, x9.toInt = 5 → ∀ lv10 : List (Nat × Value), m_lk lv10 0 = some (.ref m) → m_lk lv10 1 = some (.int lx1) → m_lk lv10 4 = some (.int x9) → (lg_cmp lx2 (7234935)).toInt ≠ 0 → (lg_cmp lx2 (7370100)).toInt ≠ 0 → (lg_cmp lx2 (1835363428)).toInt ≠ 0 → (lg_cmp lx2 (1818588019)).toInt ≠ 0 → (lg_cmp lx2 (465726563698)).toInt ≠ 0 → (lg_cmp lx2 (6518132)).toInt = 0 → HJ 192 92 lv10 [] h Q)
    (g2 : ∀ x11 : Int32, x11.toInt = 4 → ∀ lv12 : List (Nat × Value), m_lk lv12 0 = some (.ref m) → m_lk lv12 1 = some (.int lx1) → m_lk lv12 4 = some (.int x11) → (lg_cmp lx2 (7234935)).toInt ≠ 0 → (lg_cmp lx2 (7370100)).toInt ≠ 0 → (lg_cmp lx2 (1835363428)).toInt ≠ 0 → (lg_cmp lx2 (1818588019)).toInt ≠ 0 → (lg_cmp lx2 (465726563698)).toInt = 0 → HJ 192 92 lv12 [] h Q)
    (g3 : ∀ x13 : Int32, x13.toInt = 3 → ∀ lv14 : List (Nat × Value), m_lk lv14 0 = some (.ref m) → m_lk lv14 1 = some (.int lx1) → m_lk lv14 4 = some (.int x13) → (lg_cmp lx2 (7234935)).toInt ≠ 0 → (lg_cmp lx2 (7370100)).toInt ≠ 0 → (lg_cmp lx2 (1835363428)).toInt ≠ 0 → (lg_cmp lx2 (1818588019)).toInt = 0 → HJ 192 92 lv14 [] h Q)
    (g4 : ∀ x15 : Int32, x15.toInt = 2 → ∀ lv16 : List (Nat × Value), m_lk lv16 0 = some (.ref m) → m_lk lv16 1 = some (.int lx1) → m_lk lv16 4 = some (.int x15) → (lg_cmp lx2 (7234935)).toInt ≠ 0 → (lg_cmp lx2 (7370100)).toInt ≠ 0 → (lg_cmp lx2 (1835363428)).toInt = 0 → HJ 192 92 lv16 [] h Q)
    (g5 : ∀ x17 : Int32, x17.toInt = 1 → ∀ lv18 : List (Nat × Value), m_lk lv18 0 = some (.ref m) → m_lk lv18 1 = some (.int lx1) → m_lk lv18 4 = some (.int x17) → (lg_cmp lx2 (7234935)).toInt ≠ 0 → (lg_cmp lx2 (7370100)).toInt = 0 → HJ 192 92 lv18 [] h Q)
    (g6 : ∀ x19 : Int32, x19.toInt = 0 → ∀ lv20 : List (Nat × Value), m_lk lv20 0 = some (.ref m) → m_lk lv20 1 = some (.int lx1) → m_lk lv20 4 = some (.int x19) → (lg_cmp lx2 (7234935)).toInt = 0 → HJ 192 92 lv20 [] h Q)
    : HJ 192 17 lv [] h Q := by
  refine hI_ll (k := 2) rfl e2 rfl ?_ -- 17
  refine hM_jc (x := 7234935) rfl rfl rfl ?_ -- 18
  refine hM_lcmp rfl rfl (fun x1 q1 => ?_) -- 21
  refine hM_zne (off := 7) (t := 29) rfl q1 (by decide) rfl (fun c22 => ?_) (fun c22 => ?_) -- 22
  · refine hI_ll (k := 2) rfl e2 rfl ?_ -- 29
    refine hM_jc (x := 7370100) rfl rfl rfl ?_ -- 30
    refine hM_lcmp rfl rfl (fun x2 q2 => ?_) -- 33
    refine hM_zne (off := 7) (t := 41) rfl q2 (by decide) rfl (fun c34 => ?_) (fun c34 => ?_) -- 34
    · refine hI_ll (k := 2) rfl e2 rfl ?_ -- 41
      refine hM_jc (x := 1835363428) rfl rfl rfl ?_ -- 42
      refine hM_lcmp rfl rfl (fun x3 q3 => ?_) -- 45
      refine hM_zne (off := 7) (t := 53) rfl q3 (by decide) rfl (fun c46 => ?_) (fun c46 => ?_) -- 46
      · refine hI_ll (k := 2) rfl e2 rfl ?_ -- 53
        refine hM_jc (x := 1818588019) rfl rfl rfl ?_ -- 54
        refine hM_lcmp rfl rfl (fun x4 q4 => ?_) -- 57
        refine hM_zne (off := 7) (t := 65) rfl q4 (by decide) rfl (fun c58 => ?_) (fun c58 => ?_) -- 58
        · refine hI_ll (k := 2) rfl e2 rfl ?_ -- 65
          refine hM_jc (x := 465726563698) rfl rfl rfl ?_ -- 66
          refine hM_lcmp rfl rfl (fun x5 q5 => ?_) -- 69
          refine hM_zne (off := 7) (t := 77) rfl q5 (by decide) rfl (fun c70 => ?_) (fun c70 => ?_) -- 70
          · refine hI_ll (k := 2) rfl e2 rfl ?_ -- 77
            refine hM_jc (x := 6518132) rfl rfl rfl ?_ -- 78
            refine hM_lcmp rfl rfl (fun x6 q6 => ?_) -- 81
            refine hM_zne (off := 7) (t := 89) rfl q6 (by decide) rfl (fun c82 => ?_) (fun c82 => ?_) -- 82
            · refine hM_ic (n := (-1)) rfl (by decide) rfl (fun x7 q7 => ?_) -- 89
              refine hM_si2 (k := 4) rfl (by decide +kernel) rfl (fun lv8 e8_4 u8 => ?_) -- 90
              have e8_0 := u8 0 _ (by decide) (Or.inl rfl) e0
              have e8_1 := u8 1 _ (by decide) (Or.inl rfl) e1
              have e8_2 := u8 2 _ (by decide) (Or.inr (by decide)) e2
              exact g0 x7 q7 lv8 e8_0 e8_1 e8_4 c22 c34 c46 c58 c70 c82
            · refine hM_ic (n := 5) rfl (by decide) rfl (fun x9 q9 => ?_) -- 85
              refine hI_go (pc' := 90) (off := 4) rfl (by decide) ?_ -- 86
              refine hM_si2 (k := 4) rfl (by decide +kernel) rfl (fun lv10 e10_4 u10 => ?_) -- 90
              have e10_0 := u10 0 _ (by decide) (Or.inl rfl) e0
              have e10_1 := u10 1 _ (by decide) (Or.inl rfl) e1
              have e10_2 := u10 2 _ (by decide) (Or.inr (by decide)) e2
              exact g1 x9 q9 lv10 e10_0 e10_1 e10_4 c22 c34 c46 c58 c70 c82
          · refine hM_ic (n := 4) rfl (by decide) rfl (fun x11 q11 => ?_) -- 73
            refine hI_go (pc' := 90) (off := 16) rfl (by decide) ?_ -- 74
            refine hM_si2 (k := 4) rfl (by decide +kernel) rfl (fun lv12 e12_4 u12 => ?_) -- 90
            have e12_0 := u12 0 _ (by decide) (Or.inl rfl) e0
            have e12_1 := u12 1 _ (by decide) (Or.inl rfl) e1
            have e12_2 := u12 2 _ (by decide) (Or.inr (by decide)) e2
            exact g2 x11 q11 lv12 e12_0 e12_1 e12_4 c22 c34 c46 c58 c70
        · refine hM_ic (n := 3) rfl (by decide) rfl (fun x13 q13 => ?_) -- 61
          refine hI_go (pc' := 90) (off := 28) rfl (by decide) ?_ -- 62
          refine hM_si2 (k := 4) rfl (by decide +kernel) rfl (fun lv14 e14_4 u14 => ?_) -- 90
          have e14_0 := u14 0 _ (by decide) (Or.inl rfl) e0
          have e14_1 := u14 1 _ (by decide) (Or.inl rfl) e1
          have e14_2 := u14 2 _ (by decide) (Or.inr (by decide)) e2
          exact g3 x13 q13 lv14 e14_0 e14_1 e14_4 c22 c34 c46 c58
      · refine hM_ic (n := 2) rfl (by decide) rfl (fun x15 q15 => ?_) -- 49
        refine hI_go (pc' := 90) (off := 40) rfl (by decide) ?_ -- 50
        refine hM_si2 (k := 4) rfl (by decide +kernel) rfl (fun lv16 e16_4 u16 => ?_) -- 90
        have e16_0 := u16 0 _ (by decide) (Or.inl rfl) e0
        have e16_1 := u16 1 _ (by decide) (Or.inl rfl) e1
        have e16_2 := u16 2 _ (by decide) (Or.inr (by decide)) e2
        exact g4 x15 q15 lv16 e16_0 e16_1 e16_4 c22 c34 c46
    · refine hM_ic (n := 1) rfl (by decide) rfl (fun x17 q17 => ?_) -- 37
      refine hI_go (pc' := 90) (off := 52) rfl (by decide) ?_ -- 38
      refine hM_si2 (k := 4) rfl (by decide +kernel) rfl (fun lv18 e18_4 u18 => ?_) -- 90
      have e18_0 := u18 0 _ (by decide) (Or.inl rfl) e0
      have e18_1 := u18 1 _ (by decide) (Or.inl rfl) e1
      have e18_2 := u18 2 _ (by decide) (Or.inr (by decide)) e2
      exact g5 x17 q17 lv18 e18_0 e18_1 e18_4 c22 c34
  · refine hM_ic (n := 0) rfl (by decide) rfl (fun x19 q19 => ?_) -- 25
    refine hI_go (pc' := 90) (off := 64) rfl (by decide) ?_ -- 26
    refine hM_si2 (k := 4) rfl (by decide +kernel) rfl (fun lv20 e20_4 u20 => ?_) -- 90
    have e20_0 := u20 0 _ (by decide) (Or.inl rfl) e0
    have e20_1 := u20 1 _ (by decide) (Or.inl rfl) e1
    have e20_2 := u20 2 _ (by decide) (Or.inr (by decide)) e2
    exact g6 x19 q19 lv20 e20_0 e20_1 e20_4 c22
theorem s_ml92 {p k : Int} (M : MX 49 W ρ m A h0 h F V G) (e0 : m_lk lv 0 = some (.ref m)) {lx1 : Int32} (e1 : m_lk lv 1 = some (.int lx1)) (lq1 : lx1.toInt = p) {lx4 : Int32} (e4 : m_lk lv 4 = some (.int lx4)) (lq4 : lx4.toInt = k) 
    (g0 : k ≠ (-1) → HJ 192 103 lv [] h Q)
    (g1 : k = (-1) → HJ 193 0 (lv_args 0 [.ref m]) [] h (fun v h' => HJ 192 102 lv (v.toList ++ []) h' Q))
    : HJ 192 92 lv [] h Q := by
  refine hI_il2 (k := 4) rfl e4 rfl ?_ -- 92
  refine hM_ic (n := (-1)) rfl (by decide) rfl (fun x1 q1 => ?_) -- 94
  refine hM_cne (off := 8) (t := 103) rfl lq4 q1 (by decide) rfl (fun c95 => ?_) (fun c95 => ?_) -- 95
  · exact g0 c95
  · refine hI_al (k := 0) rfl e0 rfl ?_ -- 98
    refine hM_iv M (by decide) rfl rfl (by decide) (as := []) (r := []) rfl rfl (by decide +kernel) rfl (by decide +kernel) rfl rfl rfl rfl rfl ?_ -- 99
    exact g1 c95
theorem s_ml102 {z : Int}  {sx0 : Int32} (sq0 : sx0.toInt = z) (z0 : 0 ≤ z) (z1 : z ≤ 1)
    (g0 : Q (some (.int sx0)) h)
    : HJ 192 102 lv [.int sx0] h Q := by
  refine hM_rb rfl rfl sq0 (by omega) (by omega) ?_ -- 102
  exact g0 
theorem s_ml103 {p k : Int} (M : MX 49 W ρ m A h0 h F V G) (e0 : m_lk lv 0 = some (.ref m)) {lx1 : Int32} (e1 : m_lk lv 1 = some (.int lx1)) (lq1 : lx1.toInt = p) {lx4 : Int32} (e4 : m_lk lv 4 = some (.int lx4)) (lq4 : lx4.toInt = k) 
    (g0 : V 16 (0 : Int).toNat ≠ 40 → HJ 192 120 lv [] h Q)
    (g1 : ∀ x4 : Int32, x4.toInt = 3 → V 16 (0 : Int).toNat = 40 → HJ 194 0 (lv_args 0 [.ref m, .int x4, .int lx1]) [] h (fun v h' => HJ 192 120 lv (v.toList ++ []) h' Q))
    : HJ 192 103 lv [] h Q := by
  refine hI_al (k := 0) rfl e0 rfl ?_ -- 103
  refine hM_ga M (by decide) rfl rfl (k := 16) (c := 9) rfl rfl rfl (by decide +kernel) rfl ?_ -- 104
  refine hM_ic (n := 0) rfl (by decide) rfl (fun x1 q1 => ?_) -- 107
  refine hM_ia M (by decide) (K := 16) (R2 := 56) (L := 161) (H := 161) (lo := (-2147483648)) (hi := 2147483647) rfl (by decide) rfl rfl (fun _ => rfl) rfl q1 (by omega) (by omega) rfl (fun x2 q2 a2 b2 => ?_) -- 108
  refine hM_bp (n := 40) rfl (by decide) rfl (fun x3 q3 => ?_) -- 109
  refine hM_cne (off := 9) (t := 120) rfl q2 q3 (by decide) rfl (fun c111 => ?_) (fun c111 => ?_) -- 111
  · exact g0 c111
  · refine hI_al (k := 0) rfl e0 rfl ?_ -- 114
    refine hM_ic (n := 3) rfl (by decide) rfl (fun x4 q4 => ?_) -- 115
    refine hI_il (k := 1) rfl e1 rfl ?_ -- 116
    refine hM_iv M (by decide) rfl rfl (by decide) (as := [.int x4, .int lx1]) (r := []) rfl rfl (by decide +kernel) rfl (by decide +kernel) rfl rfl rfl rfl rfl ?_ -- 117
    exact g1 x4 q4 c111
theorem s_ml120 {k : Int} (M : MX 49 W ρ m A h0 h F V G) (e0 : m_lk lv 0 = some (.ref m)) {lx4 : Int32} (e4 : m_lk lv 4 = some (.int lx4)) (lq4 : lx4.toInt = k) 
    (g0 : HJ 190 0 (lv_args 0 [.ref m]) [] h (fun v h' => HJ 192 124 lv (v.toList ++ []) h' Q))
    : HJ 192 120 lv [] h Q := by
  refine hI_al (k := 0) rfl e0 rfl ?_ -- 120
  refine hM_iv M (by decide) rfl rfl (by decide) (as := []) (r := []) rfl rfl (by decide +kernel) rfl (by decide +kernel) rfl rfl rfl rfl rfl ?_ -- 121
  exact g0 
theorem s_ml124 {k : Int} (M : MX 49 W ρ m A h0 h F V G) (e0 : m_lk lv 0 = some (.ref m)) {lx4 : Int32} (e4 : m_lk lv 4 = some (.int lx4)) (lq4 : lx4.toInt = k) 
    (g0 : ∀ x1 : Int32, x1.toInt = 0 → ∀ lv2 : List (Nat × Value), m_lk lv2 0 = some (.ref m) → m_lk lv2 4 = some (.int lx4) → m_lk lv2 5 = some (.int x1) → HJ 192 127 lv2 [] h Q)
    : HJ 192 124 lv [] h Q := by
  refine hM_ic (n := 0) rfl (by decide) rfl (fun x1 q1 => ?_) -- 124
  refine hM_si2 (k := 5) rfl (by decide +kernel) rfl (fun lv2 e2_5 u2 => ?_) -- 125
  have e2_0 := u2 0 _ (by decide) (Or.inl rfl) e0
  have e2_4 := u2 4 _ (by decide) (Or.inl rfl) e4
  exact g0 x1 q1 lv2 e2_0 e2_4 e2_5
theorem s_ml127 {k i : Int} (M : MX 49 W ρ m A h0 h F V G) (e0 : m_lk lv 0 = some (.ref m)) {lx4 : Int32} (e4 : m_lk lv 4 = some (.int lx4)) (lq4 : lx4.toInt = k) {lx5 : Int32} (e5 : m_lk lv 5 = some (.int lx5)) (lq5 : lx5.toInt = i) (i0 : 0 ≤ i) (t0 : 0 ≤ V 16 (0 : Int).toNat) (t1 : V 16 (0 : Int).toNat ≤ 40)(hw : d_sub [(56, 1001)] W = true)
    (g0 : i ≥ 4 → HJ 192 179 lv [] h Q)
    (g1 : i < 4 → V 16 (0 : Int).toNat ≥ 40 → HJ 192 179 lv [] h Q)
    (g2 : ∀ h13 : MH, ∀ V13 : Nat → Nat → Int, V13 = m_u V 16 (m_u (V 16) ((1 + (4 * (V 16 (0 : Int).toNat))) + i).toNat ((-1))) → ∀ x14 : Int32, x14.toInt = i + 1 → ∀ lv14 : List (Nat × Value), MX 49 W ρ m A h0 h13 F V13 G → m_lk lv14 0 = some (.ref m) → m_lk lv14 4 = some (.int lx4) → m_lk lv14 5 = some (.int x14) → i < 4 → V 16 (0 : Int).toNat < 40 → i ≠ 0 → HJ 192 127 lv14 [] h13 Q)
    (g3 : ∀ h15 : MH, ∀ V15 : Nat → Nat → Int, V15 = m_u V 16 (m_u (V 16) ((1 + (4 * (V 16 (0 : Int).toNat))) + i).toNat (k)) → ∀ x16 : Int32, x16.toInt = i + 1 → ∀ lv16 : List (Nat × Value), MX 49 W ρ m A h0 h15 F V15 G → m_lk lv16 0 = some (.ref m) → m_lk lv16 4 = some (.int lx4) → m_lk lv16 5 = some (.int x16) → i < 4 → V 16 (0 : Int).toNat < 40 → i = 0 → HJ 192 127 lv16 [] h15 Q)
    : HJ 192 127 lv [] h Q := by
  have lb4 : -2147483648 ≤ k ∧ k ≤ 2147483647 := by rw [← lq4]; exact g_iT _
  have lb5 : -2147483648 ≤ i ∧ i ≤ 2147483647 := by rw [← lq5]; exact g_iT _
  refine hI_il2 (k := 5) rfl e5 rfl ?_ -- 127
  refine hM_ic (n := 4) rfl (by decide) rfl (fun x1 q1 => ?_) -- 129
  refine hM_cge (off := 49) (t := 179) rfl lq5 q1 (by decide) rfl (fun c130 => ?_) (fun c130 => ?_) -- 130
  · exact g0 c130
  · refine hI_al (k := 0) rfl e0 rfl ?_ -- 133
    refine hM_ga M (by decide) rfl rfl (k := 16) (c := 9) rfl rfl rfl (by decide +kernel) rfl ?_ -- 134
    refine hM_ic (n := 0) rfl (by decide) rfl (fun x2 q2 => ?_) -- 137
    refine hM_ia M (by decide) (K := 16) (R2 := 56) (L := 161) (H := 161) (lo := (-2147483648)) (hi := 2147483647) rfl (by decide) rfl rfl (fun _ => rfl) rfl q2 (by omega) (by omega) rfl (fun x3 q3 a3 b3 => ?_) -- 138
    refine hM_bp (n := 40) rfl (by decide) rfl (fun x4 q4 => ?_) -- 139
    refine hM_cge (off := 38) (t := 179) rfl q3 q4 (by decide) rfl (fun c141 => ?_) (fun c141 => ?_) -- 141
    · exact g1 c130 c141
    · refine hI_al (k := 0) rfl e0 rfl ?_ -- 144
      refine hM_ga M (by decide) rfl rfl (k := 16) (c := 9) rfl rfl rfl (by decide +kernel) rfl ?_ -- 145
      refine hM_ic (n := 1) rfl (by decide) rfl (fun x5 q5 => ?_) -- 148
      refine hM_ic (n := 4) rfl (by decide) rfl (fun x6 q6 => ?_) -- 149
      refine hI_al (k := 0) rfl e0 rfl ?_ -- 150
      refine hM_ga M (by decide) rfl rfl (k := 16) (c := 9) rfl rfl rfl (by decide +kernel) rfl ?_ -- 151
      refine hM_ic (n := 0) rfl (by decide) rfl (fun x7 q7 => ?_) -- 154
      refine hM_ia M (by decide) (K := 16) (R2 := 56) (L := 161) (H := 161) (lo := (-2147483648)) (hi := 2147483647) rfl (by decide) rfl rfl (fun _ => rfl) rfl q7 (by omega) (by omega) rfl (fun x8 q8 a8 b8 => ?_) -- 155
      refine hM_mul rfl q6 q8 (by omega) (by omega) rfl (fun x9 q9 => ?_) -- 156
      refine hM_add rfl q5 q9 (by omega) (by omega) rfl (fun x10 q10 => ?_) -- 157
      refine hI_il2 (k := 5) rfl e5 rfl ?_ -- 158
      refine hM_add rfl q10 lq5 (by omega) (by omega) rfl (fun x11 q11 => ?_) -- 160
      refine hI_il2 (k := 5) rfl e5 rfl ?_ -- 161
      refine hM_zne (off := 8) (t := 171) rfl lq5 (by decide) rfl (fun c163 => ?_) (fun c163 => ?_) -- 163
      · refine hM_ic (n := (-1)) rfl (by decide) rfl (fun x12 q12 => ?_) -- 171
        refine hM_is M (by decide) ok_49 (K := 16) (R2 := 56) (L := 161) (H := 161) (lo := (-2147483648)) (hi := 2147483647) rfl (by decide) rfl rfl rfl (fun _ => rfl) (d_subm hw (by decide +kernel)) rfl q11 q12 (by omega) (by omega) (by omega) (by omega) rfl (fun h13 V13 f13 M13 => ?_) -- 172
        refine hM_inc (k := 5) (z := 1) rfl e5 lq5 (by decide) (by omega) (by omega) (by decide +kernel) rfl (fun lv14 x14 q14 e14_5 u14 => ?_) -- 173
        have e14_0 := u14 0 _ (by decide) (Or.inl rfl) e0
        have e14_4 := u14 4 _ (by decide) (Or.inl rfl) e4
        refine hI_go (pc' := 127) (off := (-49)) rfl (by decide) ?_ -- 176
        exact g2 h13 V13 f13 x14 q14 lv14 M13 e14_0 e14_4 e14_5 c130 c141 c163
      · refine hI_il2 (k := 4) rfl e4 rfl ?_ -- 166
        refine hI_go (pc' := 172) (off := 4) rfl (by decide) ?_ -- 168
        refine hM_is M (by decide) ok_49 (K := 16) (R2 := 56) (L := 161) (H := 161) (lo := (-2147483648)) (hi := 2147483647) rfl (by decide) rfl rfl rfl (fun _ => rfl) (d_subm hw (by decide +kernel)) rfl q11 lq4 (by omega) (by omega) (by omega) (by omega) rfl (fun h15 V15 f15 M15 => ?_) -- 172
        refine hM_inc (k := 5) (z := 1) rfl e5 lq5 (by decide) (by omega) (by omega) (by decide +kernel) rfl (fun lv16 x16 q16 e16_5 u16 => ?_) -- 173
        have e16_0 := u16 0 _ (by decide) (Or.inl rfl) e0
        have e16_4 := u16 4 _ (by decide) (Or.inl rfl) e4
        refine hI_go (pc' := 127) (off := (-49)) rfl (by decide) ?_ -- 176
        exact g3 h15 V15 f15 x16 q16 lv16 M15 e16_0 e16_4 e16_5 c130 c141 c163
theorem s_ml179 {k : Int} (M : MX 49 W ρ m A h0 h F V G) (e0 : m_lk lv 0 = some (.ref m)) {lx4 : Int32} (e4 : m_lk lv 4 = some (.int lx4)) (lq4 : lx4.toInt = k) 
    (g0 : ∀ x1 : Int32, x1.toInt = 1 → ∀ lv2 : List (Nat × Value), m_lk lv2 0 = some (.ref m) → m_lk lv2 4 = some (.int lx4) → m_lk lv2 5 = some (.int x1) → k = 0 → HJ 192 201 lv2 [] h Q)
    (g1 : ∀ x3 : Int32, x3.toInt = 1 → ∀ x4 : Int32, x4.toInt = 40 → k ≠ 0 → HJ 195 0 (lv_args 0 [.ref m, .int x3, .int x4]) [] h (fun v h' => HJ 192 191 lv (v.toList ++ []) h' Q))
    : HJ 192 179 lv [] h Q := by
  refine hI_il2 (k := 4) rfl e4 rfl ?_ -- 179
  refine hM_zeq (off := 13) (t := 194) rfl lq4 (by decide) rfl (fun c181 => ?_) (fun c181 => ?_) -- 181
  · refine hM_ic (n := 1) rfl (by decide) rfl (fun x1 q1 => ?_) -- 194
    refine hI_go (pc' := 199) (off := 4) rfl (by decide) ?_ -- 195
    refine hM_si2 (k := 5) rfl (by decide +kernel) rfl (fun lv2 e2_5 u2 => ?_) -- 199
    have e2_0 := u2 0 _ (by decide) (Or.inl rfl) e0
    have e2_4 := u2 4 _ (by decide) (Or.inl rfl) e4
    exact g0 x1 q1 lv2 e2_0 e2_4 e2_5 c181
  · refine hI_al (k := 0) rfl e0 rfl ?_ -- 184
    refine hM_ic (n := 1) rfl (by decide) rfl (fun x3 q3 => ?_) -- 185
    refine hM_bp (n := 40) rfl (by decide) rfl (fun x4 q4 => ?_) -- 186
    refine hM_iv M (by decide) rfl rfl (by decide) (as := [.int x3, .int x4]) (r := []) rfl rfl (by decide +kernel) rfl (by decide +kernel) rfl rfl rfl rfl rfl ?_ -- 188
    exact g1 x3 q3 x4 q4 c181
theorem s_ml191 {k z : Int} (M : MX 49 W ρ m A h0 h F V G) (e0 : m_lk lv 0 = some (.ref m)) {lx4 : Int32} (e4 : m_lk lv 4 = some (.int lx4)) (lq4 : lx4.toInt = k) {sx0 : Int32} (sq0 : sx0.toInt = z) 
    (g0 : ∀ x1 : Int32, x1.toInt = 0 → ∀ lv2 : List (Nat × Value), m_lk lv2 0 = some (.ref m) → m_lk lv2 4 = some (.int lx4) → m_lk lv2 5 = some (.int x1) → z = 0 → HJ 192 201 lv2 [] h Q)
    (g1 : ∀ x3 : Int32, x3.toInt = 1 → ∀ lv4 : List (Nat × Value), m_lk lv4 0 = some (.ref m) → m_lk lv4 4 = some (.int lx4) → m_lk lv4 5 = some (.int x3) → z ≠ 0 → HJ 192 201 lv4 [] h Q)
    : HJ 192 191 lv [.int sx0] h Q := by
  refine hM_zeq (off := 7) (t := 198) rfl sq0 (by decide) rfl (fun c191 => ?_) (fun c191 => ?_) -- 191
  · refine hM_ic (n := 0) rfl (by decide) rfl (fun x1 q1 => ?_) -- 198
    refine hM_si2 (k := 5) rfl (by decide +kernel) rfl (fun lv2 e2_5 u2 => ?_) -- 199
    have e2_0 := u2 0 _ (by decide) (Or.inl rfl) e0
    have e2_4 := u2 4 _ (by decide) (Or.inl rfl) e4
    exact g0 x1 q1 lv2 e2_0 e2_4 e2_5 c191
  · refine hM_ic (n := 1) rfl (by decide) rfl (fun x3 q3 => ?_) -- 194
    refine hI_go (pc' := 199) (off := 4) rfl (by decide) ?_ -- 195
    refine hM_si2 (k := 5) rfl (by decide +kernel) rfl (fun lv4 e4_5 u4 => ?_) -- 199
    have e4_0 := u4 0 _ (by decide) (Or.inl rfl) e0
    have e4_4 := u4 4 _ (by decide) (Or.inl rfl) e4
    exact g1 x3 q3 lv4 e4_0 e4_4 e4_5 c191
theorem s_ml201 {k f : Int} (M : MX 49 W ρ m A h0 h F V G) (e0 : m_lk lv 0 = some (.ref m)) {lx4 : Int32} (e4 : m_lk lv 4 = some (.int lx4)) (lq4 : lx4.toInt = k) {lx5 : Int32} (e5 : m_lk lv 5 = some (.int lx5)) (lq5 : lx5.toInt = f) 
    (g0 : f = 0 → HJ 192 248 lv [] h Q)
    (g1 : f ≠ 0 → k = 0 → HJ 192 248 lv [] h Q)
    (g2 : f ≠ 0 → k ≠ 0 → k = 3 → HJ 192 248 lv [] h Q)
    (g3 : ∀ x2 : Int32, x2.toInt = 2 → ∀ x5 : Int32, x5.toInt = 99 → f ≠ 0 → k ≠ 0 → k ≠ 3 → k ≠ 2 → k ≠ 4 → HJ 195 0 (lv_args 0 [.ref m, .int x2, .int x5]) [] h (fun v h' => HJ 192 246 lv (v.toList ++ []) h' Q))
    (g4 : ∀ x2 : Int32, x2.toInt = 2 → ∀ x6 : Int32, x6.toInt = 39 → f ≠ 0 → k ≠ 0 → k ≠ 3 → k ≠ 2 → k = 4 → HJ 195 0 (lv_args 0 [.ref m, .int x2, .int x6]) [] h (fun v h' => HJ 192 246 lv (v.toList ++ []) h' Q))
    (g5 : ∀ x2 : Int32, x2.toInt = 2 → ∀ x7 : Int32, x7.toInt = 40 → f ≠ 0 → k ≠ 0 → k ≠ 3 → k = 2 → HJ 195 0 (lv_args 0 [.ref m, .int x2, .int x7]) [] h (fun v h' => HJ 192 246 lv (v.toList ++ []) h' Q))
    : HJ 192 201 lv [] h Q := by
  refine hI_il2 (k := 5) rfl e5 rfl ?_ -- 201
  refine hM_zeq (off := 45) (t := 248) rfl lq5 (by decide) rfl (fun c203 => ?_) (fun c203 => ?_) -- 203
  · exact g0 c203
  · refine hI_il2 (k := 4) rfl e4 rfl ?_ -- 206
    refine hM_zeq (off := 40) (t := 248) rfl lq4 (by decide) rfl (fun c208 => ?_) (fun c208 => ?_) -- 208
    · exact g1 c203 c208
    · refine hI_il2 (k := 4) rfl e4 rfl ?_ -- 211
      refine hM_ic (n := 3) rfl (by decide) rfl (fun x1 q1 => ?_) -- 213
      refine hM_ceq (off := 34) (t := 248) rfl lq4 q1 (by decide) rfl (fun c214 => ?_) (fun c214 => ?_) -- 214
      · exact g2 c203 c208 c214
      · refine hI_al (k := 0) rfl e0 rfl ?_ -- 217
        refine hM_ic (n := 2) rfl (by decide) rfl (fun x2 q2 => ?_) -- 218
        refine hI_il2 (k := 4) rfl e4 rfl ?_ -- 219
        refine hM_ic (n := 2) rfl (by decide) rfl (fun x3 q3 => ?_) -- 221
        refine hM_cne (off := 8) (t := 230) rfl lq4 q3 (by decide) rfl (fun c222 => ?_) (fun c222 => ?_) -- 222
        · refine hI_il2 (k := 4) rfl e4 rfl ?_ -- 230
          refine hM_ic (n := 4) rfl (by decide) rfl (fun x4 q4 => ?_) -- 232
          refine hM_cne (off := 8) (t := 241) rfl lq4 q4 (by decide) rfl (fun c233 => ?_) (fun c233 => ?_) -- 233
          · refine hM_bp (n := 99) rfl (by decide) rfl (fun x5 q5 => ?_) -- 241
            refine hM_iv M (by decide) rfl rfl (by decide) (as := [.int x2, .int x5]) (r := []) rfl rfl (by decide +kernel) rfl (by decide +kernel) rfl rfl rfl rfl rfl ?_ -- 243
            exact g3 x2 q2 x5 q5 c203 c208 c214 c222 c233
          · refine hM_bp (n := 39) rfl (by decide) rfl (fun x6 q6 => ?_) -- 236
            refine hI_go (pc' := 243) (off := 5) rfl (by decide) ?_ -- 238
            refine hM_iv M (by decide) rfl rfl (by decide) (as := [.int x2, .int x6]) (r := []) rfl rfl (by decide +kernel) rfl (by decide +kernel) rfl rfl rfl rfl rfl ?_ -- 243
            exact g4 x2 q2 x6 q6 c203 c208 c214 c222 c233
        · refine hM_bp (n := 40) rfl (by decide) rfl (fun x7 q7 => ?_) -- 225
          refine hI_go (pc' := 243) (off := 16) rfl (by decide) ?_ -- 227
          refine hM_iv M (by decide) rfl rfl (by decide) (as := [.int x2, .int x7]) (r := []) rfl rfl (by decide +kernel) rfl (by decide +kernel) rfl rfl rfl rfl rfl ?_ -- 243
          exact g5 x2 q2 x7 q7 c203 c208 c214 c222
theorem s_ml246 {k z : Int} (M : MX 49 W ρ m A h0 h F V G) (e0 : m_lk lv 0 = some (.ref m)) {lx4 : Int32} (e4 : m_lk lv 4 = some (.int lx4)) (lq4 : lx4.toInt = k) {sx0 : Int32} (sq0 : sx0.toInt = z) 
    (g0 : ∀ lv1 : List (Nat × Value), m_lk lv1 0 = some (.ref m) → m_lk lv1 4 = some (.int lx4) → m_lk lv1 5 = some (.int sx0) → HJ 192 248 lv1 [] h Q)
    : HJ 192 246 lv [.int sx0] h Q := by
  refine hM_si2 (k := 5) rfl (by decide +kernel) rfl (fun lv1 e1_5 u1 => ?_) -- 246
  have e1_0 := u1 0 _ (by decide) (Or.inl rfl) e0
  have e1_4 := u1 4 _ (by decide) (Or.inl rfl) e4
  exact g0 lv1 e1_0 e1_4 e1_5
theorem s_ml248 {k f : Int} (M : MX 49 W ρ m A h0 h F V G) (e0 : m_lk lv 0 = some (.ref m)) {lx4 : Int32} (e4 : m_lk lv 4 = some (.int lx4)) (lq4 : lx4.toInt = k) {lx5 : Int32} (e5 : m_lk lv 5 = some (.int lx5)) (lq5 : lx5.toInt = f) 
    (g0 : f = 0 → HJ 192 268 lv [] h Q)
    (g1 : f ≠ 0 → k ≠ 4 → HJ 192 268 lv [] h Q)
    (g2 : ∀ x2 : Int32, x2.toInt = 3 → ∀ x3 : Int32, x3.toInt = 99 → f ≠ 0 → k = 4 → HJ 195 0 (lv_args 0 [.ref m, .int x2, .int x3]) [] h (fun v h' => HJ 192 266 lv (v.toList ++ []) h' Q))
    : HJ 192 248 lv [] h Q := by
  refine hI_il2 (k := 5) rfl e5 rfl ?_ -- 248
  refine hM_zeq (off := 18) (t := 268) rfl lq5 (by decide) rfl (fun c250 => ?_) (fun c250 => ?_) -- 250
  · exact g0 c250
  · refine hI_il2 (k := 4) rfl e4 rfl ?_ -- 253
    refine hM_ic (n := 4) rfl (by decide) rfl (fun x1 q1 => ?_) -- 255
    refine hM_cne (off := 12) (t := 268) rfl lq4 q1 (by decide) rfl (fun c256 => ?_) (fun c256 => ?_) -- 256
    · exact g1 c250 c256
    · refine hI_al (k := 0) rfl e0 rfl ?_ -- 259
      refine hM_ic (n := 3) rfl (by decide) rfl (fun x2 q2 => ?_) -- 260
      refine hM_bp (n := 99) rfl (by decide) rfl (fun x3 q3 => ?_) -- 261
      refine hM_iv M (by decide) rfl rfl (by decide) (as := [.int x2, .int x3]) (r := []) rfl rfl (by decide +kernel) rfl (by decide +kernel) rfl rfl rfl rfl rfl ?_ -- 263
      exact g2 x2 q2 x3 q3 c250 c256
theorem s_ml266 {k z : Int} (M : MX 49 W ρ m A h0 h F V G) (e0 : m_lk lv 0 = some (.ref m)) {lx4 : Int32} (e4 : m_lk lv 4 = some (.int lx4)) (lq4 : lx4.toInt = k) {sx0 : Int32} (sq0 : sx0.toInt = z) 
    (g0 : ∀ lv1 : List (Nat × Value), m_lk lv1 0 = some (.ref m) → m_lk lv1 4 = some (.int lx4) → m_lk lv1 5 = some (.int sx0) → HJ 192 268 lv1 [] h Q)
    : HJ 192 266 lv [.int sx0] h Q := by
  refine hM_si2 (k := 5) rfl (by decide +kernel) rfl (fun lv1 e1_5 u1 => ?_) -- 266
  have e1_0 := u1 0 _ (by decide) (Or.inl rfl) e0
  have e1_4 := u1 4 _ (by decide) (Or.inl rfl) e4
  exact g0 lv1 e1_0 e1_4 e1_5
theorem s_ml268 {f : Int} (M : MX 49 W ρ m A h0 h F V G) (e0 : m_lk lv 0 = some (.ref m)) {lx5 : Int32} (e5 : m_lk lv 5 = some (.int lx5)) (lq5 : lx5.toInt = f) (f0 : 0 ≤ f) (f1 : f ≤ 1) (t0 : 0 ≤ V 16 (0 : Int).toNat) (t1 : V 16 (0 : Int).toNat ≤ 40)(hw : d_sub [(56, 1001)] W = true)
    (g0 : ∀ h5 : MH, ∀ V5 : Nat → Nat → Int, V5 = m_u V 16 (m_u (V 16) (0 : Int).toNat ((V 16 (0 : Int).toNat) + 0)) → MX 49 W ρ m A h0 h5 F V5 G → f = 0 → Q (some (.int lx5)) h5)
    (g1 : ∀ h11 : MH, ∀ V11 : Nat → Nat → Int, V11 = m_u V 16 (m_u (V 16) (0 : Int).toNat ((V 16 (0 : Int).toNat) + 0)) → MX 49 W ρ m A h0 h11 F V11 G → f ≠ 0 → V 16 (0 : Int).toNat ≥ 40 → Q (some (.int lx5)) h11)
    (g2 : ∀ h14 : MH, ∀ V14 : Nat → Nat → Int, V14 = m_u V 16 (m_u (V 16) (0 : Int).toNat ((V 16 (0 : Int).toNat) + 1)) → MX 49 W ρ m A h0 h14 F V14 G → f ≠ 0 → V 16 (0 : Int).toNat < 40 → Q (some (.int lx5)) h14)
    : HJ 192 268 lv [] h Q := by
  refine hI_al (k := 0) rfl e0 rfl ?_ -- 268
  refine hM_ga M (by decide) rfl rfl (k := 16) (c := 9) rfl rfl rfl (by decide +kernel) rfl ?_ -- 269
  refine hM_ic (n := 0) rfl (by decide) rfl (fun x1 q1 => ?_) -- 272
  refine hI_dup2 rfl rfl rfl rfl ?_ -- 273
  refine hM_ia M (by decide) (K := 16) (R2 := 56) (L := 161) (H := 161) (lo := (-2147483648)) (hi := 2147483647) rfl (by decide) rfl rfl (fun _ => rfl) rfl q1 (by omega) (by omega) rfl (fun x2 q2 a2 b2 => ?_) -- 274
  refine hI_il2 (k := 5) rfl e5 rfl ?_ -- 275
  refine hM_zeq (off := 18) (t := 295) rfl lq5 (by decide) rfl (fun c277 => ?_) (fun c277 => ?_) -- 277
  · refine hM_ic (n := 0) rfl (by decide) rfl (fun x3 q3 => ?_) -- 295
    refine hM_add rfl q2 q3 (by omega) (by omega) rfl (fun x4 q4 => ?_) -- 296
    refine hM_is M (by decide) ok_49 (K := 16) (R2 := 56) (L := 161) (H := 161) (lo := (-2147483648)) (hi := 2147483647) rfl (by decide) rfl rfl rfl (fun _ => rfl) (d_subm hw (by decide +kernel)) rfl q1 q4 (by omega) (by omega) (by omega) (by omega) rfl (fun h5 V5 f5 M5 => ?_) -- 297
    refine hI_il2 (k := 5) rfl e5 rfl ?_ -- 298
    refine hM_rb rfl rfl lq5 (by omega) (by omega) ?_ -- 300
    exact g0 h5 V5 f5 M5 c277
  · refine hI_al (k := 0) rfl e0 rfl ?_ -- 280
    refine hM_ga M (by decide) rfl rfl (k := 16) (c := 9) rfl rfl rfl (by decide +kernel) rfl ?_ -- 281
    refine hM_ic (n := 0) rfl (by decide) rfl (fun x6 q6 => ?_) -- 284
    refine hM_ia M (by decide) (K := 16) (R2 := 56) (L := 161) (H := 161) (lo := (-2147483648)) (hi := 2147483647) rfl (by decide) rfl rfl (fun _ => rfl) rfl q6 (by omega) (by omega) rfl (fun x7 q7 a7 b7 => ?_) -- 285
    refine hM_bp (n := 40) rfl (by decide) rfl (fun x8 q8 => ?_) -- 286
    refine hM_cge (off := 7) (t := 295) rfl q7 q8 (by decide) rfl (fun c288 => ?_) (fun c288 => ?_) -- 288
    · refine hM_ic (n := 0) rfl (by decide) rfl (fun x9 q9 => ?_) -- 295
      refine hM_add rfl q2 q9 (by omega) (by omega) rfl (fun x10 q10 => ?_) -- 296
      refine hM_is M (by decide) ok_49 (K := 16) (R2 := 56) (L := 161) (H := 161) (lo := (-2147483648)) (hi := 2147483647) rfl (by decide) rfl rfl rfl (fun _ => rfl) (d_subm hw (by decide +kernel)) rfl q1 q10 (by omega) (by omega) (by omega) (by omega) rfl (fun h11 V11 f11 M11 => ?_) -- 297
      refine hI_il2 (k := 5) rfl e5 rfl ?_ -- 298
      refine hM_rb rfl rfl lq5 (by omega) (by omega) ?_ -- 300
      exact g1 h11 V11 f11 M11 c277 c288
    · refine hM_ic (n := 1) rfl (by decide) rfl (fun x12 q12 => ?_) -- 291
      refine hI_go (pc' := 296) (off := 4) rfl (by decide) ?_ -- 292
      refine hM_add rfl q2 q12 (by omega) (by omega) rfl (fun x13 q13 => ?_) -- 296
      refine hM_is M (by decide) ok_49 (K := 16) (R2 := 56) (L := 161) (H := 161) (lo := (-2147483648)) (hi := 2147483647) rfl (by decide) rfl rfl rfl (fun _ => rfl) (d_subm hw (by decide +kernel)) rfl q1 q13 (by omega) (by omega) (by omega) (by omega) rfl (fun h14 V14 f14 M14 => ?_) -- 297
      refine hI_il2 (k := 5) rfl e5 rfl ?_ -- 298
      refine hM_rb rfl rfl lq5 (by omega) (by omega) ?_ -- 300
      exact g2 h14 V14 f14 M14 c277 c288
theorem s_mr0 (M : MX 49 W ρ m A h0 h F V G) (e0 : m_lk lv 0 = some (.ref m)) (hw : d_sub [(56, 1001), (49, 7), (49, 14)] W = true)
    (g0 : ∀ h3 : MH, ∀ V3 : Nat → Nat → Int, V3 = m_u V 16 (m_u (V 16) (0 : Int).toNat (0)) → ∀ h5 : MH, ∀ F5 : Nat → Int, F5 = m_u F 7 (0) → ∀ h7 : MH, ∀ F7 : Nat → Int, F7 = m_u F5 14 (0) → ∀ x8 : Int32, x8.toInt = 1 → ∀ lv9 : List (Nat × Value), MX 49 W ρ m A h0 h7 F7 V3 G → m_lk lv9 0 = some (.ref m) → m_lk lv9 1 = some (.int x8) → HJ 190 0 (lv_args 0 [.ref m]) [] h7 (fun v h' => HJ 189 23 lv9 (v.toList ++ []) h' Q))
    : HJ 189 0 lv [] h Q := by
  refine hI_al (k := 0) rfl e0 rfl ?_ -- 0
  refine hM_ga M (by decide) rfl rfl (k := 16) (c := 9) rfl rfl rfl (by decide +kernel) rfl ?_ -- 1
  refine hM_ic (n := 0) rfl (by decide) rfl (fun x1 q1 => ?_) -- 4
  refine hM_ic (n := 0) rfl (by decide) rfl (fun x2 q2 => ?_) -- 5
  refine hM_is M (by decide) ok_49 (K := 16) (R2 := 56) (L := 161) (H := 161) (lo := (-2147483648)) (hi := 2147483647) rfl (by decide) rfl rfl rfl (fun _ => rfl) (d_subm hw (by decide +kernel)) rfl q1 q2 (by omega) (by omega) (by omega) (by omega) rfl (fun h3 V3 f3 M3 => ?_) -- 6
  refine hI_al (k := 0) rfl e0 rfl ?_ -- 7
  refine hM_ic (n := 0) rfl (by decide) rfl (fun x4 q4 => ?_) -- 8
  refine hM_pi M3 (by decide) ok_49 rfl rfl (k := 7) (c := 9) (lo := 0) (hi := 600) rfl rfl ⟨by decide, by decide +kernel, rfl⟩ rfl (d_subm hw (by decide +kernel)) q4 (by omega) (by omega) rfl (fun h5 F5 f5 M5 => ?_) -- 9
  refine hI_al (k := 0) rfl e0 rfl ?_ -- 12
  refine hM_ic (n := 0) rfl (by decide) rfl (fun x6 q6 => ?_) -- 13
  refine hM_pi M5 (by decide) ok_49 rfl rfl (k := 14) (c := 9) (lo := (-2147483648)) (hi := 2147483647) rfl rfl ⟨by decide, by decide +kernel, rfl⟩ rfl (d_subm hw (by decide +kernel)) q6 (by omega) (by omega) rfl (fun h7 F7 f7 M7 => ?_) -- 14
  refine hM_ic (n := 1) rfl (by decide) rfl (fun x8 q8 => ?_) -- 17
  refine hM_si (k := 1) rfl (by decide +kernel) rfl (fun lv9 e9_1 u9 => ?_) -- 18
  have e9_0 := u9 0 _ (by decide) (Or.inl rfl) e0
  refine hI_al (k := 0) rfl e9_0 rfl ?_ -- 19
  refine hM_iv M7 (by decide) rfl rfl (by decide) (as := []) (r := []) rfl rfl (by decide +kernel) rfl (by decide +kernel) rfl rfl rfl rfl rfl ?_ -- 20
  exact g0 h3 V3 f3 h5 F5 f5 h7 F7 f7 x8 q8 lv9 M7 e9_0 e9_1
theorem s_mr23 {f : Int} (M : MX 49 W ρ m A h0 h F V G) (e0 : m_lk lv 0 = some (.ref m)) {lx1 : Int32} (e1 : m_lk lv 1 = some (.int lx1)) (lq1 : lx1.toInt = f) 
    (g0 : f = 0 → HJ 189 71 lv [] h Q)
    (g1 : f ≠ 0 → (-2147483648) ≤ F 10 → F 10 ≤ 2147483647 → F 10 = 0 → HJ 189 71 lv [] h Q)
    (g2 : ∀ x2 : Int32, x2.toInt = F 9 → f ≠ 0 → (-2147483648) ≤ F 10 → F 10 ≤ 2147483647 → F 10 ≠ 0 → 0 ≤ F 9 → F 9 ≤ 600 → HJ 192 0 (lv_args 0 [.ref m, .int x2]) [] h (fun v h' => HJ 189 42 lv (v.toList ++ []) h' Q))
    : HJ 189 23 lv [] h Q := by
  refine hI_il (k := 1) rfl e1 rfl ?_ -- 23
  refine hM_zeq (off := 47) (t := 71) rfl lq1 (by decide) rfl (fun c24 => ?_) (fun c24 => ?_) -- 24
  · exact g0 c24
  · refine hI_al (k := 0) rfl e0 rfl ?_ -- 27
    refine hM_gi M (by decide) rfl rfl rfl (k := 10) (c := 9) (lo := (-2147483648)) (hi := 2147483647) rfl rfl rfl rfl rfl (fun x1 q1 a1 b1 => ?_) -- 28
    refine hM_zeq (off := 40) (t := 71) rfl q1 (by decide) rfl (fun c31 => ?_) (fun c31 => ?_) -- 31
    · exact g1 c24 a1 b1 c31
    · refine hI_al (k := 0) rfl e0 rfl ?_ -- 34
      refine hI_al (k := 0) rfl e0 rfl ?_ -- 35
      refine hM_gi M (by decide) rfl rfl rfl (k := 9) (c := 9) (lo := 0) (hi := 600) rfl rfl rfl rfl rfl (fun x2 q2 a2 b2 => ?_) -- 36
      refine hM_iv M (by decide) rfl rfl (by decide) (as := [.int x2]) (r := []) rfl rfl (by decide +kernel) rfl (by decide +kernel) rfl rfl rfl rfl rfl ?_ -- 39
      exact g2 x2 q2 c24 a1 b1 c31 a2 b2
theorem s_mr42 {z : Int} (M : MX 49 W ρ m A h0 h F V G) (e0 : m_lk lv 0 = some (.ref m)) {sx0 : Int32} (sq0 : sx0.toInt = z) 
    (g0 : ∀ lv1 : List (Nat × Value), m_lk lv1 0 = some (.ref m) → m_lk lv1 1 = some (.int sx0) → z = 0 → HJ 189 23 lv1 [] h Q)
    (g1 : ∀ lv1 : List (Nat × Value), m_lk lv1 0 = some (.ref m) → m_lk lv1 1 = some (.int sx0) → z ≠ 0 → (-2147483648) ≤ F 10 → F 10 ≤ 2147483647 → F 10 = 4 → HJ 190 0 (lv_args 0 [.ref m]) [] h (fun v h' => HJ 189 68 lv1 (v.toList ++ []) h' Q))
    (g2 : ∀ lv1 : List (Nat × Value), m_lk lv1 0 = some (.ref m) → m_lk lv1 1 = some (.int sx0) → z ≠ 0 → (-2147483648) ≤ F 10 → F 10 ≤ 2147483647 → F 10 ≠ 4 → HJ 193 0 (lv_args 0 [.ref m]) [] h (fun v h' => HJ 189 59 lv1 (v.toList ++ []) h' Q))
    : HJ 189 42 lv [.int sx0] h Q := by
  refine hM_si (k := 1) rfl (by decide +kernel) rfl (fun lv1 e1_1 u1 => ?_) -- 42
  have e1_0 := u1 0 _ (by decide) (Or.inl rfl) e0
  refine hI_il (k := 1) rfl e1_1 rfl ?_ -- 43
  refine hM_zeq (off := 16) (t := 60) rfl sq0 (by decide) rfl (fun c44 => ?_) (fun c44 => ?_) -- 44
  · refine hI_il (k := 1) rfl e1_1 rfl ?_ -- 60
    refine hM_zeq (off := (-38)) (t := 23) rfl sq0 (by decide) rfl (fun c61 => ?_) (fun c61 => ?_) -- 61
    · exact g0 lv1 e1_0 e1_1 c44
    · exfalso; omega
  · refine hI_al (k := 0) rfl e1_0 rfl ?_ -- 47
    refine hM_gi M (by decide) rfl rfl rfl (k := 10) (c := 9) (lo := (-2147483648)) (hi := 2147483647) rfl rfl rfl rfl rfl (fun x2 q2 a2 b2 => ?_) -- 48
    refine hM_ic (n := 4) rfl (by decide) rfl (fun x3 q3 => ?_) -- 51
    refine hM_ceq (off := 8) (t := 60) rfl q2 q3 (by decide) rfl (fun c52 => ?_) (fun c52 => ?_) -- 52
    · refine hI_il (k := 1) rfl e1_1 rfl ?_ -- 60
      refine hM_zeq (off := (-38)) (t := 23) rfl sq0 (by decide) rfl (fun c61 => ?_) (fun c61 => ?_) -- 61
      · exfalso; omega
      · refine hI_al (k := 0) rfl e1_0 rfl ?_ -- 64
        refine hM_iv M (by decide) rfl rfl (by decide) (as := []) (r := []) rfl rfl (by decide +kernel) rfl (by decide +kernel) rfl rfl rfl rfl rfl ?_ -- 65
        exact g1 lv1 e1_0 e1_1 c44 a2 b2 c52
    · refine hI_al (k := 0) rfl e1_0 rfl ?_ -- 55
      refine hM_iv M (by decide) rfl rfl (by decide) (as := []) (r := []) rfl rfl (by decide +kernel) rfl (by decide +kernel) rfl rfl rfl rfl rfl ?_ -- 56
      exact g2 lv1 e1_0 e1_1 c44 a2 b2 c52
theorem s_mr59 {z : Int} (M : MX 49 W ρ m A h0 h F V G) (e0 : m_lk lv 0 = some (.ref m)) {sx0 : Int32} (sq0 : sx0.toInt = z) 
    (g0 : ∀ lv1 : List (Nat × Value), m_lk lv1 0 = some (.ref m) → m_lk lv1 1 = some (.int sx0) → z = 0 → HJ 189 23 lv1 [] h Q)
    (g1 : ∀ lv1 : List (Nat × Value), m_lk lv1 0 = some (.ref m) → m_lk lv1 1 = some (.int sx0) → z ≠ 0 → HJ 190 0 (lv_args 0 [.ref m]) [] h (fun v h' => HJ 189 68 lv1 (v.toList ++ []) h' Q))
    : HJ 189 59 lv [.int sx0] h Q := by
  refine hM_si (k := 1) rfl (by decide +kernel) rfl (fun lv1 e1_1 u1 => ?_) -- 59
  have e1_0 := u1 0 _ (by decide) (Or.inl rfl) e0
  refine hI_il (k := 1) rfl e1_1 rfl ?_ -- 60
  refine hM_zeq (off := (-38)) (t := 23) rfl sq0 (by decide) rfl (fun c61 => ?_) (fun c61 => ?_) -- 61
  · exact g0 lv1 e1_0 e1_1 c61
  · refine hI_al (k := 0) rfl e1_0 rfl ?_ -- 64
    refine hM_iv M (by decide) rfl rfl (by decide) (as := []) (r := []) rfl rfl (by decide +kernel) rfl (by decide +kernel) rfl rfl rfl rfl rfl ?_ -- 65
    exact g1 lv1 e1_0 e1_1 c61
theorem s_mr68 {f : Int} (M : MX 49 W ρ m A h0 h F V G) (e0 : m_lk lv 0 = some (.ref m)) {lx1 : Int32} (e1 : m_lk lv 1 = some (.int lx1)) (lq1 : lx1.toInt = f) 
    (g0 : HJ 189 23 lv [] h Q)
    : HJ 189 68 lv [] h Q := by
  refine hI_go (pc' := 23) (off := (-45)) rfl (by decide) ?_ -- 68
  exact g0 
theorem s_mr71 {f : Int} (M : MX 49 W ρ m A h0 h F V G) (e0 : m_lk lv 0 = some (.ref m)) {lx1 : Int32} (e1 : m_lk lv 1 = some (.int lx1)) (lq1 : lx1.toInt = f) 
    (g0 : f = 0 → HJ 189 100 lv [] h Q)
    (g1 : f ≠ 0 → (-2147483648) ≤ F 14 → F 14 ≤ 2147483647 → F 14 ≠ 0 → HJ 189 100 lv [] h Q)
    (g2 : f ≠ 0 → (-2147483648) ≤ F 14 → F 14 ≤ 2147483647 → F 14 = 0 → V 16 (0 : Int).toNat ≠ 0 → HJ 189 100 lv [] h Q)
    (g3 : ∀ x4 : Int32, x4.toInt = 4 → ∀ x5 : Int32, x5.toInt = F 9 → f ≠ 0 → (-2147483648) ≤ F 14 → F 14 ≤ 2147483647 → F 14 = 0 → V 16 (0 : Int).toNat = 0 → 0 ≤ F 9 → F 9 ≤ 600 → HJ 194 0 (lv_args 0 [.ref m, .int x4, .int x5]) [] h (fun v h' => HJ 189 100 lv (v.toList ++ []) h' Q))
    : HJ 189 71 lv [] h Q := by
  refine hI_il (k := 1) rfl e1 rfl ?_ -- 71
  refine hM_zeq (off := 28) (t := 100) rfl lq1 (by decide) rfl (fun c72 => ?_) (fun c72 => ?_) -- 72
  · exact g0 c72
  · refine hI_al (k := 0) rfl e0 rfl ?_ -- 75
    refine hM_gi M (by decide) rfl rfl rfl (k := 14) (c := 9) (lo := (-2147483648)) (hi := 2147483647) rfl rfl rfl rfl rfl (fun x1 q1 a1 b1 => ?_) -- 76
    refine hM_zne (off := 21) (t := 100) rfl q1 (by decide) rfl (fun c79 => ?_) (fun c79 => ?_) -- 79
    · exact g1 c72 a1 b1 c79
    · refine hI_al (k := 0) rfl e0 rfl ?_ -- 82
      refine hM_ga M (by decide) rfl rfl (k := 16) (c := 9) rfl rfl rfl (by decide +kernel) rfl ?_ -- 83
      refine hM_ic (n := 0) rfl (by decide) rfl (fun x2 q2 => ?_) -- 86
      refine hM_ia M (by decide) (K := 16) (R2 := 56) (L := 161) (H := 161) (lo := (-2147483648)) (hi := 2147483647) rfl (by decide) rfl rfl (fun _ => rfl) rfl q2 (by omega) (by omega) rfl (fun x3 q3 a3 b3 => ?_) -- 87
      refine hM_zne (off := 12) (t := 100) rfl q3 (by decide) rfl (fun c88 => ?_) (fun c88 => ?_) -- 88
      · exact g2 c72 a1 b1 c79 c88
      · refine hI_al (k := 0) rfl e0 rfl ?_ -- 91
        refine hM_ic (n := 4) rfl (by decide) rfl (fun x4 q4 => ?_) -- 92
        refine hI_al (k := 0) rfl e0 rfl ?_ -- 93
        refine hM_gi M (by decide) rfl rfl rfl (k := 9) (c := 9) (lo := 0) (hi := 600) rfl rfl rfl rfl rfl (fun x5 q5 a5 b5 => ?_) -- 94
        refine hM_iv M (by decide) rfl rfl (by decide) (as := [.int x4, .int x5]) (r := []) rfl rfl (by decide +kernel) rfl (by decide +kernel) rfl rfl rfl rfl rfl ?_ -- 97
        exact g3 x4 q4 x5 q5 c72 a1 b1 c79 c88 a5 b5
theorem s_mr100 {f : Int} (M : MX 49 W ρ m A h0 h F V G) (e0 : m_lk lv 0 = some (.ref m)) {lx1 : Int32} (e1 : m_lk lv 1 = some (.int lx1)) (lq1 : lx1.toInt = f) (hw : d_sub [(52, 1001), (53, 1001)] W = true)
    (g0 : ∀ h3 : MH, ∀ V3 : Nat → Nat → Int, V3 = m_u V 3 (m_u (V 3) (0 : Int).toNat (1)) → ∀ h6 : MH, ∀ V6 : Nat → Nat → Int, V6 = m_u V3 4 (m_u (V3 4) (0 : Int).toNat (F 13)) → ∀ x9 : Int32, x9.toInt = 0 → MX 49 W ρ m A h0 h6 F V6 G → f = 0 → (-2147483648) ≤ F 13 → F 13 ≤ 2147483647 → Q (some (.int x9)) h6)
    (g1 : ∀ h11 : MH, ∀ V11 : Nat → Nat → Int, V11 = m_u V 3 (m_u (V 3) (0 : Int).toNat (F 14)) → ∀ h15 : MH, ∀ V15 : Nat → Nat → Int, V15 = m_u V11 4 (m_u (V11 4) (0 : Int).toNat ((-1))) → ∀ x18 : Int32, x18.toInt = 0 → MX 49 W ρ m A h0 h15 F V15 G → f ≠ 0 → (-2147483648) ≤ F 14 → F 14 ≤ 2147483647 → F 14 ≤ 0 → F 14 ≠ 0 → Q (some (.int x18)) h15)
    (g2 : ∀ h11 : MH, ∀ V11 : Nat → Nat → Int, V11 = m_u V 3 (m_u (V 3) (0 : Int).toNat (F 14)) → ∀ h15 : MH, ∀ V15 : Nat → Nat → Int, V15 = m_u V11 4 (m_u (V11 4) (0 : Int).toNat ((-1))) → ∀ x19 : Int32, x19.toInt = 1 → MX 49 W ρ m A h0 h15 F V15 G → f ≠ 0 → (-2147483648) ≤ F 14 → F 14 ≤ 2147483647 → F 14 ≤ 0 → F 14 = 0 → Q (some (.int x19)) h15)
    (g3 : ∀ h11 : MH, ∀ V11 : Nat → Nat → Int, V11 = m_u V 3 (m_u (V 3) (0 : Int).toNat (F 14)) → ∀ h21 : MH, ∀ V21 : Nat → Nat → Int, V21 = m_u V11 4 (m_u (V11 4) (0 : Int).toNat (F 15)) → ∀ x24 : Int32, x24.toInt = 0 → MX 49 W ρ m A h0 h21 F V21 G → f ≠ 0 → (-2147483648) ≤ F 14 → F 14 ≤ 2147483647 → F 14 > 0 → (-2147483648) ≤ F 15 → F 15 ≤ 2147483647 → F 14 ≠ 0 → Q (some (.int x24)) h21)
    (g4 : ∀ h11 : MH, ∀ V11 : Nat → Nat → Int, V11 = m_u V 3 (m_u (V 3) (0 : Int).toNat (F 14)) → ∀ h21 : MH, ∀ V21 : Nat → Nat → Int, V21 = m_u V11 4 (m_u (V11 4) (0 : Int).toNat (F 15)) → ∀ x25 : Int32, x25.toInt = 1 → MX 49 W ρ m A h0 h21 F V21 G → f ≠ 0 → (-2147483648) ≤ F 14 → F 14 ≤ 2147483647 → F 14 > 0 → (-2147483648) ≤ F 15 → F 15 ≤ 2147483647 → F 14 = 0 → Q (some (.int x25)) h21)
    : HJ 189 100 lv [] h Q := by
  refine hI_al (k := 0) rfl e0 rfl ?_ -- 100
  refine hM_ga M (by decide) rfl rfl (k := 3) (c := 9) rfl rfl rfl (by decide +kernel) rfl ?_ -- 101
  refine hM_ic (n := 0) rfl (by decide) rfl (fun x1 q1 => ?_) -- 104
  refine hI_il (k := 1) rfl e1 rfl ?_ -- 105
  refine hM_zeq (off := 10) (t := 116) rfl lq1 (by decide) rfl (fun c106 => ?_) (fun c106 => ?_) -- 106
  · refine hM_ic (n := 1) rfl (by decide) rfl (fun x2 q2 => ?_) -- 116
    refine hM_is M (by decide) ok_49 (K := 3) (R2 := 52) (L := 4) (H := 4) (lo := (-2147483648)) (hi := 2147483647) rfl (by decide) rfl rfl rfl (fun _ => rfl) (d_subm hw (by decide +kernel)) rfl q1 q2 (by omega) (by omega) (by omega) (by omega) rfl (fun h3 V3 f3 M3 => ?_) -- 117
    refine hI_al (k := 0) rfl e0 rfl ?_ -- 118
    refine hM_ga M3 (by decide) rfl rfl (k := 4) (c := 9) rfl rfl rfl (by decide +kernel) rfl ?_ -- 119
    refine hM_ic (n := 0) rfl (by decide) rfl (fun x4 q4 => ?_) -- 122
    refine hI_il (k := 1) rfl e1 rfl ?_ -- 123
    refine hM_zne (off := 10) (t := 134) rfl lq1 (by decide) rfl (fun c124 => ?_) (fun c124 => ?_) -- 124
    · exfalso; omega
    · refine hI_al (k := 0) rfl e0 rfl ?_ -- 127
      refine hM_gi M3 (by decide) rfl rfl rfl (k := 13) (c := 9) (lo := (-2147483648)) (hi := 2147483647) rfl rfl rfl rfl rfl (fun x5 q5 a5 b5 => ?_) -- 128
      refine hI_go (pc' := 149) (off := 18) rfl (by decide) ?_ -- 131
      refine hM_is M3 (by decide) ok_49 (K := 4) (R2 := 53) (L := 4) (H := 4) (lo := (-2147483648)) (hi := 2147483647) rfl (by decide) rfl rfl rfl (fun _ => rfl) (d_subm hw (by decide +kernel)) rfl q4 q5 (by omega) (by omega) (by omega) (by omega) rfl (fun h6 V6 f6 M6 => ?_) -- 149
      refine hI_al (k := 0) rfl e0 rfl ?_ -- 150
      refine hM_ga M6 (by decide) rfl rfl (k := 3) (c := 9) rfl rfl rfl (by decide +kernel) rfl ?_ -- 151
      refine hM_ic (n := 0) rfl (by decide) rfl (fun x7 q7 => ?_) -- 154
      refine hM_ia M6 (by decide) (K := 3) (R2 := 52) (L := 4) (H := 4) (lo := (-2147483648)) (hi := 2147483647) rfl (by decide) rfl rfl (fun _ => rfl) rfl q7 (by omega) (by omega) rfl (fun x8 q8 a8 b8 => ?_) -- 155
      have w8 : V6 3 (0 : Int).toNat = 1 := by rw [f6, m_uN _ _ _ _ (by decide), f3, m_uE, m_uE]
      rw [w8] at q8 a8 b8 -- 155
      refine hM_zne (off := 7) (t := 163) rfl q8 (by decide) rfl (fun c156 => ?_) (fun c156 => ?_) -- 156
      · refine hM_ic (n := 0) rfl (by decide) rfl (fun x9 q9 => ?_) -- 163
        refine hM_rb rfl rfl q9 (by omega) (by omega) ?_ -- 164
        exact g0 h3 V3 f3 h6 V6 f6 x9 q9 M6 c106 a5 b5
      · exfalso; omega
  · refine hI_al (k := 0) rfl e0 rfl ?_ -- 109
    refine hM_gi M (by decide) rfl rfl rfl (k := 14) (c := 9) (lo := (-2147483648)) (hi := 2147483647) rfl rfl rfl rfl rfl (fun x10 q10 a10 b10 => ?_) -- 110
    refine hI_go (pc' := 117) (off := 4) rfl (by decide) ?_ -- 113
    refine hM_is M (by decide) ok_49 (K := 3) (R2 := 52) (L := 4) (H := 4) (lo := (-2147483648)) (hi := 2147483647) rfl (by decide) rfl rfl rfl (fun _ => rfl) (d_subm hw (by decide +kernel)) rfl q1 q10 (by omega) (by omega) (by omega) (by omega) rfl (fun h11 V11 f11 M11 => ?_) -- 117
    refine hI_al (k := 0) rfl e0 rfl ?_ -- 118
    refine hM_ga M11 (by decide) rfl rfl (k := 4) (c := 9) rfl rfl rfl (by decide +kernel) rfl ?_ -- 119
    refine hM_ic (n := 0) rfl (by decide) rfl (fun x12 q12 => ?_) -- 122
    refine hI_il (k := 1) rfl e1 rfl ?_ -- 123
    refine hM_zne (off := 10) (t := 134) rfl lq1 (by decide) rfl (fun c124 => ?_) (fun c124 => ?_) -- 124
    · refine hI_al (k := 0) rfl e0 rfl ?_ -- 134
      refine hM_gi M11 (by decide) rfl rfl rfl (k := 14) (c := 9) (lo := (-2147483648)) (hi := 2147483647) rfl rfl rfl rfl rfl (fun x13 q13 a13 b13 => ?_) -- 135
      refine hM_zle (off := 10) (t := 148) rfl q13 (by decide) rfl (fun c138 => ?_) (fun c138 => ?_) -- 138
      · refine hM_ic (n := (-1)) rfl (by decide) rfl (fun x14 q14 => ?_) -- 148
        refine hM_is M11 (by decide) ok_49 (K := 4) (R2 := 53) (L := 4) (H := 4) (lo := (-2147483648)) (hi := 2147483647) rfl (by decide) rfl rfl rfl (fun _ => rfl) (d_subm hw (by decide +kernel)) rfl q12 q14 (by omega) (by omega) (by omega) (by omega) rfl (fun h15 V15 f15 M15 => ?_) -- 149
        refine hI_al (k := 0) rfl e0 rfl ?_ -- 150
        refine hM_ga M15 (by decide) rfl rfl (k := 3) (c := 9) rfl rfl rfl (by decide +kernel) rfl ?_ -- 151
        refine hM_ic (n := 0) rfl (by decide) rfl (fun x16 q16 => ?_) -- 154
        refine hM_ia M15 (by decide) (K := 3) (R2 := 52) (L := 4) (H := 4) (lo := (-2147483648)) (hi := 2147483647) rfl (by decide) rfl rfl (fun _ => rfl) rfl q16 (by omega) (by omega) rfl (fun x17 q17 a17 b17 => ?_) -- 155
        have w17 : V15 3 (0 : Int).toNat = F 14 := by rw [f15, m_uN _ _ _ _ (by decide), f11, m_uE, m_uE]
        rw [w17] at q17 a17 b17 -- 155
        refine hM_zne (off := 7) (t := 163) rfl q17 (by decide) rfl (fun c156 => ?_) (fun c156 => ?_) -- 156
        · refine hM_ic (n := 0) rfl (by decide) rfl (fun x18 q18 => ?_) -- 163
          refine hM_rb rfl rfl q18 (by omega) (by omega) ?_ -- 164
          exact g1 h11 V11 f11 h15 V15 f15 x18 q18 M15 c106 a10 b10 c138 c156
        · refine hM_ic (n := 1) rfl (by decide) rfl (fun x19 q19 => ?_) -- 159
          refine hI_go (pc' := 164) (off := 4) rfl (by decide) ?_ -- 160
          refine hM_rb rfl rfl q19 (by omega) (by omega) ?_ -- 164
          exact g2 h11 V11 f11 h15 V15 f15 x19 q19 M15 c106 a10 b10 c138 c156
      · refine hI_al (k := 0) rfl e0 rfl ?_ -- 141
        refine hM_gi M11 (by decide) rfl rfl rfl (k := 15) (c := 9) (lo := (-2147483648)) (hi := 2147483647) rfl rfl rfl rfl rfl (fun x20 q20 a20 b20 => ?_) -- 142
        refine hI_go (pc' := 149) (off := 4) rfl (by decide) ?_ -- 145
        refine hM_is M11 (by decide) ok_49 (K := 4) (R2 := 53) (L := 4) (H := 4) (lo := (-2147483648)) (hi := 2147483647) rfl (by decide) rfl rfl rfl (fun _ => rfl) (d_subm hw (by decide +kernel)) rfl q12 q20 (by omega) (by omega) (by omega) (by omega) rfl (fun h21 V21 f21 M21 => ?_) -- 149
        refine hI_al (k := 0) rfl e0 rfl ?_ -- 150
        refine hM_ga M21 (by decide) rfl rfl (k := 3) (c := 9) rfl rfl rfl (by decide +kernel) rfl ?_ -- 151
        refine hM_ic (n := 0) rfl (by decide) rfl (fun x22 q22 => ?_) -- 154
        refine hM_ia M21 (by decide) (K := 3) (R2 := 52) (L := 4) (H := 4) (lo := (-2147483648)) (hi := 2147483647) rfl (by decide) rfl rfl (fun _ => rfl) rfl q22 (by omega) (by omega) rfl (fun x23 q23 a23 b23 => ?_) -- 155
        have w23 : V21 3 (0 : Int).toNat = F 14 := by rw [f21, m_uN _ _ _ _ (by decide), f11, m_uE, m_uE]
        rw [w23] at q23 a23 b23 -- 155
        refine hM_zne (off := 7) (t := 163) rfl q23 (by decide) rfl (fun c156 => ?_) (fun c156 => ?_) -- 156
        · refine hM_ic (n := 0) rfl (by decide) rfl (fun x24 q24 => ?_) -- 163
          refine hM_rb rfl rfl q24 (by omega) (by omega) ?_ -- 164
          exact g3 h11 V11 f11 h21 V21 f21 x24 q24 M21 c106 a10 b10 c138 a20 b20 c156
        · refine hM_ic (n := 1) rfl (by decide) rfl (fun x25 q25 => ?_) -- 159
          refine hI_go (pc' := 164) (off := 4) rfl (by decide) ?_ -- 160
          refine hM_rb rfl rfl q25 (by omega) (by omega) ?_ -- 164
          exact g4 h11 V11 f11 h21 V21 f21 x25 q25 M21 c106 a10 b10 c138 a20 b20 c156
    · exfalso; omega
def w_mlt : List (Nat × Nat) := [(49, 14), (49, 15)]
def w_ml : List (Nat × Nat) := [(49, 7), (49, 9), (49, 10), (49, 11), (49, 12), (49, 13), (49, 14), (49, 15), (56, 1001)]
-- a fault noted
theorem c_later {w p : Int} {xw xp : Int32} (M : MX 49 W ρ m A h0 h F V G) (hw : d_sub w_mlt W = true) (qw : xw.toInt = w) (qp : xp.toInt = p) (hp : F 14 ≠ 0 → F 15 < p) (g : ∀ (h' : MH) (F' : Nat → Int), MX 49 W ρ m A h0 h' F' V G → h_l h' m 12 = h_l h m 12 → F' 14 = (if F 14 = 0 then w else F 14) → F' 15 = (if F 14 = 0 then p else F 15) → (∀ K, K ≠ 14 → K ≠ 15 → F' K = F K) → Q none h') : HJ 194 0 (lv_args 0 [.ref m, .int xw, .int xp]) [] h Q := by
  refine s_lat (MX.again M w_mlt) rfl rfl qw rfl qp (by decide +kernel) (fun h2 F2 f2 h3 F3 f3 M3 a1 b1 c4 => ?_) (fun h5 F5 f5 h6 F6 f6 M6 a1 b1 c4 a4 b4 c12 => ?_) (fun a1 b1 c4 a4 b4 c12 c20 => ?_) (fun a1 b1 c4 a4 b4 c12 c20 c28 => ?_) (fun h9 F9 f9 h10 F10 f10 M10 a1 b1 c4 a4 b4 c12 c20 c28 => ?_)
  · exact g h3 F3 (M.re M3 hw) (M3.lf (by decide) (by decide +kernel)) (by rw [f3, m_uN _ _ _ _ (by decide), f2, m_uE, if_pos c4]) (by rw [f3, m_uE, if_pos c4]) (fun K k1 k2 => by rw [f3, m_uN _ _ _ _ k2, f2, m_uN _ _ _ _ k1])
  · have := hp c4
    omega
  · exact g h F M rfl (by rw [if_neg c4]) (by rw [if_neg c4]) (fun _ _ _ => rfl)
  · exact g h F M rfl (by rw [if_neg c4]) (by rw [if_neg c4]) (fun _ _ _ => rfl)
  · have := hp c4
    omega
-- the reading's state, as the reference has it: one token ahead
def MMr (W : List (Nat × Nat)) (ρ : Nat → Nat) (m : Nat) (A : Nat → Nat) (h0 : MH) (V0 : Nat → Nat → Int) (G : Nat → Nat → Int64) (n c : Nat) (S : RLS) (h : MH) : Prop := ∃ (F : Nat → Int) (V : Nat → Nat → Int), MX 49 W ρ m A h0 h F V G ∧ (∀ K, K ≠ 16 → V K = V0 K) ∧ tk_ok (V0 1) n (rd_tk (V0 1) n (ls_p S)) F (h_l h m 12) ∧ fl_ok F S ∧ td_ok (V 16) c (ls_g S) (ls_t S) ∧ ls_p S ≤ n
def MBr (W : List (Nat × Nat)) (ρ : Nat → Nat) (m : Nat) (A : Nat → Nat) (h0 : MH) (V0 : Nat → Nat → Int) (G : Nat → Nat → Int64) (s : Int) (h : MH) : Prop := ∃ (F : Nat → Int) (V : Nat → Nat → Int), MX 49 W ρ m A h0 h F V G ∧ (∀ K, K ≠ 16 → V K = V0 K) ∧ F 13 = s ∧ 0 ≤ V 16 0 ∧ V 16 0 ≤ 40
-- the next token, read
theorem c_nexm {V0 : Nat → Nat → Int} {n c p : Nat} {S : RLS} (hw : d_sub w_ml W = true) (M : MX 49 W ρ m A h0 h F V G) (vo : ∀ K, K ≠ 16 → V K = V0 K) (q8 : F 8 = (n : Int)) (q7 : F 7 = (p : Int)) (pS : ls_p S = p) (pn : p ≤ n) (fl : fl_ok F S) (td : td_ok (V 16) c (ls_g S) (ls_t S)) (g : ∀ h' : MH, MMr W ρ m A h0 V0 G n c S h' → Q none h') : HJ 190 0 (lv_args 0 [.ref m]) [] h Q := by
  have v1 := vo 1 (by decide)
  refine c_mtk M (d_subm hw (by decide +kernel)) q8 q7 pn (fun h' F' M' a9 a7 a10 a11 a12 o => g h' ⟨F', V, M', vo, ?_, ⟨?_, fun z => ?_⟩, td, by rw [pS]; exact pn⟩)
  · rw [v1] at a9 a7 a10 a11 a12
    rw [pS]
    exact ⟨by rw [o 8 (by decide) (by decide) (by decide) (by decide)]; exact q8, a7, a9, a10, a11, a12⟩
  · rw [o 14 (by decide) (by decide) (by decide) (by decide)]
    exact fl.1
  · rw [o 15 (by decide) (by decide) (by decide) (by decide)]
    exact fl.2 z
-- a number taken
theorem c_take {V0 : Nat → Nat → Int} {n c i : Nat} {hi : Int} {l : List Int} {S : RLS} {R : Bool × RLS} {xa xh : Int32} (hw : d_sub w_ml W = true) (B : MMr W ρ m A h0 V0 G n c S h) (cg : ls_g S = c + 1) (qa : xa.toInt = (i : Int) + 1) (i3 : i < 3) (qh : xh.toInt = hi) (eR : rd_nums (V0 1) n (hi :: l) i S = R)
    (g1 : ∀ (x : Int32) (h' : MH) (S' : RLS), x.toInt = 1 → MMr W ρ m A h0 V0 G n c S' h' → ls_g S' = c + 1 → rd_nums (V0 1) n l (i + 1) S' = R → Q (some (.int x)) h')
    (g0 : ∀ (x : Int32) (h' : MH), x.toInt = 0 → R.1 = false → MBr W ρ m A h0 V0 G (ls_l R.2) h' → Q (some (.int x)) h') : HJ 195 0 (lv_args 0 [.ref m, .int xa, .int xh]) [] h Q := by
  obtain ⟨F, V, M, vo, ⟨k8, k7, k9, k10, k11, k12⟩, ⟨f14, f15⟩, td, pn⟩ := B
  have tb := rd_tkB (T := V0 1) (n := n) (p := ls_p S) pn
  rw [rd_nums] at eR
  generalize hq : rd_tk (V0 1) n (ls_p S) = q at k8 k7 k9 k10 k11 k12 eR tb
  obtain ⟨⟨t1, t2, t3⟩, t4, t5, t6, t7, t8⟩ := tb
  obtain ⟨n1, n2, n3, n4, n5⟩ := rd_numE (l := hi) (i := i) (q := q) (S := S)
  obtain ⟨u0, u1, u2, u3, u4⟩ := td_0 td
  have rest : rt_t q = 2 → ∀ (h1 : MH) (F1 : Nat → Int), MX 49 W ρ m A h0 h1 F1 V G → (∀ K, K ≠ 14 → K ≠ 15 → F1 K = F K) → fl_ok F1 (rd_num hi i q S) → HJ 195 30 (lv_args 0 [.ref m, .int xa, .int xh]) [] h1 Q := fun c2 h1 F1 M1 o1 fl1 => by
    have go : ∀ (h2 : MH) (V2 : Nat → Nat → Int), MX 49 W ρ m A h0 h2 F1 V2 G → (∀ K, K ≠ 16 → V2 K = V0 K) → td_ok (V2 16) c (ls_g (rd_num hi i q S)) (ls_t (rd_num hi i q S)) → HJ 190 0 (lv_args 0 [.ref m]) [] h2 (fun v h' => HJ 195 66 (lv_args 0 [.ref m, .int xa, .int xh]) (v.toList ++ []) h' Q) := fun h2 V2 M2 vo2 td2 =>
      c_nexm (p := rt_b q) hw M2 vo2 (by rw [o1 8 (by decide) (by decide)]; exact k8) (by rw [o1 7 (by decide) (by decide)]; exact k7) n1 t3 fl1 td2 (fun h' B' => s_ta66 (fun x1 q1 => g1 x1 h' _ q1 B' (n2.trans cg) (by rw [if_pos c2] at eR; exact eR)))
    refine s_ta30 M1 rfl rfl qa rfl qh (by omega) (by omega) u0 u1 (d_subm hw (by decide +kernel)) (fun c38 => ?_) (fun h12 V12 f12 M12 c38 _ _ => ?_)
    · have c38 : V 16 0 ≥ 40 := c38
      refine go h1 V M1 vo ?_
      rw [n2, n3, if_neg (by omega)]
      exact td
    · have c38 : V 16 0 < 40 := c38
      have f12 : V12 = m_u V 16 (m_u (V 16) ((1 + (4 * (V 16 0))) + ((i : Int) + 1)).toNat (F1 11)) := f12
      have ej : ((1 + (4 * (V 16 0))) + ((i : Int) + 1)).toNat = 4 * (ls_g S - 1) + 2 + i := by
        have := u3 (u2.mp c38)
        omega
      rw [ej, o1 11 (by decide) (by decide), k11 c2] at f12
      refine go h12 V12 M12 (fun K hK => by rw [f12, m_uN _ _ _ _ hK]; exact vo K hK) ?_
      rw [n2, n3, if_pos (by omega), f12, m_uE]
      exact td_set td (by omega)
  have sm := (rt_mE (t := rt_t q)).2.2.1
  refine s_ta0 M rfl rfl qa rfl qh (fun _ _ c5 _ _ c18 => ?_) (fun x4 q4 x5 q5 _ _ c5 _ _ c18 _ _ => ?_) (fun _ _ c5 => ?_)
  · have c2 : rt_t q = 2 := sm.mp (k10.symm.trans c5)
    have v := k11 c2
    refine rest c2 h F M (fun _ _ _ => rfl) ⟨by rw [n4, if_neg (fun z => by omega)]; exact f14, fun z => ?_⟩
    rw [n4, if_neg (fun z => by omega)] at z
    obtain ⟨y1, y2⟩ := f15 z
    rw [n5, n1, if_neg (fun z => by omega)]
    exact ⟨y1, by omega⟩
  · have c2 : rt_t q = 2 := sm.mp (k10.symm.trans c5)
    have v := k11 c2
    refine c_later M (d_subm hw (by decide +kernel)) q4 (q5.trans k9) (fun z => ?_) (fun h1 F1 M1 _ a14 a15 o1 => rest c2 h1 F1 M1 o1 ⟨?_, fun z => ?_⟩)
    · rw [f14] at z
      obtain ⟨y1, y2⟩ := f15 z
      omega
    · rw [a14, n4, f14]
      by_cases e : ls_f S = 0
      · rw [if_pos e, if_pos ⟨by omega, e⟩]
      · rw [if_neg e, if_neg (fun z => e z.2)]
    · rw [a15, n5, n1, f14]
      have := t4 (by omega)
      by_cases e : ls_f S = 0
      · rw [if_pos e, if_pos ⟨by omega, e⟩]
        exact ⟨rfl, by omega⟩
      · rw [if_neg e, if_neg (fun z => e z.2)]
        obtain ⟨y1, y2⟩ := f15 e
        exact ⟨y1, by omega⟩
  · have c2 : rt_t q ≠ 2 := fun z => c5 (k10.trans (sm.mpr z))
    rw [if_neg c2] at eR
    refine s_sto M rfl (d_subm hw (by decide +kernel)) (fun h2 F2 f2 x3 q3 M2 _ _ => s_ta12 q3 (by decide) (by decide) (g0 x3 h2 q3 (by rw [← eR]) ⟨F2, V, M2, vo, ?_, u0, u1⟩))
    rw [f2, m_uE, ← eR]
    exact k9
end
end
section
-- A LINE, AS THE REFERENCE READS IT
theorem td_beg {U : Nat → Int} {c g : Nat} {v : Int} {t : Nat → Int} (h : td_ok U c g t) : td_ok (m_u (m_u (m_u (m_u U (4 * g + 1) v) (4 * g + 2) (-1)) (4 * g + 3) (-1)) (4 * g + 4) (-1)) c (g + 1) (rd_bt g v t) := by
  unfold rd_bt
  refine ⟨by rw [m_uN _ _ _ _ (by omega), m_uN _ _ _ _ (by omega), m_uN _ _ _ _ (by omega), m_uN _ _ _ _ (by omega)]; exact h.1, fun k hk kg i hi => ?_⟩
  by_cases e : k = g
  · subst e
    rcases (show i = 0 ∨ i = 1 ∨ i = 2 ∨ i = 3 by omega) with rfl | rfl | rfl | rfl
    · rw [show 4 * k + 1 + 0 = 4 * k + 1 from rfl]
      rw [m_uN _ _ _ _ (by omega), m_uN _ _ _ _ (by omega), m_uN _ _ _ _ (by omega), m_uE, m_uN _ _ _ _ (by omega), m_uN _ _ _ _ (by omega), m_uN _ _ _ _ (by omega), m_uE]
    · rw [show 4 * k + 1 + 1 = 4 * k + 2 from rfl]
      rw [m_uN _ _ _ _ (by omega), m_uN _ _ _ _ (by omega), m_uE, m_uN _ _ _ _ (by omega), m_uN _ _ _ _ (by omega), m_uE]
    · rw [show 4 * k + 1 + 2 = 4 * k + 3 from rfl]
      rw [m_uN _ _ _ _ (by omega), m_uE, m_uN _ _ _ _ (by omega), m_uE]
    · rw [show 4 * k + 1 + 3 = 4 * k + 4 from rfl]
      rw [m_uE, m_uE]
  · rw [m_uN _ _ _ _ (by omega), m_uN _ _ _ _ (by omega), m_uN _ _ _ _ (by omega), m_uN _ _ _ _ (by omega), m_uN _ _ _ _ (by omega), m_uN _ _ _ _ (by omega), m_uN _ _ _ _ (by omega), m_uN _ _ _ _ (by omega)]
    exact h.2 k hk (by omega) i hi
section
variable {lv : List (Nat × Value)} {Q : Option Value → MH → Prop} {W : List (Nat × Nat)} {ρ : Nat → Nat} {m : Nat} {A : Nat → Nat} {h0 h : MH} {F : Nat → Int} {V : Nat → Nat → Int} {G : Nat → Nat → Int64}
theorem c_sto9 {s : Int} (M : MX 49 W ρ m A h0 h F V G) (hw : d_sub w_ml W = true) (k9 : F 9 = s) (g : ∀ (x : Int32) (h' : MH) (F' : Nat → Int), x.toInt = 0 → MX 49 W ρ m A h0 h' F' V G → F' 13 = s → Q (some (.int x)) h') : HJ 193 0 (lv_args 0 [.ref m]) [] h Q :=
  s_sto M rfl (d_subm hw (by decide +kernel)) (fun h2 F2 f2 x3 q3 M2 _ _ => g x3 h2 F2 q3 M2 (by rw [f2, m_uE]; exact k9))
-- what an act begun leaves told
theorem l_mtold {V0 : Nat → Nat → Int} {k : Int} {xk : Int32} (hw : d_sub w_ml W = true) (qk : xk.toInt = k) (c : Nat) (c40 : c < 40) (g : ∀ (lv : List (Nat × Value)) (h' : MH) (V' : Nat → Nat → Int), MX 49 W ρ m A h0 h' F V' G → (∀ K, K ≠ 16 → V' K = V0 K) → V' 16 = m_u (m_u (m_u (m_u (V0 16) (4 * c + 1) k) (4 * c + 2) (-1)) (4 * c + 3) (-1)) (4 * c + 4) (-1) → h_l h' m 12 = h_l h m 12 → m_lk lv 0 = some (.ref m) → m_lk lv 4 = some (.int xk) → HJ 192 179 lv [] h' Q) {x0 : Int32} {lv : List (Nat × Value)} (M : MX 49 W ρ m A h0 h F V0 G) (q0 : x0.toInt = 0) (u0 : V0 16 0 = (c : Int)) (e0 : m_lk lv 0 = some (.ref m)) (e4 : m_lk lv 4 = some (.int xk)) (e5 : m_lk lv 5 = some (.int x0)) : HJ 192 127 lv [] h Q := by
  have stay : ∀ (h1 h2 : MH) (V1 V2 : Nat → Nat → Int), MX 49 W ρ m A h0 h1 F V1 G → MX 49 [(56, 1001)] ρ m A h1 h2 F V2 G → h_l h2 m 12 = h_l h1 m 12 := fun h1 h2 V1 V2 M1 M2 => M2.lf (by decide) (by decide +kernel)
  have b0 : 0 ≤ V0 16 0 ∧ V0 16 0 ≤ 40 := by omega
  refine s_ml127 (MX.again M [(56, 1001)]) e0 e4 qk e5 q0 (by decide) b0.1 b0.2 (by decide +kernel) (fun z => by omega) (fun _ z => by have z : V0 16 0 ≥ 40 := z; omega) (fun _ _ _ _ _ _ _ _ _ _ _ _ z => absurd rfl z) (fun h1 V1 f1 x1 q1 lv1 M1 a0 a4 a5 _ _ _ => ?_)
  have j1 : ((1 + (4 * (V0 16 0))) + (0 : Int)).toNat = 4 * c + 1 := by omega
  have f1 : V1 = m_u V0 16 (m_u (V0 16) ((1 + (4 * (V0 16 0))) + (0 : Int)).toNat k) := f1
  rw [j1] at f1
  have y1 : V1 16 0 = (c : Int) := by rw [f1, m_uE, m_uN _ _ _ _ (by omega)]; exact u0
  have b1 : 0 ≤ V1 16 0 ∧ V1 16 0 ≤ 40 := by omega
  have q1 : x1.toInt = 1 := q1
  have N1 := M.re M1 (d_subm hw (by decide +kernel))
  refine s_ml127 (MX.again N1 [(56, 1001)]) a0 a4 qk a5 q1 (by decide) b1.1 b1.2 (by decide +kernel) (fun z => by omega) (fun _ z => by have z : V1 16 0 ≥ 40 := z; omega) (fun h2 V2 f2 x2 q2 lv2 M2 a0 a4 a5 _ _ _ => ?_) (fun _ _ _ _ _ _ _ _ _ _ _ _ z => by omega)
  have j2 : ((1 + (4 * (V1 16 0))) + (1 : Int)).toNat = 4 * c + 2 := by omega
  have f2 : V2 = m_u V1 16 (m_u (V1 16) ((1 + (4 * (V1 16 0))) + (1 : Int)).toNat (-1)) := f2
  rw [j2] at f2
  have y2 : V2 16 0 = (c : Int) := by rw [f2, m_uE, m_uN _ _ _ _ (by omega)]; exact y1
  have b2 : 0 ≤ V2 16 0 ∧ V2 16 0 ≤ 40 := by omega
  have q2 : x2.toInt = 2 := q2
  have N2 := N1.re M2 (d_subm hw (by decide +kernel))
  refine s_ml127 (MX.again N2 [(56, 1001)]) a0 a4 qk a5 q2 (by decide) b2.1 b2.2 (by decide +kernel) (fun z => by omega) (fun _ z => by have z : V2 16 0 ≥ 40 := z; omega) (fun h3 V3 f3 x3 q3 lv3 M3 a0 a4 a5 _ _ _ => ?_) (fun _ _ _ _ _ _ _ _ _ _ _ _ z => by omega)
  have j3 : ((1 + (4 * (V2 16 0))) + (2 : Int)).toNat = 4 * c + 3 := by omega
  have f3 : V3 = m_u V2 16 (m_u (V2 16) ((1 + (4 * (V2 16 0))) + (2 : Int)).toNat (-1)) := f3
  rw [j3] at f3
  have y3 : V3 16 0 = (c : Int) := by rw [f3, m_uE, m_uN _ _ _ _ (by omega)]; exact y2
  have b3 : 0 ≤ V3 16 0 ∧ V3 16 0 ≤ 40 := by omega
  have q3 : x3.toInt = 3 := q3
  have N3 := N2.re M3 (d_subm hw (by decide +kernel))
  refine s_ml127 (MX.again N3 [(56, 1001)]) a0 a4 qk a5 q3 (by decide) b3.1 b3.2 (by decide +kernel) (fun z => by omega) (fun _ z => by have z : V3 16 0 ≥ 40 := z; omega) (fun h4 V4 f4 x4 q4 lv4 M4 a0 a4 a5 _ _ _ => ?_) (fun _ _ _ _ _ _ _ _ _ _ _ _ z => by omega)
  have j4 : ((1 + (4 * (V3 16 0))) + (3 : Int)).toNat = 4 * c + 4 := by omega
  have f4 : V4 = m_u V3 16 (m_u (V3 16) ((1 + (4 * (V3 16 0))) + (3 : Int)).toNat (-1)) := f4
  rw [j4] at f4
  have y4 : V4 16 0 = (c : Int) := by rw [f4, m_uE, m_uN _ _ _ _ (by omega)]; exact y3
  have b4 : 0 ≤ V4 16 0 ∧ V4 16 0 ≤ 40 := by omega
  have q4 : x4.toInt = 4 := q4
  have N4 := N3.re M4 (d_subm hw (by decide +kernel))
  have el : h_l h4 m 12 = h_l h m 12 := (stay h3 h4 V3 V4 N3 M4).trans ((stay h2 h3 V2 V3 N2 M3).trans ((stay h1 h2 V1 V2 N1 M2).trans (stay h h1 V0 V1 M M1)))
  refine s_ml127 N4 a0 a4 qk a5 q4 (by decide) b4.1 b4.2 (d_subm hw (by decide +kernel)) (fun _ => g lv4 h4 V4 N4 (fun K hK => ?_) ?_ el a0 a4) (fun z _ => by omega) (fun _ _ _ _ _ _ _ _ _ _ z _ _ => by omega) (fun _ _ _ _ _ _ _ _ _ _ z _ _ => by omega)
  · rw [f4, m_uN _ _ _ _ hK, f3, m_uN _ _ _ _ hK, f2, m_uN _ _ _ _ hK, f1, m_uN _ _ _ _ hK]
  · rw [f4, m_uE, f3, m_uE, f2, m_uE, f1, m_uE]
theorem c_mline {V0 : Nat → Nat → Int} {n : Nat} {S : RLS} {xp : Int32} (hw : d_sub w_ml W = true) (B : MMr W ρ m A h0 V0 G n (ls_g S) S h) (qp : xp.toInt = (rt_s (rd_tk (V0 1) n (ls_p S)) : Int)) (ne : rt_t (rd_tk (V0 1) n (ls_p S)) ≠ 0)
    (g1 : (rt_t (rd_tk (V0 1) n (ls_p S)) = 1 ∧ 0 ≤ rt_v (rd_tk (V0 1) n (ls_p S))) → (rd_nums (V0 1) n (rd_lim (rt_v (rd_tk (V0 1) n (ls_p S)))) 0 (rd_beg (rd_tk (V0 1) n (ls_p S)) S)).1 = true → ∀ (x : Int32) (h' : MH), x.toInt = 1 → MMr W ρ m A h0 V0 G n (ls_g (rd_nums (V0 1) n (rd_lim (rt_v (rd_tk (V0 1) n (ls_p S)))) 0 (rd_beg (rd_tk (V0 1) n (ls_p S)) S)).2) (rd_nums (V0 1) n (rd_lim (rt_v (rd_tk (V0 1) n (ls_p S)))) 0 (rd_beg (rd_tk (V0 1) n (ls_p S)) S)).2 h' → Q (some (.int x)) h')
    (g0 : ∀ (x : Int32) (h' : MH) (s : Int), x.toInt = 0 → (¬ (rt_t (rd_tk (V0 1) n (ls_p S)) = 1 ∧ 0 ≤ rt_v (rd_tk (V0 1) n (ls_p S))) ∧ s = (rt_s (rd_tk (V0 1) n (ls_p S)) : Int)) ∨ ((rt_t (rd_tk (V0 1) n (ls_p S)) = 1 ∧ 0 ≤ rt_v (rd_tk (V0 1) n (ls_p S))) ∧ (rd_nums (V0 1) n (rd_lim (rt_v (rd_tk (V0 1) n (ls_p S)))) 0 (rd_beg (rd_tk (V0 1) n (ls_p S)) S)).1 = false ∧ s = ls_l (rd_nums (V0 1) n (rd_lim (rt_v (rd_tk (V0 1) n (ls_p S)))) 0 (rd_beg (rd_tk (V0 1) n (ls_p S)) S)).2) → MBr W ρ m A h0 V0 G s h' → Q (some (.int x)) h') : HJ 192 0 (lv_args 0 [.ref m, .int xp]) [] h Q := by
  obtain ⟨F, V, M, vo, ⟨k8, k7, k9, k10, k11, k12⟩, ⟨f14, f15⟩, td, pn⟩ := B
  have tb := rd_tkB (T := V0 1) (n := n) (p := ls_p S) pn
  generalize hq : rd_tk (V0 1) n (ls_p S) = q at k8 k7 k9 k10 k11 k12 g1 g0 qp ne tb
  obtain ⟨⟨t1, t2, t3⟩, t4, t5, t6, t7, t8⟩ := tb
  obtain ⟨u0, u1, u2, u3, u4⟩ := td_0 td
  obtain ⟨n1, n2, n3, n4, n5⟩ := rd_begE (q := q) (S := S)
  have sm := (rt_mE (t := rt_t q)).2.1
  -- behind the kind
  have kind : ∀ (lv : List (Nat × Value)) (xk : Int32), xk.toInt = (if rt_t q = 1 then rt_v q else -1) → m_lk lv 0 = some (.ref m) → m_lk lv 1 = some (.int xp) → m_lk lv 4 = some (.int xk) → HJ 192 92 lv [] h Q := fun lv xk qk e0 e1 e4 => by
    refine s_ml92 M e0 e1 qp e4 rfl (fun c95 => ?_) (fun c95 => ?_)
    · have ok : rt_t q = 1 ∧ 0 ≤ rt_v q := by
        by_cases e : rt_t q = 1
        · rw [if_pos e] at qk
          have := t7 e
          exact ⟨e, by omega⟩
        · rw [if_neg e] at qk
          exact absurd qk c95
      rw [if_pos ok.1] at qk
      have b7 := t7 ok.1
      have s4 := t4 ne
      generalize hR : rd_nums (V0 1) n (rd_lim (rt_v q)) 0 (rd_beg q S) = R at g1 g0
      -- the ends
      have fin0 : ∀ (lv : List (Nat × Value)) (h' : MH) (xf : Int32), R.1 = false → MBr W ρ m A h0 V0 G (ls_l R.2) h' → xf.toInt = 0 → m_lk lv 0 = some (.ref m) → m_lk lv 5 = some (.int xf) → HJ 192 268 lv [] h' Q := fun lv h' xf hf ⟨F', V', M', vo', f13, y0, y1⟩ qf e0 e5 => by
        refine s_ml268 M' e0 e5 qf (by decide) (by decide) y0 y1 (d_subm hw (by decide +kernel)) (fun h5 V5 f5 M5 _ => g0 xf h5 _ qf (Or.inr ⟨ok, hf, rfl⟩) ⟨F', V5, M5, fun K hK => by rw [f5, m_uN _ _ _ _ hK]; exact vo' K hK, f13, ?_, ?_⟩) (fun _ _ _ _ z => absurd rfl z) (fun _ _ _ _ z => absurd rfl z)
        · rw [f5, m_uE, show (0 : Int).toNat = 0 from rfl, m_uE]
          omega
        · rw [f5, m_uE, show (0 : Int).toNat = 0 from rfl, m_uE]
          omega
      have fin1 : ∀ (lv : List (Nat × Value)) (h' : MH) (S' : RLS) (xf : Int32), (true, S') = R → MMr W ρ m A h0 V0 G n (ls_g S) S' h' → ls_g S' = ls_g S + 1 → xf.toInt = 1 → m_lk lv 0 = some (.ref m) → m_lk lv 5 = some (.int xf) → HJ 192 268 lv [] h' Q := fun lv h' S' xf eR ⟨F', V', M', vo', tk', fl', td', pn'⟩ gS qf e0 e5 => by
        rw [← eR] at g1
        obtain ⟨y0, y1, y2, y3, y4⟩ := td_0 td'
        have up : ∀ v : Int, v = (((if ls_g S' ≤ 40 then ls_g S' else 40) : Nat) : Int) → td_ok (m_u (V' 16) 0 v) (ls_g S') (ls_g S') (ls_t S') := fun v hv => ⟨by rw [m_uE]; exact hv, fun k hk kg i hi => by rw [m_uN _ _ _ _ (by omega)]; exact td'.2 k hk kg i hi⟩
        have hl : ∀ (h1 : MH) (V1 : Nat → Nat → Int), MX 49 [(56, 1001)] ρ m A h' h1 F' V1 G → h_l h1 m 12 = h_l h' m 12 := fun h1 V1 M1 => M1.lf (by decide) (by decide +kernel)
        refine s_ml268 (MX.again M' [(56, 1001)]) e0 e5 qf (by decide) (by decide) y0 y1 (by decide +kernel) (fun _ _ _ _ z => absurd z (by decide)) (fun h5 V5 f5 M5 _ z => ?_) (fun h5 V5 f5 M5 _ z => ?_)
        · have z : V' 16 0 ≥ 40 := z
          have f5 : V5 = m_u V' 16 (m_u (V' 16) 0 (V' 16 0 + 0)) := f5
          refine g1 ok rfl xf h5 qf ⟨F', V5, M'.re M5 (d_subm hw (by decide +kernel)), fun K hK => by rw [f5, m_uN _ _ _ _ hK]; exact vo' K hK, by rw [hl h5 V5 M5]; exact tk', fl', ?_, pn'⟩
          rw [f5, m_uE]
          refine up _ ?_
          show _ = (((if ls_g S' ≤ 40 then ls_g S' else 40) : Nat) : Int)
          split <;> omega
        · have z : V' 16 0 < 40 := z
          have f5 : V5 = m_u V' 16 (m_u (V' 16) 0 (V' 16 0 + 1)) := f5
          refine g1 ok rfl xf h5 qf ⟨F', V5, M'.re M5 (d_subm hw (by decide +kernel)), fun K hK => by rw [f5, m_uN _ _ _ _ hK]; exact vo' K hK, by rw [hl h5 V5 M5]; exact tk', fl', ?_, pn'⟩
          rw [f5, m_uE]
          have := y3 (y2.mp z)
          refine up _ ?_
          show _ = (((if ls_g S' ≤ 40 then ls_g S' else 40) : Nat) : Int)
          split <;> omega
      -- the numbers
      have nums : ∀ (lv : List (Nat × Value)) (h' : MH), MMr W ρ m A h0 V0 G n (ls_g S) (rd_beg q S) h' → m_lk lv 0 = some (.ref m) → m_lk lv 4 = some (.int xk) → HJ 192 179 lv [] h' Q := fun lv h' B e0 e4 => by
        obtain ⟨F', V', M', -⟩ := id B
        have third : ∀ (lv : List (Nat × Value)) (h' : MH) (S' : RLS) (x : Int32), x.toInt = 1 → MMr W ρ m A h0 V0 G n (ls_g S) S' h' → ls_g S' = ls_g S + 1 → rd_nums (V0 1) n ((rd_lim (rt_v q)).drop 2) 2 S' = R → (rt_v q = 3 → (true, S') = R) → (rt_v q = 0 → (true, S') = R) → m_lk lv 0 = some (.ref m) → m_lk lv 4 = some (.int xk) → m_lk lv 5 = some (.int x) → HJ 192 248 lv [] h' Q := fun lv h' S' x qx B gS eR e3 e9 e0 e4 e5 => by
          obtain ⟨F', V', M', -⟩ := id B
          refine s_ml248 M' e0 e4 qk e5 qx (fun z => absurd z (by decide)) (fun _ z => ?_) (fun x2 q2 x3 q3 _ z => ?_)
          · refine fin1 lv h' S' x ?_ B gS qx e0 e5
            rcases (show rt_v q = 0 ∨ rt_v q = 1 ∨ rt_v q = 2 ∨ rt_v q = 3 ∨ rt_v q = 5 by omega) with v | v | v | v | v
            · exact e9 v
            · rw [v] at eR
              exact eR
            · rw [v] at eR
              exact eR
            · exact e3 v
            · rw [v] at eR
              exact eR
          · rw [z] at eR
            exact c_take (i := 2) (hi := 99) (l := []) hw B gS q2 (by decide) q3 eR (fun y h5 S5 qy B5 g5 eR5 => by
              obtain ⟨F5, V5, M5, -⟩ := id B5
              exact s_ml266 M5 e0 e4 qk qy (fun lv1 d0 d4 d5 => fin1 lv1 h5 S5 y eR5 B5 g5 qy d0 d5)) (fun y h5 qy hf B5 => by
              obtain ⟨F5, V5, M5, -⟩ := id B5
              exact s_ml266 M5 e0 e4 qk qy (fun lv1 d0 d4 d5 => fin0 lv1 h5 y hf B5 qy d0 d5))
        have bad : ∀ (lv : List (Nat × Value)) (h' : MH) (x : Int32), x.toInt = 0 → R.1 = false → MBr W ρ m A h0 V0 G (ls_l R.2) h' → m_lk lv 0 = some (.ref m) → m_lk lv 4 = some (.int xk) → m_lk lv 5 = some (.int x) → HJ 192 248 lv [] h' Q := fun lv h' x qx hf B e0 e4 e5 => by
          obtain ⟨F', V', M', -⟩ := id B
          exact s_ml248 M' e0 e4 qk e5 qx (fun _ => fin0 lv h' x hf B qx e0 e5) (fun z _ => absurd rfl z) (fun _ _ _ _ z _ => absurd rfl z)
        have two : ∀ (hi : Int) (lv : List (Nat × Value)) (h' : MH) (S' : RLS) (x2 x5 : Int32), x2.toInt = 2 → x5.toInt = hi → rd_nums (V0 1) n (hi :: (rd_lim (rt_v q)).drop 2) 1 S' = R → rt_v q ≠ 3 → rt_v q ≠ 0 → MMr W ρ m A h0 V0 G n (ls_g S) S' h' → ls_g S' = ls_g S + 1 → m_lk lv 0 = some (.ref m) → m_lk lv 4 = some (.int xk) → HJ 195 0 (lv_args 0 [.ref m, .int x2, .int x5]) [] h' (fun v h' => HJ 192 246 lv (v.toList ++ []) h' Q) := fun hi lv h' S' x2 x5 q2 q5 eR v3 v0 B gS e0 e4 =>
          c_take (i := 1) hw B gS q2 (by decide) q5 eR (fun y h5 S5 qy B5 g5 eR5 => by
            obtain ⟨F5, V5, M5, -⟩ := id B5
            exact s_ml246 M5 e0 e4 qk qy (fun lv1 d0 d4 d5 => third lv1 h5 S5 y qy B5 g5 eR5 (fun z => absurd z v3) (fun z => absurd z v0) d0 d4 d5)) (fun y h5 qy hf B5 => by
            obtain ⟨F5, V5, M5, -⟩ := id B5
            exact s_ml246 M5 e0 e4 qk qy (fun lv1 d0 d4 d5 => bad lv1 h5 y qy hf B5 d0 d4 d5))
        have second : ∀ (lv : List (Nat × Value)) (h' : MH) (S' : RLS) (x : Int32), x.toInt = 1 → rt_v q ≠ 0 → MMr W ρ m A h0 V0 G n (ls_g S) S' h' → ls_g S' = ls_g S + 1 → rd_nums (V0 1) n ((rd_lim (rt_v q)).drop 1) 1 S' = R → m_lk lv 0 = some (.ref m) → m_lk lv 4 = some (.int xk) → m_lk lv 5 = some (.int x) → HJ 192 201 lv [] h' Q := fun lv h' S' x qx v0 B gS eR e0 e4 e5 => by
          obtain ⟨F', V', M', -⟩ := id B
          refine s_ml201 M' e0 e4 qk e5 qx (fun z => absurd z (by decide)) (fun _ z => absurd z v0) (fun _ _ z => ?_) (fun x2 q2 x5 q5 _ _ z3 z2 z4 => ?_) (fun x2 q2 x5 q5 _ _ z3 z2 z4 => ?_) (fun x2 q2 x5 q5 _ _ z3 z2 => ?_)
          · have eR3 : (true, S') = R := by
              rw [z] at eR
              exact eR
            refine third lv h' S' x qx B gS ?_ (fun _ => eR3) (fun y => absurd y v0) e0 e4 e5
            rw [z]
            exact eR3
          · refine two 99 lv h' S' x2 x5 q2 q5 ?_ z3 v0 B gS e0 e4
            rcases (show rt_v q = 1 ∨ rt_v q = 5 by omega) with v | v
            · rw [v] at eR ⊢
              exact eR
            · rw [v] at eR ⊢
              exact eR
          · refine two 39 lv h' S' x2 x5 q2 q5 ?_ z3 v0 B gS e0 e4
            rw [z4] at eR ⊢
            exact eR
          · refine two 40 lv h' S' x2 x5 q2 q5 ?_ z3 v0 B gS e0 e4
            rw [z2] at eR ⊢
            exact eR
        refine s_ml179 M' e0 e4 qk (fun x1 q1 lv2 d0 d4 d5 z => ?_) (fun x3 q3 x4 q4 z => ?_)
        · have eR9 : (true, rd_beg q S) = R := by
            rw [z] at hR
            exact hR
          refine s_ml201 M' d0 d4 qk d5 q1 (fun z => absurd z (by decide)) (fun _ _ => third lv2 h' (rd_beg q S) x1 q1 B n2 ?_ (fun y => by omega) (fun _ => eR9) d0 d4 d5) (fun _ y _ => absurd z y) (fun _ _ _ _ _ y _ _ _ => absurd z y) (fun _ _ _ _ _ y _ _ _ => absurd z y) (fun _ _ _ _ _ y _ _ => absurd z y)
          rw [z]
          exact eR9
        · have eR1 : rd_nums (V0 1) n (40 :: (rd_lim (rt_v q)).drop 1) 0 (rd_beg q S) = R := by
            rw [← hR]
            rcases (show rt_v q = 1 ∨ rt_v q = 2 ∨ rt_v q = 3 ∨ rt_v q = 4 ∨ rt_v q = 5 by omega) with v | v | v | v | v <;> (rw [v]; rfl)
          exact c_take (i := 0) (hi := 40) hw B n2 q3 (by decide) q4 eR1 (fun y h5 S5 qy B5 g5 eR5 => by
            obtain ⟨F5, V5, M5, -⟩ := id B5
            exact s_ml191 M5 e0 e4 qk qy (fun _ _ _ _ _ _ y => absurd y (by decide)) (fun x5 q5 lv4 d0 d4 d5 _ => second lv4 h5 S5 x5 q5 z B5 g5 eR5 d0 d4 d5)) (fun y h5 qy hf B5 => by
            obtain ⟨F5, V5, M5, -⟩ := id B5
            exact s_ml191 M5 e0 e4 qk qy (fun x5 q5 lv4 d0 d4 d5 _ => s_ml201 M5 d0 d4 qk d5 q5 (fun _ => bad lv4 h5 x5 q5 hf B5 d0 d4 d5) (fun y => absurd rfl y) (fun y => absurd rfl y) (fun _ _ _ _ y => absurd rfl y) (fun _ _ _ _ y => absurd rfl y) (fun _ _ _ _ y => absurd rfl y)) (fun _ _ _ _ _ _ y => absurd rfl y))
      -- the act begun
      have beg : ∀ (h1 : MH) (F1 : Nat → Int), MX 49 W ρ m A h0 h1 F1 V G → (∀ K, K ≠ 14 → K ≠ 15 → F1 K = F K) → fl_ok F1 (rd_beg q S) → HJ 192 120 lv [] h1 Q := fun h1 F1 M1 o1 fl1 => by
        have b8 : F1 8 = (n : Int) := by rw [o1 8 (by decide) (by decide)]; exact k8
        have b7' : F1 7 = (rt_b q : Int) := by rw [o1 7 (by decide) (by decide)]; exact k7
        -- the token first (the reader's state at the old row), then the row
        refine s_ml120 M1 e0 e4 qk ?_
        refine c_mtk M1 (d_subm hw (by decide +kernel)) b8 b7' t3 (fun h2 F2 M2 a9 a7 a10 a11 a12 o2 => ?_)
        rw [vo 1 (by decide)] at a9 a7 a10 a11 a12
        have tk2 : tk_ok (V0 1) n (rd_tk (V0 1) n (ls_p (rd_beg q S))) F2 (h_l h2 m 12) := by
          rw [n1]
          exact ⟨by rw [o2 8 (by decide) (by decide) (by decide) (by decide)]; exact b8, a7, a9, a10, a11, a12⟩
        have fl2 : fl_ok F2 (rd_beg q S) := ⟨by rw [o2 14 (by decide) (by decide) (by decide) (by decide)]; exact fl1.1, fun z => by rw [o2 15 (by decide) (by decide) (by decide) (by decide)]; exact fl1.2 z⟩
        refine s_ml124 M2 e0 e4 qk (fun x1 q1 lv2 d0 d4 d5 => ?_)
        by_cases c40 : ls_g S < 40
        · refine l_mtold hw rfl (ls_g S) c40 (fun lv3 h3 V3 M3 vo3 v16 el i0 i4 => nums lv3 h3 ⟨F2, V3, M3, fun K hK => by rw [vo3 K hK]; exact vo K hK, by rw [el]; exact tk2, fl2, ?_, by rw [n1]; exact t3⟩ i0 i4) M2 q1 (u3 c40) d0 d4 d5
          rw [n2, n3, if_neg (by omega), v16, qk]
          exact td_beg td
        · have c4 : V 16 0 = 40 := u4 (by omega)
          refine s_ml127 M2 d0 d4 rfl d5 q1 (by decide) u0 u1 (d_subm hw (by decide +kernel)) (fun z => by omega) (fun _ _ => nums lv2 h2 ⟨F2, V, M2, vo, tk2, fl2, ?_, by rw [n1]; exact t3⟩ d0 d4) (fun _ _ _ _ _ _ _ _ _ _ _ z _ => by have z : V 16 0 < 40 := z; omega) (fun _ _ _ _ _ _ _ _ _ _ _ z _ => by have z : V 16 0 < 40 := z; omega)
          rw [n2, n3, if_pos (by omega)]
          exact ⟨td.1, fun k hk kg i hi => td.2 k hk (by omega) i hi⟩
      refine s_ml103 M e0 e1 qp e4 qk (fun c => ?_) (fun x4 q4 c => ?_)
      · have c : V 16 0 ≠ 40 := c
        have g40 : ls_g S < 40 := u2.mp (by omega)
        refine beg h F M (fun _ _ _ => rfl) ⟨by rw [n4, if_neg (fun z => by omega)]; exact f14, fun z => ?_⟩
        rw [n4, if_neg (fun z => by omega)] at z
        obtain ⟨y1, y2⟩ := f15 z
        rw [n5, n1, if_neg (fun z => by omega)]
        exact ⟨y1, by omega⟩
      · have c : V 16 0 = 40 := c
        have g40 : 40 ≤ ls_g S := by
          by_cases e : ls_g S < 40
          · have := u3 e
            omega
          · omega
        refine c_later M (d_subm hw (by decide +kernel)) q4 qp (fun z => ?_) (fun h1 F1 M1 _ a14 a15 o1 => beg h1 F1 M1 o1 ⟨?_, fun z => ?_⟩)
        · rw [f14] at z
          obtain ⟨y1, y2⟩ := f15 z
          omega
        · rw [a14, n4, f14]
          by_cases e : ls_f S = 0
          · rw [if_pos e, if_pos ⟨g40, e⟩]
          · rw [if_neg e, if_neg (fun z => e z.2)]
        · rw [a15, n5, n1, f14]
          by_cases e : ls_f S = 0
          · rw [if_pos e, if_pos ⟨g40, e⟩]
            exact ⟨rfl, by omega⟩
          · rw [if_neg e, if_neg (fun z => e z.2)]
            obtain ⟨y1, y2⟩ := f15 e
            exact ⟨y1, by omega⟩
    · have no : ¬ (rt_t q = 1 ∧ 0 ≤ rt_v q) := fun z => by
        rw [if_pos z.1] at qk
        omega
      exact c_sto9 M hw k9 (fun x3 h2 F2 q3 M2 f13 => s_ml102 q3 (by decide) (by decide) (g0 x3 h2 _ q3 (Or.inl ⟨no, rfl⟩) ⟨F2, V, M2, vo, f13, u0, u1⟩))
  refine s_ml0 M rfl rfl qp rfl (fun lv3 e0 e1 e2 _ _ c5 => ?_) (fun lv4 e0 e1 e2 _ _ c5 => ?_)
  · have no : rt_t q ≠ 1 := fun z => c5 (k10.trans (sm.mpr z))
    have nz : ∀ k : Nat, k < 6 → (lg_cmp (Int64.ofNat (0 : Fin 2).val) (Int64.ofNat (rd_W k))).toInt = 0 → False := fun k hk z => by
      have bk := rd_WB (k := k)
      exact rd_W0 hk ((l_ofN (by decide) (by omega)).mp (lg_0.mp z)).symm
    refine s_ml17 M e0 e1 qp e2 (fun x q lv a0 a1 a4 _ _ _ _ _ _ => kind lv x (by rw [if_neg no]; exact q) a0 a1 a4) (fun _ _ _ _ _ _ _ _ _ _ _ z => (nz 5 (by decide) z).elim) (fun _ _ _ _ _ _ _ _ _ _ z => (nz 4 (by decide) z).elim) (fun _ _ _ _ _ _ _ _ _ z => (nz 3 (by decide) z).elim) (fun _ _ _ _ _ _ _ _ z => (nz 2 (by decide) z).elim) (fun _ _ _ _ _ _ _ z => (nz 1 (by decide) z).elim) (fun _ _ _ _ _ _ z => (nz 0 (by decide) z).elim)
  · have is : rt_t q = 1 := sm.mp (k10.symm.trans c5)
    have w := k12 is
    have kd := (t7 is).2.2
    have hit : ∀ (k : Nat) (x : Int32), k < 6 → (lg_cmp (h_l h m 12) (Int64.ofNat (rd_W k))).toInt = 0 → x.toInt = (k : Int) → x.toInt = (if rt_t q = 1 then rt_v q else -1) := fun k x hk z qx => by
      rw [if_pos is, kd, wd_kd w hk (lg_0.mp z)]
      exact qx
    refine s_ml17 M e0 e1 qp e2 (fun x q lv a0 a1 a4 z0 z1 z2 z3 z4 z5 => kind lv x ?_ a0 a1 a4) (fun x q lv a0 a1 a4 _ _ _ _ _ z => kind lv x (hit 5 x (by decide) z q) a0 a1 a4) (fun x q lv a0 a1 a4 _ _ _ _ z => kind lv x (hit 4 x (by decide) z q) a0 a1 a4) (fun x q lv a0 a1 a4 _ _ _ z => kind lv x (hit 3 x (by decide) z q) a0 a1 a4) (fun x q lv a0 a1 a4 _ _ z => kind lv x (hit 2 x (by decide) z q) a0 a1 a4) (fun x q lv a0 a1 a4 _ z => kind lv x (hit 1 x (by decide) z q) a0 a1 a4) (fun x q lv a0 a1 a4 z => kind lv x (hit 0 x (by decide) z q) a0 a1 a4)
    rw [if_pos is, kd, wd_kn w (fun k hk e => ?_)]
    · exact q
    · rcases (show k = 0 ∨ k = 1 ∨ k = 2 ∨ k = 3 ∨ k = 4 ∨ k = 5 by omega) with rfl | rfl | rfl | rfl | rfl | rfl
      · exact z0 (lg_0.mpr e)
      · exact z1 (lg_0.mpr e)
      · exact z2 (lg_0.mpr e)
      · exact z3 (lg_0.mpr e)
      · exact z4 (lg_0.mpr e)
      · exact z5 (lg_0.mpr e)
end
end
section
-- A TEXT, AS THE REFERENCE READS IT
-- what a reading keeps of its state
def ls_ok (S : RLS) : Prop := (ls_f S = 0 → ls_l S = -1 ∧ ls_g S ≤ 40) ∧ 0 ≤ ls_f S
theorem ls_okB {s : Nat} {S : RLS} : ls_ok (ls_bad s S) := ⟨fun z => absurd (show (1 : Int) = 0 from z) (by decide), by show (0 : Int) ≤ 1; decide⟩
theorem ls_okA {p : Nat} {S : RLS} (h : ls_ok S) : ls_ok (ls_at p S) := h
theorem ls_okN {l : Int} {i : Nat} {q : Nat × (Nat × (Int × Int))} {S : RLS} (h : ls_ok S) : ls_ok (rd_num l i q S) := by
  obtain ⟨-, n2, -, n4, n5⟩ := rd_numE (l := l) (i := i) (q := q) (S := S)
  unfold ls_ok
  rw [n2, n4, n5]
  by_cases c : l < rt_v q ∧ ls_f S = 0
  · rw [if_pos c, if_pos c]
    exact ⟨fun z => absurd z (by decide), by decide⟩
  · rw [if_neg c, if_neg c]
    exact h
theorem ls_okG {q : Nat × (Nat × (Int × Int))} {S : RLS} (h : ls_ok S) : ls_ok (rd_beg q S) := by
  obtain ⟨-, n2, -, n4, n5⟩ := rd_begE (q := q) (S := S)
  unfold ls_ok
  rw [n2, n4, n5]
  by_cases c : 40 ≤ ls_g S ∧ ls_f S = 0
  · rw [if_pos c, if_pos c]
    exact ⟨fun z => absurd z (by decide), by decide⟩
  · rw [if_neg c, if_neg c]
    refine ⟨fun z => ⟨(h.1 z).1, ?_⟩, h.2⟩
    have : ¬ 40 ≤ ls_g S := fun y => c ⟨y, z⟩
    omega
theorem ls_okS {T : Nat → Int} {n : Nat} : ∀ (l : List Int) (i : Nat) (S : RLS), ls_ok S → ls_ok (rd_nums T n l i S).2 ∧ ((rd_nums T n l i S).1 = false → ls_f (rd_nums T n l i S).2 = 1)
  | [], _, S, h => ⟨h, fun z => absurd (show true = false from z) (by decide)⟩
  | x :: r, i, S, h => by
    rw [rd_nums]
    split
    · exact ls_okS r (i + 1) _ (ls_okN h)
    · exact ⟨ls_okB, fun _ => rfl⟩
theorem ls_okL {T : Nat → Int} {n : Nat} {S : RLS} (h : ls_ok S) : ls_ok (rd_line T n S).2 ∧ ((rd_line T n S).1 = 1 → ls_f (rd_line T n S).2 = 1) := by
  unfold rd_line
  split
  · exact ⟨h, fun z => absurd (show (0 : Nat) = 1 from z) (by decide)⟩
  · split
    · have k := ls_okS (T := T) (n := n) (rd_lim (rt_v (rd_tk T n (ls_p S)))) 0 (rd_beg (rd_tk T n (ls_p S)) S) (ls_okG h)
      split
      · unfold rd_mark
        split
        · exact ⟨k.1, fun z => absurd (show (2 : Nat) = 1 from z) (by decide)⟩
        · exact ⟨ls_okB, fun _ => rfl⟩
      · next hf => exact ⟨k.1, fun _ => k.2 (by simpa using hf)⟩
    · exact ⟨ls_okB, fun _ => rfl⟩
theorem ls_okR {T : Nat → Int} {n : Nat} : ∀ (d : Nat) (S : RLS), ls_ok S → ls_ok (rd_run T n d S).2 ∧ ((rd_run T n d S).1 = false → ls_f (rd_run T n d S).2 = 1)
  | 0, S, h => ⟨h, fun z => absurd (show true = false from z) (by decide)⟩
  | d + 1, S, h => by
    have k := ls_okL (T := T) (n := n) h
    rw [rd_run]
    split
    · exact ⟨k.1, fun z => absurd (show true = false from z) (by decide)⟩
    · split
      · next h1 => exact ⟨k.1, fun _ => k.2 h1⟩
      · exact ls_okR d _ k.1
theorem ls_okF {n : Nat} {S : RLS} (h : ls_ok S) : ls_ok (rd_fin n S) := by
  unfold rd_fin
  split
  · unfold ls_note
    split
    · exact ⟨fun z => absurd (show (4 : Int) = 0 from z) (by decide), by show (0 : Int) ≤ 4; decide⟩
    · exact h
  · exact h
def rd_S0 : RLS := (0, (0, (0, (-1, fun _ => 0))))
def rd_tx (T : Nat → Int) (n : Nat) : RLS := rd_all T n (fun _ => 0)
theorem rd_txE {T : Nat → Int} {n : Nat} : rd_tx T n = rd_fin n (rd_run T n 601 rd_S0).2 := rfl
theorem ls_okT {T : Nat → Int} {n : Nat} : ls_ok (rd_tx T n) := by
  rw [rd_txE]
  exact ls_okF (ls_okR 601 rd_S0 ⟨fun _ => ⟨rfl, by decide⟩, by decide⟩).1
section
variable {lv : List (Nat × Value)} {Q : Option Value → MH → Prop} {W : List (Nat × Nat)} {ρ : Nat → Nat} {m : Nat} {A : Nat → Nat} {h0 h : MH} {F : Nat → Int} {V : Nat → Nat → Int} {G : Nat → Nat → Int64}
theorem c_isRx {r : Int} {xr : Int32} (M : MX 49 W ρ m A h0 h F V G) (hr : xr.toInt = r) (g : ∀ z : Int32, (z.toInt = 1 ∧ 0 ≤ r ∧ r < V 5 0) ∨ (z.toInt = 0 ∧ (r < 0 ∨ V 5 0 ≤ r)) → Q (some (.int z)) h) : HJ 188 0 (lv_args 0 [.ref m, .int xr]) [] h Q := by
  refine s_isr0 M rfl rfl hr (fun x1 q1 x4 q4 a2 b2 => c_in M hr q1 q4 (fun z hz => ?_))
  have hz : (z.toInt = 1 ∧ 0 ≤ r ∧ r ≤ V 5 0 - 1) ∨ (z.toInt = 0 ∧ (r < 0 ∨ V 5 0 - 1 < r)) := hz
  exact s_isr13 (z := z.toInt) M rfl (by omega) (by omega) (g z (by omega))
-- the lines, one behind the other
theorem l_mrd {V0 : Nat → Nat → Int} {n : Nat} {R : Bool × RLS} (hw : d_sub w_ml W = true)
    (gT : ∀ (lv : List (Nat × Value)) (h : MH) (S : RLS) (xf : Int32), (true, ls_at (rt_b (rd_tk (V0 1) n (ls_p S))) S) = R → rt_t (rd_tk (V0 1) n (ls_p S)) = 0 → MMr W ρ m A h0 V0 G n (ls_g S) S h → xf.toInt = 1 → m_lk lv 0 = some (.ref m) → m_lk lv 1 = some (.int xf) → HJ 189 71 lv [] h Q)
    (gF : ∀ (lv : List (Nat × Value)) (h : MH) (xf : Int32), R.1 = false → MBr W ρ m A h0 V0 G (ls_l R.2) h → xf.toInt = 0 → m_lk lv 0 = some (.ref m) → m_lk lv 1 = some (.int xf) → HJ 189 71 lv [] h Q) :
    ∀ (d : Nat) (lv : List (Nat × Value)) (h : MH) (S : RLS) (xf : Int32), MMr W ρ m A h0 V0 G n (ls_g S) S h → n < ls_p S + d → rd_run (V0 1) n d S = R → xf.toInt = 1 → m_lk lv 0 = some (.ref m) → m_lk lv 1 = some (.int xf) → HJ 189 23 lv [] h Q := by
  intro d
  induction d with
  | zero =>
    intro lv h S xf B hd eR qf e0 e1
    obtain ⟨F, V, M, vo, tk, fl, td, pn⟩ := B
    omega
  | succ d ih =>
    intro lv h S xf B hd eR qf e0 e1
    obtain ⟨F, V, M, vo, tk, fl, td, pn⟩ := id B
    have tb := rd_tkB (T := V0 1) (n := n) (p := ls_p S) pn
    have k9 := tk.2.2.1
    have k10 := tk.2.2.2.1
    have sm := (rt_mE (t := rt_t (rd_tk (V0 1) n (ls_p S)))).1
    rw [rd_run] at eR
    have bad : (rd_line (V0 1) n S).1 = 1 → ∀ (lv : List (Nat × Value)) (h' : MH) (x : Int32), MBr W ρ m A h0 V0 G (ls_l (rd_line (V0 1) n S).2) h' → x.toInt = 0 → m_lk lv 0 = some (.ref m) → m_lk lv 1 = some (.int x) → HJ 189 23 lv [] h' Q := fun e1l lv h' x B' qx i0 i1 => by
      rw [if_neg (by rw [e1l]; decide), if_pos e1l] at eR
      obtain ⟨F', V', M', -⟩ := id B'
      refine s_mr23 M' i0 i1 qx (fun _ => gF lv h' x (by rw [← eR]) (by rw [← eR]; exact B') qx i0 i1) (fun c => absurd rfl c) (fun _ _ c => absurd rfl c)
    refine s_mr23 M e0 e1 qf (fun c => absurd c (by decide)) (fun _ _ _ c31 => ?_) (fun x2 q2 _ _ _ c31 _ _ => ?_)
    · have tz : rt_t (rd_tk (V0 1) n (ls_p S)) = 0 := sm.mp (k10.symm.trans c31)
      have el : rd_line (V0 1) n S = (0, ls_at (rt_b (rd_tk (V0 1) n (ls_p S))) S) := by
        unfold rd_line
        rw [if_pos tz]
      rw [el, if_pos rfl] at eR
      exact gT lv h S xf eR tz B qf e0 e1
    · have tn : rt_t (rd_tk (V0 1) n (ls_p S)) ≠ 0 := fun z => c31 (k10.trans (sm.mpr z))
      refine c_mline hw B (q2.trans k9) tn (fun ok hT x h' qx B' => ?_) (fun x h' s qx hs B' => ?_)
      · show HJ 189 42 lv [.int x] h' Q
        have pr := rd_numsP (T := V0 1) (n := n) (rd_lim (rt_v (rd_tk (V0 1) n (ls_p S)))) 0 (rd_beg (rd_tk (V0 1) n (ls_p S)) S) (by rw [rd_begE.1]; exact tb.1.2.2)
        rw [rd_begE.1] at pr
        obtain ⟨S2, hS⟩ : ∃ S2, S2 = (rd_nums (V0 1) n (rd_lim (rt_v (rd_tk (V0 1) n (ls_p S)))) 0 (rd_beg (rd_tk (V0 1) n (ls_p S)) S)).2 := ⟨_, rfl⟩
        rw [← hS] at B' pr
        obtain ⟨F2, V2, M2, vo2, tk2, fl2, td2, pn2⟩ := id B'
        have tb2 := rd_tkB (T := V0 1) (n := n) (p := ls_p S2) pn2
        have sm4 := (rt_mE (t := rt_t (rd_tk (V0 1) n (ls_p S2)))).2.2.2
        have t4 := tb.2.1 tn
        refine s_mr42 M2 e0 qx (fun lv1 d0 d1 c => absurd c (by decide)) (fun lv1 d0 d1 _ _ _ c52 => ?_) (fun lv1 d0 d1 _ _ _ c52 => ?_)
        · have m3 : rt_t (rd_tk (V0 1) n (ls_p S2)) = 3 := sm4.mp (tk2.2.2.2.1.symm.trans c52)
          have el : rd_line (V0 1) n S = (2, ls_at (rt_b (rd_tk (V0 1) n (ls_p S2))) S2) := by
            unfold rd_line
            rw [if_neg tn, if_pos ok, if_pos hT]
            unfold rd_mark
            rw [← hS, if_pos m3]
          have e1 : (rd_line (V0 1) n S).1 = 2 := by rw [el]
          rw [if_neg (by rw [e1]; decide), if_neg (by rw [e1]; decide), el] at eR
          have tb3 := tb2.2.1 (by rw [m3]; decide)
          refine c_nexm (p := rt_b (rd_tk (V0 1) n (ls_p S2))) (S := ls_at (rt_b (rd_tk (V0 1) n (ls_p S2))) S2) (c := ls_g S2) hw M2 vo2 tk2.1 tk2.2.1 rfl tb2.1.2.2 ⟨fl2.1, fun z => ⟨(fl2.2 z).1, ?_⟩⟩ td2 (fun h3 B3 => ?_)
          · have y := (fl2.2 z).2
            have y1 := tb2.1.1
            have y2 := tb2.1.2.1
            show ls_l S2 < ((rt_b (rd_tk (V0 1) n (ls_p S2)) : Nat) : Int)
            omega
          · obtain ⟨F3, V3, M3, -⟩ := id B3
            refine s_mr68 M3 d0 d1 qx (ih lv1 h3 _ x B3 ?_ eR qx d0 d1)
            show n < rt_b (rd_tk (V0 1) n (ls_p S2)) + d
            have y1 := tb.1.1
            have y2 := tb2.1.1
            omega
        · have m3 : ¬ rt_t (rd_tk (V0 1) n (ls_p S2)) = 3 := fun z => c52 (tk2.2.2.2.1.trans (sm4.mpr z))
          have el : rd_line (V0 1) n S = (1, ls_bad (rt_s (rd_tk (V0 1) n (ls_p S2))) (ls_at (rt_b (rd_tk (V0 1) n (ls_p S2))) S2)) := by
            unfold rd_line
            rw [if_neg tn, if_pos ok, if_pos hT]
            unfold rd_mark
            rw [← hS, if_neg m3]
          obtain ⟨u0, u1, -⟩ := td_0 td2
          refine c_sto9 M2 hw tk2.2.2.1 (fun x5 h5 F5 q5 M5 f13 => s_mr59 M5 d0 q5 (fun lv3 i0 i1 _ => bad (by rw [el]) lv3 h5 x5 ?_ q5 i0 i1) (fun _ _ _ c => absurd rfl c))
          rw [el]
          exact ⟨F5, V2, M5, vo2, f13, u0, u1⟩
      · show HJ 189 42 lv [.int x] h' Q
        obtain ⟨F', V', M', vo', f13, u0, u1⟩ := id B'
        have el : (rd_line (V0 1) n S).1 = 1 ∧ ls_l (rd_line (V0 1) n S).2 = s := by
          unfold rd_line
          rw [if_neg tn]
          rcases hs with ⟨no, es⟩ | ⟨ok, hf, es⟩
          · rw [if_neg no]
            exact ⟨rfl, es.symm⟩
          · rw [if_pos ok, if_neg (by rw [hf]; decide)]
            exact ⟨rfl, es.symm⟩
        refine s_mr42 M' e0 qx (fun lv1 d0 d1 _ => bad el.1 lv1 h' x (by rw [el.2]; exact B') qx d0 d1) (fun _ _ _ c => absurd rfl c) (fun _ _ _ c => absurd rfl c)
-- the whole of it
def w_mrt : List (Nat × Nat) := (52, 1001) :: (53, 1001) :: w_ml
theorem c_mread {n : Nat} (M : MX 49 W ρ m A h0 h F V G) (hw : d_sub w_mrt W = true) (q8 : F 8 = (n : Int)) (n6 : n ≤ 600)
    (g : ∀ (x : Int32) (h' : MH) (F' : Nat → Int) (V' : Nat → Nat → Int), (x.toInt = 1 ∧ ls_f (rd_tx (V 1) n) = 0) ∨ (x.toInt = 0 ∧ ls_f (rd_tx (V 1) n) ≠ 0) → MX 49 W ρ m A h0 h' F' V' G → V' 3 = m_u (V 3) 0 (ls_f (rd_tx (V 1) n)) → V' 4 = m_u (V 4) 0 (ls_l (rd_tx (V 1) n)) → (∀ K, K ≠ 3 → K ≠ 4 → K ≠ 16 → V' K = V K) → (ls_f (rd_tx (V 1) n) = 0 → td_ok (V' 16) (ls_g (rd_tx (V 1) n)) (ls_g (rd_tx (V 1) n)) (ls_t (rd_tx (V 1) n))) → 0 ≤ V' 16 0 ∧ V' 16 0 ≤ 40 → Q (some (.int x)) h') : HJ 189 0 (lv_args 0 [.ref m]) [] h Q := by
  have hl : d_sub w_ml W = true := d_subm hw (by decide +kernel)
  have ok := ls_okT (T := V 1) (n := n)
  obtain ⟨Z, hZ⟩ : ∃ Z, Z = rd_tx (V 1) n := ⟨_, rfl⟩
  rw [← hZ] at g ok
  -- the end of it
  have fin1 : ∀ (lv : List (Nat × Value)) (h' : MH) (F' : Nat → Int) (V' : Nat → Nat → Int) (xf : Int32), MX 49 W ρ m A h0 h' F' V' G → xf.toInt = 1 → F' 14 = ls_f Z → (ls_f Z ≠ 0 → F' 15 = ls_l Z) → (∀ K, K ≠ 16 → V' K = V K) → (ls_f Z = 0 → td_ok (V' 16) (ls_g Z) (ls_g Z) (ls_t Z)) → 0 ≤ V' 16 0 ∧ V' 16 0 ≤ 40 → m_lk lv 0 = some (.ref m) → m_lk lv 1 = some (.int xf) → HJ 189 100 lv [] h' Q := fun lv h' F' V' xf M' qf f14 f15 vo td u e0 e1 => by
    have ok2 := ok.2
    refine s_mr100 M' e0 e1 qf (d_subm hw (by decide +kernel)) (fun _ _ _ _ _ _ _ _ _ c => absurd c (by decide)) (fun _ _ _ _ _ _ _ _ _ _ _ _ c1 c2 => by omega) (fun h11 V11 f11 h15 V15 f15' x19 q19 M15 _ _ _ _ c156 => ?_) (fun h11 V11 f11 h21 V21 f21 x24 q24 M21 _ _ _ c138 _ _ c156 => ?_) (fun _ _ _ _ _ _ _ _ _ _ _ _ c1 _ _ c2 => by omega)
    · have z0 : ls_f Z = 0 := by omega
      have f11 : V11 = m_u V' 3 (m_u (V' 3) 0 (F' 14)) := f11
      have f15' : V15 = m_u V11 4 (m_u (V11 4) 0 (-1)) := f15'
      refine g x19 h15 F' V15 (Or.inl ⟨q19, z0⟩) M15 ?_ ?_ (fun K k3 k4 k16 => ?_) (fun z => ?_) ?_
      · rw [f15', m_uN _ _ _ _ (by decide), f11, m_uE, f14, vo 3 (by decide)]
      · rw [f15', m_uE, f11, m_uN _ _ _ _ (by decide), vo 4 (by decide), (ok.1 z0).1]
      · rw [f15', m_uN _ _ _ _ k4, f11, m_uN _ _ _ _ k3, vo K k16]
      · rw [f15', m_uN _ _ _ _ (by decide), f11, m_uN _ _ _ _ (by decide)]
        exact td z
      · rw [f15', m_uN _ _ _ _ (by decide), f11, m_uN _ _ _ _ (by decide)]
        exact u
    · have z0 : ls_f Z ≠ 0 := by omega
      have f11 : V11 = m_u V' 3 (m_u (V' 3) 0 (F' 14)) := f11
      have f21 : V21 = m_u V11 4 (m_u (V11 4) 0 (F' 15)) := f21
      refine g x24 h21 F' V21 (Or.inr ⟨q24, z0⟩) M21 ?_ ?_ (fun K k3 k4 k16 => ?_) (fun z => absurd z z0) ?_
      · rw [f21, m_uN _ _ _ _ (by decide), f11, m_uE, f14, vo 3 (by decide)]
      · rw [f21, m_uE, f11, m_uN _ _ _ _ (by decide), vo 4 (by decide), f15 z0]
      · rw [f21, m_uN _ _ _ _ k4, f11, m_uN _ _ _ _ k3, vo K k16]
      · rw [f21, m_uN _ _ _ _ (by decide), f11, m_uN _ _ _ _ (by decide)]
        exact u
  refine s_mr0 M rfl (d_subm hw (by decide +kernel)) (fun h3 V3 f3 h5 F5 f5 h7 F7 f7 x8 q8' lv9 M7 d0 d1 => ?_)
  have f3 : V3 = m_u V 16 (m_u (V 16) 0 0) := f3
  have vo3 : ∀ K, K ≠ 16 → V3 K = V K := fun K hK => by rw [f3, m_uN _ _ _ _ hK]
  refine c_nexm (V0 := V) (n := n) (S := rd_S0) (c := 0) (p := 0) hl M7 vo3 ?_ ?_ rfl (Nat.zero_le _) ⟨?_, fun z => absurd rfl z⟩ ⟨?_, fun k _ kg => absurd kg (Nat.not_lt_zero k)⟩ (fun h1 B1 => ?_)
  · rw [f7, m_uN _ _ _ _ (by decide), f5, m_uN _ _ _ _ (by decide)]
    exact q8
  · rw [f7, m_uN _ _ _ _ (by decide), f5, m_uE]
    rfl
  · rw [f7, m_uE]
    rfl
  · rw [f3, m_uE, m_uE]
    rfl
  · show HJ 189 23 lv9 [] h1 Q
    have hR2 := ls_okR (T := V 1) (n := n) 601 rd_S0 ⟨fun _ => ⟨rfl, by decide⟩, by decide⟩
    have hZ := hZ.trans rd_txE
    refine l_mrd (V0 := V) (n := n) (R := rd_run (V 1) n 601 rd_S0) hl (fun lv h2 S xf eT tz B2 qf e0 e1 => ?_) (fun lv h2 xf hF B2 qf e0 e1 => ?_) 601 lv9 h1 rd_S0 x8 B1 (by show n < 0 + 601; omega) rfl q8' d0 d1
    · obtain ⟨F2, V2, M2, vo2, tk2, fl2, td2, pn2⟩ := B2
      have tb2 := rd_tkB (T := V 1) (n := n) (p := ls_p S) pn2
      have es : rt_s (rd_tk (V 1) n (ls_p S)) = n := tb2.2.2.1 tz
      rw [← eT] at hZ
      obtain ⟨u0, u1, u2, u3, u4⟩ := td_0 td2
      have gz : V2 16 0 = 0 ↔ ls_g S = 0 := by
        constructor
        · intro z
          by_cases c : ls_g S < 40
          · have := u3 c
            omega
          · have := u4 (by omega)
            omega
        · intro z
          have := u3 (by omega)
          omega
      -- no fault of its own at the end
      have same : ls_f S ≠ 0 ∨ ls_g S ≠ 0 → ls_f Z = ls_f S ∧ ls_l Z = ls_l S ∧ ls_g Z = ls_g S ∧ ls_t Z = ls_t S := fun hc => by
        rw [hZ]
        unfold rd_fin
        show ls_f (if ls_g S = 0 then ls_note 4 n (ls_at (rt_b (rd_tk (V 1) n (ls_p S))) S) else ls_at (rt_b (rd_tk (V 1) n (ls_p S))) S) = _ ∧ ls_l (if ls_g S = 0 then ls_note 4 n (ls_at (rt_b (rd_tk (V 1) n (ls_p S))) S) else ls_at (rt_b (rd_tk (V 1) n (ls_p S))) S) = _ ∧ ls_g (if ls_g S = 0 then ls_note 4 n (ls_at (rt_b (rd_tk (V 1) n (ls_p S))) S) else ls_at (rt_b (rd_tk (V 1) n (ls_p S))) S) = _ ∧ ls_t (if ls_g S = 0 then ls_note 4 n (ls_at (rt_b (rd_tk (V 1) n (ls_p S))) S) else ls_at (rt_b (rd_tk (V 1) n (ls_p S))) S) = _
        by_cases c : ls_g S = 0
        · have cf : ¬ ls_f (ls_at (rt_b (rd_tk (V 1) n (ls_p S))) S) = 0 := hc.resolve_right (fun z => z c)
          rw [if_pos c]
          unfold ls_note
          rw [if_neg cf]
          exact ⟨rfl, rfl, rfl, rfl⟩
        · rw [if_neg c]
          exact ⟨rfl, rfl, rfl, rfl⟩
      have keep : ls_f S ≠ 0 ∨ ls_g S ≠ 0 → HJ 189 100 lv [] h2 Q := fun hc => by
        obtain ⟨y1, y2, y3, y4⟩ := same hc
        refine fin1 lv h2 F2 V2 xf M2 qf (by rw [y1]; exact fl2.1) (fun z => ?_) vo2 (fun _ => by rw [y3, y4]; exact td2) ⟨u0, u1⟩ e0 e1
        rw [y1] at z
        rw [y2]
        exact (fl2.2 z).1
      refine s_mr71 M2 e0 e1 qf (fun c => absurd c (by decide)) (fun _ _ _ c79 => keep (Or.inl (by rw [← fl2.1]; exact c79))) (fun _ _ _ _ c88 => keep (Or.inr (fun z => c88 (gz.mpr z)))) (fun x4 q4 x5 q5 _ _ _ c79 c88 _ _ => ?_)
      have g0 : ls_g S = 0 := gz.mp c88
      have f0 : ls_f S = 0 := by rw [← fl2.1]; exact c79
      have hZ4 : ls_f Z = 4 ∧ ls_l Z = (n : Int) := by
        rw [hZ]
        unfold rd_fin
        show ls_f (if ls_g S = 0 then ls_note 4 n (ls_at (rt_b (rd_tk (V 1) n (ls_p S))) S) else ls_at (rt_b (rd_tk (V 1) n (ls_p S))) S) = _ ∧ ls_l (if ls_g S = 0 then ls_note 4 n (ls_at (rt_b (rd_tk (V 1) n (ls_p S))) S) else ls_at (rt_b (rd_tk (V 1) n (ls_p S))) S) = _
        have cf : ls_f (ls_at (rt_b (rd_tk (V 1) n (ls_p S))) S) = 0 := f0
        rw [if_pos g0]
        unfold ls_note
        rw [if_pos cf]
        exact ⟨rfl, rfl⟩
      refine c_later M2 (d_subm hl (by decide +kernel)) q4 q5 (fun z => absurd c79 z) (fun h3 F3 M3 _ a14 a15 o3 => ?_)
      show HJ 189 100 lv [] h3 Q
      refine fin1 lv h3 F3 V2 xf M3 qf (by rw [a14, if_pos c79, hZ4.1]) (fun _ => ?_) vo2 (fun z => absurd (hZ4.1.symm.trans z) (by decide)) ⟨u0, u1⟩ e0 e1
      rw [a15, if_pos c79, tk2.2.2.1, es, hZ4.2]
    · obtain ⟨F2, V2, M2, vo2, f13, u0, u1⟩ := B2
      have r1 := hR2.2 hF
      have hZ5 : ls_f Z = 1 ∧ ls_l Z = ls_l (rd_run (V 1) n 601 rd_S0).2 := by
        rw [hZ]
        unfold rd_fin
        split
        · unfold ls_note
          rw [if_neg (by rw [r1]; decide)]
          exact ⟨r1, rfl⟩
        · exact ⟨r1, rfl⟩
      refine s_mr71 M2 e0 e1 qf (fun _ => ?_) (fun c => absurd rfl c) (fun c => absurd rfl c) (fun _ _ _ _ c => absurd rfl c)
      refine s_mr100 M2 e0 e1 qf (d_subm hw (by decide +kernel)) (fun h3 V3 f3 h6 V6 f6 x9 q9 M6 _ _ _ => ?_) (fun _ _ _ _ _ _ _ _ _ c => absurd rfl c) (fun _ _ _ _ _ _ _ _ _ c => absurd rfl c) (fun _ _ _ _ _ _ _ _ _ c => absurd rfl c) (fun _ _ _ _ _ _ _ _ _ c => absurd rfl c)
      have f3 : V3 = m_u V2 3 (m_u (V2 3) 0 1) := f3
      have f6 : V6 = m_u V3 4 (m_u (V3 4) 0 (F2 13)) := f6
      refine g x9 h6 F2 V6 (Or.inr ⟨q9, by rw [hZ5.1]; decide⟩) M6 ?_ ?_ (fun K k3 k4 k16 => ?_) (fun z => absurd (hZ5.1.symm.trans z) (by decide)) ?_
      · rw [f6, m_uN _ _ _ _ (by decide), f3, m_uE, vo2 3 (by decide), hZ5.1]
      · rw [f6, m_uE, f3, m_uN _ _ _ _ (by decide), vo2 4 (by decide), f13, hZ5.2]
      · rw [f6, m_uN _ _ _ _ k4, f3, m_uN _ _ _ _ k3, vo2 K k16]
      · rw [f6, m_uN _ _ _ _ (by decide), f3, m_uN _ _ _ _ (by decide)]
        exact ⟨u0, u1⟩
theorem s_mt0 {a : Int} (M : MX 49 W ρ m A h0 h F V G) (e0 : m_lk lv 0 = some (.ref m)) {lx1 : Int32} (e1 : m_lk lv 1 = some (.int lx1)) (lq1 : lx1.toInt = a) (hw : d_sub [(49, 0), (49, 8), (51, 1001), (52, 1001), (53, 1001)] W = true)
    (g0 : ∀ h2 : MH, ∀ F2 : Nat → Int, F2 = m_u F 0 (0) → ∀ h5 : MH, ∀ F5 : Nat → Int, F5 = m_u F2 8 (V 2 (0 : Int).toNat) → ∀ h8 : MH, ∀ V8 : Nat → Nat → Int, V8 = m_u V 2 (m_u (V 2) (0 : Int).toNat (0)) → ∀ h11 : MH, ∀ V11 : Nat → Nat → Int, V11 = m_u V8 3 (m_u (V8 3) (0 : Int).toNat (0)) → ∀ h14 : MH, ∀ V14 : Nat → Nat → Int, V14 = m_u V11 4 (m_u (V11 4) (0 : Int).toNat ((-1))) → MX 49 W ρ m A h0 h14 F5 V14 G → 0 ≤ V 2 (0 : Int).toNat → V 2 (0 : Int).toNat ≤ 600 → a ≠ (-1) → HJ 188 0 (lv_args 0 [.ref m, .int lx1]) [] h14 (fun v h' => HJ 187 59 lv (v.toList ++ []) h' Q))
    (g1 : ∀ h2 : MH, ∀ F2 : Nat → Int, F2 = m_u F 0 (0) → ∀ h5 : MH, ∀ F5 : Nat → Int, F5 = m_u F2 8 (V 2 (0 : Int).toNat) → ∀ h8 : MH, ∀ V8 : Nat → Nat → Int, V8 = m_u V 2 (m_u (V 2) (0 : Int).toNat (0)) → ∀ h11 : MH, ∀ V11 : Nat → Nat → Int, V11 = m_u V8 3 (m_u (V8 3) (0 : Int).toNat (0)) → ∀ h14 : MH, ∀ V14 : Nat → Nat → Int, V14 = m_u V11 4 (m_u (V11 4) (0 : Int).toNat ((-1))) → MX 49 W ρ m A h0 h14 F5 V14 G → 0 ≤ V 2 (0 : Int).toNat → V 2 (0 : Int).toNat ≤ 600 → a = (-1) → 0 ≤ V 5 (0 : Int).toNat → V 5 (0 : Int).toNat ≤ 4 → V 5 (0 : Int).toNat ≠ 4 → HJ 187 65 lv [] h14 Q)
    (g2 : ∀ h2 : MH, ∀ F2 : Nat → Int, F2 = m_u F 0 (0) → ∀ h5 : MH, ∀ F5 : Nat → Int, F5 = m_u F2 8 (V 2 (0 : Int).toNat) → ∀ h8 : MH, ∀ V8 : Nat → Nat → Int, V8 = m_u V 2 (m_u (V 2) (0 : Int).toNat (0)) → ∀ h11 : MH, ∀ V11 : Nat → Nat → Int, V11 = m_u V8 3 (m_u (V8 3) (0 : Int).toNat (0)) → ∀ h14 : MH, ∀ V14 : Nat → Nat → Int, V14 = m_u V11 4 (m_u (V11 4) (0 : Int).toNat ((-1))) → ∀ x19 : Int32, x19.toInt = (-2) → MX 49 W ρ m A h0 h14 F5 V14 G → 0 ≤ V 2 (0 : Int).toNat → V 2 (0 : Int).toNat ≤ 600 → a = (-1) → 0 ≤ V 5 (0 : Int).toNat → V 5 (0 : Int).toNat ≤ 4 → V 5 (0 : Int).toNat = 4 → Q (some (.int x19)) h14)
    : HJ 187 0 lv [] h Q := by
  refine hI_al (k := 0) rfl e0 rfl ?_ -- 0
  refine hM_ic (n := 0) rfl (by decide) rfl (fun x1 q1 => ?_) -- 1
  refine hM_pi M (by decide) ok_49 rfl rfl (k := 0) (c := 9) (lo := (-2147483648)) (hi := 2147483647) rfl rfl ⟨by decide, by decide +kernel, rfl⟩ rfl (d_subm hw (by decide +kernel)) q1 (by omega) (by omega) rfl (fun h2 F2 f2 M2 => ?_) -- 2
  refine hI_al (k := 0) rfl e0 rfl ?_ -- 5
  refine hI_al (k := 0) rfl e0 rfl ?_ -- 6
  refine hM_ga M2 (by decide) rfl rfl (k := 2) (c := 9) rfl rfl rfl (by decide +kernel) rfl ?_ -- 7
  refine hM_ic (n := 0) rfl (by decide) rfl (fun x3 q3 => ?_) -- 10
  refine hM_ia M2 (by decide) (K := 2) (R2 := 51) (L := 4) (H := 4) (lo := 0) (hi := 600) rfl (by decide) rfl rfl (fun _ => rfl) rfl q3 (by omega) (by omega) rfl (fun x4 q4 a4 b4 => ?_) -- 11
  refine hM_pi M2 (by decide) ok_49 rfl rfl (k := 8) (c := 9) (lo := 0) (hi := 600) rfl rfl ⟨by decide, by decide +kernel, rfl⟩ rfl (d_subm hw (by decide +kernel)) q4 (by omega) (by omega) rfl (fun h5 F5 f5 M5 => ?_) -- 12
  refine hI_al (k := 0) rfl e0 rfl ?_ -- 15
  refine hM_ga M5 (by decide) rfl rfl (k := 2) (c := 9) rfl rfl rfl (by decide +kernel) rfl ?_ -- 16
  refine hM_ic (n := 0) rfl (by decide) rfl (fun x6 q6 => ?_) -- 19
  refine hM_ic (n := 0) rfl (by decide) rfl (fun x7 q7 => ?_) -- 20
  refine hM_is M5 (by decide) ok_49 (K := 2) (R2 := 51) (L := 4) (H := 4) (lo := 0) (hi := 600) rfl (by decide) rfl rfl rfl (fun _ => rfl) (d_subm hw (by decide +kernel)) rfl q6 q7 (by omega) (by omega) (by omega) (by omega) rfl (fun h8 V8 f8 M8 => ?_) -- 21
  refine hI_al (k := 0) rfl e0 rfl ?_ -- 22
  refine hM_ga M8 (by decide) rfl rfl (k := 3) (c := 9) rfl rfl rfl (by decide +kernel) rfl ?_ -- 23
  refine hM_ic (n := 0) rfl (by decide) rfl (fun x9 q9 => ?_) -- 26
  refine hM_ic (n := 0) rfl (by decide) rfl (fun x10 q10 => ?_) -- 27
  refine hM_is M8 (by decide) ok_49 (K := 3) (R2 := 52) (L := 4) (H := 4) (lo := (-2147483648)) (hi := 2147483647) rfl (by decide) rfl rfl rfl (fun _ => rfl) (d_subm hw (by decide +kernel)) rfl q9 q10 (by omega) (by omega) (by omega) (by omega) rfl (fun h11 V11 f11 M11 => ?_) -- 28
  refine hI_al (k := 0) rfl e0 rfl ?_ -- 29
  refine hM_ga M11 (by decide) rfl rfl (k := 4) (c := 9) rfl rfl rfl (by decide +kernel) rfl ?_ -- 30
  refine hM_ic (n := 0) rfl (by decide) rfl (fun x12 q12 => ?_) -- 33
  refine hM_ic (n := (-1)) rfl (by decide) rfl (fun x13 q13 => ?_) -- 34
  refine hM_is M11 (by decide) ok_49 (K := 4) (R2 := 53) (L := 4) (H := 4) (lo := (-2147483648)) (hi := 2147483647) rfl (by decide) rfl rfl rfl (fun _ => rfl) (d_subm hw (by decide +kernel)) rfl q12 q13 (by omega) (by omega) (by omega) (by omega) rfl (fun h14 V14 f14 M14 => ?_) -- 35
  refine hI_il (k := 1) rfl e1 rfl ?_ -- 36
  refine hM_ic (n := (-1)) rfl (by decide) rfl (fun x15 q15 => ?_) -- 37
  refine hM_cne (off := 16) (t := 54) rfl lq1 q15 (by decide) rfl (fun c38 => ?_) (fun c38 => ?_) -- 38
  · refine hI_al (k := 0) rfl e0 rfl ?_ -- 54
    refine hI_il (k := 1) rfl e1 rfl ?_ -- 55
    refine hM_iv M14 (by decide) rfl rfl (by decide) (as := [.int lx1]) (r := []) rfl rfl (by decide +kernel) rfl (by decide +kernel) rfl rfl rfl rfl rfl ?_ -- 56
    exact g0 h2 F2 f2 h5 F5 f5 h8 V8 f8 h11 V11 f11 h14 V14 f14 M14 a4 b4 c38
  · refine hI_al (k := 0) rfl e0 rfl ?_ -- 41
    refine hM_ga M14 (by decide) rfl rfl (k := 5) (c := 9) rfl rfl rfl (by decide +kernel) rfl ?_ -- 42
    refine hM_ic (n := 0) rfl (by decide) rfl (fun x16 q16 => ?_) -- 45
    refine hM_ia M14 (by decide) (K := 5) (R2 := 54) (L := 4) (H := 4) (lo := 0) (hi := 4) rfl (by decide) rfl rfl (fun _ => rfl) rfl q16 (by omega) (by omega) rfl (fun x17 q17 a17 b17 => ?_) -- 46
    have q17 : x17.toInt = V 5 (0 : Int).toNat := by rw [q17, f14, f11, f8]; rfl
    rw [f14, f11, f8] at a17 b17
    change 0 ≤ V 5 (0 : Int).toNat at a17
    change V 5 (0 : Int).toNat ≤ 4 at b17 -- 46
    refine hM_ic (n := 4) rfl (by decide) rfl (fun x18 q18 => ?_) -- 47
    refine hM_cne (off := 17) (t := 65) rfl q17 q18 (by decide) rfl (fun c48 => ?_) (fun c48 => ?_) -- 48
    · exact g1 h2 F2 f2 h5 F5 f5 h8 V8 f8 h11 V11 f11 h14 V14 f14 M14 a4 b4 c38 a17 b17 c48
    · refine hI_go (pc' := 62) (off := 11) rfl (by decide) ?_ -- 51
      refine hM_bp (n := (-2)) rfl (by decide) rfl (fun x19 q19 => ?_) -- 62
      refine hI_ri rfl rfl ?_ -- 64
      exact g2 h2 F2 f2 h5 F5 f5 h8 V8 f8 h11 V11 f11 h14 V14 f14 x19 q19 M14 a4 b4 c38 a17 b17 c48
theorem s_mt59 {a z : Int} (M : MX 49 W ρ m A h0 h F V G) (e0 : m_lk lv 0 = some (.ref m)) {lx1 : Int32} (e1 : m_lk lv 1 = some (.int lx1)) (lq1 : lx1.toInt = a) {sx0 : Int32} (sq0 : sx0.toInt = z) 
    (g0 : z ≠ 0 → HJ 187 65 lv [] h Q)
    (g1 : ∀ x1 : Int32, x1.toInt = (-2) → z = 0 → Q (some (.int x1)) h)
    : HJ 187 59 lv [.int sx0] h Q := by
  refine hM_zne (off := 6) (t := 65) rfl sq0 (by decide) rfl (fun c59 => ?_) (fun c59 => ?_) -- 59
  · exact g0 c59
  · refine hM_bp (n := (-2)) rfl (by decide) rfl (fun x1 q1 => ?_) -- 62
    refine hI_ri rfl rfl ?_ -- 64
    exact g1 x1 q1 c59
theorem s_mt65 {a : Int} (M : MX 49 W ρ m A h0 h F V G) (e0 : m_lk lv 0 = some (.ref m)) {lx1 : Int32} (e1 : m_lk lv 1 = some (.int lx1)) (lq1 : lx1.toInt = a) 
    (g0 : HJ 189 0 (lv_args 0 [.ref m]) [] h (fun v h' => HJ 187 69 lv (v.toList ++ []) h' Q))
    : HJ 187 65 lv [] h Q := by
  refine hI_al (k := 0) rfl e0 rfl ?_ -- 65
  refine hM_iv M (by decide) rfl rfl (by decide) (as := []) (r := []) rfl rfl (by decide +kernel) rfl (by decide +kernel) rfl rfl rfl rfl rfl ?_ -- 66
  exact g0 
theorem s_mt69 {a z : Int} (M : MX 49 W ρ m A h0 h F V G) (e0 : m_lk lv 0 = some (.ref m)) {lx1 : Int32} (e1 : m_lk lv 1 = some (.int lx1)) (lq1 : lx1.toInt = a) {sx0 : Int32} (sq0 : sx0.toInt = z) (m3 : a = -1 → V 5 (0 : Int).toNat ≤ 3)(hw : d_sub [(54, 1001)] W = true)
    (g0 : ∀ h8 : MH, ∀ V8 : Nat → Nat → Int, V8 = m_u V 5 (m_u (V 5) (0 : Int).toNat ((V 5 (0 : Int).toNat) + 0)) → ∀ x9 : Int32, x9.toInt = 0 → ∀ lv10 : List (Nat × Value), MX 49 W ρ m A h0 h8 F V8 G → m_lk lv10 0 = some (.ref m) → m_lk lv10 2 = some (.int lx1) → m_lk lv10 3 = some (.int x9) → z ≠ 0 → a ≠ (-1) → 0 ≤ V 5 (0 : Int).toNat → V 5 (0 : Int).toNat ≤ 4 → HJ 187 111 lv10 [] h8 Q)
    (g1 : ∀ x12 : Int32, x12.toInt = V 5 (0 : Int).toNat → ∀ h19 : MH, ∀ V19 : Nat → Nat → Int, V19 = m_u V 5 (m_u (V 5) (0 : Int).toNat ((V 5 (0 : Int).toNat) + 1)) → ∀ x20 : Int32, x20.toInt = 0 → ∀ lv21 : List (Nat × Value), MX 49 W ρ m A h0 h19 F V19 G → m_lk lv21 0 = some (.ref m) → m_lk lv21 2 = some (.int x12) → m_lk lv21 3 = some (.int x20) → z ≠ 0 → a = (-1) → 0 ≤ V 5 (0 : Int).toNat → V 5 (0 : Int).toNat ≤ 4 → HJ 187 111 lv21 [] h19 Q)
    (g2 : ∀ x22 : Int32, x22.toInt = (-1) → z = 0 → Q (some (.int x22)) h)
    : HJ 187 69 lv [.int sx0] h Q := by
  refine hM_zne (off := 5) (t := 74) rfl sq0 (by decide) rfl (fun c69 => ?_) (fun c69 => ?_) -- 69
  · refine hI_il (k := 1) rfl e1 rfl ?_ -- 74
    refine hM_ic (n := (-1)) rfl (by decide) rfl (fun x1 q1 => ?_) -- 75
    refine hM_cne (off := 12) (t := 88) rfl lq1 q1 (by decide) rfl (fun c76 => ?_) (fun c76 => ?_) -- 76
    · refine hI_il (k := 1) rfl e1 rfl ?_ -- 88
      refine hM_si (k := 2) rfl (by decide +kernel) rfl (fun lv2 e2_2 u2 => ?_) -- 89
      have e2_0 := u2 0 _ (by decide) (Or.inl rfl) e0
      have e2_1 := u2 1 _ (by decide) (Or.inl rfl) e1
      refine hI_al (k := 0) rfl e2_0 rfl ?_ -- 90
      refine hM_ga M (by decide) rfl rfl (k := 5) (c := 9) rfl rfl rfl (by decide +kernel) rfl ?_ -- 91
      refine hM_ic (n := 0) rfl (by decide) rfl (fun x3 q3 => ?_) -- 94
      refine hI_dup2 rfl rfl rfl rfl ?_ -- 95
      refine hM_ia M (by decide) (K := 5) (R2 := 54) (L := 4) (H := 4) (lo := 0) (hi := 4) rfl (by decide) rfl rfl (fun _ => rfl) rfl q3 (by omega) (by omega) rfl (fun x4 q4 a4 b4 => ?_) -- 96
      refine hI_il (k := 1) rfl e2_1 rfl ?_ -- 97
      refine hM_ic (n := (-1)) rfl (by decide) rfl (fun x5 q5 => ?_) -- 98
      refine hM_cne (off := 7) (t := 106) rfl lq1 q5 (by decide) rfl (fun c99 => ?_) (fun c99 => ?_) -- 99
      · refine hM_ic (n := 0) rfl (by decide) rfl (fun x6 q6 => ?_) -- 106
        refine hM_add rfl q4 q6 (by omega) (by omega) rfl (fun x7 q7 => ?_) -- 107
        refine hM_is M (by decide) ok_49 (K := 5) (R2 := 54) (L := 4) (H := 4) (lo := 0) (hi := 4) rfl (by decide) rfl rfl rfl (fun _ => rfl) (d_subm hw (by decide +kernel)) rfl q3 q7 (by omega) (by omega) (by omega) (by omega) rfl (fun h8 V8 f8 M8 => ?_) -- 108
        refine hM_ic (n := 0) rfl (by decide) rfl (fun x9 q9 => ?_) -- 109
        refine hM_si (k := 3) rfl (by decide +kernel) rfl (fun lv10 e10_3 u10 => ?_) -- 110
        have e10_0 := u10 0 _ (by decide) (Or.inl rfl) e2_0
        have e10_1 := u10 1 _ (by decide) (Or.inl rfl) e2_1
        have e10_2 := u10 2 _ (by decide) (Or.inl rfl) e2_2
        exact g0 h8 V8 f8 x9 q9 lv10 M8 e10_0 e10_2 e10_3 c69 c76 a4 b4
      · exfalso; omega
    · refine hI_al (k := 0) rfl e0 rfl ?_ -- 79
      refine hM_ga M (by decide) rfl rfl (k := 5) (c := 9) rfl rfl rfl (by decide +kernel) rfl ?_ -- 80
      refine hM_ic (n := 0) rfl (by decide) rfl (fun x11 q11 => ?_) -- 83
      refine hM_ia M (by decide) (K := 5) (R2 := 54) (L := 4) (H := 4) (lo := 0) (hi := 4) rfl (by decide) rfl rfl (fun _ => rfl) rfl q11 (by omega) (by omega) rfl (fun x12 q12 a12 b12 => ?_) -- 84
      refine hI_go (pc' := 89) (off := 4) rfl (by decide) ?_ -- 85
      refine hM_si (k := 2) rfl (by decide +kernel) rfl (fun lv13 e13_2 u13 => ?_) -- 89
      have e13_0 := u13 0 _ (by decide) (Or.inl rfl) e0
      have e13_1 := u13 1 _ (by decide) (Or.inl rfl) e1
      refine hI_al (k := 0) rfl e13_0 rfl ?_ -- 90
      refine hM_ga M (by decide) rfl rfl (k := 5) (c := 9) rfl rfl rfl (by decide +kernel) rfl ?_ -- 91
      refine hM_ic (n := 0) rfl (by decide) rfl (fun x14 q14 => ?_) -- 94
      refine hI_dup2 rfl rfl rfl rfl ?_ -- 95
      refine hM_ia M (by decide) (K := 5) (R2 := 54) (L := 4) (H := 4) (lo := 0) (hi := 4) rfl (by decide) rfl rfl (fun _ => rfl) rfl q14 (by omega) (by omega) rfl (fun x15 q15 a15 b15 => ?_) -- 96
      refine hI_il (k := 1) rfl e13_1 rfl ?_ -- 97
      refine hM_ic (n := (-1)) rfl (by decide) rfl (fun x16 q16 => ?_) -- 98
      refine hM_cne (off := 7) (t := 106) rfl lq1 q16 (by decide) rfl (fun c99 => ?_) (fun c99 => ?_) -- 99
      · exfalso; omega
      · refine hM_ic (n := 1) rfl (by decide) rfl (fun x17 q17 => ?_) -- 102
        refine hI_go (pc' := 107) (off := 4) rfl (by decide) ?_ -- 103
        refine hM_add rfl q15 q17 (by omega) (by omega) rfl (fun x18 q18 => ?_) -- 107
        refine hM_is M (by decide) ok_49 (K := 5) (R2 := 54) (L := 4) (H := 4) (lo := 0) (hi := 4) rfl (by decide) rfl rfl rfl (fun _ => rfl) (d_subm hw (by decide +kernel)) rfl q14 q18 (by omega) (by omega) (by omega) (by omega) rfl (fun h19 V19 f19 M19 => ?_) -- 108
        refine hM_ic (n := 0) rfl (by decide) rfl (fun x20 q20 => ?_) -- 109
        refine hM_si (k := 3) rfl (by decide +kernel) rfl (fun lv21 e21_3 u21 => ?_) -- 110
        have e21_0 := u21 0 _ (by decide) (Or.inl rfl) e13_0
        have e21_1 := u21 1 _ (by decide) (Or.inl rfl) e13_1
        have e21_2 := u21 2 _ (by decide) (Or.inl rfl) e13_2
        exact g1 x12 q12 h19 V19 f19 x20 q20 lv21 M19 e21_0 e21_2 e21_3 c69 c76 a12 b12
  · refine hM_ic (n := (-1)) rfl (by decide) rfl (fun x22 q22 => ?_) -- 72
    refine hI_ri rfl rfl ?_ -- 73
    exact g2 x22 q22 c69
theorem s_mt111 {k i : Int} (M : MX 49 W ρ m A h0 h F V G) (e0 : m_lk lv 0 = some (.ref m)) {lx2 : Int32} (e2 : m_lk lv 2 = some (.int lx2)) (lq2 : lx2.toInt = k) {lx3 : Int32} (e3 : m_lk lv 3 = some (.int lx3)) (lq3 : lx3.toInt = i) (i0 : 0 ≤ i) (k0 : 0 ≤ k) (k3 : k ≤ 3) (t0 : 0 ≤ V 16 (0 : Int).toNat) (t1 : V 16 (0 : Int).toNat ≤ 40)(hw : d_sub [(55, 1001)] W = true)
    (g0 : i ≥ 161 → Q (some (.int lx2)) h)
    (g1 : ∀ h10 : MH, ∀ V10 : Nat → Nat → Int, V10 = m_u V 6 (m_u (V 6) ((161 * k) + i).toNat (0)) → ∀ x11 : Int32, x11.toInt = i + 1 → ∀ lv11 : List (Nat × Value), MX 49 W ρ m A h0 h10 F V10 G → m_lk lv11 0 = some (.ref m) → m_lk lv11 2 = some (.int lx2) → m_lk lv11 3 = some (.int x11) → i < 161 → i > 4 * (V 16 (0 : Int).toNat) → HJ 187 111 lv11 [] h10 Q)
    (g2 : ∀ h13 : MH, ∀ V13 : Nat → Nat → Int, V13 = m_u V 6 (m_u (V 6) ((161 * k) + i).toNat (V 16 (i).toNat)) → ∀ x14 : Int32, x14.toInt = i + 1 → ∀ lv14 : List (Nat × Value), MX 49 W ρ m A h0 h13 F V13 G → m_lk lv14 0 = some (.ref m) → m_lk lv14 2 = some (.int lx2) → m_lk lv14 3 = some (.int x14) → i < 161 → i ≤ 4 * (V 16 (0 : Int).toNat) → HJ 187 111 lv14 [] h13 Q)
    : HJ 187 111 lv [] h Q := by
  refine hI_il (k := 3) rfl e3 rfl ?_ -- 111
  refine hM_sp (n := 161) rfl (by decide) rfl (fun x1 q1 => ?_) -- 112
  refine hM_cge (off := 43) (t := 158) rfl lq3 q1 (by decide) rfl (fun c115 => ?_) (fun c115 => ?_) -- 115
  · refine hI_il (k := 2) rfl e2 rfl ?_ -- 158
    refine hI_ri rfl rfl ?_ -- 159
    exact g0 c115
  · refine hI_al (k := 0) rfl e0 rfl ?_ -- 118
    refine hM_ga M (by decide) rfl rfl (k := 6) (c := 9) rfl rfl rfl (by decide +kernel) rfl ?_ -- 119
    refine hM_sp (n := 161) rfl (by decide) rfl (fun x2 q2 => ?_) -- 122
    refine hI_il (k := 2) rfl e2 rfl ?_ -- 125
    refine hM_mul rfl q2 lq2 (by omega) (by omega) rfl (fun x3 q3 => ?_) -- 126
    refine hI_il (k := 3) rfl e3 rfl ?_ -- 127
    refine hM_add rfl q3 lq3 (by omega) (by omega) rfl (fun x4 q4 => ?_) -- 128
    refine hI_il (k := 3) rfl e3 rfl ?_ -- 129
    refine hM_ic (n := 4) rfl (by decide) rfl (fun x5 q5 => ?_) -- 130
    refine hI_al (k := 0) rfl e0 rfl ?_ -- 131
    refine hM_ga M (by decide) rfl rfl (k := 16) (c := 9) rfl rfl rfl (by decide +kernel) rfl ?_ -- 132
    refine hM_ic (n := 0) rfl (by decide) rfl (fun x6 q6 => ?_) -- 135
    refine hM_ia M (by decide) (K := 16) (R2 := 56) (L := 161) (H := 161) (lo := (-2147483648)) (hi := 2147483647) rfl (by decide) rfl rfl (fun _ => rfl) rfl q6 (by omega) (by omega) rfl (fun x7 q7 a7 b7 => ?_) -- 136
    refine hM_mul rfl q5 q7 (by omega) (by omega) rfl (fun x8 q8 => ?_) -- 137
    refine hM_cgt (off := 12) (t := 150) rfl lq3 q8 (by decide) rfl (fun c138 => ?_) (fun c138 => ?_) -- 138
    · refine hM_ic (n := 0) rfl (by decide) rfl (fun x9 q9 => ?_) -- 150
      refine hM_is M (by decide) ok_49 (K := 6) (R2 := 55) (L := 2576) (H := 2576) (lo := (-2147483648)) (hi := 2147483647) rfl (by decide) rfl rfl rfl (fun _ => rfl) (d_subm hw (by decide +kernel)) rfl q4 q9 (by omega) (by omega) (by omega) (by omega) rfl (fun h10 V10 f10 M10 => ?_) -- 151
      refine hM_inc (k := 3) (z := 1) rfl e3 lq3 (by decide) (by omega) (by omega) (by decide +kernel) rfl (fun lv11 x11 q11 e11_3 u11 => ?_) -- 152
      have e11_0 := u11 0 _ (by decide) (Or.inl rfl) e0
      have e11_2 := u11 2 _ (by decide) (Or.inl rfl) e2
      refine hI_go (pc' := 111) (off := (-44)) rfl (by decide) ?_ -- 155
      exact g1 h10 V10 f10 x11 q11 lv11 M10 e11_0 e11_2 e11_3 c115 c138
    · refine hI_al (k := 0) rfl e0 rfl ?_ -- 141
      refine hM_ga M (by decide) rfl rfl (k := 16) (c := 9) rfl rfl rfl (by decide +kernel) rfl ?_ -- 142
      refine hI_il (k := 3) rfl e3 rfl ?_ -- 145
      refine hM_ia M (by decide) (K := 16) (R2 := 56) (L := 161) (H := 161) (lo := (-2147483648)) (hi := 2147483647) rfl (by decide) rfl rfl (fun _ => rfl) rfl lq3 (by omega) (by omega) rfl (fun x12 q12 a12 b12 => ?_) -- 146
      refine hI_go (pc' := 151) (off := 4) rfl (by decide) ?_ -- 147
      refine hM_is M (by decide) ok_49 (K := 6) (R2 := 55) (L := 2576) (H := 2576) (lo := (-2147483648)) (hi := 2147483647) rfl (by decide) rfl rfl rfl (fun _ => rfl) (d_subm hw (by decide +kernel)) rfl q4 q12 (by omega) (by omega) (by omega) (by omega) rfl (fun h13 V13 f13 M13 => ?_) -- 151
      refine hM_inc (k := 3) (z := 1) rfl e3 lq3 (by decide) (by omega) (by omega) (by decide +kernel) rfl (fun lv14 x14 q14 e14_3 u14 => ?_) -- 152
      have e14_0 := u14 0 _ (by decide) (Or.inl rfl) e0
      have e14_2 := u14 2 _ (by decide) (Or.inl rfl) e2
      refine hI_go (pc' := 111) (off := (-44)) rfl (by decide) ?_ -- 155
      exact g2 h13 V13 f13 x14 q14 lv14 M13 e14_0 e14_2 e14_3 c115 c138
-- the row told, kept as the k-th
def mt_row (k : Nat) (U R R' : Nat → Int) : Prop := (∀ j, j < 161 → R' (161 * k + j) = if (j : Int) ≤ 4 * U 0 then U j else 0) ∧ ∀ j, j < 161 * k ∨ 161 * k + 161 ≤ j → R' j = R j
theorem l_mt111 {k : Nat} {xk : Int32} {Vs : Nat → Nat → Int} (hw : d_sub [(55, 1001)] W = true) (qk : xk.toInt = (k : Int)) (k3 : k ≤ 3) (u : 0 ≤ Vs 16 0 ∧ Vs 16 0 ≤ 40) (g : ∀ (h' : MH) (V' : Nat → Nat → Int), MX 49 W ρ m A h0 h' F V' G → mt_row k (Vs 16) (Vs 6) (V' 6) → (∀ K, K ≠ 6 → V' K = Vs K) → Q (some (.int xk)) h') : ∀ (d i : Nat) (lv : List (Nat × Value)) (h : MH) (V : Nat → Nat → Int) (xi : Int32), i + d = 161 → MX 49 W ρ m A h0 h F V G → xi.toInt = (i : Int) → (∀ j, j < i → V 6 (161 * k + j) = if (j : Int) ≤ 4 * Vs 16 0 then Vs 16 j else 0) → (∀ j, j < 161 * k ∨ 161 * k + i ≤ j → V 6 j = Vs 6 j) → (∀ K, K ≠ 6 → V K = Vs K) → m_lk lv 0 = some (.ref m) → m_lk lv 2 = some (.int xk) → m_lk lv 3 = some (.int xi) → HJ 187 111 lv [] h Q := by
  intro d
  induction d with
  | zero =>
    intro i lv h V xi hd M qi v1 v2 vo e0 e2 e3
    have hi : i = 161 := by omega
    subst hi
    have u2 : 0 ≤ V 16 0 ∧ V 16 0 ≤ 40 := by rw [vo 16 (by decide)]; exact u
    exact s_mt111 M e0 e2 qk e3 qi (by omega) (by omega) (by omega) u2.1 u2.2 hw (fun _ => g h V M ⟨v1, fun j hj => v2 j hj⟩ vo) (fun _ _ _ _ _ _ _ _ _ _ c => by omega) (fun _ _ _ _ _ _ _ _ _ _ c => by omega)
  | succ d ih =>
    intro i lv h V xi hd M qi v1 v2 vo e0 e2 e3
    have u2 : 0 ≤ V 16 0 ∧ V 16 0 ≤ 40 := by rw [vo 16 (by decide)]; exact u
    have hj : ((161 * (k : Int)) + (i : Int)).toNat = 161 * k + i := by omega
    have hi : ((i : Int)).toNat = i := by omega
    have step : ∀ (z : Int) (h1 : MH) (V1 : Nat → Nat → Int) (x1 : Int32) (lv1 : List (Nat × Value)), MX 49 W ρ m A h0 h1 F V1 G → V1 = m_u V 6 (m_u (V 6) ((161 * (k : Int)) + (i : Int)).toNat z) → z = (if (i : Int) ≤ 4 * Vs 16 0 then Vs 16 i else 0) → x1.toInt = (i : Int) + 1 → m_lk lv1 0 = some (.ref m) → m_lk lv1 2 = some (.int xk) → m_lk lv1 3 = some (.int x1) → HJ 187 111 lv1 [] h1 Q := fun z h1 V1 x1 lv1 M1 f1 hz q1 d0 d2 d3 => by
      rw [hj] at f1
      refine ih (i + 1) lv1 h1 V1 x1 (by omega) M1 (by omega) (fun j hj2 => ?_) (fun j hj2 => ?_) (fun K hK => by rw [f1, m_uN _ _ _ _ hK]; exact vo K hK) d0 d2 d3
      · rw [f1, m_uE]
        by_cases e : j = i
        · subst e
          rw [m_uE]
          exact hz
        · rw [m_uN _ _ _ _ (by omega)]
          exact v1 j (by omega)
      · rw [f1, m_uE, m_uN _ _ _ _ (by omega)]
        exact v2 j (by omega)
    refine s_mt111 M e0 e2 qk e3 qi (by omega) (by omega) (by omega) u2.1 u2.2 hw (fun c => by omega) (fun h10 V10 f10 x11 q11 lv11 M10 d0 d2 d3 c1 c2 => ?_) (fun h13 V13 f13 x14 q14 lv14 M13 d0 d2 d3 c1 c2 => ?_)
    · have c2 : (i : Int) > 4 * V 16 0 := c2
      rw [vo 16 (by decide)] at c2
      exact step 0 h10 V10 x11 lv11 M10 f10 (by rw [if_neg (by omega)]) q11 d0 d2 d3
    · have c2 : (i : Int) ≤ 4 * V 16 0 := c2
      rw [hi, vo 16 (by decide)] at f13
      rw [vo 16 (by decide)] at c2
      exact step _ h13 V13 x14 lv14 M13 f13 (by rw [if_pos c2]) q14 d0 d2 d3
def w_mtx : List (Nat × Nat) := [(49, 0), (49, 8), (51, 1001), (54, 1001), (55, 1001)] ++ w_mrt
-- what a text leaves of what is told: no such row; a fault; a row
def mt_no (V V' : Nat → Nat → Int) : Prop := (V' 2 = m_u (V 2) 0 0 ∧ V' 3 = m_u (V 3) 0 0 ∧ V' 4 = m_u (V 4) 0 (-1)) ∧ ∀ K, K ≠ 2 → K ≠ 3 → K ≠ 4 → V' K = V K
def mt_ft (S : RLS) (V V' : Nat → Nat → Int) : Prop := (V' 2 = m_u (V 2) 0 0 ∧ V' 3 = m_u (V 3) 0 (ls_f S) ∧ V' 4 = m_u (V 4) 0 (ls_l S)) ∧ ∀ K, K ≠ 2 → K ≠ 3 → K ≠ 4 → K ≠ 16 → V' K = V K
def mt_ok (S : RLS) (k : Nat) (z : Int) (V V' : Nat → Nat → Int) : Prop := (V' 2 = m_u (V 2) 0 0 ∧ V' 3 = m_u (V 3) 0 0 ∧ V' 4 = m_u (V 4) 0 (-1) ∧ V' 5 = m_u (V 5) 0 z) ∧ (V' 6 (161 * k) = (ls_g S : Int) ∧ (∀ j, j < ls_g S → ∀ i, i < 4 → V' 6 (161 * k + 1 + 4 * j + i) = ls_t S (4 * j + 1 + i)) ∧ ∀ j, j < 161 * k ∨ 161 * k + 161 ≤ j → V' 6 j = V 6 j) ∧ ∀ K, K ≠ 2 → K ≠ 3 → K ≠ 4 → K ≠ 5 → K ≠ 6 → K ≠ 16 → V' K = V K
theorem c_mtext {a : Int} {xa : Int32} (M : MX 49 W ρ m A h0 h F V G) (hw : d_sub w_mtx W = true) (qa : xa.toInt = a)
    (g : ∀ (x : Int32) (h' : MH) (F' : Nat → Int) (V' : Nat → Nat → Int), MX 49 W ρ m A h0 h' F' V' G →
      (x.toInt = -2 ∧ ((a = -1 ∧ V 5 0 = 4) ∨ (a ≠ -1 ∧ (a < 0 ∨ V 5 0 ≤ a))) ∧ mt_no V V') ∨
      (((a = -1 ∧ V 5 0 ≤ 3) ∨ (a ≠ -1 ∧ 0 ≤ a ∧ a < V 5 0)) ∧ ((x.toInt = -1 ∧ ls_f (rd_tx (V 1) (V 2 0).toNat) ≠ 0 ∧ mt_ft (rd_tx (V 1) (V 2 0).toNat) V V') ∨ (ls_f (rd_tx (V 1) (V 2 0).toNat) = 0 ∧ ∃ k : Nat, x.toInt = (k : Int) ∧ (k : Int) = (if a = -1 then V 5 0 else a) ∧ k ≤ 3 ∧ mt_ok (rd_tx (V 1) (V 2 0).toNat) k (if a = -1 then V 5 0 + 1 else V 5 0) V V'))) → Q (some (.int x)) h') : HJ 187 0 (lv_args 0 [.ref m, .int xa]) [] h Q := by
  have b5 : 0 ≤ V 5 0 ∧ V 5 0 ≤ 4 := by
    have := M.vi (by decide) (K := 5) (R2 := 54) rfl (by decide) (rs2 := _) rfl (L := 4) (H := 4) (kd := 20) rfl (lo := 0) (hi := 4) 0 rfl (by decide)
    exact this
  have head : ∀ (h14 : MH) (F5 : Nat → Int) (V14 : Nat → Nat → Int), MX 49 W ρ m A h0 h14 F5 V14 G → F5 8 = V 2 0 → 0 ≤ V 2 0 → V 2 0 ≤ 600 → mt_no V V14 → ((a = -1 ∧ V 5 0 ≤ 3) ∨ (a ≠ -1 ∧ 0 ≤ a ∧ a < V 5 0)) → HJ 187 65 (lv_args 0 [.ref m, .int xa]) [] h14 Q := fun h14 F5 V14 M14 f8 n0 n6 no hc => by
    obtain ⟨⟨n2, n3, n4⟩, nK⟩ := no
    have v1 : V14 1 = V 1 := nK 1 (by decide) (by decide) (by decide)
    have v5 : V14 5 = V 5 := nK 5 (by decide) (by decide) (by decide)
    have v6 : V14 6 = V 6 := nK 6 (by decide) (by decide) (by decide)
    have en : F5 8 = (((V 2 0).toNat : Nat) : Int) := by omega
    refine s_mt65 M14 rfl rfl qa (c_mread M14 (d_subm hw (by decide +kernel)) en (by omega) (fun x h' F' V' hx M' y3 y4 yK ytd yu => ?_))
    rw [v1] at hx y3 y4 ytd
    obtain ⟨Z, hZ⟩ : ∃ Z, Z = rd_tx (V 1) (V 2 0).toNat := ⟨_, rfl⟩
    have ok := ls_okT (T := V 1) (n := (V 2 0).toNat)
    rw [← hZ] at hx y3 y4 ytd g ok
    have w3 : V' 3 = m_u (V 3) 0 (ls_f Z) := by
      rw [y3, n3]
      exact funext (fun j => by
        by_cases e : j = 0
        · rw [e, m_uE, m_uE]
        · rw [m_uN _ _ _ _ e, m_uN _ _ _ _ e, m_uN _ _ _ _ e])
    have w4 : V' 4 = m_u (V 4) 0 (ls_l Z) := by
      rw [y4, n4]
      exact funext (fun j => by
        by_cases e : j = 0
        · rw [e, m_uE, m_uE]
        · rw [m_uN _ _ _ _ e, m_uN _ _ _ _ e, m_uN _ _ _ _ e])
    have w2 : V' 2 = m_u (V 2) 0 0 := by rw [yK 2 (by decide) (by decide) (by decide)]; exact n2
    have w5 : V' 5 = V 5 := by rw [yK 5 (by decide) (by decide) (by decide)]; exact v5
    have w6 : V' 6 = V 6 := by rw [yK 6 (by decide) (by decide) (by decide)]; exact v6
    have wK : ∀ K, K ≠ 2 → K ≠ 3 → K ≠ 4 → K ≠ 16 → V' K = V K := fun K k2 k3 k4 k16 => by rw [yK K k3 k4 k16]; exact nK K k2 k3 k4
    show HJ 187 69 (lv_args 0 [.ref m, .int xa]) [.int x] h' Q
    have row : ls_f Z = 0 → ∀ (k : Nat) (z : Int) (xk x9 : Int32) (lv : List (Nat × Value)) (h8 : MH) (V8 : Nat → Nat → Int), MX 49 W ρ m A h0 h8 F' V8 G → V8 = m_u V' 5 (m_u (V' 5) 0 z) → xk.toInt = (k : Int) → (k : Int) = (if a = -1 then V 5 0 else a) → z = (if a = -1 then V 5 0 + 1 else V 5 0) → k ≤ 3 → x9.toInt = 0 → m_lk lv 0 = some (.ref m) → m_lk lv 2 = some (.int xk) → m_lk lv 3 = some (.int x9) → HJ 187 111 lv [] h8 Q := fun z0 k z xk x9 lv h8 V8 M8 f8 qk hk hz k3 q9 e0 e2 e3 => by
      have td := ytd z0
      have g40 := (ok.1 z0).2
      have t0 : V8 16 0 = (ls_g Z : Int) := by
        rw [f8, m_uN _ _ _ _ (by decide), td.1, if_pos g40]
      have tu : V8 16 = V' 16 := by rw [f8, m_uN _ _ _ _ (by decide)]
      refine l_mt111 (k := k) (Vs := V8) (d_subm hw (by decide +kernel)) qk k3 (by omega) (fun h9 V9 M9 r9 o9 => ?_) 161 0 lv h8 V8 x9 (by decide) M8 q9 (fun j hj => absurd hj (Nat.not_lt_zero j)) (fun _ _ => rfl) (fun _ _ => rfl) e0 e2 e3
      refine g xk h9 F' V9 M9 (Or.inr ⟨hc, Or.inr ⟨z0, k, qk, hk, k3, ⟨?_, ?_, ?_, ?_⟩, ⟨?_, fun j hj i hi => ?_, fun j hj => ?_⟩, fun K k2 k3 k4 k5 k6 k16 => ?_⟩⟩)
      · rw [o9 2 (by decide), f8, m_uN _ _ _ _ (by decide)]
        exact w2
      · rw [o9 3 (by decide), f8, m_uN _ _ _ _ (by decide), w3, z0]
      · rw [o9 4 (by decide), f8, m_uN _ _ _ _ (by decide), w4, (ok.1 z0).1]
      · rw [o9 5 (by decide), f8, m_uE, w5, hz]
      · have := r9.1 0 (by decide)
        rw [if_pos (by rw [t0]; omega), t0] at this
        exact this
      · have := r9.1 (1 + 4 * j + i) (by omega)
        rw [if_pos (by rw [t0]; omega), tu, show 1 + 4 * j + i = 4 * j + 1 + i by omega, td.2 j (by omega) hj i hi] at this
        rw [show 161 * k + 1 + 4 * j + i = 161 * k + (4 * j + 1 + i) by omega]
        exact this
      · rw [r9.2 j hj, f8, m_uN _ _ _ _ (by decide), w6]
      · rw [o9 K k6, f8, m_uN _ _ _ _ k5]
        exact wK K k2 k3 k4 k16
    have w50 : V' 5 0 = V 5 0 := by rw [w5]
    have m3 : a = -1 → V' 5 0 ≤ 3 := fun e => by omega
    rcases hx with ⟨qx, z0⟩ | ⟨qx, z0⟩
    · refine s_mt69 M' rfl rfl qa qx m3 (d_subm hw (by decide +kernel)) (fun h8 V8 f8 x9 q9 lv10 M8 d0 d2 d3 _ c76 _ _ => ?_) (fun x12 q12 h19 V19 f19 x20 q20 lv21 M19 d0 d2 d3 _ c76 _ _ => ?_) (fun _ _ c => absurd c (by decide))
      · exact row z0 a.toNat (V' 5 0 + 0) xa x9 lv10 h8 V8 M8 f8 (by omega) (by rw [if_neg c76]; omega) (by rw [if_neg c76]; omega) (by omega) q9 d0 d2 d3
      · have q12 : x12.toInt = V' 5 0 := q12
        exact row z0 (V 5 0).toNat (V' 5 0 + 1) x12 x20 lv21 h19 V19 M19 f19 (by omega) (by rw [if_pos c76]; omega) (by rw [if_pos c76]; omega) (by omega) q20 d0 d2 d3
    · exact s_mt69 M' rfl rfl qa qx m3 (d_subm hw (by decide +kernel)) (fun _ _ _ _ _ _ _ _ _ _ c => absurd rfl c) (fun _ _ _ _ _ _ _ _ _ _ _ _ c => absurd rfl c) (fun x22 q22 _ => g x22 h' F' V' M' (Or.inr ⟨hc, Or.inl ⟨q22, z0, ⟨w2, w3, w4⟩, wK⟩⟩))
  have mk : ∀ {V8 V11 V14 : Nat → Nat → Int}, V8 = m_u V 2 (m_u (V 2) 0 0) → V11 = m_u V8 3 (m_u (V8 3) 0 0) → V14 = m_u V11 4 (m_u (V11 4) 0 (-1)) → mt_no V V14 := fun {V8 V11 V14} f8 f11 f14 => by
    refine ⟨⟨?_, ?_, ?_⟩, fun K k2 k3 k4 => ?_⟩
    · rw [f14, m_uN _ _ _ _ (by decide), f11, m_uN _ _ _ _ (by decide), f8, m_uE]
    · rw [f14, m_uN _ _ _ _ (by decide), f11, m_uE, f8, m_uN _ _ _ _ (by decide)]
    · rw [f14, m_uE, f11, m_uN _ _ _ _ (by decide), f8, m_uN _ _ _ _ (by decide)]
    · rw [f14, m_uN _ _ _ _ k4, f11, m_uN _ _ _ _ k3, f8, m_uN _ _ _ _ k2]
  refine s_mt0 M rfl rfl qa (d_subm hw (by decide +kernel)) (fun h2 F2 f2 h5 F5 f5 h8 V8 f8 h11 V11 f11 h14 V14 f14 M14 a4 b4 c38 => ?_) (fun h2 F2 f2 h5 F5 f5 h8 V8 f8 h11 V11 f11 h14 V14 f14 M14 a4 b4 c38 a17 b17 c48 => ?_) (fun h2 F2 f2 h5 F5 f5 h8 V8 f8 h11 V11 f11 h14 V14 f14 x19 q19 M14 a4 b4 c38 a17 b17 c48 => ?_)
  · have no := mk f8 f11 f14
    have v5 : V14 5 0 = V 5 0 := by rw [no.2 5 (by decide) (by decide) (by decide)]
    refine c_isRx M14 qa (fun z hz => s_mt59 (z := z.toInt) M14 rfl rfl qa rfl (fun c => ?_) (fun x1 q1 c => ?_))
    · exact head h14 F5 V14 M14 (by rw [f5, m_uE]; rfl) a4 b4 no (Or.inr ⟨c38, by omega, by omega⟩)
    · exact g x1 h14 F5 V14 M14 (Or.inl ⟨q1, Or.inr ⟨c38, by omega⟩, no⟩)
  · have c48 : V 5 0 ≠ 4 := c48
    exact head h14 F5 V14 M14 (by rw [f5, m_uE]; rfl) a4 b4 (mk f8 f11 f14) (Or.inl ⟨c38, by omega⟩)
  · exact g x19 h14 F5 V14 M14 (Or.inl ⟨q19, Or.inl ⟨c38, c48⟩, mk f8 f11 f14⟩)
end
end
section
-- BYTES TOLD: feed and end, on both sides
theorem HJ.both {i pc : Nat} {lv : List (Nat × Value)} {st : List Value} {h : MH} {Q1 Q2 Q : Option Value → MH → Prop} (a : HJ i pc lv st h Q1) (b : HJ i pc lv st h Q2) (c : ∀ v h', Q1 v h' → Q2 v h' → Q v h') : HJ i pc lv st h Q := by
  obtain ⟨v1, h1, ⟨n1, r1⟩, q1⟩ := a
  obtain ⟨v2, h2, ⟨n2, r2⟩, q2⟩ := b
  have e1 := m_upk n2 r1
  have e2 := m_upk n1 r2
  rw [Nat.add_comm, e1] at e2
  cases e2
  exact ⟨v1, h1, ⟨n1, r1⟩, c v1 h1 q1 q2⟩
-- one byte of a word, told on either side
def b_u (x : Int32) (z : Int) : Int := ((x.toUInt32 >>> ((Int32.ofInt z).toUInt32 &&& Int32.toUInt32 31)).toInt32.toInt8.toInt32).toInt
def b_s (x : Int32) (z : Int) : Int := ((x >>> ((Int32.ofInt z) &&& 31)).toInt8.toInt32).toInt
theorem b_8 (y : Int8) : -128 ≤ (y.toInt32).toInt ∧ (y.toInt32).toInt ≤ 127 := by
  rw [Int8.toInt_toInt32]
  have := Int8.toInt_lt y
  have := Int8.le_toInt y
  omega
theorem b_key (v : BitVec 32) (k : Nat) (hk : k ≤ 24) : (v >>> k).signExtend 8 = (v.sshiftRight k).signExtend 8 := by
  apply BitVec.eq_of_getLsbD_eq
  intro i hi
  rw [BitVec.getLsbD_signExtend, BitVec.getLsbD_signExtend, BitVec.getLsbD_ushiftRight, BitVec.getLsbD_sshiftRight, if_pos (show i < 32 by omega), if_pos (show i < 32 by omega), if_pos (show k + i < 32 by omega)]
  have e : decide (32 ≤ i) = false := decide_eq_false (by omega)
  rw [e]
  rfl
theorem b_us (x : Int32) (z : Int) (hz : z = 0 ∨ z = 8 ∨ z = 16 ∨ z = 24) : b_u x z = b_s x z := by
  unfold b_u b_s
  refine congrArg (fun y : Int8 => (y.toInt32).toInt) (Int8.toBitVec_inj.mp ?_)
  show (x.toBitVec >>> ((((Int32.ofInt z).toUInt32 &&& Int32.toUInt32 31).toBitVec % 32).toNat)).signExtend 8 = (x.toBitVec.sshiftRight (((Int32.ofInt z &&& 31 : Int32).toBitVec.smod 32).toNat)).signExtend 8
  rcases hz with rfl | rfl | rfl | rfl
  · rw [show (((Int32.ofInt 0).toUInt32 &&& Int32.toUInt32 31).toBitVec % 32).toNat = 0 by decide, show ((Int32.ofInt 0 &&& 31 : Int32).toBitVec.smod 32).toNat = 0 by decide]
    exact b_key _ _ (by decide)
  · rw [show (((Int32.ofInt 8).toUInt32 &&& Int32.toUInt32 31).toBitVec % 32).toNat = 8 by decide, show ((Int32.ofInt 8 &&& 31 : Int32).toBitVec.smod 32).toNat = 8 by decide]
    exact b_key _ _ (by decide)
  · rw [show (((Int32.ofInt 16).toUInt32 &&& Int32.toUInt32 31).toBitVec % 32).toNat = 16 by decide, show ((Int32.ofInt 16 &&& 31 : Int32).toBitVec.smod 32).toNat = 16 by decide]
    exact b_key _ _ (by decide)
  · rw [show (((Int32.ofInt 24).toUInt32 &&& Int32.toUInt32 31).toBitVec % 32).toNat = 24 by decide, show ((Int32.ofInt 24 &&& 31 : Int32).toBitVec.smod 32).toNat = 24 by decide]
    exact b_key _ _ (by decide)
section
variable {i pc pc' : Nat} {lv : List (Nat × Value)} {st : List Value} {h : MH} {Q : Option Value → MH → Prop}
theorem hM_bu {x y : Int32} {zy : Int} (a : m_at i pc = some (.iushr, 1)) (a2 : m_at i (pc + 1) = some (.i2b, 1)) (hy : y.toInt = zy) (hp : pc + 2 = pc') (g : ∀ w : Int32, w.toInt = b_u x zy → -128 ≤ b_u x zy → b_u x zy ≤ 127 → HJ i pc' lv (.int w :: st) h Q) : HJ i pc lv (.int y :: .int x :: st) h Q := by
  subst hp hy
  refine HJ.ex a (Or.inl rfl) rfl (hI_i2b a2 rfl (g _ ?_ ?_ ?_))
  · unfold b_u
    rw [Int32.ofInt_toInt]
  · exact (b_8 _).1
  · exact (b_8 _).2
theorem hM_bs_ {x y : Int32} {zy : Int} (a : m_at i pc = some (.ishr, 1)) (a2 : m_at i (pc + 1) = some (.i2b, 1)) (hy : y.toInt = zy) (hp : pc + 2 = pc') (g : ∀ w : Int32, w.toInt = b_s x zy → -128 ≤ b_s x zy → b_s x zy ≤ 127 → HJ i pc' lv (.int w :: st) h Q) : HJ i pc lv (.int y :: .int x :: st) h Q := by
  subst hp hy
  refine hI_ishr a rfl (hI_i2b a2 rfl (g _ ?_ ?_ ?_))
  · unfold b_s
    rw [Int32.ofInt_toInt]
  · exact (b_8 _).1
  · exact (b_8 _).2
end
section
variable {i pc pc' : Nat} {lv : List (Nat × Value)} {st : List Value} {Q : Option Value → MH → Prop} {R : Nat} {W : List (Nat × Nat)} {ρ : Nat → Nat} {m : Nat} {A : Nat → Nat} {h0 h : MH} {F : Nat → Int} {V : Nat → Nat → Int} {G : Nat → Nat → Int64}
-- the object's own fields stay as they were
theorem MX.gP (M : MX R W ρ m A h0 h F V G) (h16 : ρ 16 = 6) {k : Nat} (hk : k ≠ 1002) (hn : d_no [(6, k)] W = true) : h_r h 16 k = h_r h0 16 k := by
  have l := (M.1.1.2 16 (by rw [h16]; decide)).1
  have e : h_n h = h_n h0 := congrArg Prod.fst M.1.2.2.1
  exact ((M.1.2.2.2 16 (by omega)).2 k (by rw [h16]; exact d_noW hn (List.mem_singleton.mpr rfl) hk)).2.2
theorem hM_gP {idx nest k y : Nat} (M : MX R W ρ m A h0 h F V G) (h16 : ρ 16 = 6) (hy : h_r h0 16 k = y) (hn : d_no [(6, k)] W = true) (hk : k ≠ 1002) (a : m_at i pc = some (.getfield idx, 3)) (hf : m_fl i idx = some (nest, 8, k)) (ht : (m_ty 8 k).1 = 2) (hp : pc + 3 = pc') (g : HJ i pc' lv (.ref y :: st) h Q) : HJ i pc lv (.ref 16 :: st) h Q := by
  rw [← hy, ← M.gP h16 hk hn] at g
  exact hI_gr a hf ht (t_spec M.1.1 (by decide) (rfl : c_sp[6]? = some _) h16).1 hp g
theorem hM_go {idx nest c k o R2 : Nat} {rs : RS} (ht : TH c_sp ρ h) (hm : ρ o = R2) (hR : R2 ≠ 0) (hs : c_sp[R2]? = some rs) (hc : rs.1.1 = c + 1) (a : m_at i pc = some (.getfield idx, 3)) (hf : m_fl i idx = some (nest, c, k)) (hty : (m_ty c k).1 = 0) (hp : pc + 3 = pc') (g : ∀ x : Int32, x.toInt = (h_i h o k).toInt → HJ i pc' lv (.int x :: st) h Q) : HJ i pc lv (.ref o :: st) h Q := hI_gi a hf hty ((t_spec ht hR hs hm).1.trans hc) hp (g _ rfl)
end
theorem ok_7 : rg_okb 7 = true := by decide +kernel
-- the bytes of a word, of five
def f_4 (T : Nat → Int) (u : Nat) (x : Int32) : Nat → Int := m_u (m_u (m_u (m_u T u (b_u x 24)) (u + 1) (b_u x 16)) (u + 2) (b_u x 8)) (u + 3) (b_u x 0)
def f_20 (T : Nat → Int) (u : Nat) (a b c d e : Int32) : Nat → Int := f_4 (f_4 (f_4 (f_4 (f_4 T u a) (u + 4) b) (u + 8) c) (u + 12) d) (u + 16) e
theorem m_uR {T U : Nat → Int} {u v : Nat} {z : Int} (h : ∀ j, j < u → T j = U j) : ∀ j, j < u + 1 → m_u T u z j = m_u U u z j := fun j hj => by
  by_cases e : j = u
  · rw [e, m_uE, m_uE]
  · rw [m_uN _ _ _ _ e, m_uN _ _ _ _ e]
    exact h j (by omega)
theorem f_4R {T U : Nat → Int} {u : Nat} {x : Int32} (h : ∀ j, j < u → T j = U j) : ∀ j, j < u + 4 → f_4 T u x j = f_4 U u x j := m_uR (v := 0) (m_uR (v := 0) (m_uR (v := 0) (m_uR (v := 0) h)))
theorem f_20R {T U : Nat → Int} {u : Nat} {a b c d e : Int32} (h : ∀ j, j < u → T j = U j) : ∀ j, j < u + 20 → f_20 T u a b c d e j = f_20 U u a b c d e j := f_4R (f_4R (f_4R (f_4R (f_4R h))))
theorem f_4o {T : Nat → Int} {u : Nat} {x : Int32} {j : Nat} (h : u + 4 ≤ j) : f_4 T u x j = T j := by
  unfold f_4
  rw [m_uN _ _ _ _ (by omega), m_uN _ _ _ _ (by omega), m_uN _ _ _ _ (by omega), m_uN _ _ _ _ (by omega)]
theorem f_20o {T : Nat → Int} {u : Nat} {a b c d e : Int32} {j : Nat} (h : u + 20 ≤ j) : f_20 T u a b c d e j = T j := by
  unfold f_20
  rw [f_4o (by omega), f_4o (by omega), f_4o (by omega), f_4o (by omega), f_4o (by omega)]
section
variable {lv : List (Nat × Value)} {Q : Option Value → MH → Prop} {W : List (Nat × Nat)} {ρ : Nat → Nat} {m : Nat} {A : Nat → Nat} {h0 h : MH} {F : Nat → Int} {V : Nat → Nat → Int} {G : Nat → Nat → Int64}
theorem s_mfo0 {x : Int} (M : MX 49 W ρ m A h0 h F V G) (e0 : m_lk lv 0 = some (.ref m)) {lx1 : Int32} (e1 : m_lk lv 1 = some (.int lx1)) (lq1 : lx1.toInt = x) 
    (g0 : ∀ x1 : Int32, x1.toInt = 24 → ∀ lv2 : List (Nat × Value), m_lk lv2 0 = some (.ref m) → m_lk lv2 1 = some (.int lx1) → m_lk lv2 2 = some (.int x1) → HJ 184 3 lv2 [] h Q)
    : HJ 184 0 lv [] h Q := by
  refine hM_bp (n := 24) rfl (by decide) rfl (fun x1 q1 => ?_) -- 0
  refine hM_si (k := 2) rfl (by decide +kernel) rfl (fun lv2 e2_2 u2 => ?_) -- 2
  have e2_0 := u2 0 _ (by decide) (Or.inl rfl) e0
  have e2_1 := u2 1 _ (by decide) (Or.inl rfl) e1
  exact g0 x1 q1 lv2 e2_0 e2_1 e2_2
theorem s_mfo3 {x k : Int} (M : MX 49 W ρ m A h0 h F V G) (e0 : m_lk lv 0 = some (.ref m)) {lx1 : Int32} (e1 : m_lk lv 1 = some (.int lx1)) (lq1 : lx1.toInt = x) {lx2 : Int32} (e2 : m_lk lv 2 = some (.int lx2)) (lq2 : lx2.toInt = k) (k0 : 0 ≤ k → V 2 (0 : Int).toNat ≤ 599) (k1 : -8 ≤ k) (k2 : k ≤ 24)(hw : d_sub [(50, 1001), (51, 1001)] W = true)
    (g0 : k < 0 → Q none h)
    (g1 : ∀ h4 : MH, ∀ V4 : Nat → Nat → Int, V4 = m_u V 1 (m_u (V 1) (V 2 (0 : Int).toNat).toNat (b_s lx1 (k))) → ∀ h9 : MH, ∀ V9 : Nat → Nat → Int, V9 = m_u V4 2 (m_u (V4 2) (0 : Int).toNat ((V 2 (0 : Int).toNat) + 1)) → ∀ x10 : Int32, x10.toInt = k + (-8) → ∀ lv10 : List (Nat × Value), MX 49 W ρ m A h0 h9 F V9 G → m_lk lv10 0 = some (.ref m) → m_lk lv10 1 = some (.int lx1) → m_lk lv10 2 = some (.int x10) → k ≥ 0 → 0 ≤ V 2 (0 : Int).toNat → V 2 (0 : Int).toNat ≤ 600 → -128 ≤ b_s lx1 (k) → b_s lx1 (k) ≤ 127 → HJ 184 3 lv10 [] h9 Q)
    : HJ 184 3 lv [] h Q := by
  refine hI_il (k := 2) rfl e2 rfl ?_ -- 3
  refine hM_zlt (off := 34) (t := 38) rfl lq2 (by decide) rfl (fun c4 => ?_) (fun c4 => ?_) -- 4
  · refine hI_rv rfl rfl ?_
    exact g0 c4
  · refine hI_al (k := 0) rfl e0 rfl ?_ -- 7
    refine hM_ga M (by decide) rfl rfl (k := 1) (c := 9) rfl rfl rfl (by decide +kernel) rfl ?_ -- 8
    refine hI_al (k := 0) rfl e0 rfl ?_ -- 11
    refine hM_ga M (by decide) rfl rfl (k := 2) (c := 9) rfl rfl rfl (by decide +kernel) rfl ?_ -- 12
    refine hM_ic (n := 0) rfl (by decide) rfl (fun x1 q1 => ?_) -- 15
    refine hM_ia M (by decide) (K := 2) (R2 := 51) (L := 4) (H := 4) (lo := 0) (hi := 600) rfl (by decide) rfl rfl (fun _ => rfl) rfl q1 (by omega) (by omega) rfl (fun x2 q2 a2 b2 => ?_) -- 16
    refine hI_il (k := 1) rfl e1 rfl ?_ -- 17
    refine hI_il (k := 2) rfl e2 rfl ?_ -- 18
    refine hM_bs_ rfl rfl lq2 rfl (fun x3 q3 a3 b3 => ?_) -- 19
    refine hM_bs M (by decide) ok_49 (K := 1) (R2 := 50) (L := 2400) (H := 2400) (lo := (-128)) (hi := 127) rfl (by decide) rfl rfl rfl (fun _ => rfl) (by decide) (by decide) (d_subm hw (by decide +kernel)) rfl q2 q3 (by omega) (by omega) (by omega) (by omega) rfl (fun h4 V4 f4 M4 => ?_) -- 21
    refine hI_al (k := 0) rfl e0 rfl ?_ -- 22
    refine hM_ga M4 (by decide) rfl rfl (k := 2) (c := 9) rfl rfl rfl (by decide +kernel) rfl ?_ -- 23
    refine hM_ic (n := 0) rfl (by decide) rfl (fun x5 q5 => ?_) -- 26
    refine hI_dup2 rfl rfl rfl rfl ?_ -- 27
    refine hM_ia M4 (by decide) (K := 2) (R2 := 51) (L := 4) (H := 4) (lo := 0) (hi := 600) rfl (by decide) rfl rfl (fun _ => rfl) rfl q5 (by omega) (by omega) rfl (fun x6 q6 a6 b6 => ?_) -- 28
    have q6 : x6.toInt = V 2 (0 : Int).toNat := by rw [q6, f4]; rfl
    rw [f4] at a6 b6
    change 0 ≤ V 2 (0 : Int).toNat at a6
    change V 2 (0 : Int).toNat ≤ 600 at b6 -- 28
    refine hM_ic (n := 1) rfl (by decide) rfl (fun x7 q7 => ?_) -- 29
    refine hM_add rfl q6 q7 (by omega) (by omega) rfl (fun x8 q8 => ?_) -- 30
    refine hM_is M4 (by decide) ok_49 (K := 2) (R2 := 51) (L := 4) (H := 4) (lo := 0) (hi := 600) rfl (by decide) rfl rfl rfl (fun _ => rfl) (d_subm hw (by decide +kernel)) rfl q5 q8 (by omega) (by omega) (by omega) (by omega) rfl (fun h9 V9 f9 M9 => ?_) -- 31
    refine hM_inc (k := 2) (z := (-8)) rfl e2 lq2 (by decide) (by omega) (by omega) (by decide +kernel) rfl (fun lv10 x10 q10 e10_2 u10 => ?_) -- 32
    have e10_0 := u10 0 _ (by decide) (Or.inl rfl) e0
    have e10_1 := u10 1 _ (by decide) (Or.inl rfl) e1
    refine hI_go (pc' := 3) (off := (-32)) rfl (by decide) ?_ -- 35
    exact g1 h4 V4 f4 h9 V9 f9 x10 q10 lv10 M9 e10_0 e10_1 e10_2 c4 a2 b2 a3 b3
theorem s_ap0 {x : Int} (M : MX 7 W ρ m A h0 h F V G) (e0 : m_lk lv 0 = some (.ref m)) {lx1 : Int32} (e1 : m_lk lv 1 = some (.int lx1)) (lq1 : lx1.toInt = x) 
    (g0 : ∀ x1 : Int32, x1.toInt = 24 → ∀ lv2 : List (Nat × Value), m_lk lv2 0 = some (.ref m) → m_lk lv2 1 = some (.int lx1) → m_lk lv2 2 = some (.int x1) → HJ 8 3 lv2 [] h Q)
    : HJ 8 0 lv [] h Q := by
  refine hM_bp (n := 24) rfl (by decide) rfl (fun x1 q1 => ?_) -- 0
  refine hM_si (k := 2) rfl (by decide +kernel) rfl (fun lv2 e2_2 u2 => ?_) -- 2
  have e2_0 := u2 0 _ (by decide) (Or.inl rfl) e0
  have e2_1 := u2 1 _ (by decide) (Or.inl rfl) e1
  exact g0 x1 q1 lv2 e2_0 e2_1 e2_2
theorem s_ap3 {x k : Int} (M : MX 7 W ρ m A h0 h F V G) (e0 : m_lk lv 0 = some (.ref m)) {lx1 : Int32} (e1 : m_lk lv 1 = some (.int lx1)) (lq1 : lx1.toInt = x) {lx2 : Int32} (e2 : m_lk lv 2 = some (.int lx2)) (lq2 : lx2.toInt = k) (k1 : -8 ≤ k) (k2 : k ≤ 24)(hw : d_sub [(13, 1001), (7, 2)] W = true)
    (g0 : k < 0 → Q none h)
    (g1 : k ≥ 0 → 0 ≤ F 2 → F 2 ≤ 600 → F 2 ≥ 600 → Q none h)
    (g2 : ∀ h5 : MH, ∀ V5 : Nat → Nat → Int, V5 = m_u V 0 (m_u (V 0) (F 2).toNat (b_u lx1 (k))) → ∀ h9 : MH, ∀ F9 : Nat → Int, F9 = m_u F 2 ((F 2) + 1) → ∀ x10 : Int32, x10.toInt = k + (-8) → ∀ lv10 : List (Nat × Value), MX 7 W ρ m A h0 h9 F9 V5 G → m_lk lv10 0 = some (.ref m) → m_lk lv10 1 = some (.int lx1) → m_lk lv10 2 = some (.int x10) → k ≥ 0 → 0 ≤ F 2 → F 2 ≤ 600 → F 2 < 600 → -128 ≤ b_u lx1 (k) → b_u lx1 (k) ≤ 127 → HJ 8 3 lv10 [] h9 Q)
    : HJ 8 3 lv [] h Q := by
  refine hI_il (k := 2) rfl e2 rfl ?_ -- 3
  refine hM_zlt (off := 42) (t := 46) rfl lq2 (by decide) rfl (fun c4 => ?_) (fun c4 => ?_) -- 4
  · refine hI_rv rfl rfl ?_
    exact g0 c4
  · refine hI_al (k := 0) rfl e0 rfl ?_ -- 7
    refine hM_gi M (by decide) rfl rfl rfl (k := 2) (c := 6) (lo := 0) (hi := 600) rfl rfl rfl rfl rfl (fun x1 q1 a1 b1 => ?_) -- 8
    refine hM_sp (n := 600) rfl (by decide) rfl (fun x2 q2 => ?_) -- 11
    refine hM_cge (off := 32) (t := 46) rfl q1 q2 (by decide) rfl (fun c14 => ?_) (fun c14 => ?_) -- 14
    · refine hI_rv rfl rfl ?_
      exact g1 c4 a1 b1 c14
    · refine hI_al (k := 0) rfl e0 rfl ?_ -- 17
      refine hM_ga M (by decide) rfl rfl (k := 0) (c := 6) rfl rfl rfl (by decide +kernel) rfl ?_ -- 18
      refine hI_al (k := 0) rfl e0 rfl ?_ -- 21
      refine hM_gi M (by decide) rfl rfl rfl (k := 2) (c := 6) (lo := 0) (hi := 600) rfl rfl rfl rfl rfl (fun x3 q3 a3 b3 => ?_) -- 22
      refine hI_il (k := 1) rfl e1 rfl ?_ -- 25
      refine hI_il (k := 2) rfl e2 rfl ?_ -- 26
      refine hM_bu rfl rfl lq2 rfl (fun x4 q4 a4 b4 => ?_) -- 27
      refine hM_bs M (by decide) ok_7 (K := 0) (R2 := 13) (L := 600) (H := 600) (lo := (-128)) (hi := 127) rfl (by decide) rfl rfl rfl (fun _ => rfl) (by decide) (by decide) (d_subm hw (by decide +kernel)) rfl q3 q4 (by omega) (by omega) (by omega) (by omega) rfl (fun h5 V5 f5 M5 => ?_) -- 29
      refine hI_al (k := 0) rfl e0 rfl ?_ -- 30
      refine hI_dup rfl rfl rfl ?_ -- 31
      refine hM_gi M5 (by decide) rfl rfl rfl (k := 2) (c := 6) (lo := 0) (hi := 600) rfl rfl rfl rfl rfl (fun x6 q6 a6 b6 => ?_) -- 32
      refine hM_ic (n := 1) rfl (by decide) rfl (fun x7 q7 => ?_) -- 35
      refine hM_add rfl q6 q7 (by omega) (by omega) rfl (fun x8 q8 => ?_) -- 36
      refine hM_pi M5 (by decide) ok_7 rfl rfl (k := 2) (c := 6) (lo := 0) (hi := 600) rfl rfl ⟨by decide, by decide +kernel, rfl⟩ rfl (d_subm hw (by decide +kernel)) q8 (by omega) (by omega) rfl (fun h9 F9 f9 M9 => ?_) -- 37
      refine hM_inc (k := 2) (z := (-8)) rfl e2 lq2 (by decide) (by omega) (by omega) (by decide +kernel) rfl (fun lv10 x10 q10 e10_2 u10 => ?_) -- 40
      have e10_0 := u10 0 _ (by decide) (Or.inl rfl) e0
      have e10_1 := u10 1 _ (by decide) (Or.inl rfl) e1
      refine hI_go (pc' := 3) (off := (-40)) rfl (by decide) ?_ -- 43
      exact g2 h5 V5 f5 h9 F9 f9 x10 q10 lv10 M9 e10_0 e10_1 e10_2 c4 a1 b1 c14 a4 b4
theorem l_fo {k : Int} {u : Nat} {xx xk : Int32} (M : MX 49 W ρ m A h0 h F V G) (hw : d_sub [(50, 1001), (51, 1001)] W = true) (q : V 2 0 = (u : Int)) (u6 : u ≤ 599) (hk : k = 0 ∨ k = 8 ∨ k = 16 ∨ k = 24) (qk : xk.toInt = k) (e0 : m_lk lv 0 = some (.ref m)) (e1 : m_lk lv 1 = some (.int xx)) (e2 : m_lk lv 2 = some (.int xk)) (g : ∀ (h' : MH) (V' : Nat → Nat → Int) (x2 : Int32) (lv' : List (Nat × Value)), MX 49 W ρ m A h0 h' F V' G → V' 1 = m_u (V 1) u (b_u xx k) → V' 2 0 = ((u + 1 : Nat) : Int) → (∀ j, j ≠ 0 → V' 2 j = V 2 j) → (∀ K, K ≠ 1 → K ≠ 2 → V' K = V K) → x2.toInt = k - 8 → m_lk lv' 0 = some (.ref m) → m_lk lv' 1 = some (.int xx) → m_lk lv' 2 = some (.int x2) → HJ 184 3 lv' [] h' Q) : HJ 184 3 lv [] h Q := by
  refine s_mfo3 M e0 e1 rfl e2 qk (fun _ => by show V 2 0 ≤ 599; omega) (by omega) (by omega) hw (fun c => by omega) (fun h4 V4 f4 h9 V9 f9 x10 q10 lv10 M9 d0 d1 d2 _ _ _ _ _ => ?_)
  have f4 : V4 = m_u V 1 (m_u (V 1) (V 2 0).toNat (b_s xx k)) := f4
  have f9 : V9 = m_u V4 2 (m_u (V4 2) 0 (V 2 0 + 1)) := f9
  have hu : (V 2 0).toNat = u := by omega
  rw [hu, ← b_us xx k hk] at f4
  refine g h9 V9 x10 lv10 M9 ?_ ?_ (fun j hj => ?_) (fun K k1 k2 => ?_) (by omega) d0 d1 d2
  · rw [f9, m_uN _ _ _ _ (by decide), f4, m_uE]
  · rw [f9, m_uE, m_uE]
    omega
  · rw [f9, m_uE, m_uN _ _ _ _ hj, f4, m_uN _ _ _ _ (by decide)]
  · rw [f9, m_uN _ _ _ _ k2, f4, m_uN _ _ _ _ k1]
theorem c_four {u : Nat} {xx : Int32} (M : MX 49 W ρ m A h0 h F V G) (hw : d_sub [(50, 1001), (51, 1001)] W = true) (q : V 2 0 = (u : Int)) (u6 : u ≤ 596) (g : ∀ (h' : MH) (V' : Nat → Nat → Int), MX 49 W ρ m A h0 h' F V' G → V' 1 = f_4 (V 1) u xx → V' 2 0 = ((u + 4 : Nat) : Int) → (∀ j, j ≠ 0 → V' 2 j = V 2 j) → (∀ K, K ≠ 1 → K ≠ 2 → V' K = V K) → Q none h') : HJ 184 0 (lv_args 0 [.ref m, .int xx]) [] h Q := by
  refine s_mfo0 M rfl rfl rfl (fun x1 q1 lv2 a0 a1 a2 => l_fo M hw q (by omega) (by decide) q1 a0 a1 a2 (fun h1 V1 y1 lv3 M1 v1 s1 o1 r1 p1 b0 b1 b2 => ?_))
  refine l_fo M1 hw s1 (by omega) (k := 16) (by decide) (by omega) b0 b1 b2 (fun h2 V2 y2 lv4 M2 v2 s2 o2 r2 p2 c0 c1 c2 => ?_)
  refine l_fo M2 hw s2 (by omega) (k := 8) (by decide) (by omega) c0 c1 c2 (fun h3 V3 y3 lv5 M3 v3 s3 o3 r3 p3 d0 d1 d2 => ?_)
  refine l_fo M3 hw s3 (by omega) (k := 0) (by decide) (by omega) d0 d1 d2 (fun h4 V4 y4 lv6 M4 v4 s4 o4 r4 p4 i0 i1 i2 => ?_)
  refine s_mfo3 M4 i0 i1 rfl i2 p4 (fun c => absurd c (by decide)) (by decide) (by decide) hw (fun _ => g h4 V4 M4 ?_ s4 (fun j hj => ?_) (fun K k1 k2 => ?_)) (fun _ _ _ _ _ _ _ _ _ _ _ _ _ c => absurd c (by decide))
  · rw [v4, v3, v2, v1]
    rfl
  · rw [o4 j hj, o3 j hj, o2 j hj, o1 j hj]
  · rw [r4 K k1 k2, r3 K k1 k2, r2 K k1 k2, r1 K k1 k2]
theorem l_ap {k : Int} {u : Nat} {xx xk : Int32} (M : MX 7 W ρ m A h0 h F V G) (hw : d_sub [(13, 1001), (7, 2)] W = true) (q : F 2 = (u : Int)) (u6 : u ≤ 599) (hk : 0 ≤ k) (k24 : k ≤ 24) (qk : xk.toInt = k) (e0 : m_lk lv 0 = some (.ref m)) (e1 : m_lk lv 1 = some (.int xx)) (e2 : m_lk lv 2 = some (.int xk)) (g : ∀ (h' : MH) (F' : Nat → Int) (V' : Nat → Nat → Int) (x2 : Int32) (lv' : List (Nat × Value)), MX 7 W ρ m A h0 h' F' V' G → V' 0 = m_u (V 0) u (b_u xx k) → F' 2 = ((u + 1 : Nat) : Int) → (∀ K, K ≠ 2 → F' K = F K) → x2.toInt = k - 8 → m_lk lv' 0 = some (.ref m) → m_lk lv' 1 = some (.int xx) → m_lk lv' 2 = some (.int x2) → HJ 8 3 lv' [] h' Q) : HJ 8 3 lv [] h Q := by
  refine s_ap3 M e0 e1 rfl e2 qk (by omega) k24 hw (fun c => by omega) (fun _ _ _ c => by omega) (fun h5 V5 f5 h9 F9 f9 x10 q10 lv10 M9 d0 d1 d2 _ _ _ _ _ _ => ?_)
  have hu : (F 2).toNat = u := by omega
  rw [hu] at f5
  refine g h9 F9 V5 x10 lv10 M9 ?_ ?_ (fun K k2 => ?_) (by omega) d0 d1 d2
  · rw [f5, m_uE]
  · rw [f9, m_uE]
    omega
  · rw [f9, m_uN _ _ _ _ k2]
theorem c_app {u : Nat} {xx : Int32} (M : MX 7 W ρ m A h0 h F V G) (hw : d_sub [(13, 1001), (7, 2)] W = true) (q : F 2 = (u : Int)) (u6 : u ≤ 596) (g : ∀ (h' : MH) (F' : Nat → Int) (V' : Nat → Nat → Int), MX 7 W ρ m A h0 h' F' V' G → V' 0 = f_4 (V 0) u xx → F' 2 = ((u + 4 : Nat) : Int) → (∀ K, K ≠ 2 → F' K = F K) → Q none h') : HJ 8 0 (lv_args 0 [.ref m, .int xx]) [] h Q := by
  refine s_ap0 M rfl rfl rfl (fun x1 q1 lv2 a0 a1 a2 => l_ap M hw q (by omega) (by decide) (by decide) q1 a0 a1 a2 (fun h1 F1 V1 y1 lv3 M1 v1 s1 o1 p1 b0 b1 b2 => ?_))
  refine l_ap M1 hw s1 (by omega) (k := 16) (by decide) (by decide) (by omega) b0 b1 b2 (fun h2 F2 V2 y2 lv4 M2 v2 s2 o2 p2 c0 c1 c2 => ?_)
  refine l_ap M2 hw s2 (by omega) (k := 8) (by decide) (by decide) (by omega) c0 c1 c2 (fun h3 F3 V3 y3 lv5 M3 v3 s3 o3 p3 d0 d1 d2 => ?_)
  refine l_ap M3 hw s3 (by omega) (k := 0) (by decide) (by decide) (by omega) d0 d1 d2 (fun h4 F4 V4 y4 lv6 M4 v4 s4 o4 p4 i0 i1 i2 => ?_)
  refine s_ap3 M4 i0 i1 rfl i2 p4 (by decide) (by decide) hw (fun _ => g h4 F4 V4 M4 ?_ s4 (fun K k2 => ?_)) (fun c => absurd c (by decide)) (fun _ _ _ _ _ _ _ _ _ _ _ _ _ c => absurd c (by decide))
  · rw [v4, v3, v2, v1]
    rfl
  · rw [o4 K k2, o3 K k2, o2 K k2, o1 K k2]
theorem s_mf0 {a b c d e : Int} (M : MX 49 W ρ m A h0 h F V G) (e0 : m_lk lv 0 = some (.ref m)) {lx1 : Int32} (e1 : m_lk lv 1 = some (.int lx1)) (lq1 : lx1.toInt = a) {lx2 : Int32} (e2 : m_lk lv 2 = some (.int lx2)) (lq2 : lx2.toInt = b) {lx3 : Int32} (e3 : m_lk lv 3 = some (.int lx3)) (lq3 : lx3.toInt = c) {lx4 : Int32} (e4 : m_lk lv 4 = some (.int lx4)) (lq4 : lx4.toInt = d) {lx5 : Int32} (e5 : m_lk lv 5 = some (.int lx5)) (lq5 : lx5.toInt = e) (hw : d_sub [(49, 0)] W = true)
    (g0 : ∀ h2 : MH, ∀ F2 : Nat → Int, F2 = m_u F 0 (0) → MX 49 W ρ m A h0 h2 F2 V G → 0 ≤ V 2 (0 : Int).toNat → V 2 (0 : Int).toNat ≤ 600 → (V 2 (0 : Int).toNat) + 20 ≤ 600 → HJ 184 0 (lv_args 0 [.ref m, .int lx1]) [] h2 (fun v h' => HJ 183 27 lv (v.toList ++ []) h' Q))
    (g1 : ∀ h2 : MH, ∀ F2 : Nat → Int, F2 = m_u F 0 (0) → ∀ x8 : Int32, x8.toInt = (-1) → MX 49 W ρ m A h0 h2 F2 V G → 0 ≤ V 2 (0 : Int).toNat → V 2 (0 : Int).toNat ≤ 600 → (V 2 (0 : Int).toNat) + 20 > 600 → Q (some (.int x8)) h2)
    : HJ 183 0 lv [] h Q := by
  refine hI_al (k := 0) rfl e0 rfl ?_ -- 0
  refine hM_ic (n := 0) rfl (by decide) rfl (fun x1 q1 => ?_) -- 1
  refine hM_pi M (by decide) ok_49 rfl rfl (k := 0) (c := 9) (lo := (-2147483648)) (hi := 2147483647) rfl rfl ⟨by decide, by decide +kernel, rfl⟩ rfl (d_subm hw (by decide +kernel)) q1 (by omega) (by omega) rfl (fun h2 F2 f2 M2 => ?_) -- 2
  refine hI_al (k := 0) rfl e0 rfl ?_ -- 5
  refine hM_ga M2 (by decide) rfl rfl (k := 2) (c := 9) rfl rfl rfl (by decide +kernel) rfl ?_ -- 6
  refine hM_ic (n := 0) rfl (by decide) rfl (fun x3 q3 => ?_) -- 9
  refine hM_ia M2 (by decide) (K := 2) (R2 := 51) (L := 4) (H := 4) (lo := 0) (hi := 600) rfl (by decide) rfl rfl (fun _ => rfl) rfl q3 (by omega) (by omega) rfl (fun x4 q4 a4 b4 => ?_) -- 10
  refine hM_bp (n := 20) rfl (by decide) rfl (fun x5 q5 => ?_) -- 11
  refine hM_add rfl q4 q5 (by omega) (by omega) rfl (fun x6 q6 => ?_) -- 13
  refine hM_sp (n := 600) rfl (by decide) rfl (fun x7 q7 => ?_) -- 14
  refine hM_cle (off := 5) (t := 22) rfl q6 q7 (by decide) rfl (fun c17 => ?_) (fun c17 => ?_) -- 17
  · refine hI_al (k := 0) rfl e0 rfl ?_ -- 22
    refine hI_il (k := 1) rfl e1 rfl ?_ -- 23
    refine hM_iv M2 (by decide) rfl rfl (by decide) (as := [.int lx1]) (r := []) rfl rfl (by decide +kernel) rfl (by decide +kernel) rfl rfl rfl rfl rfl ?_ -- 24
    exact g0 h2 F2 f2 M2 a4 b4 c17
  · refine hM_ic (n := (-1)) rfl (by decide) rfl (fun x8 q8 => ?_) -- 20
    refine hI_ri rfl rfl ?_ -- 21
    exact g1 h2 F2 f2 x8 q8 M2 a4 b4 c17
theorem s_mf27 {a b c d e : Int} (M : MX 49 W ρ m A h0 h F V G) (e0 : m_lk lv 0 = some (.ref m)) {lx1 : Int32} (e1 : m_lk lv 1 = some (.int lx1)) (lq1 : lx1.toInt = a) {lx2 : Int32} (e2 : m_lk lv 2 = some (.int lx2)) (lq2 : lx2.toInt = b) {lx3 : Int32} (e3 : m_lk lv 3 = some (.int lx3)) (lq3 : lx3.toInt = c) {lx4 : Int32} (e4 : m_lk lv 4 = some (.int lx4)) (lq4 : lx4.toInt = d) {lx5 : Int32} (e5 : m_lk lv 5 = some (.int lx5)) (lq5 : lx5.toInt = e) 
    (g0 : HJ 184 0 (lv_args 0 [.ref m, .int lx2]) [] h (fun v h' => HJ 183 32 lv (v.toList ++ []) h' Q))
    : HJ 183 27 lv [] h Q := by
  refine hI_al (k := 0) rfl e0 rfl ?_ -- 27
  refine hI_il (k := 2) rfl e2 rfl ?_ -- 28
  refine hM_iv M (by decide) rfl rfl (by decide) (as := [.int lx2]) (r := []) rfl rfl (by decide +kernel) rfl (by decide +kernel) rfl rfl rfl rfl rfl ?_ -- 29
  exact g0 
theorem s_mf32 {a b c d e : Int} (M : MX 49 W ρ m A h0 h F V G) (e0 : m_lk lv 0 = some (.ref m)) {lx1 : Int32} (e1 : m_lk lv 1 = some (.int lx1)) (lq1 : lx1.toInt = a) {lx2 : Int32} (e2 : m_lk lv 2 = some (.int lx2)) (lq2 : lx2.toInt = b) {lx3 : Int32} (e3 : m_lk lv 3 = some (.int lx3)) (lq3 : lx3.toInt = c) {lx4 : Int32} (e4 : m_lk lv 4 = some (.int lx4)) (lq4 : lx4.toInt = d) {lx5 : Int32} (e5 : m_lk lv 5 = some (.int lx5)) (lq5 : lx5.toInt = e) 
    (g0 : HJ 184 0 (lv_args 0 [.ref m, .int lx3]) [] h (fun v h' => HJ 183 37 lv (v.toList ++ []) h' Q))
    : HJ 183 32 lv [] h Q := by
  refine hI_al (k := 0) rfl e0 rfl ?_ -- 32
  refine hI_il (k := 3) rfl e3 rfl ?_ -- 33
  refine hM_iv M (by decide) rfl rfl (by decide) (as := [.int lx3]) (r := []) rfl rfl (by decide +kernel) rfl (by decide +kernel) rfl rfl rfl rfl rfl ?_ -- 34
  exact g0 
theorem s_mf37 {a b c d e : Int} (M : MX 49 W ρ m A h0 h F V G) (e0 : m_lk lv 0 = some (.ref m)) {lx1 : Int32} (e1 : m_lk lv 1 = some (.int lx1)) (lq1 : lx1.toInt = a) {lx2 : Int32} (e2 : m_lk lv 2 = some (.int lx2)) (lq2 : lx2.toInt = b) {lx3 : Int32} (e3 : m_lk lv 3 = some (.int lx3)) (lq3 : lx3.toInt = c) {lx4 : Int32} (e4 : m_lk lv 4 = some (.int lx4)) (lq4 : lx4.toInt = d) {lx5 : Int32} (e5 : m_lk lv 5 = some (.int lx5)) (lq5 : lx5.toInt = e) 
    (g0 : HJ 184 0 (lv_args 0 [.ref m, .int lx4]) [] h (fun v h' => HJ 183 43 lv (v.toList ++ []) h' Q))
    : HJ 183 37 lv [] h Q := by
  refine hI_al (k := 0) rfl e0 rfl ?_ -- 37
  refine hI_il2 (k := 4) rfl e4 rfl ?_ -- 38
  refine hM_iv M (by decide) rfl rfl (by decide) (as := [.int lx4]) (r := []) rfl rfl (by decide +kernel) rfl (by decide +kernel) rfl rfl rfl rfl rfl ?_ -- 40
  exact g0 
theorem s_mf43 {a b c d e : Int} (M : MX 49 W ρ m A h0 h F V G) (e0 : m_lk lv 0 = some (.ref m)) {lx1 : Int32} (e1 : m_lk lv 1 = some (.int lx1)) (lq1 : lx1.toInt = a) {lx2 : Int32} (e2 : m_lk lv 2 = some (.int lx2)) (lq2 : lx2.toInt = b) {lx3 : Int32} (e3 : m_lk lv 3 = some (.int lx3)) (lq3 : lx3.toInt = c) {lx4 : Int32} (e4 : m_lk lv 4 = some (.int lx4)) (lq4 : lx4.toInt = d) {lx5 : Int32} (e5 : m_lk lv 5 = some (.int lx5)) (lq5 : lx5.toInt = e) 
    (g0 : HJ 184 0 (lv_args 0 [.ref m, .int lx5]) [] h (fun v h' => HJ 183 49 lv (v.toList ++ []) h' Q))
    : HJ 183 43 lv [] h Q := by
  refine hI_al (k := 0) rfl e0 rfl ?_ -- 43
  refine hI_il2 (k := 5) rfl e5 rfl ?_ -- 44
  refine hM_iv M (by decide) rfl rfl (by decide) (as := [.int lx5]) (r := []) rfl rfl (by decide +kernel) rfl (by decide +kernel) rfl rfl rfl rfl rfl ?_ -- 46
  exact g0 
theorem s_mf49 (M : MX 49 W ρ m A h0 h F V G) (e0 : m_lk lv 0 = some (.ref m)) 
    (g0 : ∀ x2 : Int32, x2.toInt = V 2 (0 : Int).toNat → 0 ≤ V 2 (0 : Int).toNat → V 2 (0 : Int).toNat ≤ 600 → Q (some (.int x2)) h)
    : HJ 183 49 lv [] h Q := by
  refine hI_al (k := 0) rfl e0 rfl ?_ -- 49
  refine hM_ga M (by decide) rfl rfl (k := 2) (c := 9) rfl rfl rfl (by decide +kernel) rfl ?_ -- 50
  refine hM_ic (n := 0) rfl (by decide) rfl (fun x1 q1 => ?_) -- 53
  refine hM_ia M (by decide) (K := 2) (R2 := 51) (L := 4) (H := 4) (lo := 0) (hi := 600) rfl (by decide) rfl rfl (fun _ => rfl) rfl q1 (by omega) (by omega) rfl (fun x2 q2 a2 b2 => ?_) -- 54
  refine hI_ri rfl rfl ?_ -- 55
  exact g0 x2 q2 a2 b2
def w_mfd : List (Nat × Nat) := [(49, 0), (50, 1001), (51, 1001)]
theorem c_mfeed {u : Nat} {xa xb xc xd xe : Int32} (M : MX 49 W ρ m A h0 h F V G) (hw : d_sub w_mfd W = true) (q : V 2 0 = (u : Int)) (g : ∀ (x : Int32) (h' : MH) (F' : Nat → Int) (V' : Nat → Nat → Int), MX 49 W ρ m A h0 h' F' V' G → (x.toInt = -1 ∧ 581 ≤ u ∧ V' = V) ∨ (x.toInt = ((u + 20 : Nat) : Int) ∧ u ≤ 580 ∧ V' 1 = f_20 (V 1) u xa xb xc xd xe ∧ V' 2 0 = ((u + 20 : Nat) : Int) ∧ (∀ j, j ≠ 0 → V' 2 j = V 2 j) ∧ ∀ K, K ≠ 1 → K ≠ 2 → V' K = V K) → Q (some (.int x)) h') : HJ 183 0 (lv_args 0 [.ref m, .int xa, .int xb, .int xc, .int xd, .int xe]) [] h Q := by
  have hf : d_sub [(50, 1001), (51, 1001)] W = true := d_subm hw (by decide +kernel)
  refine s_mf0 M rfl rfl rfl rfl rfl rfl rfl rfl rfl rfl rfl (d_subm hw (by decide +kernel)) (fun h2 F2 f2 M2 a4 b4 c17 => ?_) (fun h2 F2 f2 x8 q8 M2 a4 b4 c17 => ?_)
  · have c17 : V 2 0 + 20 ≤ 600 := c17
    refine c_four M2 hf q (by omega) (fun h3 V3 M3 v3 s3 o3 r3 => s_mf27 M3 rfl rfl rfl rfl rfl rfl rfl rfl rfl rfl rfl ?_)
    refine c_four M3 hf s3 (by omega) (fun h4 V4 M4 v4 s4 o4 r4 => s_mf32 M4 rfl rfl rfl rfl rfl rfl rfl rfl rfl rfl rfl ?_)
    refine c_four M4 hf s4 (by omega) (fun h5 V5 M5 v5 s5 o5 r5 => s_mf37 M5 rfl rfl rfl rfl rfl rfl rfl rfl rfl rfl rfl ?_)
    refine c_four M5 hf s5 (by omega) (fun h6 V6 M6 v6 s6 o6 r6 => s_mf43 M6 rfl rfl rfl rfl rfl rfl rfl rfl rfl rfl rfl ?_)
    refine c_four M6 hf s6 (by omega) (fun h7 V7 M7 v7 s7 o7 r7 => s_mf49 M7 rfl (fun x3 q3 _ _ => g x3 h7 F2 V7 M7 (Or.inr ⟨?_, by omega, ?_, ?_, fun j hj => ?_, fun K k1 k2 => ?_⟩)))
    · exact q3.trans s7
    · rw [v7, v6, v5, v4, v3]
      rfl
    · exact s7
    · rw [o7 j hj, o6 j hj, o5 j hj, o4 j hj, o3 j hj]
    · rw [r7 K k1 k2, r6 K k1 k2, r5 K k1 k2, r4 K k1 k2, r3 K k1 k2]
  · have c17 : V 2 0 + 20 > 600 := c17
    exact g x8 h2 F2 V M2 (Or.inl ⟨q8, by omega, rfl⟩)
theorem s_fe0 {a b c d e : Int} (M : MX 7 W ρ m A h0 h F V G) (e0 : m_lk lv 0 = some (.ref 16)) {lx1 : Int32} (e1 : m_lk lv 1 = some (.int lx1)) (lq1 : lx1.toInt = a) {lx2 : Int32} (e2 : m_lk lv 2 = some (.int lx2)) (lq2 : lx2.toInt = b) {lx3 : Int32} (e3 : m_lk lv 3 = some (.int lx3)) (lq3 : lx3.toInt = c) {lx4 : Int32} (e4 : m_lk lv 4 = some (.int lx4)) (lq4 : lx4.toInt = d) {lx5 : Int32} (e5 : m_lk lv 5 = some (.int lx5)) (lq5 : lx5.toInt = e) (h16 : ρ 16 = 6) (hP0 : h_r h0 16 0 = m) (hn0 : d_no [(6, 0)] W = true)
    (g0 : 0 ≤ F 2 → F 2 ≤ 600 → (F 2) + 20 ≤ 600 → HJ 8 0 (lv_args 0 [.ref m, .int lx1]) [] h (fun v h' => HJ 7 26 lv (v.toList ++ []) h' Q))
    (g1 : ∀ x5 : Int32, x5.toInt = (-1) → 0 ≤ F 2 → F 2 ≤ 600 → (F 2) + 20 > 600 → Q (some (.int x5)) h)
    : HJ 7 0 lv [] h Q := by
  refine hI_al (k := 0) rfl e0 rfl ?_ -- 0
  refine hM_gP (k := 0) M h16 hP0 hn0 (by decide) rfl rfl rfl rfl ?_ -- 1
  refine hM_gi M (by decide) rfl rfl rfl (k := 2) (c := 6) (lo := 0) (hi := 600) rfl rfl rfl rfl rfl (fun x1 q1 a1 b1 => ?_) -- 4
  refine hM_bp (n := 20) rfl (by decide) rfl (fun x2 q2 => ?_) -- 7
  refine hM_add rfl q1 q2 (by omega) (by omega) rfl (fun x3 q3 => ?_) -- 9
  refine hM_sp (n := 600) rfl (by decide) rfl (fun x4 q4 => ?_) -- 10
  refine hM_cle (off := 5) (t := 18) rfl q3 q4 (by decide) rfl (fun c13 => ?_) (fun c13 => ?_) -- 13
  · refine hI_al (k := 0) rfl e0 rfl ?_ -- 18
    refine hM_gP (k := 0) M h16 hP0 hn0 (by decide) rfl rfl rfl rfl ?_ -- 19
    refine hI_il (k := 1) rfl e1 rfl ?_ -- 22
    refine hM_iv M (by decide) rfl rfl (by decide) (as := [.int lx1]) (r := []) rfl rfl (by decide +kernel) rfl (by decide +kernel) rfl rfl rfl rfl rfl ?_ -- 23
    exact g0 a1 b1 c13
  · refine hM_ic (n := (-1)) rfl (by decide) rfl (fun x5 q5 => ?_) -- 16
    refine hI_ri rfl rfl ?_ -- 17
    exact g1 x5 q5 a1 b1 c13
theorem s_fe26 {a b c d e : Int} (M : MX 7 W ρ m A h0 h F V G) (e0 : m_lk lv 0 = some (.ref 16)) {lx1 : Int32} (e1 : m_lk lv 1 = some (.int lx1)) (lq1 : lx1.toInt = a) {lx2 : Int32} (e2 : m_lk lv 2 = some (.int lx2)) (lq2 : lx2.toInt = b) {lx3 : Int32} (e3 : m_lk lv 3 = some (.int lx3)) (lq3 : lx3.toInt = c) {lx4 : Int32} (e4 : m_lk lv 4 = some (.int lx4)) (lq4 : lx4.toInt = d) {lx5 : Int32} (e5 : m_lk lv 5 = some (.int lx5)) (lq5 : lx5.toInt = e) (h16 : ρ 16 = 6) (hP0 : h_r h0 16 0 = m) (hn0 : d_no [(6, 0)] W = true)
    (g0 : HJ 8 0 (lv_args 0 [.ref m, .int lx2]) [] h (fun v h' => HJ 7 34 lv (v.toList ++ []) h' Q))
    : HJ 7 26 lv [] h Q := by
  refine hI_al (k := 0) rfl e0 rfl ?_ -- 26
  refine hM_gP (k := 0) M h16 hP0 hn0 (by decide) rfl rfl rfl rfl ?_ -- 27
  refine hI_il (k := 2) rfl e2 rfl ?_ -- 30
  refine hM_iv M (by decide) rfl rfl (by decide) (as := [.int lx2]) (r := []) rfl rfl (by decide +kernel) rfl (by decide +kernel) rfl rfl rfl rfl rfl ?_ -- 31
  exact g0 
theorem s_fe34 {a b c d e : Int} (M : MX 7 W ρ m A h0 h F V G) (e0 : m_lk lv 0 = some (.ref 16)) {lx1 : Int32} (e1 : m_lk lv 1 = some (.int lx1)) (lq1 : lx1.toInt = a) {lx2 : Int32} (e2 : m_lk lv 2 = some (.int lx2)) (lq2 : lx2.toInt = b) {lx3 : Int32} (e3 : m_lk lv 3 = some (.int lx3)) (lq3 : lx3.toInt = c) {lx4 : Int32} (e4 : m_lk lv 4 = some (.int lx4)) (lq4 : lx4.toInt = d) {lx5 : Int32} (e5 : m_lk lv 5 = some (.int lx5)) (lq5 : lx5.toInt = e) (h16 : ρ 16 = 6) (hP0 : h_r h0 16 0 = m) (hn0 : d_no [(6, 0)] W = true)
    (g0 : HJ 8 0 (lv_args 0 [.ref m, .int lx3]) [] h (fun v h' => HJ 7 42 lv (v.toList ++ []) h' Q))
    : HJ 7 34 lv [] h Q := by
  refine hI_al (k := 0) rfl e0 rfl ?_ -- 34
  refine hM_gP (k := 0) M h16 hP0 hn0 (by decide) rfl rfl rfl rfl ?_ -- 35
  refine hI_il (k := 3) rfl e3 rfl ?_ -- 38
  refine hM_iv M (by decide) rfl rfl (by decide) (as := [.int lx3]) (r := []) rfl rfl (by decide +kernel) rfl (by decide +kernel) rfl rfl rfl rfl rfl ?_ -- 39
  exact g0 
theorem s_fe42 {a b c d e : Int} (M : MX 7 W ρ m A h0 h F V G) (e0 : m_lk lv 0 = some (.ref 16)) {lx1 : Int32} (e1 : m_lk lv 1 = some (.int lx1)) (lq1 : lx1.toInt = a) {lx2 : Int32} (e2 : m_lk lv 2 = some (.int lx2)) (lq2 : lx2.toInt = b) {lx3 : Int32} (e3 : m_lk lv 3 = some (.int lx3)) (lq3 : lx3.toInt = c) {lx4 : Int32} (e4 : m_lk lv 4 = some (.int lx4)) (lq4 : lx4.toInt = d) {lx5 : Int32} (e5 : m_lk lv 5 = some (.int lx5)) (lq5 : lx5.toInt = e) (h16 : ρ 16 = 6) (hP0 : h_r h0 16 0 = m) (hn0 : d_no [(6, 0)] W = true)
    (g0 : HJ 8 0 (lv_args 0 [.ref m, .int lx4]) [] h (fun v h' => HJ 7 51 lv (v.toList ++ []) h' Q))
    : HJ 7 42 lv [] h Q := by
  refine hI_al (k := 0) rfl e0 rfl ?_ -- 42
  refine hM_gP (k := 0) M h16 hP0 hn0 (by decide) rfl rfl rfl rfl ?_ -- 43
  refine hI_il2 (k := 4) rfl e4 rfl ?_ -- 46
  refine hM_iv M (by decide) rfl rfl (by decide) (as := [.int lx4]) (r := []) rfl rfl (by decide +kernel) rfl (by decide +kernel) rfl rfl rfl rfl rfl ?_ -- 48
  exact g0 
theorem s_fe51 {a b c d e : Int} (M : MX 7 W ρ m A h0 h F V G) (e0 : m_lk lv 0 = some (.ref 16)) {lx1 : Int32} (e1 : m_lk lv 1 = some (.int lx1)) (lq1 : lx1.toInt = a) {lx2 : Int32} (e2 : m_lk lv 2 = some (.int lx2)) (lq2 : lx2.toInt = b) {lx3 : Int32} (e3 : m_lk lv 3 = some (.int lx3)) (lq3 : lx3.toInt = c) {lx4 : Int32} (e4 : m_lk lv 4 = some (.int lx4)) (lq4 : lx4.toInt = d) {lx5 : Int32} (e5 : m_lk lv 5 = some (.int lx5)) (lq5 : lx5.toInt = e) (h16 : ρ 16 = 6) (hP0 : h_r h0 16 0 = m) (hn0 : d_no [(6, 0)] W = true)
    (g0 : HJ 8 0 (lv_args 0 [.ref m, .int lx5]) [] h (fun v h' => HJ 7 60 lv (v.toList ++ []) h' Q))
    : HJ 7 51 lv [] h Q := by
  refine hI_al (k := 0) rfl e0 rfl ?_ -- 51
  refine hM_gP (k := 0) M h16 hP0 hn0 (by decide) rfl rfl rfl rfl ?_ -- 52
  refine hI_il2 (k := 5) rfl e5 rfl ?_ -- 55
  refine hM_iv M (by decide) rfl rfl (by decide) (as := [.int lx5]) (r := []) rfl rfl (by decide +kernel) rfl (by decide +kernel) rfl rfl rfl rfl rfl ?_ -- 57
  exact g0 
theorem s_fe60 (M : MX 7 W ρ m A h0 h F V G) (e0 : m_lk lv 0 = some (.ref 16)) (h16 : ρ 16 = 6) (hP0 : h_r h0 16 0 = m) (hn0 : d_no [(6, 0)] W = true)
    (g0 : ∀ x1 : Int32, x1.toInt = F 2 → 0 ≤ F 2 → F 2 ≤ 600 → Q (some (.int x1)) h)
    : HJ 7 60 lv [] h Q := by
  refine hI_al (k := 0) rfl e0 rfl ?_ -- 60
  refine hM_gP (k := 0) M h16 hP0 hn0 (by decide) rfl rfl rfl rfl ?_ -- 61
  refine hM_gi M (by decide) rfl rfl rfl (k := 2) (c := 6) (lo := 0) (hi := 600) rfl rfl rfl rfl rfl (fun x1 q1 a1 b1 => ?_) -- 64
  refine hI_ri rfl rfl ?_ -- 67
  exact g0 x1 q1 a1 b1
def w_fd : List (Nat × Nat) := [(13, 1001), (7, 2)]
theorem c_feed {u : Nat} {xa xb xc xd xe : Int32} (M : MX 7 W ρ m A h0 h F V G) (hw : d_sub w_fd W = true) (h16 : ρ 16 = 6) (hP0 : h_r h0 16 0 = m) (hn0 : d_no [(6, 0)] W = true) (q : F 2 = (u : Int)) (g : ∀ (x : Int32) (h' : MH) (F' : Nat → Int) (V' : Nat → Nat → Int), MX 7 W ρ m A h0 h' F' V' G → (x.toInt = -1 ∧ 581 ≤ u ∧ F' = F ∧ V' = V) ∨ (x.toInt = ((u + 20 : Nat) : Int) ∧ u ≤ 580 ∧ V' 0 = f_20 (V 0) u xa xb xc xd xe ∧ F' 2 = ((u + 20 : Nat) : Int) ∧ ∀ K, K ≠ 2 → F' K = F K) → Q (some (.int x)) h') : HJ 7 0 (lv_args 0 [.ref 16, .int xa, .int xb, .int xc, .int xd, .int xe]) [] h Q := by
  refine s_fe0 M rfl rfl rfl rfl rfl rfl rfl rfl rfl rfl rfl h16 hP0 hn0 (fun a1 b1 c13 => ?_) (fun x5 q5 a1 b1 c13 => ?_)
  · refine c_app M hw q (by omega) (fun h3 F3 V3 M3 v3 s3 o3 => s_fe26 M3 rfl rfl rfl rfl rfl rfl rfl rfl rfl rfl rfl h16 hP0 hn0 ?_)
    refine c_app M3 hw s3 (by omega) (fun h4 F4 V4 M4 v4 s4 o4 => s_fe34 M4 rfl rfl rfl rfl rfl rfl rfl rfl rfl rfl rfl h16 hP0 hn0 ?_)
    refine c_app M4 hw s4 (by omega) (fun h5 F5 V5 M5 v5 s5 o5 => s_fe42 M5 rfl rfl rfl rfl rfl rfl rfl rfl rfl rfl rfl h16 hP0 hn0 ?_)
    refine c_app M5 hw s5 (by omega) (fun h6 F6 V6 M6 v6 s6 o6 => s_fe51 M6 rfl rfl rfl rfl rfl rfl rfl rfl rfl rfl rfl h16 hP0 hn0 ?_)
    refine c_app M6 hw s6 (by omega) (fun h7 F7 V7 M7 v7 s7 o7 => s_fe60 M7 rfl h16 hP0 hn0 (fun x1 q1 _ _ => g x1 h7 F7 V7 M7 (Or.inr ⟨?_, by omega, ?_, ?_, fun K k2 => ?_⟩)))
    · exact q1.trans s7
    · rw [v7, v6, v5, v4, v3]
      rfl
    · exact s7
    · rw [o7 K k2, o6 K k2, o5 K k2, o4 K k2, o3 K k2]
  · exact g x5 h F V M (Or.inl ⟨q5, by omega, rfl, rfl⟩)
theorem s_en0 {n : Int} (M : MX 7 W ρ m A h0 h F V G) (e0 : m_lk lv 0 = some (.ref 16)) {lx1 : Int32} (e1 : m_lk lv 1 = some (.int lx1)) (lq1 : lx1.toInt = n) (h16 : ρ 16 = 6) (hP0 : h_r h0 16 0 = m) (hn0 : d_no [(6, 0)] W = true)(hw : d_sub [(7, 2)] W = true)
    (g0 : ∀ x1 : Int32, x1.toInt = (-1) → n < 0 → Q (some (.int x1)) h)
    (g1 : ∀ h3 : MH, ∀ F3 : Nat → Int, F3 = m_u F 2 (n) → MX 7 W ρ m A h0 h3 F3 V G → n ≥ 0 → 0 ≤ F 2 → F 2 ≤ 600 → n ≤ F 2 → Q (some (.int lx1)) h3)
    (g2 : ∀ x4 : Int32, x4.toInt = (-1) → n ≥ 0 → 0 ≤ F 2 → F 2 ≤ 600 → n > F 2 → Q (some (.int x4)) h)
    : HJ 9 0 lv [] h Q := by
  refine hI_il (k := 1) rfl e1 rfl ?_ -- 0
  refine hM_zlt (off := 14) (t := 15) rfl lq1 (by decide) rfl (fun c1 => ?_) (fun c1 => ?_) -- 1
  · refine hM_ic (n := (-1)) rfl (by decide) rfl (fun x1 q1 => ?_) -- 15
    refine hI_ri rfl rfl ?_ -- 16
    exact g0 x1 q1 c1
  · refine hI_il (k := 1) rfl e1 rfl ?_ -- 4
    refine hI_al (k := 0) rfl e0 rfl ?_ -- 5
    refine hM_gP (k := 0) M h16 hP0 hn0 (by decide) rfl rfl rfl rfl ?_ -- 6
    refine hM_gi M (by decide) rfl rfl rfl (k := 2) (c := 6) (lo := 0) (hi := 600) rfl rfl rfl rfl rfl (fun x2 q2 a2 b2 => ?_) -- 9
    refine hM_cle (off := 5) (t := 17) rfl lq1 q2 (by decide) rfl (fun c12 => ?_) (fun c12 => ?_) -- 12
    · refine hI_al (k := 0) rfl e0 rfl ?_ -- 17
      refine hM_gP (k := 0) M h16 hP0 hn0 (by decide) rfl rfl rfl rfl ?_ -- 18
      refine hI_il (k := 1) rfl e1 rfl ?_ -- 21
      refine hM_pi M (by decide) ok_7 rfl rfl (k := 2) (c := 6) (lo := 0) (hi := 600) rfl rfl ⟨by decide, by decide +kernel, rfl⟩ rfl (d_subm hw (by decide +kernel)) lq1 (by omega) (by omega) rfl (fun h3 F3 f3 M3 => ?_) -- 22
      refine hI_il (k := 1) rfl e1 rfl ?_ -- 25
      refine hI_ri rfl rfl ?_ -- 26
      exact g1 h3 F3 f3 M3 c1 a2 b2 c12
    · refine hM_ic (n := (-1)) rfl (by decide) rfl (fun x4 q4 => ?_) -- 15
      refine hI_ri rfl rfl ?_ -- 16
      exact g2 x4 q4 c1 a2 b2 c12
theorem s_me0 {n : Int} (M : MX 49 W ρ m A h0 h F V G) (e0 : m_lk lv 0 = some (.ref m)) {lx1 : Int32} (e1 : m_lk lv 1 = some (.int lx1)) (lq1 : lx1.toInt = n) (hw : d_sub [(49, 0)] W = true)
    (g0 : ∀ h2 : MH, ∀ F2 : Nat → Int, F2 = m_u F 0 (0) → ∀ x3 : Int32, x3.toInt = 0 → ∀ x5 : Int32, x5.toInt = V 2 (0 : Int).toNat → MX 49 W ρ m A h0 h2 F2 V G → 0 ≤ V 2 (0 : Int).toNat → V 2 (0 : Int).toNat ≤ 600 → HJ 186 0 (lv_args 0 [.int lx1, .int x3, .int x5]) [] h2 (fun v h' => HJ 185 16 lv (v.toList ++ []) h' Q))
    : HJ 185 0 lv [] h Q := by
  refine hI_al (k := 0) rfl e0 rfl ?_ -- 0
  refine hM_ic (n := 0) rfl (by decide) rfl (fun x1 q1 => ?_) -- 1
  refine hM_pi M (by decide) ok_49 rfl rfl (k := 0) (c := 9) (lo := (-2147483648)) (hi := 2147483647) rfl rfl ⟨by decide, by decide +kernel, rfl⟩ rfl (d_subm hw (by decide +kernel)) q1 (by omega) (by omega) rfl (fun h2 F2 f2 M2 => ?_) -- 2
  refine hI_il (k := 1) rfl e1 rfl ?_ -- 5
  refine hM_ic (n := 0) rfl (by decide) rfl (fun x3 q3 => ?_) -- 6
  refine hI_al (k := 0) rfl e0 rfl ?_ -- 7
  refine hM_ga M2 (by decide) rfl rfl (k := 2) (c := 9) rfl rfl rfl (by decide +kernel) rfl ?_ -- 8
  refine hM_ic (n := 0) rfl (by decide) rfl (fun x4 q4 => ?_) -- 11
  refine hM_ia M2 (by decide) (K := 2) (R2 := 51) (L := 4) (H := 4) (lo := 0) (hi := 600) rfl (by decide) rfl rfl (fun _ => rfl) rfl q4 (by omega) (by omega) rfl (fun x5 q5 a5 b5 => ?_) -- 12
  refine hM_is0 (as := [.int lx1, .int x3, .int x5]) (r := []) rfl rfl (by decide +kernel) rfl rfl rfl rfl rfl ?_ -- 13
  exact g0 h2 F2 f2 x3 q3 x5 q5 M2 a5 b5
theorem s_me16 {n z : Int} (M : MX 49 W ρ m A h0 h F V G) (e0 : m_lk lv 0 = some (.ref m)) {lx1 : Int32} (e1 : m_lk lv 1 = some (.int lx1)) (lq1 : lx1.toInt = n) {sx0 : Int32} (sq0 : sx0.toInt = z) (z0 : z ≠ 0 → 0 ≤ n ∧ n ≤ 600)(hw : d_sub [(51, 1001)] W = true)
    (g0 : ∀ h2 : MH, ∀ V2 : Nat → Nat → Int, V2 = m_u V 2 (m_u (V 2) (0 : Int).toNat (n)) → MX 49 W ρ m A h0 h2 F V2 G → z ≠ 0 → Q (some (.int lx1)) h2)
    (g1 : ∀ x3 : Int32, x3.toInt = (-1) → z = 0 → Q (some (.int x3)) h)
    : HJ 185 16 lv [.int sx0] h Q := by
  refine hM_zne (off := 5) (t := 21) rfl sq0 (by decide) rfl (fun c16 => ?_) (fun c16 => ?_) -- 16
  · refine hI_al (k := 0) rfl e0 rfl ?_ -- 21
    refine hM_ga M (by decide) rfl rfl (k := 2) (c := 9) rfl rfl rfl (by decide +kernel) rfl ?_ -- 22
    refine hM_ic (n := 0) rfl (by decide) rfl (fun x1 q1 => ?_) -- 25
    refine hI_il (k := 1) rfl e1 rfl ?_ -- 26
    refine hM_is M (by decide) ok_49 (K := 2) (R2 := 51) (L := 4) (H := 4) (lo := 0) (hi := 600) rfl (by decide) rfl rfl rfl (fun _ => rfl) (d_subm hw (by decide +kernel)) rfl q1 lq1 (by omega) (by omega) (by omega) (by omega) rfl (fun h2 V2 f2 M2 => ?_) -- 27
    refine hI_il (k := 1) rfl e1 rfl ?_ -- 28
    refine hI_ri rfl rfl ?_ -- 29
    exact g0 h2 V2 f2 M2 c16
  · refine hM_ic (n := (-1)) rfl (by decide) rfl (fun x3 q3 => ?_) -- 19
    refine hI_ri rfl rfl ?_ -- 20
    exact g1 x3 q3 c16
theorem c_end9 {n : Int} {xn : Int32} (M : MX 7 W ρ m A h0 h F V G) (hw : d_sub [(7, 2)] W = true) (h16 : ρ 16 = 6) (hP0 : h_r h0 16 0 = m) (hn0 : d_no [(6, 0)] W = true) (qn : xn.toInt = n) (g : ∀ (x : Int32) (h' : MH) (F' : Nat → Int), MX 7 W ρ m A h0 h' F' V G → (x.toInt = -1 ∧ (n < 0 ∨ F 2 < n) ∧ F' = F) ∨ (x.toInt = n ∧ 0 ≤ n ∧ n ≤ F 2 ∧ F' 2 = n ∧ ∀ K, K ≠ 2 → F' K = F K) → Q (some (.int x)) h') : HJ 9 0 (lv_args 0 [.ref 16, .int xn]) [] h Q :=
  s_en0 M rfl rfl qn h16 hP0 hn0 hw (fun x1 q1 c1 => g x1 h F M (Or.inl ⟨q1, Or.inl c1, rfl⟩)) (fun h3 F3 f3 M3 c1 a2 b2 c12 => g xn h3 F3 M3 (Or.inr ⟨qn, by omega, by omega, by rw [f3, m_uE], fun K k2 => by rw [f3, m_uN _ _ _ _ k2]⟩)) (fun x4 q4 c1 a2 b2 c12 => g x4 h F M (Or.inl ⟨q4, Or.inr (by omega), rfl⟩))
theorem c_mend {n : Int} {xn : Int32} (M : MX 49 W ρ m A h0 h F V G) (hw : d_sub [(49, 0), (51, 1001)] W = true) (qn : xn.toInt = n) (g : ∀ (x : Int32) (h' : MH) (F' : Nat → Int) (V' : Nat → Nat → Int), MX 49 W ρ m A h0 h' F' V' G → (x.toInt = -1 ∧ (n < 0 ∨ V 2 0 < n) ∧ V' = V) ∨ (x.toInt = n ∧ 0 ≤ n ∧ n ≤ V 2 0 ∧ V' 2 0 = n ∧ (∀ j, j ≠ 0 → V' 2 j = V 2 j) ∧ ∀ K, K ≠ 2 → V' K = V K) → Q (some (.int x)) h') : HJ 185 0 (lv_args 0 [.ref m, .int xn]) [] h Q := by
  have bz : 0 ≤ V 2 0 ∧ V 2 0 ≤ 600 := M.vi (by decide) (K := 2) (R2 := 51) rfl (by decide) (rs2 := _) rfl (L := 4) (H := 4) (kd := 20) rfl (lo := 0) (hi := 600) 0 rfl (by decide)
  refine s_me0 M rfl rfl qn (d_subm hw (by decide +kernel)) (fun h2 F2 f2 x3 q3 x4 q4 M2 _ _ => c_in M2 qn q3 q4 (fun z hz => ?_))
  have hz : (z.toInt = 1 ∧ 0 ≤ n ∧ n ≤ V 2 0) ∨ (z.toInt = 0 ∧ (n < 0 ∨ V 2 0 < n)) := hz
  refine s_me16 (z := z.toInt) M2 rfl rfl qn rfl (fun c => by omega) (d_subm hw (by decide +kernel)) (fun h5 V5 f5 M5 c => ?_) (fun x5 q5 c => g x5 h2 F2 V M2 (Or.inl ⟨q5, by omega, rfl⟩))
  have f5 : V5 = m_u V 2 (m_u (V 2) 0 n) := f5
  refine g xn h5 F2 V5 M5 (Or.inr ⟨qn, by omega, by omega, ?_, fun j hj => ?_, fun K k2 => ?_⟩)
  · rw [f5, m_uE, m_uE]
  · rw [f5, m_uE, m_uN _ _ _ _ hj]
  · rw [f5, m_uN _ _ _ _ k2]
end
end
section
-- A TEXT, AS THE CLASS READS IT: the reader at work knows its tape
def rd_r (ρ : Nat → Nat) (r : Nat) : Nat → Nat := fun c => if c = r then 106 else if ρ c = 6 ∨ ρ c = 11 ∨ ρ c = 106 then 0 else ρ c
def rd_ft (t : FT) : Bool := match t with
  | .inr (.inr q) => !(Nat.beq q.1 6 || (Nat.beq q.1 11 || Nat.beq q.1 106))
  | _ => true
theorem rd_all1 : (List.range c_sp.length).all (fun R => Nat.beq R 6 || (match c_sp[R]? with
  | some rs => rs.2.2.2.all rd_ft
  | none => true)) = true := by decide +kernel
theorem rd_sp {R k : Nat} {rs : RS} {q : Nat × Bool} (hs : c_sp[R]? = some rs) (hR : R ≠ 6) (hf : r_ft rs k = some (.inr (.inr q))) : q.1 ≠ 6 ∧ q.1 ≠ 11 ∧ q.1 ≠ 106 := by
  have hb := List.all_eq_true.mp rd_all1 R (List.mem_range.mpr (List.getElem?_eq_some_iff.mp hs).1)
  rw [Bool.or_eq_true, hs] at hb
  have hm : (.inr (.inr q) : FT) ∈ rs.2.2.2 := by
    unfold r_ft at hf
    split at hf
    · exact List.mem_of_getElem? hf
    · exact List.mem_of_getElem? hf
  have h2 : rd_ft (.inr (.inr q)) = true := by
    rcases hb with hb | hb
    · exact absurd (Nat.eq_of_beq_eq_true hb) hR
    · exact List.all_eq_true.mp hb _ hm
  have h2 : (!(Nat.beq q.1 6 || (Nat.beq q.1 11 || Nat.beq q.1 106))) = true := h2
  have g : ∀ R, q.1 = R → Nat.beq q.1 R = true := fun R e => by rw [e]; exact Nat.beq_refl R
  exact ⟨fun z => (by rw [g _ z] at h2; cases h2), fun z => (by rw [g _ z, Bool.true_or, Bool.or_true] at h2; cases h2), fun z => (by rw [g _ z, Bool.or_true, Bool.or_true] at h2; cases h2)⟩
section
variable {ρ : Nat → Nat} {h h' : MH} {r : Nat} {W W' : List (Nat × Nat)}
theorem rd_own : rd_r ρ r r = 106 := if_pos rfl
theorem rd_le {c : Nat} (hc : c ≠ r) (e : rd_r ρ r c ≠ 0) : rd_r ρ r c = ρ c ∧ ρ c ≠ 6 ∧ ρ c ≠ 11 ∧ ρ c ≠ 106 := by
  unfold rd_r at e ⊢
  rw [if_neg hc] at e ⊢
  by_cases h2 : ρ c = 6 ∨ ρ c = 11 ∨ ρ c = 106
  · rw [if_pos h2] at e
    exact absurd rfl e
  · rw [if_neg h2]
    exact ⟨rfl, fun z => h2 (Or.inl z), fun z => h2 (Or.inr (Or.inl z)), fun z => h2 (Or.inr (Or.inr z))⟩
theorem rd_of {c : Nat} (hr : ρ r = 11) (h1 : ρ c ≠ 6) (h2 : ρ c ≠ 11) (h3 : ρ c ≠ 106) : rd_r ρ r c = ρ c := by
  unfold rd_r
  rw [if_neg (fun z => h2 (by rw [z]; exact hr)), if_neg (fun z => z.elim h1 (fun y => y.elim h2 h3))]
-- the tape kept
theorem rd_st {x : Nat} (ht : TH c_sp ρ h) (hr : ρ r = 11) : TH c_sp ρ (h_sr h r 0 x) := by
  refine ⟨ht.1, fun b hb => ?_⟩
  obtain ⟨q1, rs2, q2, q3, q4, q5, q6⟩ := ht.2 b hb
  refine ⟨q1, rs2, q2, q3, q4, q5, fun j ft hj hjl => ?_⟩
  by_cases e : b = r ∧ j = 0
  · obtain ⟨e1, e2⟩ := e
    subst e1 e2
    rw [hr] at q2
    cases q2
    cases (Option.some.inj hj)
    trivial
  · have q := q6 j ft hj hjl
    cases ft with
    | inl p => exact q
    | inr y => cases y with
      | inl u => trivial
      | inr y =>
        show t_rf ρ y.1 y.2 (h_r (h_sr h r 0 x) b j)
        rw [s_srR, if_neg e]
        exact q
theorem rd_TH (ht : TH c_sp ρ h) (hr : ρ r = 11) (ta : ρ (h_r h r 0) = 13) : TH c_sp (rd_r ρ r) h := by
  have r0 : (0 : Nat) ≠ r := fun z => by rw [← z, ht.1] at hr; cases hr
  refine ⟨?_, fun c hc => ?_⟩
  · by_cases e : rd_r ρ r 0 = 0
    · exact e
    · rw [(rd_le r0 e).1]
      exact ht.1
  · by_cases hcr : c = r
    · subst hcr
      rw [rd_own]
      have c1 := t_spec ht (by decide) (rfl : c_sp[11]? = some _) hr
      refine ⟨(ht.2 c (by rw [hr]; decide)).1, _, (rfl : c_sp[106]? = some _), c1.1, c1.2.1, c1.2.2.1, fun k ft hk hl => ?_⟩
      match k, hk with
      | 0, hk =>
        cases (Option.some.inj hk)
        refine Or.inr ⟨?_, by decide, ?_⟩
        · intro z
          have z : h_r h c 0 = 0 := z
          rw [z, ht.1] at ta
          cases ta
        · exact (rd_of hr (by rw [ta]; decide) (by rw [ta]; decide) (by rw [ta]; decide)).trans ta
      | 1, hk => cases (Option.some.inj hk); exact c1.2.2.2 1 _ rfl (fun z => by cases z)
      | 2, hk => cases (Option.some.inj hk); exact c1.2.2.2 2 _ rfl (fun z => by cases z)
      | 3, hk => cases (Option.some.inj hk); exact c1.2.2.2 3 _ rfl (fun z => by cases z)
      | 4, hk => cases (Option.some.inj hk); exact c1.2.2.2 4 _ rfl (fun z => by cases z)
      | 5, hk => cases (Option.some.inj hk); exact c1.2.2.2 5 _ rfl (fun z => by cases z)
      | 6, hk => cases (Option.some.inj hk); exact c1.2.2.2 6 _ rfl (fun z => by cases z)
      | 7, hk => cases (Option.some.inj hk); exact c1.2.2.2 7 _ rfl (fun z => by cases z)
      | 8, hk => cases (Option.some.inj hk); exact c1.2.2.2 8 _ rfl (fun z => by cases z)
      | k + 9, hk => cases hk
    · obtain ⟨e, n1, n2, n3⟩ := rd_le hcr hc
      rw [e]
      have hc0 : ρ c ≠ 0 := by rw [← e]; exact hc
      obtain ⟨l, rs, hs, t1, t2, t3, t4⟩ := ht.2 c hc0
      refine ⟨l, rs, hs, t1, t2, t3, fun k ft hk hl => ?_⟩
      have t := t4 k ft hk hl
      cases ft with
      | inl p => exact t
      | inr q => cases q with
        | inl u => trivial
        | inr q =>
          obtain ⟨m1, m2, m3⟩ := rd_sp hs n1 hk
          rcases (t : t_rf ρ q.1 q.2 (h_r h c k)) with f | ⟨f1, f2, f3⟩
          · exact Or.inl f
          · refine Or.inr ⟨f1, f2, ?_⟩
            rw [rd_of hr (by rw [f3]; exact m1) (by rw [f3]; exact m2) (by rw [f3]; exact m3)]
            exact f3
def rd_q (W' : List (Nat × Nat)) (q : Nat × Nat) : Bool := !(Nat.beq q.1 0) && W'.contains (if q.1 = 106 then 11 else q.1, q.2)
theorem rd_wq0 {R k : Nat} (h : rd_q W' (R, k) = true) : R ≠ 0 ∧ (if R = 106 then 11 else R, k) ∈ W' := by
  unfold rd_q at h
  rw [Bool.and_eq_true] at h
  refine ⟨fun z => ?_, List.contains_iff_mem.mp h.2⟩
  subst z
  have := h.1
  cases this
theorem rd_wq {R k : Nat} (hw : W.all (rd_q W') = true) (h : t_W W R k) : R ≠ 0 ∧ t_W W' (if R = 106 then 11 else R) k := by
  rcases h with h | h
  · obtain ⟨a, b⟩ := rd_wq0 (List.all_eq_true.mp hw _ h)
    exact ⟨a, Or.inl b⟩
  · obtain ⟨a, b⟩ := rd_wq0 (List.all_eq_true.mp hw _ h)
    exact ⟨a, Or.inr b⟩
theorem rd_back (ht : TH c_sp ρ h) (hr : ρ r = 11) (hw : W.all (rd_q W') = true) (f : FS (rd_r ρ r) W h h') (t : TH c_sp (rd_r ρ r) h') : FS ρ W' h h' ∧ TH c_sp ρ h' := by
  have out : ∀ c, c < 16 + h_n h → rd_r ρ r c = 0 → ∀ k, h_i h' c k = h_i h c k ∧ h_l h' c k = h_l h c k ∧ h_r h' c k = h_r h c k := fun c hc e k => (f.2 c hc).2 k (by
    rw [e]
    intro z
    exact (rd_wq hw z).1 rfl)
  refine ⟨⟨f.1, fun c hc => ⟨(f.2 c hc).1, fun k hk => ?_⟩⟩, ⟨ht.1, fun c hc => ?_⟩⟩
  · by_cases e : rd_r ρ r c = 0
    · exact out c hc e k
    · refine (f.2 c hc).2 k (fun z => hk ?_)
      have y := (rd_wq hw z).2
      by_cases hcr : c = r
      · subst hcr
        rw [rd_own, if_pos rfl] at y
        rw [hr]
        exact y
      · obtain ⟨e1, -, -, n3⟩ := rd_le hcr e
        rw [e1, if_neg n3] at y
        exact y
  · have hn : h_n h' = h_n h := congrArg Prod.fst f.1
    obtain ⟨l, rs, hs, t1, t2, t3, t4⟩ := ht.2 c hc
    by_cases hcr : c = r
    · subst hcr
      have c1 := t_spec t (by decide) (rfl : c_sp[106]? = some _) rd_own
      rw [hr] at hs ⊢
      cases hs
      refine ⟨by rw [hn]; exact l, _, (rfl : c_sp[11]? = some _), by rw [(f.2 c l).1]; exact t1, by rw [(f.2 c l).1]; exact t2, t3, fun k ft hk hl => ?_⟩
      match k, hk with
      | 0, hk => cases (Option.some.inj hk); trivial
      | 1, hk => cases (Option.some.inj hk); exact c1.2.2.2 1 _ rfl (fun z => by cases z)
      | 2, hk => cases (Option.some.inj hk); exact c1.2.2.2 2 _ rfl (fun z => by cases z)
      | 3, hk => cases (Option.some.inj hk); exact c1.2.2.2 3 _ rfl (fun z => by cases z)
      | 4, hk => cases (Option.some.inj hk); exact c1.2.2.2 4 _ rfl (fun z => by cases z)
      | 5, hk => cases (Option.some.inj hk); exact c1.2.2.2 5 _ rfl (fun z => by cases z)
      | 6, hk => cases (Option.some.inj hk); exact c1.2.2.2 6 _ rfl (fun z => by cases z)
      | 7, hk => cases (Option.some.inj hk); exact c1.2.2.2 7 _ rfl (fun z => by cases z)
      | 8, hk => cases (Option.some.inj hk); exact c1.2.2.2 8 _ rfl (fun z => by cases z)
      | k + 9, hk => cases hk
    · by_cases e : rd_r ρ r c = 0
      · refine ⟨by rw [hn]; exact l, rs, hs, by rw [(f.2 c l).1]; exact t1, by rw [(f.2 c l).1]; exact t2, t3, fun k ft hk hl => ?_⟩
        rw [(f.2 c l).1] at hl
        have q := t4 k ft hk hl
        have o := out c l e k
        cases ft with
        | inl p =>
          show p.1 ≤ (h_i h' c k).toInt ∧ (h_i h' c k).toInt ≤ p.2
          rw [o.1]
          exact q
        | inr y => cases y with
          | inl u => trivial
          | inr y =>
            show t_rf ρ y.1 y.2 (h_r h' c k)
            rw [o.2.2]
            exact q
      · obtain ⟨e1, n1, -, -⟩ := rd_le hcr e
        obtain ⟨l, rs, hs, t1, t2, t3, t4⟩ := t.2 c e
        rw [e1] at hs
        refine ⟨l, rs, hs, t1, t2, t3, fun k ft hk hl => ?_⟩
        have q := t4 k ft hk hl
        cases ft with
        | inl p => exact q
        | inr y => cases y with
          | inl u => trivial
          | inr y =>
            obtain ⟨m1, m2, m3⟩ := rd_sp hs n1 hk
            rcases (q : t_rf (rd_r ρ r) y.1 y.2 (h_r h' c k)) with g | ⟨g1, g2, g3⟩
            · exact Or.inl g
            · have g4 : h_r h' c k ≠ r := fun z => by
                rw [z, rd_own] at g3
                exact m3 g3.symm
              exact Or.inr ⟨g1, g2, (rd_le g4 (by rw [g3]; exact g2)).1.symm.trans g3⟩
end
theorem rd_lineB {T : Nat → Int} {n : Nat} {S : RLS} : (rd_line T n S).1 = 0 ∨ (rd_line T n S).1 = 1 ∨ (rd_line T n S).1 = 2 := by
  unfold rd_line
  split
  · exact Or.inl rfl
  · split
    · split
      · unfold rd_mark
        split
        · exact Or.inr (Or.inr rfl)
        · exact Or.inr (Or.inl rfl)
      · exact Or.inr (Or.inl rfl)
    · exact Or.inr (Or.inl rfl)
section
variable {lv : List (Nat × Value)} {Q : Option Value → MH → Prop} {W : List (Nat × Nat)} {ρ : Nat → Nat} {m : Nat} {A : Nat → Nat} {h0 h : MH} {F : Nat → Int} {V : Nat → Nat → Int} {G : Nat → Nat → Int64}
theorem s_ra5 {n : Int} (M : MX 106 W ρ m A h0 h F V G) (e0 : m_lk lv 0 = some (.ref m)) (e1 : m_lk lv 1 = some (.ref (A 0))) {lx2 : Int32} (e2 : m_lk lv 2 = some (.int lx2)) (lq2 : lx2.toInt = n) {ac : Nat} (e3 : m_lk lv 3 = some (.ref ac)) (hr_ac : ρ ac = 103) 
    (g0 : ∀ x1 : Int32, ∀ z1 : Int, x1.toInt = z1 → 600 ≤ z1 → z1 ≤ 600 → z1 = ((h_k h0 (A 0)).2 : Int) → HJ 12 9 lv [.int x1, .int lx2, .ref m] h Q)
    : HJ 12 5 lv [] h Q := by
  refine hI_al (k := 0) rfl e0 rfl ?_ -- 5
  refine hI_il (k := 2) rfl e2 rfl ?_ -- 6
  refine hI_al (k := 1) rfl e1 rfl ?_ -- 7
  refine hM_al M (by decide) (K := 0) (R2 := 13) (L := 600) (H := 600) rfl (by decide) rfl rfl (by decide) rfl rfl (fun x1 z1 q1 a1 b1 c1 => ?_) -- 8
  exact g0 x1 z1 q1 a1 b1 c1
theorem s_ra12 {n : Int} (M : MX 106 W ρ m A h0 h F V G) (e0 : m_lk lv 0 = some (.ref m)) {ac : Nat} (e3 : m_lk lv 3 = some (.ref ac)) (hr_ac : ρ ac = 103) {sx1 : Int32} (sq1 : sx1.toInt = n) (n0 : 0 ≤ n) (n6 : n ≤ 600)(hw : d_sub [(106, 1), (106, 3), (106, 6), (106, 7), (106, 8)] W = true)
    (g0 : ∀ h1 : MH, ∀ F1 : Nat → Int, F1 = m_u F 1 (n) → ∀ h3 : MH, ∀ F3 : Nat → Int, F3 = m_u F1 3 (0) → ∀ h5 : MH, ∀ F5 : Nat → Int, F5 = m_u F3 6 (0) → ∀ h7 : MH, ∀ F7 : Nat → Int, F7 = m_u F5 7 (0) → ∀ h9 : MH, ∀ F9 : Nat → Int, F9 = m_u F7 8 ((-1)) → MX 106 W ρ m A h0 h9 F9 V G → HJ 14 0 (lv_args 0 [.ref ac]) [] h9 (fun v h' => HJ 12 39 lv (v.toList ++ []) h' Q))
    : HJ 12 12 lv [.int sx1, .ref m] h Q := by
  refine hM_pi M (by decide) ok_106 rfl rfl (k := 1) (c := 4) (lo := 0) (hi := 600) rfl rfl ⟨by decide, by decide +kernel, rfl⟩ rfl (d_subm hw (by decide +kernel)) sq1 (by omega) (by omega) rfl (fun h1 F1 f1 M1 => ?_) -- 12
  refine hI_al (k := 0) rfl e0 rfl ?_ -- 15
  refine hM_ic (n := 0) rfl (by decide) rfl (fun x2 q2 => ?_) -- 16
  refine hM_pi M1 (by decide) ok_106 rfl rfl (k := 3) (c := 4) (lo := 0) (hi := 600) rfl rfl ⟨by decide, by decide +kernel, rfl⟩ rfl (d_subm hw (by decide +kernel)) q2 (by omega) (by omega) rfl (fun h3 F3 f3 M3 => ?_) -- 17
  refine hI_al (k := 0) rfl e0 rfl ?_ -- 20
  refine hM_ic (n := 0) rfl (by decide) rfl (fun x4 q4 => ?_) -- 21
  refine hM_pi M3 (by decide) ok_106 rfl rfl (k := 6) (c := 4) (lo := (-2147483648)) (hi := 2147483647) rfl rfl ⟨by decide, by decide +kernel, rfl⟩ rfl (d_subm hw (by decide +kernel)) q4 (by omega) (by omega) rfl (fun h5 F5 f5 M5 => ?_) -- 22
  refine hI_al (k := 0) rfl e0 rfl ?_ -- 25
  refine hM_ic (n := 0) rfl (by decide) rfl (fun x6 q6 => ?_) -- 26
  refine hM_pi M5 (by decide) ok_106 rfl rfl (k := 7) (c := 4) (lo := (-2147483648)) (hi := 2147483647) rfl rfl ⟨by decide, by decide +kernel, rfl⟩ rfl (d_subm hw (by decide +kernel)) q6 (by omega) (by omega) rfl (fun h7 F7 f7 M7 => ?_) -- 27
  refine hI_al (k := 0) rfl e0 rfl ?_ -- 30
  refine hM_ic (n := (-1)) rfl (by decide) rfl (fun x8 q8 => ?_) -- 31
  refine hM_pi M7 (by decide) ok_106 rfl rfl (k := 8) (c := 4) (lo := (-2147483648)) (hi := 2147483647) rfl rfl ⟨by decide, by decide +kernel, rfl⟩ rfl (d_subm hw (by decide +kernel)) q8 (by omega) (by omega) rfl (fun h9 F9 f9 M9 => ?_) -- 32
  refine hI_al (k := 3) rfl e3 rfl ?_ -- 35
  refine hM_iv (MX.start (W := W) M9.1.1 hr_ac) (by decide) rfl rfl (by decide) (as := []) (r := []) rfl rfl (by decide +kernel) rfl (by decide +kernel) rfl rfl rfl rfl rfl ?_ -- 36
  exact g0 h1 F1 f1 h3 F3 f3 h5 F5 f5 h7 F7 f7 h9 F9 f9 M9
theorem s_ra39 (M : MX 106 W ρ m A h0 h F V G) (e0 : m_lk lv 0 = some (.ref m)) {ac : Nat} (e3 : m_lk lv 3 = some (.ref ac)) (hr_ac : ρ ac = 103) 
    (g0 : ∀ x1 : Int32, x1.toInt = 1 → ∀ x3 : Int32, x3.toInt = 0 → ∀ lv4 : List (Nat × Value), m_lk lv4 0 = some (.ref m) → m_lk lv4 3 = some (.ref ac) → m_lk lv4 4 = some (.int x1) → m_lk lv4 5 = some (.int x3) → HJ 12 45 lv4 [] h Q)
    : HJ 12 39 lv [] h Q := by
  refine hM_ic (n := 1) rfl (by decide) rfl (fun x1 q1 => ?_) -- 39
  refine hM_si2 (k := 4) rfl (by decide +kernel) rfl (fun lv2 e2_4 u2 => ?_) -- 40
  have e2_0 := u2 0 _ (by decide) (Or.inl rfl) e0
  have e2_3 := u2 3 _ (by decide) (Or.inl rfl) e3
  refine hM_ic (n := 0) rfl (by decide) rfl (fun x3 q3 => ?_) -- 42
  refine hM_si2 (k := 5) rfl (by decide +kernel) rfl (fun lv4 e4_5 u4 => ?_) -- 43
  have e4_0 := u4 0 _ (by decide) (Or.inl rfl) e2_0
  have e4_3 := u4 3 _ (by decide) (Or.inl rfl) e2_3
  have e4_4 := u4 4 _ (by decide) (Or.inl rfl) e2_4
  exact g0 x1 q1 x3 q3 lv4 e4_0 e4_3 e4_4 e4_5
theorem s_ra45 {g i : Int} (M : MX 106 W ρ m A h0 h F V G) (e0 : m_lk lv 0 = some (.ref m)) {ac : Nat} (e3 : m_lk lv 3 = some (.ref ac)) (hr_ac : ρ ac = 103) {lx4 : Int32} (e4 : m_lk lv 4 = some (.int lx4)) (lq4 : lx4.toInt = g) {lx5 : Int32} (e5 : m_lk lv 5 = some (.int lx5)) (lq5 : lx5.toInt = i) 
    (g0 : g = 0 → HJ 12 71 lv [] h Q)
    (g1 : g ≠ 0 → i > 600 → HJ 12 71 lv [] h Q)
    (g2 : g ≠ 0 → i ≤ 600 → HJ 15 0 (lv_args 0 [.ref m, .ref ac]) [] h (fun v h' => HJ 12 63 lv (v.toList ++ []) h' Q))
    : HJ 12 45 lv [] h Q := by
  refine hI_il2 (k := 4) rfl e4 rfl ?_ -- 45
  refine hM_zeq (off := 24) (t := 71) rfl lq4 (by decide) rfl (fun c47 => ?_) (fun c47 => ?_) -- 47
  · exact g0 c47
  · refine hI_il2 (k := 5) rfl e5 rfl ?_ -- 50
    refine hM_sp (n := 600) rfl (by decide) rfl (fun x1 q1 => ?_) -- 52
    refine hM_cgt (off := 16) (t := 71) rfl lq5 q1 (by decide) rfl (fun c55 => ?_) (fun c55 => ?_) -- 55
    · exact g1 c47 c55
    · refine hI_al (k := 0) rfl e0 rfl ?_ -- 58
      refine hI_al (k := 3) rfl e3 rfl ?_ -- 59
      refine hM_iv M (by decide) rfl rfl (by decide) (as := [.ref ac]) (r := []) rfl rfl (by decide +kernel) rfl (by decide +kernel) rfl rfl rfl rfl rfl ?_ -- 60
      exact g2 c47 c55
theorem s_ra63 {i z : Int} (M : MX 106 W ρ m A h0 h F V G) (e0 : m_lk lv 0 = some (.ref m)) {ac : Nat} (e3 : m_lk lv 3 = some (.ref ac)) (hr_ac : ρ ac = 103) {lx5 : Int32} (e5 : m_lk lv 5 = some (.int lx5)) (lq5 : lx5.toInt = i) {sx0 : Int32} (sq0 : sx0.toInt = z) (i0 : 0 ≤ i) (i6 : i ≤ 600)
    (g0 : ∀ x2 : Int32, x2.toInt = i + 1 → ∀ lv2 : List (Nat × Value), m_lk lv2 0 = some (.ref m) → m_lk lv2 3 = some (.ref ac) → m_lk lv2 4 = some (.int sx0) → m_lk lv2 5 = some (.int x2) → HJ 12 45 lv2 [] h Q)
    : HJ 12 63 lv [.int sx0] h Q := by
  refine hM_si2 (k := 4) rfl (by decide +kernel) rfl (fun lv1 e1_4 u1 => ?_) -- 63
  have e1_0 := u1 0 _ (by decide) (Or.inl rfl) e0
  have e1_3 := u1 3 _ (by decide) (Or.inl rfl) e3
  have e1_5 := u1 5 _ (by decide) (Or.inl rfl) e5
  refine hM_inc (k := 5) (z := 1) rfl e1_5 lq5 (by decide) (by omega) (by omega) (by decide +kernel) rfl (fun lv2 x2 q2 e2_5 u2 => ?_) -- 65
  have e2_0 := u2 0 _ (by decide) (Or.inl rfl) e1_0
  have e2_3 := u2 3 _ (by decide) (Or.inl rfl) e1_3
  have e2_4 := u2 4 _ (by decide) (Or.inl rfl) e1_4
  refine hI_go (pc' := 45) (off := (-23)) rfl (by decide) ?_ -- 68
  exact g0 x2 q2 lv2 e2_0 e2_3 e2_4 e2_5
theorem s_ra71 (M : MX 106 W ρ m A h0 h F V G) (e0 : m_lk lv 0 = some (.ref m)) 
    (g0 : (-2147483648) ≤ F 6 → F 6 ≤ 2147483647 → F 6 ≠ 0 → Q none h)
    (g1 : ∀ x2 : Int32, x2.toInt = 4 → ∀ x3 : Int32, x3.toInt = F 1 → (-2147483648) ≤ F 6 → F 6 ≤ 2147483647 → F 6 = 0 → 0 ≤ F 1 → F 1 ≤ 600 → HJ 35 0 (lv_args 0 [.ref m, .int x2, .int x3]) [] h (fun v h' => HJ 12 87 lv (v.toList ++ []) h' Q))
    : HJ 12 71 lv [] h Q := by
  refine hI_al (k := 0) rfl e0 rfl ?_ -- 71
  refine hM_gi M (by decide) rfl rfl rfl (k := 6) (c := 4) (lo := (-2147483648)) (hi := 2147483647) rfl rfl rfl rfl rfl (fun x1 q1 a1 b1 => ?_) -- 72
  refine hM_zne (off := 12) (t := 87) rfl q1 (by decide) rfl (fun c75 => ?_) (fun c75 => ?_) -- 75
  · refine hI_rv rfl rfl ?_
    exact g0 a1 b1 c75
  · refine hI_al (k := 0) rfl e0 rfl ?_ -- 78
    refine hM_ic (n := 4) rfl (by decide) rfl (fun x2 q2 => ?_) -- 79
    refine hI_al (k := 0) rfl e0 rfl ?_ -- 80
    refine hM_gi M (by decide) rfl rfl rfl (k := 1) (c := 4) (lo := 0) (hi := 600) rfl rfl rfl rfl rfl (fun x3 q3 a3 b3 => ?_) -- 81
    refine hM_iv M (by decide) rfl rfl (by decide) (as := [.int x2, .int x3]) (r := []) rfl rfl (by decide +kernel) rfl (by decide +kernel) rfl rfl rfl rfl rfl ?_ -- 84
    exact g1 x2 q2 x3 q3 a1 b1 c75 a3 b3
theorem s_ra87   
    (g0 : Q none h)
    : HJ 12 87 lv [] h Q := by
  refine hI_rv rfl rfl ?_
  exact g0 
end
section
variable {lv : List (Nat × Value)} {Q : Option Value → MH → Prop} {W : List (Nat × Nat)} {ρ : Nat → Nat} {m a : Nat} {A B : Nat → Nat} {h0 h : MH} {F Fa : Nat → Int} {V Va : Nat → Nat → Int} {G Ga : Nat → Nat → Int64}
theorem l_ra {n : Nat} {R : Bool × RLS} (H : rd_env W ρ h0) (hw : d_sub w_rd W = true) (n6 : n ≤ 600) (g : ∀ (lv : List (Nat × Value)) (h : MH), RR W ρ m A a B h0 V G Ga n R.2 h → m_lk lv 0 = some (.ref m) → HJ 12 71 lv [] h Q) : ∀ (d i : Nat) (lv : List (Nat × Value)) (h : MH) (S : RLS) (xg xi : Int32), i + d = 601 → RR W ρ m A a B h0 V G Ga n S h → rd_run (V 0) n d S = R → xg.toInt = 1 → xi.toInt = (i : Int) → m_lk lv 0 = some (.ref m) → m_lk lv 3 = some (.ref a) → m_lk lv 4 = some (.int xg) → m_lk lv 5 = some (.int xi) → HJ 12 45 lv [] h Q := by
  intro d
  induction d with
  | zero =>
    intro i lv h S xg xi hd RS eR qg qi e0 e3 e4 e5
    obtain ⟨F, Fa, Va, ⟨M, MA⟩, -⟩ := id RS
    have RS : RR W ρ m A a B h0 V G Ga n R.2 h := by rw [← eR]; exact RS
    exact s_ra45 M e0 e3 MA.1.2.1 e4 qg e5 qi (fun c => absurd c (by decide)) (fun _ _ => g lv h RS e0) (fun _ c => by omega)
  | succ d ih =>
    intro i lv h S xg xi hd RS eR qg qi e0 e3 e4 e5
    obtain ⟨F, Fa, Va, ⟨M, MA⟩, -⟩ := id RS
    rw [rd_run] at eR
    refine s_ra45 M e0 e3 MA.1.2.1 e4 qg e5 qi (fun c => absurd c (by decide)) (fun _ c => by omega) (fun _ _ => c_line H hw n6 RS (fun x h' hx bx RS' _ => ?_))
    obtain ⟨F', Fa', Va', ⟨M', MA'⟩, -⟩ := id RS'
    show HJ 12 63 lv [.int x] h' Q
    refine s_ra63 M' e0 e3 MA'.1.2.1 e5 qi rfl (z := x.toInt) (by omega) (by omega) (fun x2 q2 lv2 d0 d3 d4 d5 => ?_)
    by_cases c : x.toInt = 1
    · have l2 := hx.mp c
      rw [if_neg (by rw [l2]; decide), if_neg (by rw [l2]; decide)] at eR
      exact ih (i + 1) lv2 h' _ x x2 (by omega) RS' eR c (by omega) d0 d3 d4 d5
    · have x0 : x.toInt = 0 := by omega
      have hR : R.2 = (rd_line (V 0) n S).2 := by
        rcases rd_lineB (T := V 0) (n := n) (S := S) with l | l | l
        · rw [if_pos l] at eR
          rw [← eR]
        · rw [if_neg (by rw [l]; decide), if_pos l] at eR
          rw [← eR]
        · exact absurd (hx.mpr l) c
      exact s_ra45 M' d0 d3 MA'.1.2.1 d4 x0 d5 q2 (fun _ => g lv2 h' (by rw [hR]; exact RS') d0) (fun y => absurd rfl y) (fun y => absurd rfl y)
end
-- what a reading leaves with the row of acts
def ar_q (h : MH) (c : Nat) (S : RLS) : Prop := q_fd h c 2 = (ls_g S : Int) ∧ ∀ k, k < ls_g S → q_kd h c k = ls_t S (4 * k + 1) ∧ ∀ i, i < 3 → q_nm h c (3 * k + i) = ls_t S (4 * k + 2 + i)
def w_rda : List (Nat × Nat) := (106, 1) :: w_rd
def w_rdx : List (Nat × Nat) := [(11, 0), (11, 1), (11, 2), (11, 3), (11, 4), (11, 5), (11, 6), (11, 7), (11, 8), (103, 2), (104, 1001), (105, 1001)]
theorem c_read {ρ : Nat → Nat} {h : MH} {Q : Option Value → MH → Prop} {r ta ac n : Nat} {xn : Int32} (ht : TH c_sp ρ h) (sb : t_sb ρ h) (hr : ρ r = 11) (hta : ρ ta = 13) (hac : ρ ac = 103) (qn : xn.toInt = (n : Int)) (n6 : n ≤ 600) (T : Nat → Int) (hT : T = fun j => (h_i h ta j).toInt)
    (g : ∀ h', FS ρ w_rdx h h' → TH c_sp ρ h' → (h_i h' r 7).toInt = ls_f (rd_tx T n) → (h_i h' r 8).toInt = ls_l (rd_tx T n) → (ls_f (rd_tx T n) = 0 → ar_q h' ac (rd_tx T n)) → Q none h') : HJ 12 0 (lv_args 0 [.ref r, .ref ta, .int xn, .ref ac]) [] h Q := by
  have k5 : (h_k h r).1 = 5 := (t_spec ht (by decide) (rfl : c_sp[11]? = some _) hr).1
  obtain ⟨s1, s2, s3, s4⟩ := sb
  have b : ∀ {c R : Nat}, ρ c = R → R ≠ 6 → R ≠ 11 → R ≠ 106 → rd_r ρ r c = R := fun {c R} e n1 n2 n3 => by
    subst e
    exact rd_of hr n1 n2 n3
  refine hI_al (k := 0) rfl rfl rfl ?_
  refine hI_al (k := 1) rfl rfl rfl ?_
  refine hI_pr (c := 4) (k := 0) rfl rfl (by decide +kernel) k5 rfl ?_
  have t1 : TH c_sp ρ (h_sr h r 0 ta) := rd_st ht hr
  have f1 : FS ρ [(11, 0)] h (h_sr h r 0 ta) := FS.ofFR (s_srF hr (Or.inl (List.mem_singleton.mpr rfl)))
  have a0 : h_r (h_sr h r 0 ta) r 0 = ta := by rw [s_srR, if_pos ⟨rfl, rfl⟩]
  have hi : ∀ x k, h_i (h_sr h r 0 ta) x k = h_i h x k := fun _ _ => rfl
  generalize h_sr h r 0 ta = h1 at t1 f1 a0 hi ⊢
  have t2 : TH c_sp (rd_r ρ r) h1 := rd_TH t1 hr (by rw [a0]; exact hta)
  have hT1 : (fun j => (h_i h1 (h_r h1 r 0) j).toInt) = T := by
    rw [hT, a0]
    exact funext (fun j => by rw [hi])
  have M0 : MX 106 w_rda (rd_r ρ r) r (h_r h1 r) h1 h1 (fun K => (h_i h1 r K).toInt) (fun K j => (h_i h1 (h_r h1 r K) j).toInt) (fun K j => h_l h1 (h_r h1 r K) j) := MX.start t2 rd_own
  have hac1 : rd_r ρ r ac = 103 := b hac (by decide) (by decide) (by decide)
  have MA0 : MX 103 w_rda (rd_r ρ r) ac (h_r h1 ac) h1 h1 (fun K => (h_i h1 ac K).toInt) (fun K j => (h_i h1 (h_r h1 ac K) j).toInt) (fun K j => h_l h1 (h_r h1 ac K) j) := MX.start t2 hac1
  generalize (fun K => (h_i h1 r K).toInt) = F0 at M0
  generalize hV : (fun K j => (h_i h1 (h_r h1 r K) j).toInt) = V0 at M0
  generalize (fun K j => h_l h1 (h_r h1 r K) j) = G0 at M0
  generalize (fun K => (h_i h1 ac K).toInt) = Fa0 at MA0
  generalize (fun K j => (h_i h1 (h_r h1 ac K) j).toInt) = Va0 at MA0
  generalize (fun K j => h_l h1 (h_r h1 ac K) j) = Ga0 at MA0
  have hV0 : V0 0 = T := by
    rw [← hV]
    exact hT1
  have H : rd_env w_rda (rd_r ρ r) h1 := ⟨fun k hk => ⟨b (s1 k hk).1 (by decide) (by decide) (by decide), b (s1 k hk).2 (by decide) (by decide) (by decide)⟩, b s2 (by decide) (by decide) (by decide), by decide +kernel, by decide +kernel, sb_fs s1 (by decide +kernel) f1 s3, lim_fs s2 (by decide +kernel) f1 s4⟩
  refine s_ra5 (n := (n : Int)) M0 rfl (by rw [a0]; rfl) rfl qn rfl hac1 (fun x1 z1 q1 a1 b1 c1 => ?_)
  refine hI_min rfl rfl ⟨rfl, by decide +kernel, by show 1 + 13 ≤ m_lo 12; decide +kernel⟩ rfl ?_
  have hm : (if x1 < xn then x1 else xn) = xn := if_neg (fun z => by
    have := Int32.lt_iff_toInt_lt.mp z
    omega)
  rw [hm]
  refine s_ra12 (MX.again M0 [(106, 1), (106, 3), (106, 6), (106, 7), (106, 8)]) rfl rfl hac1 qn (by omega) (by omega) (by decide +kernel) (fun h2 F2 f2 h3 F3 f3 h5 F5 f5 h7 F7 f7 h9 F9 f9 M9 => ?_)
  have MA9 := MA0.stay (by decide) M9.1.1 M9.1.2.2 (by decide +kernel) (by decide +kernel)
  have M9 := M0.re M9 (by decide +kernel)
  refine s_cl (MX.again MA9 [(103, 2)]) rfl (by decide +kernel) (fun h10 F10 f10 MA10 => ?_)
  have M10 := M9.stay (by decide) MA10.1.1 MA10.1.2.2 (by decide +kernel) (by decide +kernel)
  have MA10 := MA9.re MA10 (by decide +kernel)
  show HJ 12 39 _ [] h10 Q
  refine s_ra39 M10 rfl rfl hac1 (fun x1 q1 x3 q3 lv4 d0 d3 d4 d5 => ?_)
  have R0 : RR w_rda (rd_r ρ r) r (h_r h1 r) ac (h_r h1 ac) h1 V0 G0 Ga0 n rd_S0 h10 := by
    refine ⟨F9, F10, Va0, ⟨M10, MA10⟩, ⟨?_, ?_, ?_, ?_, ?_⟩, ⟨?_, fun k _ hk => absurd hk (Nat.not_lt_zero k)⟩, Nat.zero_le _, Nat.le_refl _⟩
    · rw [f9, m_uN _ _ _ _ (by decide), f7, m_uN _ _ _ _ (by decide), f5, m_uN _ _ _ _ (by decide), f3, m_uN _ _ _ _ (by decide), f2, m_uE]
    · rw [f9, m_uN _ _ _ _ (by decide), f7, m_uN _ _ _ _ (by decide), f5, m_uN _ _ _ _ (by decide), f3, m_uE]
      rfl
    · rw [f9, m_uN _ _ _ _ (by decide), f7, m_uN _ _ _ _ (by decide), f5, m_uE]
      rfl
    · rw [f9, m_uN _ _ _ _ (by decide), f7, m_uE]
      rfl
    · rw [f9, m_uE]
      rfl
    · rw [f10, m_uE]
      rfl
  have hZ : rd_tx T n = rd_fin n (rd_run T n 601 rd_S0).2 := rd_txE
  have ok := ls_okT (T := T) (n := n)
  generalize rd_tx T n = Z at g hZ ok
  -- the end
  have fin : ∀ (h' : MH) (S : RLS), RR w_rda (rd_r ρ r) r (h_r h1 r) ac (h_r h1 ac) h1 V0 G0 Ga0 n S h' → ls_f S = ls_f Z → ls_l S = ls_l Z → ls_g S = ls_g Z → ls_t S = ls_t Z → Q none h' := fun h' S ⟨F', Fa', Va', ⟨M', MA'⟩, ⟨_, _, _, p7, p8⟩, ao, _, _⟩ e1 e2 e3 e4 => by
    obtain ⟨k1, k2⟩ := rd_back (W' := w_rdx) t1 hr (by decide +kernel) M'.1.2.2 M'.1.1
    refine g h' ((f1.mono (by decide +kernel)).trans k1) k2 ?_ ?_ (fun z => ?_)
    · rw [M'.2.1 7, p7, e1]
    · rw [M'.2.1 8, p8, e2]
    · have g40 := (ok.1 z).2
      rw [e3, e4] at ao
      have r0 := MA'.2.2 0 (by decide +kernel)
      have r1 := MA'.2.2 1 (by decide +kernel)
      refine ⟨(MA'.2.1 2).trans (by rw [ao.1, if_pos g40]), fun k hk => ?_⟩
      obtain ⟨y1, y2⟩ := ao.2 k (by omega) hk
      refine ⟨?_, fun i hi => ?_⟩
      · unfold q_kd
        rw [r0.1, (r0.2 k).1]
        exact y1
      · unfold q_nm
        rw [r1.1, (r1.2 _).1]
        exact y2 i hi
  refine l_ra (R := rd_run T n 601 rd_S0) H (by decide +kernel) n6 (fun lv h' RS e0 => ?_) 601 0 lv4 h10 rd_S0 x1 x3 (by decide) R0 (by rw [hV0]) q1 q3 d0 d3 d4 d5
  generalize (rd_run T n 601 rd_S0).2 = S at hZ RS
  obtain ⟨F', Fa', Va', ⟨M', MA'⟩, ⟨p1, p3, p6, p7, p8⟩, ao, pn, gp⟩ := id RS
  refine s_ra71 M' e0 (fun _ _ c => ?_) (fun x2 q2 x3 q3 _ _ c _ _ => ?_)
  · have hg : ¬ ls_g S = 0 := by omega
    have e : Z = S := by rw [hZ]; unfold rd_fin; rw [if_neg hg]
    exact fin h' S RS (by rw [e]) (by rw [e]) (by rw [e]) (by rw [e])
  · have hg : ls_g S = 0 := by omega
    have e : Z = ls_note 4 n S := by rw [hZ]; unfold rd_fin; rw [if_pos hg]
    obtain ⟨n1, n2, n3, n4, n5⟩ := ls_noteE (w := 4) (s := n) (S := S)
    refine c_note2 M' MA' (by decide +kernel) q2 (q3.trans p1) (fun h5 F5 M5 MA5 d7 d8 dd => s_ra87 (fin h5 (ls_note 4 n S) ⟨F5, Fa', Va', ⟨M5, MA5⟩, ⟨?_, ?_, ?_, ?_, ?_⟩, ?_, ?_, ?_⟩ (by rw [e]) (by rw [e]) (by rw [e]) (by rw [e])))
    · rw [dd 1 (by decide) (by decide)]
      exact p1
    · rw [dd 3 (by decide) (by decide), n1]
      exact p3
    · rw [dd 6 (by decide) (by decide), n2]
      exact p6
    · rw [d7, p7, n4]
    · rw [d8, p7, p8, n5]
    · rw [n2, n3]
      exact ao
    · rw [n1]
      exact pn
    · rw [n1, n2]
      exact gp
end
section
-- COPIES, CELL BY CELL
section
variable {i pc pc' : Nat} {lv : List (Nat × Value)} {st : List Value} {h : MH} {Q : Option Value → MH → Prop}
theorem cpi_i (h : MH) (a0 a1 n x k : Nat) : h_i (h_cpi h a0 a1 0 0 n) x k = if x = a1 ∧ k < n then h_i h a0 k else h_i h x k := by
  show m_u (h_i h) a1 (fun j => if 0 ≤ j ∧ j < 0 + n then h_i h a0 (0 + (j - 0)) else h_i h a1 j) x k = _
  by_cases e : x = a1
  · subst e
    rw [m_uE]
    by_cases e2 : k < n
    · rw [if_pos ⟨Nat.zero_le _, by omega⟩, if_pos ⟨rfl, e2⟩, Nat.zero_add, Nat.sub_zero]
    · rw [if_neg (fun z => by omega), if_neg (fun z => e2 z.2)]
  · rw [m_uN _ _ _ _ e, if_neg (fun z => e z.1)]
theorem hI_cpb {idx nest a0 a1 N : Nat} {n : Int32} (a : m_at i pc = some (.invokestatic idx, 3)) (hm : m_ml i idx = some (nest, 901)) (h0 : 16 ≤ a0) (h1 : 16 ≤ a1) (n0 : ¬ n < 0) (hn : n.toNatClampNeg = N) (l0 : N ≤ (h_k h a0).2) (l1 : N ≤ (h_k h a1).2) (hc : 1 ≤ m_fr i ∧ m_cat st + 18 ≤ m_lo i ∧ m_cat st ≤ 8) (hk : ((h_k h a0).1 = 20 ∧ (h_k h a1).1 = 20) ∨ ((h_k h a0).1 = 21 ∧ (h_k h a1).1 = 21)) (hp : pc + 3 = pc') (g : HJ i pc' lv st (h_cpi h a0 a1 0 0 N) Q) : HJ i pc lv (.int n :: .int (Int32.ofInt 0) :: .ref a1 :: .int (Int32.ofInt 0) :: .ref a0 :: st) h Q := by
  subst hp hn
  refine HJ.ex a (Or.inl rfl) ?_ g
  have z : (Int32.ofInt 0).toNatClampNeg = 0 := by decide
  show e_call 0 i idx pc lv (.int n :: .int (Int32.ofInt 0) :: .ref a1 :: .int (Int32.ofInt 0) :: .ref a0 :: st) h = _
  unfold e_call
  rw [hm]
  dsimp only
  rw [if_neg (by decide), if_pos rfl, if_pos rfl]
  unfold e_cp
  dsimp only
  rw [if_pos ⟨h0, h1, by decide, by decide, n0, by rw [z, Nat.zero_add]; exact l0, by rw [z, Nat.zero_add]; exact l1, hc⟩, if_pos hk, z]
  rfl
end
theorem ne_r {ρ : Nat → Nat} {x y R1 R2 : Nat} (e1 : ρ x = R1) (e2 : ρ y = R2) (h : R1 ≠ R2) : x ≠ y := fun z => h (by rw [← e1, ← e2, z])
-- a row of acts, as it lies
def ak_ok (h : MH) (c : Nat) : Prop := (h_k h c).1 = 1 ∧ (16 ≤ h_r h c 0 ∧ h_k h (h_r h c 0) = (20, 40)) ∧ 16 ≤ h_r h c 1 ∧ h_k h (h_r h c 1) = (20, 120)
def cp_acts (h : MH) (c d : Nat) (h' : MH) : Prop := (h'.1 = h.1 ∧ (∀ x, h_k h' x = h_k h x) ∧ ∀ x k, h_l h' x k = h_l h x k ∧ h_r h' x k = h_r h x k) ∧ ∀ x k, h_i h' x k = (if x = c ∧ k = 2 then h_i h d 2 else if x = h_r h c 0 ∧ k < 40 then h_i h (h_r h d 0) k else if x = h_r h c 1 ∧ k < 120 then h_i h (h_r h d 1) k else h_i h x k)
theorem r_copyActs {h : MH} {Q : Option Value → MH → Prop} {c d : Nat} (kc : ak_ok h c) (kd : ak_ok h d) (g : ∀ h', cp_acts h c d h' → Q none h') : HJ 40 0 (lv_args 0 [.ref c, .ref d]) [] h Q := by
  obtain ⟨c1, ⟨c2, c3⟩, c4, c5⟩ := kc
  obtain ⟨d1, ⟨d2, d3⟩, d4, d5⟩ := kd
  refine hI_al (k := 0) rfl rfl rfl ?_
  refine hI_al (k := 1) rfl rfl rfl ?_
  refine hI_gi (c := 0) (k := 2) rfl rfl rfl d1 rfl ?_
  refine hI_pi (c := 0) (k := 2) rfl rfl (by decide +kernel) c1 rfl ?_
  refine hI_al (k := 1) rfl rfl rfl ?_
  refine hI_gr (c := 0) (k := 0) rfl rfl rfl d1 rfl ?_
  refine hI_ic (n := 0) rfl rfl ?_
  refine hI_al (k := 0) rfl rfl rfl ?_
  refine hI_gr (c := 0) (k := 0) rfl rfl rfl c1 rfl ?_
  refine hI_ic (n := 0) rfl rfl ?_
  refine hI_bp (n := 40) rfl rfl ?_
  refine hI_cpb (N := 40) (a0 := h_r h d 0) (a1 := h_r h c 0) rfl rfl d2 c2 (by decide) (by decide) (by show 40 ≤ (h_k h (h_r h d 0)).2; rw [d3]; decide) (by show 40 ≤ (h_k h (h_r h c 0)).2; rw [c3]; decide) ⟨by decide +kernel, by decide +kernel, by decide +kernel⟩ (Or.inl ⟨congrArg Prod.fst d3, congrArg Prod.fst c3⟩) rfl ?_
  refine hI_al (k := 1) rfl rfl rfl ?_
  refine hI_gr (c := 0) (k := 1) rfl rfl rfl d1 rfl ?_
  refine hI_ic (n := 0) rfl rfl ?_
  refine hI_al (k := 0) rfl rfl rfl ?_
  refine hI_gr (c := 0) (k := 1) rfl rfl rfl c1 rfl ?_
  refine hI_ic (n := 0) rfl rfl ?_
  refine hI_bp (n := 120) rfl rfl ?_
  refine hI_cpb (N := 120) (a0 := h_r h d 1) (a1 := h_r h c 1) rfl rfl d4 c4 (by decide) (by decide) (by show 120 ≤ (h_k h (h_r h d 1)).2; rw [d5]; decide) (by show 120 ≤ (h_k h (h_r h c 1)).2; rw [c5]; decide) ⟨by decide +kernel, by decide +kernel, by decide +kernel⟩ (Or.inl ⟨congrArg Prod.fst d5, congrArg Prod.fst c5⟩) rfl ?_
  refine hI_rv rfl rfl (g _ ⟨⟨rfl, fun _ => rfl, fun _ _ => ⟨rfl, rfl⟩⟩, fun x k => ?_⟩)
  have n1 : h_r h c 1 ≠ h_r h c 0 := fun z => by rw [z, c3] at c5; cases c5
  have n2 : h_r h c 1 ≠ c := fun z => by
    have e := congrArg Prod.fst c5
    rw [z, c1] at e
    cases e
  have n3 : h_r h c 0 ≠ c := fun z => by
    have e := congrArg Prod.fst c3
    rw [z, c1] at e
    cases e
  have n4 : h_r h d 1 ≠ h_r h c 0 := fun z => by rw [z, c3] at d5; cases d5
  have n5 : h_r h d 1 ≠ c := fun z => by
    have e := congrArg Prod.fst d5
    rw [z, c1] at e
    cases e
  have n6 : h_r h d 0 ≠ c := fun z => by
    have e := congrArg Prod.fst d3
    rw [z, c1] at e
    cases e
  rw [cpi_i, cpi_i, cpi_i, s_siI, s_siI, s_siI]
  by_cases e1 : x = h_r h c 1 ∧ k < 120
  · have e0 := e1.1
    rw [if_pos e1, if_neg (fun z => n4 z.1), if_neg (fun z => n5 z.1), if_neg (fun z => n2 (e0.symm.trans z.1)), if_neg (fun z => n1 (e0.symm.trans z.1)), if_pos e1]
  · rw [if_neg e1]
    by_cases e2 : x = h_r h c 0 ∧ k < 40
    · have e0 := e2.1
      rw [if_pos e2, if_neg (fun z => n6 z.1), if_neg (fun z => n3 (e0.symm.trans z.1)), if_pos e2]
    · rw [if_neg e2]
      by_cases e3 : x = c ∧ k = 2
      · rw [if_pos e3, if_pos e3]
      · rw [if_neg e3, if_neg e3, if_neg e2, if_neg e1]
-- all that is told, copied
def ac_cp (h : MH) (c d : Nat) (h' : MH) : Prop := h_i h' c 2 = h_i h d 2 ∧ (∀ k, k < 40 → h_i h' (h_r h c 0) k = h_i h (h_r h d 0) k) ∧ ∀ k, k < 120 → h_i h' (h_r h c 1) k = h_i h (h_r h d 1) k
def ct_I (h : MH) (a b r : Nat) (h' : MH) : Prop := (h'.1 = h.1 ∧ (∀ x, h_k h' x = h_k h x) ∧ ∀ x k, h_l h' x k = h_l h x k ∧ h_r h' x k = h_r h x k) ∧ (∀ j, j < 600 → h_i h' (h_r h a 0) j = h_i h (h_r h b 0) j) ∧ (∀ K, 2 ≤ K → K < 6 → h_i h' a K = h_i h b K) ∧ (∀ s, s < r → ac_cp h (q_ac h a s) (q_ac h b s) h') ∧ ∀ x, x ≠ a → x ≠ h_r h a 0 → (∀ s, s < r → x ≠ q_ac h a s ∧ x ≠ h_r h (q_ac h a s) 0 ∧ x ≠ h_r h (q_ac h a s) 1) → ∀ k, h_i h' x k = h_i h x k
theorem ak_N {ρ : Nat → Nat} {h : MH} {c : Nat} (ht : TH c_sp ρ h) (hc : ρ c = 12) : ak_ok h c := by
  have k0 := (th_rf ht (R := 12) (by decide) rfl hc (k := 0) rfl (fun z => by cases z)).2
  have k1 := (th_rf ht (R := 12) (by decide) rfl hc (k := 1) rfl (fun z => by cases z)).2
  have c0 := t_spec ht (by decide) (rfl : c_sp[14]? = some _) k0
  have c1 := t_spec ht (by decide) (rfl : c_sp[15]? = some _) k1
  have l0 : 40 ≤ (h_k h (h_r h c 0)).2 ∧ (h_k h (h_r h c 0)).2 ≤ 40 := c0.2.1
  have l1 : 120 ≤ (h_k h (h_r h c 1)).2 ∧ (h_k h (h_r h c 1)).2 ≤ 120 := c1.2.1
  exact ⟨(t_spec ht (by decide) (rfl : c_sp[12]? = some _) hc).1, ⟨c0.2.2.1 rfl, Prod.ext c0.1 (by show (h_k h (h_r h c 0)).2 = 40; omega)⟩, c1.2.2.1 rfl, Prod.ext c1.1 (by show (h_k h (h_r h c 1)).2 = 120; omega)⟩
theorem ak_I {ρ : Nat → Nat} {h : MH} {c : Nat} (ht : TH c_sp ρ h) (hc : ρ c = 100) : ak_ok h c := by
  have k0 := (th_rf ht (R := 100) (by decide) rfl hc (k := 0) rfl (fun z => by cases z)).2
  have k1 := (th_rf ht (R := 100) (by decide) rfl hc (k := 1) rfl (fun z => by cases z)).2
  have c0 := t_spec ht (by decide) (rfl : c_sp[101]? = some _) k0
  have c1 := t_spec ht (by decide) (rfl : c_sp[102]? = some _) k1
  have l0 : 40 ≤ (h_k h (h_r h c 0)).2 ∧ (h_k h (h_r h c 0)).2 ≤ 40 := c0.2.1
  have l1 : 120 ≤ (h_k h (h_r h c 1)).2 ∧ (h_k h (h_r h c 1)).2 ≤ 120 := c1.2.1
  exact ⟨(t_spec ht (by decide) (rfl : c_sp[100]? = some _) hc).1, ⟨c0.2.2.1 rfl, Prod.ext c0.1 (by show (h_k h (h_r h c 0)).2 = 40; omega)⟩, c1.2.2.1 rfl, Prod.ext c1.1 (by show (h_k h (h_r h c 1)).2 = 120; omega)⟩
theorem ak_T {ρ : Nat → Nat} {h : MH} {c : Nat} (ht : TH c_sp ρ h) (hc : ρ c = 103) : ak_ok h c := by
  have k0 := (th_rf ht (R := 103) (by decide) rfl hc (k := 0) rfl (fun z => by cases z)).2
  have k1 := (th_rf ht (R := 103) (by decide) rfl hc (k := 1) rfl (fun z => by cases z)).2
  have c0 := t_spec ht (by decide) (rfl : c_sp[104]? = some _) k0
  have c1 := t_spec ht (by decide) (rfl : c_sp[105]? = some _) k1
  have l0 : 40 ≤ (h_k h (h_r h c 0)).2 ∧ (h_k h (h_r h c 0)).2 ≤ 40 := c0.2.1
  have l1 : 120 ≤ (h_k h (h_r h c 1)).2 ∧ (h_k h (h_r h c 1)).2 ≤ 120 := c1.2.1
  exact ⟨(t_spec ht (by decide) (rfl : c_sp[103]? = some _) hc).1, ⟨c0.2.2.1 rfl, Prod.ext c0.1 (by show (h_k h (h_r h c 0)).2 = 40; omega)⟩, c1.2.2.1 rfl, Prod.ext c1.1 (by show (h_k h (h_r h c 1)).2 = 120; omega)⟩
theorem m_cA {i pc pc' idx nest j o : Nat} {lv : List (Nat × Value)} {as r st0 : List Value} {h : MH} (a : m_at i pc = some (.invokevirtual idx, 3)) (hm : m_ml i idx = some (nest, j)) (hok : k_ok 1 i j = true) (hna : m_na j = as.length) (hst : st0 = as.reverse ++ (.ref o :: r)) (hp : pc + 3 = pc') (hx : Nat.ble (m_cat r) 8 = true ∧ ¬ (m_m j).2.1.cls = "java/lang/String" ∧ m_cnm 0 = (m_m j).2.1.cls) (o16 : 16 ≤ o) (ko : (h_k h o).1 = 1) : m_st i pc lv st0 h = some (.inr (.inr (j, .ref o :: as, r, pc'))) := by
  subst hp hst
  obtain ⟨hc, hns, hcl⟩ := hx
  obtain ⟨⟨k1, k2, k3, k4⟩, k5⟩ := of_decide_eq_true hok
  have e1 : (as.reverse ++ Value.ref o :: r).drop (m_na j) = .ref o :: r := by
    rw [hna, ← List.length_reverse]
    exact List.drop_left
  have e2 : (as.reverse ++ Value.ref o :: r).take (m_na j) = as.reverse := by
    rw [hna, ← List.length_reverse]
    exact List.take_left
  refine (m_stx a (Or.inl rfl)).trans ?_
  show e_call 1 i idx pc lv _ h = _
  unfold e_call
  rw [hm]
  dsimp only
  rw [if_neg k1, if_neg k2, if_neg k3, if_neg k4, if_pos k5, if_neg (by decide), e1, e2]
  dsimp only
  rw [if_pos, List.reverse_reverse]
  refine ⟨by rw [hna, List.length_append, List.length_reverse, List.length_cons]; omega, Nat.le_of_ble_eq_true hc, ?_⟩
  rw [if_neg hns, ko]
  exact ⟨hcl, o16, by decide, by decide⟩
theorem ct_SN {ρ : Nat → Nat} {h h1 h2 : MH} {a b r : Nat} (ht : TH c_sp ρ h) (ha : ρ a = 7) (hb : ρ b = 97) (ow : ow_ne h a a) (hr : r < 4) (I : ct_I h a b r h1) (c : cp_acts h1 (q_ac h a r) (q_ac h b r) h2) : ct_I h a b (r + 1) h2 := by
  obtain ⟨⟨i1, i2, i3⟩, i4, i5, i6, i7⟩ := I
  obtain ⟨⟨c1, c2, c3⟩, c4⟩ := c
  obtain ⟨a0, a1, ao⟩ := td_obN ht ha
  obtain ⟨b0, b1, bo⟩ := td_obI ht hb
  obtain ⟨p1, p2, p3⟩ := ao r hr
  obtain ⟨d1, d2, d3⟩ := bo r hr
  have er : ∀ x k, h_r h1 x k = h_r h x k := fun x k => (i3 x k).2
  have c4 : ∀ x k, h_i h2 x k = (if x = q_ac h a r ∧ k = 2 then h_i h1 (q_ac h b r) 2 else if x = h_r h (q_ac h a r) 0 ∧ k < 40 then h_i h1 (h_r h (q_ac h b r) 0) k else if x = h_r h (q_ac h a r) 1 ∧ k < 120 then h_i h1 (h_r h (q_ac h b r) 1) k else h_i h1 x k) := fun x k => by
    have := c4 x k
    rw [er, er, er, er] at this
    exact this
  -- what is read stands as it was
  have rd : ∀ x, (ρ x = 100 ∨ ρ x = 101 ∨ ρ x = 102) → ∀ k, h_i h1 x k = h_i h x k := fun x hx => by
    refine i7 x ?_ ?_ (fun s hs => ?_)
    · rcases hx with e | e | e <;> exact ne_r e ha (by decide)
    · rcases hx with e | e | e <;> exact ne_r e a0 (by decide)
    · obtain ⟨s1, s2, s3⟩ := ao s (by omega)
      rcases hx with e | e | e <;> exact ⟨ne_r e s1 (by decide), ne_r e s2 (by decide), ne_r e s3 (by decide)⟩
  have rd1 := rd _ (Or.inl d1)
  have rd2 := rd _ (Or.inr (Or.inl d2))
  have rd3 := rd _ (Or.inr (Or.inr d3))
  -- a cell that the step leaves
  have st : ∀ x k, x ≠ q_ac h a r → x ≠ h_r h (q_ac h a r) 0 → x ≠ h_r h (q_ac h a r) 1 → h_i h2 x k = h_i h1 x k := fun x k n1 n2 n3 => by
    rw [c4, if_neg (fun z => n1 z.1), if_neg (fun z => n2 z.1), if_neg (fun z => n3 z.1)]
  refine ⟨⟨c1.trans i1, fun x => (c2 x).trans (i2 x), fun x k => ⟨(c3 x k).1.trans (i3 x k).1, (c3 x k).2.trans (i3 x k).2⟩⟩, fun j hj => ?_, fun K k2 k6 => ?_, fun s hs => ?_, fun x n1 n2 n3 k => ?_⟩
  · rw [st _ _ (ne_r a0 p1 (by decide)) (ne_r a0 p2 (by decide)) (ne_r a0 p3 (by decide))]
    exact i4 j hj
  · rw [st _ _ (ne_r ha p1 (by decide)) (ne_r ha p2 (by decide)) (ne_r ha p3 (by decide))]
    exact i5 K k2 k6
  · by_cases e : s = r
    · subst e
      refine ⟨?_, fun k hk => ?_, fun k hk => ?_⟩
      · rw [c4, if_pos ⟨rfl, rfl⟩]
        exact rd1 2
      · rw [c4, if_neg (fun z => ne_r p2 p1 (by decide) z.1), if_pos ⟨rfl, hk⟩]
        exact rd2 k
      · rw [c4, if_neg (fun z => ne_r p3 p1 (by decide) z.1), if_neg (fun z => ne_r p3 p2 (by decide) z.1), if_pos ⟨rfl, hk⟩]
        exact rd3 k
    · obtain ⟨s1, s2, s3⟩ := ao s (by omega)
      obtain ⟨w1, w2, w3⟩ := ow s r (by omega) hr (Or.inr e)
      obtain ⟨j1, j2, j3⟩ := i6 s (by omega)
      refine ⟨?_, fun k hk => ?_, fun k hk => ?_⟩
      · rw [st _ _ w1 (ne_r s1 p2 (by decide)) (ne_r s1 p3 (by decide))]
        exact j1
      · rw [st _ _ (ne_r s2 p1 (by decide)) w2 (ne_r s2 p3 (by decide))]
        exact j2 k hk
      · rw [st _ _ (ne_r s3 p1 (by decide)) (ne_r s3 p2 (by decide)) w3]
        exact j3 k hk
  · obtain ⟨m1, m2, m3⟩ := n3 r (by omega)
    rw [st _ _ m1 m2 m3]
    exact i7 x n1 n2 (fun s hs => n3 s (by omega)) k
theorem r_toldN {ρ : Nat → Nat} {h : MH} {Q : Option Value → MH → Prop} {a b : Nat} (ht : TH c_sp ρ h) (ha : ρ a = 7) (hb : ρ b = 97) (ow : ow_ne h a a) (g : ∀ h', ct_I h a b 4 h' → Q none h') : HJ 95 0 (lv_args 0 [.ref a, .ref b]) [] h Q := by
  obtain ⟨a0, a1, ao⟩ := td_obN ht ha
  obtain ⟨b0, b1, bo⟩ := td_obI ht hb
  have ka : (h_k h a).1 = 7 := (t_spec ht (by decide) (rfl : c_sp[7]? = some _) ha).1
  have kb : (h_k h b).1 = 7 := (t_spec ht (by decide) (rfl : c_sp[97]? = some _) hb).1
  have ca := t_spec ht (by decide) (rfl : c_sp[13]? = some _) a0
  have cb := t_spec ht (by decide) (rfl : c_sp[99]? = some _) b0
  have la : 600 ≤ (h_k h (h_r h a 0)).2 := ca.2.1.1
  have lb : 600 ≤ (h_k h (h_r h b 0)).2 := cb.2.1.1
  have ra := t_spec ht (by decide) (rfl : c_sp[10]? = some _) a1
  have rb := t_spec ht (by decide) (rfl : c_sp[98]? = some _) b1
  have xa : (h_k h (h_r h a 1)).1 = 32 := ra.1
  have xb : (h_k h (h_r h b 1)).1 = 32 := rb.1
  have ya : 4 ≤ (h_k h (h_r h a 1)).2 := ra.2.1.1
  have yb : 4 ≤ (h_k h (h_r h b 1)).2 := rb.2.1.1
  refine hI_al (k := 1) rfl rfl rfl ?_
  refine hI_gr (c := 6) (k := 0) rfl rfl rfl kb rfl ?_
  refine hI_ic (n := 0) rfl rfl ?_
  refine hI_al (k := 0) rfl rfl rfl ?_
  refine hI_gr (c := 6) (k := 0) rfl rfl rfl ka rfl ?_
  refine hI_ic (n := 0) rfl rfl ?_
  refine hI_sp (n := 600) rfl rfl ?_
  refine hI_cpb (N := 600) (a0 := h_r h b 0) (a1 := h_r h a 0) rfl rfl (cb.2.2.1 rfl) (ca.2.2.1 rfl) (by decide) (by decide) lb la ⟨by decide +kernel, by decide +kernel, by decide +kernel⟩ (Or.inr ⟨cb.1, ca.1⟩) rfl ?_
  refine hI_al (k := 0) rfl rfl rfl ?_
  refine hI_al (k := 1) rfl rfl rfl ?_
  refine hI_gi (c := 6) (k := 2) rfl rfl rfl kb rfl ?_
  refine hI_pi (c := 6) (k := 2) rfl rfl (by decide +kernel) ka rfl ?_
  refine hI_al (k := 0) rfl rfl rfl ?_
  refine hI_al (k := 1) rfl rfl rfl ?_
  refine hI_gi (c := 6) (k := 3) rfl rfl rfl kb rfl ?_
  refine hI_pi (c := 6) (k := 3) rfl rfl (by decide +kernel) ka rfl ?_
  refine hI_al (k := 0) rfl rfl rfl ?_
  refine hI_al (k := 1) rfl rfl rfl ?_
  refine hI_gi (c := 6) (k := 4) rfl rfl rfl kb rfl ?_
  refine hI_pi (c := 6) (k := 4) rfl rfl (by decide +kernel) ka rfl ?_
  refine hI_al (k := 0) rfl rfl rfl ?_
  refine hI_al (k := 1) rfl rfl rfl ?_
  refine hI_gi (c := 6) (k := 5) rfl rfl rfl kb rfl ?_
  refine hI_pi (c := 6) (k := 5) rfl rfl (by decide +kernel) ka rfl ?_
  refine hM_ic (n := 0) rfl (by decide) rfl (fun x0 q0 => ?_)
  refine hM_si (k := 2) rfl (by decide +kernel) rfl (fun lv1 e2 u => ?_)
  have e0 := u 0 _ (by decide) (Or.inl rfl) (show m_lk (lv_args 0 [.ref a, .ref b]) 0 = some (.ref a) from rfl)
  have e1 := u 1 _ (by decide) (Or.inl rfl) (show m_lk (lv_args 0 [.ref a, .ref b]) 1 = some (.ref b) from rfl)
  have nb : b ≠ a := ne_r hb ha (by decide)
  have n1 : b ≠ h_r h a 0 := ne_r hb a0 (by decide)
  have n2 : a ≠ h_r h a 0 := ne_r ha a0 (by decide)
  -- the loop
  have loop : ∀ (d r : Nat) (lv : List (Nat × Value)) (h1 : MH) (xr : Int32), r + d = 4 → xr.toInt = (r : Int) → ct_I h a b r h1 → m_lk lv 0 = some (.ref a) → m_lk lv 1 = some (.ref b) → m_lk lv 2 = some (.int xr) → HJ 95 50 lv [] h1 Q := by
    intro d
    induction d with
    | zero =>
      intro r lv h1 xr hd qr I e0 e1 e2
      have r4 : r = 4 := by omega
      subst r4
      refine hI_il (k := 2) rfl e2 rfl ?_
      refine hM_ic (n := 4) rfl (by decide) rfl (fun x4 q4 => ?_)
      refine hM_cge (t := 76) rfl qr q4 (by decide) rfl (fun _ => ?_) (fun c => absurd c (by decide))
      exact hI_rv rfl rfl (g h1 I)
    | succ d ih =>
      intro r lv h1 xr hd qr I e0 e1 e2
      have hr : r < 4 := by omega
      obtain ⟨j1, j2, j3⟩ := id I.1
      have er : ∀ x k, h_r h1 x k = h_r h x k := fun x k => (j3 x k).2
      refine hI_il (k := 2) rfl e2 rfl ?_
      refine hM_ic (n := 4) rfl (by decide) rfl (fun x4 q4 => ?_)
      refine hM_cge (t := 76) rfl qr q4 (by decide) rfl (fun c => by omega) (fun _ => ?_)
      refine hI_al (k := 0) rfl e0 rfl ?_
      refine hI_gr (c := 6) (k := 1) rfl rfl rfl (by rw [j2]; exact ka) rfl ?_
      refine hI_il (k := 2) rfl e2 rfl ?_
      refine hI_aa rfl (by rw [er, j2, xa]; decide) (by omega) (by rw [er, j2]; omega) rfl ?_
      refine hI_al (k := 1) rfl e1 rfl ?_
      refine hI_gr (c := 6) (k := 1) rfl rfl rfl (by rw [j2]; exact kb) rfl ?_
      refine hI_il (k := 2) rfl e2 rfl ?_
      refine hI_aa rfl (by rw [er, j2, xb]; decide) (by omega) (by rw [er, j2]; omega) rfl ?_
      have hx : xr.toInt.toNat = r := by omega
      rw [er, er, er, er, hx]
      show HJ 95 67 lv [.ref (q_ac h b r), .ref (q_ac h a r)] h1 Q
      obtain ⟨p1, -, -⟩ := ao r hr
      obtain ⟨d1, -, -⟩ := bo r hr
      have kp := ak_N ht p1
      have kd := ak_I ht d1
      have mv : ∀ {c : Nat}, ak_ok h c → ak_ok h1 c := fun {c} k => by
        unfold ak_ok
        rw [er, er, j2, j2, j2]
        exact k
      refine HJ.call (j := 40) (as := [.ref (q_ac h a r), .ref (q_ac h b r)]) (rr := []) (pc' := 70) ?_ (by show 2 ≤ m_lc 40; decide +kernel) ?_
      · have hl := (ht.2 _ (by rw [p1]; decide)).1
        have c16 : 16 ≤ q_ac h a r := (t_spec ht (by decide) (rfl : c_sp[12]? = some _) p1).2.2.1 rfl
        exact m_cA rfl rfl (by decide +kernel) rfl rfl rfl ⟨by decide +kernel, by decide +kernel, by decide +kernel⟩ c16 (by rw [j2]; exact kp.1)
      · refine r_copyActs (mv kp) (mv kd) (fun h2 c => ?_)
        show HJ 95 70 lv [] h2 Q
        refine hM_inc (k := 2) (z := 1) rfl e2 qr (by decide) (by omega) (by omega) (by decide +kernel) rfl (fun lv2 x2 q2 e2' u2 => ?_)
        have e0' := u2 0 _ (by decide) (Or.inl rfl) e0
        have e1' := u2 1 _ (by decide) (Or.inl rfl) e1
        refine hI_go (pc' := 50) (off := (-23)) rfl (by decide) ?_
        exact ih (r + 1) lv2 h2 x2 (by omega) (by omega) (ct_SN ht ha hb ow hr I c) e0' e1' e2'
  refine loop 4 0 lv1 _ x0 rfl q0 ⟨⟨rfl, fun _ => rfl, fun _ _ => ⟨rfl, rfl⟩⟩, fun j hj => ?_, fun K k2 k6 => ?_, fun s hs => absurd hs (Nat.not_lt_zero s), fun x m1 m2 _ k => ?_⟩ e0 e1 e2
  · rw [s_siI, if_neg (fun z => n2 z.1.symm), s_siI, if_neg (fun z => n2 z.1.symm), s_siI, if_neg (fun z => n2 z.1.symm), s_siI, if_neg (fun z => n2 z.1.symm), cpi_i, if_pos ⟨rfl, hj⟩]
  · have rb : ∀ k, h_i (h_cpi h (h_r h b 0) (h_r h a 0) 0 0 600) b k = h_i h b k := fun k => by rw [cpi_i, if_neg (fun z => n1 z.1)]
    rcases (show K = 2 ∨ K = 3 ∨ K = 4 ∨ K = 5 by omega) with rfl | rfl | rfl | rfl
    · rw [s_siI, if_neg (fun z => by omega), s_siI, if_neg (fun z => by omega), s_siI, if_neg (fun z => by omega), s_siI, if_pos ⟨rfl, rfl⟩]
      exact rb 2
    · rw [s_siI, if_neg (fun z => by omega), s_siI, if_neg (fun z => by omega), s_siI, if_pos ⟨rfl, rfl⟩, s_siI, if_neg (fun z => nb z.1)]
      exact rb 3
    · rw [s_siI, if_neg (fun z => by omega), s_siI, if_pos ⟨rfl, rfl⟩, s_siI, if_neg (fun z => nb z.1), s_siI, if_neg (fun z => nb z.1)]
      exact rb 4
    · rw [s_siI, if_pos ⟨rfl, rfl⟩, s_siI, if_neg (fun z => nb z.1), s_siI, if_neg (fun z => nb z.1), s_siI, if_neg (fun z => nb z.1)]
      exact rb 5
  · rw [s_siI, if_neg (fun z => m1 z.1), s_siI, if_neg (fun z => m1 z.1), s_siI, if_neg (fun z => m1 z.1), s_siI, if_neg (fun z => m1 z.1), cpi_i, if_neg (fun z => m2 z.1)]
theorem ct_SI {ρ : Nat → Nat} {h h1 h2 : MH} {a b r : Nat} (ht : TH c_sp ρ h) (ha : ρ a = 97) (hb : ρ b = 7) (ow : ow_ne h a a) (hr : r < 4) (I : ct_I h a b r h1) (c : cp_acts h1 (q_ac h a r) (q_ac h b r) h2) : ct_I h a b (r + 1) h2 := by
  obtain ⟨⟨i1, i2, i3⟩, i4, i5, i6, i7⟩ := I
  obtain ⟨⟨c1, c2, c3⟩, c4⟩ := c
  obtain ⟨a0, a1, ao⟩ := td_obI ht ha
  obtain ⟨b0, b1, bo⟩ := td_obN ht hb
  obtain ⟨p1, p2, p3⟩ := ao r hr
  obtain ⟨d1, d2, d3⟩ := bo r hr
  have er : ∀ x k, h_r h1 x k = h_r h x k := fun x k => (i3 x k).2
  have c4 : ∀ x k, h_i h2 x k = (if x = q_ac h a r ∧ k = 2 then h_i h1 (q_ac h b r) 2 else if x = h_r h (q_ac h a r) 0 ∧ k < 40 then h_i h1 (h_r h (q_ac h b r) 0) k else if x = h_r h (q_ac h a r) 1 ∧ k < 120 then h_i h1 (h_r h (q_ac h b r) 1) k else h_i h1 x k) := fun x k => by
    have := c4 x k
    rw [er, er, er, er] at this
    exact this
  -- what is read stands as it was
  have rd : ∀ x, (ρ x = 12 ∨ ρ x = 14 ∨ ρ x = 15) → ∀ k, h_i h1 x k = h_i h x k := fun x hx => by
    refine i7 x ?_ ?_ (fun s hs => ?_)
    · rcases hx with e | e | e <;> exact ne_r e ha (by decide)
    · rcases hx with e | e | e <;> exact ne_r e a0 (by decide)
    · obtain ⟨s1, s2, s3⟩ := ao s (by omega)
      rcases hx with e | e | e <;> exact ⟨ne_r e s1 (by decide), ne_r e s2 (by decide), ne_r e s3 (by decide)⟩
  have rd1 := rd _ (Or.inl d1)
  have rd2 := rd _ (Or.inr (Or.inl d2))
  have rd3 := rd _ (Or.inr (Or.inr d3))
  -- a cell that the step leaves
  have st : ∀ x k, x ≠ q_ac h a r → x ≠ h_r h (q_ac h a r) 0 → x ≠ h_r h (q_ac h a r) 1 → h_i h2 x k = h_i h1 x k := fun x k n1 n2 n3 => by
    rw [c4, if_neg (fun z => n1 z.1), if_neg (fun z => n2 z.1), if_neg (fun z => n3 z.1)]
  refine ⟨⟨c1.trans i1, fun x => (c2 x).trans (i2 x), fun x k => ⟨(c3 x k).1.trans (i3 x k).1, (c3 x k).2.trans (i3 x k).2⟩⟩, fun j hj => ?_, fun K k2 k6 => ?_, fun s hs => ?_, fun x n1 n2 n3 k => ?_⟩
  · rw [st _ _ (ne_r a0 p1 (by decide)) (ne_r a0 p2 (by decide)) (ne_r a0 p3 (by decide))]
    exact i4 j hj
  · rw [st _ _ (ne_r ha p1 (by decide)) (ne_r ha p2 (by decide)) (ne_r ha p3 (by decide))]
    exact i5 K k2 k6
  · by_cases e : s = r
    · subst e
      refine ⟨?_, fun k hk => ?_, fun k hk => ?_⟩
      · rw [c4, if_pos ⟨rfl, rfl⟩]
        exact rd1 2
      · rw [c4, if_neg (fun z => ne_r p2 p1 (by decide) z.1), if_pos ⟨rfl, hk⟩]
        exact rd2 k
      · rw [c4, if_neg (fun z => ne_r p3 p1 (by decide) z.1), if_neg (fun z => ne_r p3 p2 (by decide) z.1), if_pos ⟨rfl, hk⟩]
        exact rd3 k
    · obtain ⟨s1, s2, s3⟩ := ao s (by omega)
      obtain ⟨w1, w2, w3⟩ := ow s r (by omega) hr (Or.inr e)
      obtain ⟨j1, j2, j3⟩ := i6 s (by omega)
      refine ⟨?_, fun k hk => ?_, fun k hk => ?_⟩
      · rw [st _ _ w1 (ne_r s1 p2 (by decide)) (ne_r s1 p3 (by decide))]
        exact j1
      · rw [st _ _ (ne_r s2 p1 (by decide)) w2 (ne_r s2 p3 (by decide))]
        exact j2 k hk
      · rw [st _ _ (ne_r s3 p1 (by decide)) (ne_r s3 p2 (by decide)) w3]
        exact j3 k hk
  · obtain ⟨m1, m2, m3⟩ := n3 r (by omega)
    rw [st _ _ m1 m2 m3]
    exact i7 x n1 n2 (fun s hs => n3 s (by omega)) k
theorem r_toldI {ρ : Nat → Nat} {h : MH} {Q : Option Value → MH → Prop} {a b : Nat} (ht : TH c_sp ρ h) (ha : ρ a = 97) (hb : ρ b = 7) (ow : ow_ne h a a) (g : ∀ h', ct_I h a b 4 h' → Q none h') : HJ 95 0 (lv_args 0 [.ref a, .ref b]) [] h Q := by
  obtain ⟨a0, a1, ao⟩ := td_obI ht ha
  obtain ⟨b0, b1, bo⟩ := td_obN ht hb
  have ka : (h_k h a).1 = 7 := (t_spec ht (by decide) (rfl : c_sp[97]? = some _) ha).1
  have kb : (h_k h b).1 = 7 := (t_spec ht (by decide) (rfl : c_sp[7]? = some _) hb).1
  have ca := t_spec ht (by decide) (rfl : c_sp[99]? = some _) a0
  have cb := t_spec ht (by decide) (rfl : c_sp[13]? = some _) b0
  have la : 600 ≤ (h_k h (h_r h a 0)).2 := ca.2.1.1
  have lb : 600 ≤ (h_k h (h_r h b 0)).2 := cb.2.1.1
  have ra := t_spec ht (by decide) (rfl : c_sp[98]? = some _) a1
  have rb := t_spec ht (by decide) (rfl : c_sp[10]? = some _) b1
  have xa : (h_k h (h_r h a 1)).1 = 32 := ra.1
  have xb : (h_k h (h_r h b 1)).1 = 32 := rb.1
  have ya : 4 ≤ (h_k h (h_r h a 1)).2 := ra.2.1.1
  have yb : 4 ≤ (h_k h (h_r h b 1)).2 := rb.2.1.1
  refine hI_al (k := 1) rfl rfl rfl ?_
  refine hI_gr (c := 6) (k := 0) rfl rfl rfl kb rfl ?_
  refine hI_ic (n := 0) rfl rfl ?_
  refine hI_al (k := 0) rfl rfl rfl ?_
  refine hI_gr (c := 6) (k := 0) rfl rfl rfl ka rfl ?_
  refine hI_ic (n := 0) rfl rfl ?_
  refine hI_sp (n := 600) rfl rfl ?_
  refine hI_cpb (N := 600) (a0 := h_r h b 0) (a1 := h_r h a 0) rfl rfl (cb.2.2.1 rfl) (ca.2.2.1 rfl) (by decide) (by decide) lb la ⟨by decide +kernel, by decide +kernel, by decide +kernel⟩ (Or.inr ⟨cb.1, ca.1⟩) rfl ?_
  refine hI_al (k := 0) rfl rfl rfl ?_
  refine hI_al (k := 1) rfl rfl rfl ?_
  refine hI_gi (c := 6) (k := 2) rfl rfl rfl kb rfl ?_
  refine hI_pi (c := 6) (k := 2) rfl rfl (by decide +kernel) ka rfl ?_
  refine hI_al (k := 0) rfl rfl rfl ?_
  refine hI_al (k := 1) rfl rfl rfl ?_
  refine hI_gi (c := 6) (k := 3) rfl rfl rfl kb rfl ?_
  refine hI_pi (c := 6) (k := 3) rfl rfl (by decide +kernel) ka rfl ?_
  refine hI_al (k := 0) rfl rfl rfl ?_
  refine hI_al (k := 1) rfl rfl rfl ?_
  refine hI_gi (c := 6) (k := 4) rfl rfl rfl kb rfl ?_
  refine hI_pi (c := 6) (k := 4) rfl rfl (by decide +kernel) ka rfl ?_
  refine hI_al (k := 0) rfl rfl rfl ?_
  refine hI_al (k := 1) rfl rfl rfl ?_
  refine hI_gi (c := 6) (k := 5) rfl rfl rfl kb rfl ?_
  refine hI_pi (c := 6) (k := 5) rfl rfl (by decide +kernel) ka rfl ?_
  refine hM_ic (n := 0) rfl (by decide) rfl (fun x0 q0 => ?_)
  refine hM_si (k := 2) rfl (by decide +kernel) rfl (fun lv1 e2 u => ?_)
  have e0 := u 0 _ (by decide) (Or.inl rfl) (show m_lk (lv_args 0 [.ref a, .ref b]) 0 = some (.ref a) from rfl)
  have e1 := u 1 _ (by decide) (Or.inl rfl) (show m_lk (lv_args 0 [.ref a, .ref b]) 1 = some (.ref b) from rfl)
  have nb : b ≠ a := ne_r hb ha (by decide)
  have n1 : b ≠ h_r h a 0 := ne_r hb a0 (by decide)
  have n2 : a ≠ h_r h a 0 := ne_r ha a0 (by decide)
  -- the loop
  have loop : ∀ (d r : Nat) (lv : List (Nat × Value)) (h1 : MH) (xr : Int32), r + d = 4 → xr.toInt = (r : Int) → ct_I h a b r h1 → m_lk lv 0 = some (.ref a) → m_lk lv 1 = some (.ref b) → m_lk lv 2 = some (.int xr) → HJ 95 50 lv [] h1 Q := by
    intro d
    induction d with
    | zero =>
      intro r lv h1 xr hd qr I e0 e1 e2
      have r4 : r = 4 := by omega
      subst r4
      refine hI_il (k := 2) rfl e2 rfl ?_
      refine hM_ic (n := 4) rfl (by decide) rfl (fun x4 q4 => ?_)
      refine hM_cge (t := 76) rfl qr q4 (by decide) rfl (fun _ => ?_) (fun c => absurd c (by decide))
      exact hI_rv rfl rfl (g h1 I)
    | succ d ih =>
      intro r lv h1 xr hd qr I e0 e1 e2
      have hr : r < 4 := by omega
      obtain ⟨j1, j2, j3⟩ := id I.1
      have er : ∀ x k, h_r h1 x k = h_r h x k := fun x k => (j3 x k).2
      refine hI_il (k := 2) rfl e2 rfl ?_
      refine hM_ic (n := 4) rfl (by decide) rfl (fun x4 q4 => ?_)
      refine hM_cge (t := 76) rfl qr q4 (by decide) rfl (fun c => by omega) (fun _ => ?_)
      refine hI_al (k := 0) rfl e0 rfl ?_
      refine hI_gr (c := 6) (k := 1) rfl rfl rfl (by rw [j2]; exact ka) rfl ?_
      refine hI_il (k := 2) rfl e2 rfl ?_
      refine hI_aa rfl (by rw [er, j2, xa]; decide) (by omega) (by rw [er, j2]; omega) rfl ?_
      refine hI_al (k := 1) rfl e1 rfl ?_
      refine hI_gr (c := 6) (k := 1) rfl rfl rfl (by rw [j2]; exact kb) rfl ?_
      refine hI_il (k := 2) rfl e2 rfl ?_
      refine hI_aa rfl (by rw [er, j2, xb]; decide) (by omega) (by rw [er, j2]; omega) rfl ?_
      have hx : xr.toInt.toNat = r := by omega
      rw [er, er, er, er, hx]
      show HJ 95 67 lv [.ref (q_ac h b r), .ref (q_ac h a r)] h1 Q
      obtain ⟨p1, -, -⟩ := ao r hr
      obtain ⟨d1, -, -⟩ := bo r hr
      have kp := ak_I ht p1
      have kd := ak_N ht d1
      have mv : ∀ {c : Nat}, ak_ok h c → ak_ok h1 c := fun {c} k => by
        unfold ak_ok
        rw [er, er, j2, j2, j2]
        exact k
      refine HJ.call (j := 40) (as := [.ref (q_ac h a r), .ref (q_ac h b r)]) (rr := []) (pc' := 70) ?_ (by show 2 ≤ m_lc 40; decide +kernel) ?_
      · have hl := (ht.2 _ (by rw [p1]; decide)).1
        have c16 : 16 ≤ q_ac h a r := (t_spec ht (by decide) (rfl : c_sp[100]? = some _) p1).2.2.1 rfl
        exact m_cA rfl rfl (by decide +kernel) rfl rfl rfl ⟨by decide +kernel, by decide +kernel, by decide +kernel⟩ c16 (by rw [j2]; exact kp.1)
      · refine r_copyActs (mv kp) (mv kd) (fun h2 c => ?_)
        show HJ 95 70 lv [] h2 Q
        refine hM_inc (k := 2) (z := 1) rfl e2 qr (by decide) (by omega) (by omega) (by decide +kernel) rfl (fun lv2 x2 q2 e2' u2 => ?_)
        have e0' := u2 0 _ (by decide) (Or.inl rfl) e0
        have e1' := u2 1 _ (by decide) (Or.inl rfl) e1
        refine hI_go (pc' := 50) (off := (-23)) rfl (by decide) ?_
        exact ih (r + 1) lv2 h2 x2 (by omega) (by omega) (ct_SI ht ha hb ow hr I c) e0' e1' e2'
  refine loop 4 0 lv1 _ x0 rfl q0 ⟨⟨rfl, fun _ => rfl, fun _ _ => ⟨rfl, rfl⟩⟩, fun j hj => ?_, fun K k2 k6 => ?_, fun s hs => absurd hs (Nat.not_lt_zero s), fun x m1 m2 _ k => ?_⟩ e0 e1 e2
  · rw [s_siI, if_neg (fun z => n2 z.1.symm), s_siI, if_neg (fun z => n2 z.1.symm), s_siI, if_neg (fun z => n2 z.1.symm), s_siI, if_neg (fun z => n2 z.1.symm), cpi_i, if_pos ⟨rfl, hj⟩]
  · have rb : ∀ k, h_i (h_cpi h (h_r h b 0) (h_r h a 0) 0 0 600) b k = h_i h b k := fun k => by rw [cpi_i, if_neg (fun z => n1 z.1)]
    rcases (show K = 2 ∨ K = 3 ∨ K = 4 ∨ K = 5 by omega) with rfl | rfl | rfl | rfl
    · rw [s_siI, if_neg (fun z => by omega), s_siI, if_neg (fun z => by omega), s_siI, if_neg (fun z => by omega), s_siI, if_pos ⟨rfl, rfl⟩]
      exact rb 2
    · rw [s_siI, if_neg (fun z => by omega), s_siI, if_neg (fun z => by omega), s_siI, if_pos ⟨rfl, rfl⟩, s_siI, if_neg (fun z => nb z.1)]
      exact rb 3
    · rw [s_siI, if_neg (fun z => by omega), s_siI, if_pos ⟨rfl, rfl⟩, s_siI, if_neg (fun z => nb z.1), s_siI, if_neg (fun z => nb z.1)]
      exact rb 4
    · rw [s_siI, if_pos ⟨rfl, rfl⟩, s_siI, if_neg (fun z => nb z.1), s_siI, if_neg (fun z => nb z.1), s_siI, if_neg (fun z => nb z.1)]
      exact rb 5
  · rw [s_siI, if_neg (fun z => m1 z.1), s_siI, if_neg (fun z => m1 z.1), s_siI, if_neg (fun z => m1 z.1), s_siI, if_neg (fun z => m1 z.1), cpi_i, if_neg (fun z => m2 z.1)]
end
section
-- THE RELATION OF WHAT IS TOLD, MOVED FROM PLACE TO PLACE
def pc_eq (h : MH) (a : Nat) (h' : MH) (a' : Nat) : Prop := (∀ K, 2 ≤ K → K < 6 → q_fd h' a' K = q_fd h a K) ∧ (∀ j, j < 600 → q_tp h' a' j = q_tp h a j) ∧ ∀ r, r < 4 → q_fd h' (q_ac h' a' r) 2 = q_fd h (q_ac h a r) 2 ∧ (∀ k, k < 40 → q_kd h' (q_ac h' a' r) k = q_kd h (q_ac h a r) k) ∧ ∀ k, k < 120 → q_nm h' (q_ac h' a' r) k = q_nm h (q_ac h a r) k
def vm_eq (h : MH) (m s : Nat) (h' : MH) (s' : Nat) : Prop := (∀ K, (K = 2 ∨ K = 3 ∨ K = 4 ∨ K = 5) → q_vm h' m K s' = q_vm h m K s) ∧ (∀ j, j < 600 → q_vm h' m 1 (600 * s' + j) = q_vm h m 1 (600 * s + j)) ∧ ∀ j, j < 644 → q_vm h' m 6 (644 * s' + j) = q_vm h m 6 (644 * s + j)
def td_bd (h : MH) (a : Nat) : Prop := q_fd h a 2 ≤ 600 ∧ q_fd h a 5 ≤ 4 ∧ ∀ r, r < 4 → q_fd h (q_ac h a r) 2 ≤ 40
section
variable {h h' h2 : MH} {a a' a2 m s s' s2 : Nat}
theorem pc_eqT (e : pc_eq h a h' a') (f : pc_eq h' a' h2 a2) : pc_eq h a h2 a2 := ⟨fun K k1 k2 => (f.1 K k1 k2).trans (e.1 K k1 k2), fun j hj => (f.2.1 j hj).trans (e.2.1 j hj), fun r hr => ⟨(f.2.2 r hr).1.trans (e.2.2 r hr).1, fun k hk => ((f.2.2 r hr).2.1 k hk).trans ((e.2.2 r hr).2.1 k hk), fun k hk => ((f.2.2 r hr).2.2 k hk).trans ((e.2.2 r hr).2.2 k hk)⟩⟩
theorem vm_eqT (e : vm_eq h m s h' s') (f : vm_eq h' m s' h2 s2) : vm_eq h m s h2 s2 := ⟨fun K k => (f.1 K k).trans (e.1 K k), fun j hj => (f.2.1 j hj).trans (e.2.1 j hj), fun j hj => (f.2.2 j hj).trans (e.2.2 j hj)⟩
theorem pc_same (e : td_same h h' a) : pc_eq h a h' a := by
  refine ⟨fun K _ k2 => congrArg Int32.toInt (e.1 K k2), fun j _ => e.2.2.1 j, fun r hr => ?_⟩
  obtain ⟨e1, e2⟩ := e.2.2.2 r hr
  rw [e1]
  exact ⟨congrArg Int32.toInt e2.1, fun k _ => (e2.2.2 k).1, fun k _ => (e2.2.2 k).2⟩
theorem vm_sameE (e : vm_same h h' m) : vm_eq h m s h' s := ⟨fun K hK => by rw [e K (by omega)], fun j _ => by rw [e 1 (by decide)], fun j _ => by rw [e 6 (by decide)]⟩
theorem td_move (b : td_bd h a) (e : pc_eq h a h' a') (v : vm_eq h m s h' s') (t : td_rel h a m s) : td_rel h' a' m s' := by
  obtain ⟨b1, b2, b3⟩ := b
  obtain ⟨⟨k2, k3, k4, k5⟩, k6, k7⟩ := t
  refine ⟨⟨?_, ?_, ?_, ?_⟩, fun j hj => ?_, fun r hr => ?_⟩
  · rw [e.1 2 (by decide) (by decide), v.1 2 (by decide)]
    exact k2
  · rw [e.1 3 (by decide) (by decide), v.1 3 (by decide)]
    exact k3
  · rw [e.1 4 (by decide) (by decide), v.1 4 (by decide)]
    exact k4
  · rw [e.1 5 (by decide) (by decide), v.1 5 (by decide)]
    exact k5
  · rw [e.1 2 (by decide) (by decide)] at hj
    rw [e.2.1 j (by omega), v.2.1 j (by omega)]
    exact k6 j hj
  · rw [e.1 5 (by decide) (by decide)] at hr
    have r4 : r < 4 := by omega
    obtain ⟨y1, y2⟩ := k7 r hr
    obtain ⟨z1, z2, z3⟩ := e.2.2 r r4
    have b4 := b3 r r4
    have vv : ∀ j, j < 161 → q_vm h' m 6 (644 * s' + 161 * r + j) = q_vm h m 6 (644 * s + 161 * r + j) := fun j hj => by
      rw [Nat.add_assoc, v.2.2 (161 * r + j) (by omega), ← Nat.add_assoc]
    refine ⟨?_, fun k hk => ?_⟩
    · have := vv 0 (by decide)
      rw [Nat.add_zero, Nat.add_zero] at this
      rw [z1, this]
      exact y1
    · rw [z1] at hk
      obtain ⟨w1, w2⟩ := y2 k hk
      refine ⟨?_, fun i hi => ?_⟩
      · have := vv (1 + 4 * k) (by omega)
        rw [← Nat.add_assoc, ← Nat.add_assoc] at this
        rw [z2 k (by omega), this]
        exact w1
      · have := vv (2 + 4 * k + i) (by omega)
        rw [← Nat.add_assoc, ← Nat.add_assoc, ← Nat.add_assoc, ← Nat.add_assoc] at this
        rw [z3 (3 * k + i) (by omega), this]
        exact w2 i hi
end
theorem ct_pc {h h' : MH} {a b : Nat} (I : ct_I h a b 4 h') : pc_eq h b h' a := by
  obtain ⟨⟨-, -, i3⟩, i4, i5, i6, -⟩ := I
  have er : ∀ x k, h_r h' x k = h_r h x k := fun x k => (i3 x k).2
  have ea : ∀ r, q_ac h' a r = q_ac h a r := fun r => by
    unfold q_ac
    rw [er, er]
  refine ⟨fun K k1 k2 => congrArg Int32.toInt (i5 K k1 k2), fun j hj => ?_, fun r hr => ?_⟩
  · unfold q_tp
    rw [er, i4 j hj]
  · obtain ⟨j1, j2, j3⟩ := i6 r hr
    rw [ea]
    refine ⟨congrArg Int32.toInt j1, fun k hk => ?_, fun k hk => ?_⟩
    · unfold q_kd
      rw [er, j2 k hk]
    · unfold q_nm
      rw [er, j3 k hk]
section
variable {ρ : Nat → Nat} {h : MH} {a : Nat}
theorem td_bdN (ht : TH c_sp ρ h) (ha : ρ a = 7) : td_bd h a := by
  have r4 := td_r4N ht ha
  refine ⟨r4.2.2.2, r4.2.1, fun r hr => ?_⟩
  obtain ⟨rc, -, -⟩ := (td_obN ht ha).2.2 r hr
  have c := t_spec ht (by decide) (rfl : c_sp[12]? = some _) rc
  exact (c.2.2.2 2 (.inl (0, 40)) rfl (fun z => by cases z)).2
theorem td_bdI (ht : TH c_sp ρ h) (ha : ρ a = 97) : td_bd h a := by
  have r4 := td_r4I ht ha
  refine ⟨r4.2.2.2, r4.2.1, fun r hr => ?_⟩
  obtain ⟨rc, -, -⟩ := (td_obI ht ha).2.2 r hr
  have c := t_spec ht (by decide) (rfl : c_sp[100]? = some _) rc
  exact (c.2.2.2 2 (.inl (0, 40)) rfl (fun z => by cases z)).2
end
-- the reference's rows, told by its picture
theorem MX.qv {W : List (Nat × Nat)} {ρ : Nat → Nat} {m : Nat} {A : Nat → Nat} {h0 h : MH} {F : Nat → Int} {V : Nat → Nat → Int} {G : Nat → Nat → Int64} (M : MX 49 W ρ m A h0 h F V G) {K : Nat} (hK : rg_a 49 K ≠ 0) (j : Nat) : q_vm h m K j = V K j := by
  unfold q_vm
  rw [(M.2.2 K hK).1]
  exact ((M.2.2 K hK).2 j).1
section
variable {W W0 : List (Nat × Nat)} {ρ : Nat → Nat} {m : Nat} {A A0 : Nat → Nat} {h0 h1 h h' : MH} {F F' : Nat → Int} {V V' : Nat → Nat → Int} {G G' : Nat → Nat → Int64}
theorem vm_mk {s s' : Nat} (M : MX 49 W0 ρ m A0 h0 h F V G) (M' : MX 49 W ρ m A h1 h' F' V' G') (c1 : ∀ K, (K = 2 ∨ K = 3 ∨ K = 4 ∨ K = 5) → V' K s' = V K s) (c2 : ∀ j, j < 600 → V' 1 (600 * s' + j) = V 1 (600 * s + j)) (c3 : ∀ j, j < 644 → V' 6 (644 * s' + j) = V 6 (644 * s + j)) : vm_eq h m s h' s' := by
  refine ⟨fun K hK => ?_, fun j hj => ?_, fun j hj => ?_⟩
  · rcases hK with rfl | rfl | rfl | rfl
    · rw [M.qv (by decide +kernel), M'.qv (by decide +kernel)]
      exact c1 2 (by decide)
    · rw [M.qv (by decide +kernel), M'.qv (by decide +kernel)]
      exact c1 3 (by decide)
    · rw [M.qv (by decide +kernel), M'.qv (by decide +kernel)]
      exact c1 4 (by decide)
    · rw [M.qv (by decide +kernel), M'.qv (by decide +kernel)]
      exact c1 5 (by decide)
  · rw [M.qv (by decide +kernel), M'.qv (by decide +kernel)]
    exact c2 j hj
  · rw [M.qv (by decide +kernel), M'.qv (by decide +kernel)]
    exact c3 j hj
-- behind a copy of the reference's: the place copied to, any other
theorem vm_cpT {f t : Nat} (M : MX 49 W0 ρ m A0 h0 h F V G) (M' : MX 49 W ρ m A h1 h' F' V' G') (c : cp_all f t V V') : vm_eq h m f h' t := by
  obtain ⟨p1, p2, p3, p4, p5, p6, -⟩ := c
  refine vm_mk M M' (fun K hK => ?_) (fun j hj => p1.1 j hj) (fun j hj => p6.1 j hj)
  have one : ∀ {x y : Nat → Int}, cp_r 1 f t x y → y t = x f := fun {x y} c => by
    have := c.1 0 (by decide)
    rw [Nat.one_mul, Nat.one_mul] at this
    exact this
  rcases hK with rfl | rfl | rfl | rfl
  · exact one p2
  · exact one p3
  · exact one p4
  · exact one p5
theorem vm_cpO {f t s : Nat} (M : MX 49 W0 ρ m A0 h0 h F V G) (M' : MX 49 W ρ m A h1 h' F' V' G') (c : cp_all f t V V') (hs : s ≠ t) : vm_eq h m s h' s := by
  obtain ⟨p1, p2, p3, p4, p5, p6, -⟩ := c
  refine vm_mk M M' (fun K hK => ?_) (fun j hj => p1.2 _ (by omega)) (fun j hj => p6.2 _ (by omega))
  rcases hK with rfl | rfl | rfl | rfl
  · exact p2.2 s (by omega)
  · exact p3.2 s (by omega)
  · exact p4.2 s (by omega)
  · exact p5.2 s (by omega)
end
def ac_DN : List (Nat × Nat) := [(12, 0), (12, 1), (12, 2), (14, 1001), (14, 1002), (15, 1001), (15, 1002)]
theorem ac_frN {ρ ρ' : Nat → Nat} {W : List (Nat × Nat)} {h h' : MH} {c : Nat} (ht : TH c_sp ρ h) (f : FQ ρ ρ' W h h') (hn : d_no ac_DN W = true) (rc : ρ c = 12) : ac_same h h' c := by
  have rk := (th_rf ht (R := 12) (by decide) rfl rc (k := 0) rfl (fun z => by cases z)).2
  have rn := (th_rf ht (R := 12) (by decide) rfl rc (k := 1) rfl (fun z => by cases z)).2
  have lt : ∀ x, ρ x ≠ 0 → x < 16 + h_n h := fun x hx => (ht.2 x hx).1
  have lc := lt _ (by rw [rc]; decide)
  have ek := (fq_f f hn (List.mem_of_getElem? (i := 0) rfl) (by decide) rc lc).2
  have en := (fq_f f hn (List.mem_of_getElem? (i := 1) rfl) (by decide) rc lc).2
  refine ⟨(fq_f f hn (List.mem_of_getElem? (i := 2) rfl) (by decide) rc lc).1, ⟨ek, en⟩, fun k => ⟨?_, ?_⟩⟩
  · show (h_i h' (h_r h' c 0) k).toInt = _
    rw [ek]
    exact congrArg Int32.toInt (fq_e k f hn (List.mem_of_getElem? (i := 3) rfl) (List.mem_of_getElem? (i := 4) rfl) rk (lt _ (by rw [rk]; decide))).1
  · show (h_i h' (h_r h' c 1) k).toInt = _
    rw [en]
    exact congrArg Int32.toInt (fq_e k f hn (List.mem_of_getElem? (i := 5) rfl) (List.mem_of_getElem? (i := 6) rfl) rn (lt _ (by rw [rn]; decide))).1
def ac_DT : List (Nat × Nat) := [(103, 0), (103, 1), (103, 2), (104, 1001), (104, 1002), (105, 1001), (105, 1002)]
theorem ac_frT {ρ ρ' : Nat → Nat} {W : List (Nat × Nat)} {h h' : MH} {c : Nat} (ht : TH c_sp ρ h) (f : FQ ρ ρ' W h h') (hn : d_no ac_DT W = true) (rc : ρ c = 103) : ac_same h h' c := by
  have rk := (th_rf ht (R := 103) (by decide) rfl rc (k := 0) rfl (fun z => by cases z)).2
  have rn := (th_rf ht (R := 103) (by decide) rfl rc (k := 1) rfl (fun z => by cases z)).2
  have lt : ∀ x, ρ x ≠ 0 → x < 16 + h_n h := fun x hx => (ht.2 x hx).1
  have lc := lt _ (by rw [rc]; decide)
  have ek := (fq_f f hn (List.mem_of_getElem? (i := 0) rfl) (by decide) rc lc).2
  have en := (fq_f f hn (List.mem_of_getElem? (i := 1) rfl) (by decide) rc lc).2
  refine ⟨(fq_f f hn (List.mem_of_getElem? (i := 2) rfl) (by decide) rc lc).1, ⟨ek, en⟩, fun k => ⟨?_, ?_⟩⟩
  · show (h_i h' (h_r h' c 0) k).toInt = _
    rw [ek]
    exact congrArg Int32.toInt (fq_e k f hn (List.mem_of_getElem? (i := 3) rfl) (List.mem_of_getElem? (i := 4) rfl) rk (lt _ (by rw [rk]; decide))).1
  · show (h_i h' (h_r h' c 1) k).toInt = _
    rw [en]
    exact congrArg Int32.toInt (fq_e k f hn (List.mem_of_getElem? (i := 5) rfl) (List.mem_of_getElem? (i := 6) rfl) rn (lt _ (by rw [rn]; decide))).1
theorem ac_sameT {h h1 h2 : MH} {c : Nat} (e : ac_same h h1 c) (f : ac_same h1 h2 c) : ac_same h h2 c := ⟨f.1.trans e.1, ⟨f.2.1.1.trans e.2.1.1, f.2.1.2.trans e.2.1.2⟩, fun k => ⟨(f.2.2 k).1.trans (e.2.2 k).1, (f.2.2 k).2.trans (e.2.2 k).2⟩⟩
theorem ar_same {h h' : MH} {c : Nat} {S : RLS} (e : ac_same h h' c) (k : ar_q h c S) : ar_q h' c S := ⟨(congrArg Int32.toInt e.1).trans k.1, fun j hj => ⟨(e.2.2 j).1.trans (k.2 j hj).1, fun i hi => (e.2.2 _).2.trans ((k.2 j hj).2 i hi)⟩⟩
-- a row of acts copied: the copy, any other row
theorem ar_cp {h h' : MH} {c d : Nat} {S : RLS} (kc : ak_ok h c) (g40 : ls_g S ≤ 40) (p : cp_acts h c d h') (k : ar_q h d S) : ar_q h' c S := by
  obtain ⟨⟨-, -, p3⟩, p4⟩ := p
  obtain ⟨c1, ⟨c2, c3⟩, c4, c5⟩ := kc
  have er : ∀ x k, h_r h' x k = h_r h x k := fun x k => (p3 x k).2
  have n1 : h_r h c 1 ≠ h_r h c 0 := fun z => by rw [z, c3] at c5; cases c5
  have n2 : h_r h c 1 ≠ c := fun z => by
    have e := congrArg Prod.fst c5
    rw [z, c1] at e
    cases e
  have n3 : h_r h c 0 ≠ c := fun z => by
    have e := congrArg Prod.fst c3
    rw [z, c1] at e
    cases e
  refine ⟨?_, fun j hj => ⟨?_, fun i hi => ?_⟩⟩
  · unfold q_fd
    rw [p4, if_pos ⟨rfl, rfl⟩]
    exact k.1
  · unfold q_kd
    rw [er, p4, if_neg (fun z => n3 z.1), if_pos ⟨rfl, by omega⟩]
    exact (k.2 j hj).1
  · unfold q_nm
    rw [er, p4, if_neg (fun z => n2 z.1), if_neg (fun z => n1 z.1), if_pos ⟨rfl, by omega⟩]
    exact (k.2 j hj).2 i hi
theorem ac_cpO {h h' : MH} {c d b : Nat} (kc : ak_ok h c) (kb : ak_ok h b) (nb : b ≠ c) (n0 : h_r h b 0 ≠ h_r h c 0) (n1 : h_r h b 1 ≠ h_r h c 1) (p : cp_acts h c d h') : ac_same h h' b := by
  obtain ⟨⟨-, -, p3⟩, p4⟩ := p
  obtain ⟨c1, ⟨c2, c3⟩, c4, c5⟩ := kc
  obtain ⟨b1, ⟨b2, b3⟩, b4, b5⟩ := kb
  have er : ∀ x k, h_r h' x k = h_r h x k := fun x k => (p3 x k).2
  have ne : ∀ {x y : Nat} {a b : Nat × Nat}, h_k h x = a → h_k h y = b → a ≠ b → x ≠ y := fun {x y a b} e1 e2 n z => n (by rw [← e1, ← e2, z])
  have ne1 : ∀ {x y a b : Nat}, (h_k h x).1 = a → (h_k h y).1 = b → a ≠ b → x ≠ y := fun {x y a b} e1 e2 n z => n (by rw [← e1, ← e2, z])
  have f3 := congrArg Prod.fst c3
  have f5 := congrArg Prod.fst c5
  have g3 := congrArg Prod.fst b3
  have g5 := congrArg Prod.fst b5
  have st : ∀ x, x ≠ c → x ≠ h_r h c 0 → x ≠ h_r h c 1 → ∀ k, h_i h' x k = h_i h x k := fun x m1 m2 m3 k => by rw [p4, if_neg (fun z => m1 z.1), if_neg (fun z => m2 z.1), if_neg (fun z => m3 z.1)]
  refine ⟨st b nb (ne1 b1 f3 (by decide)) (ne1 b1 f5 (by decide)) 2, ⟨er _ _, er _ _⟩, fun k => ⟨?_, ?_⟩⟩
  · unfold q_kd
    rw [er, st _ (ne1 g3 c1 (by decide)) n0 (ne b3 c5 (by decide))]
  · unfold q_nm
    rw [er, st _ (ne1 g5 c1 (by decide)) (ne b5 c3 (by decide)) n1]
end
section
-- A TEXT HANGS ON ITS OWN BYTES ALONE
section
variable {T U : Nat → Int} {n : Nat}
theorem rd_goX {f : Int → Bool} (h : ∀ j, j < n → T j = U j) : ∀ (d p : Nat), p + d ≤ n → rd_go f T d p = rd_go f U d p
  | 0, _, _ => rfl
  | d + 1, p, hp => by rw [rd_go, rd_go, h p (by omega), rd_goX h d (p + 1) (by omega)]
theorem rd_ibX {s b : Nat} {l : List Int} (h : ∀ j, j < n → T j = U j) (bn : b ≤ n) : rd_ib T s b l = rd_ib U s b l := by
  refine Bool.eq_iff_iff.mpr ?_
  have e : rd_is T s b l ↔ rd_is U s b l := by
    rw [rd_isT, rd_isT]
    exact ⟨fun k => ⟨k.1, fun i hi => by rw [← h _ (by have := k.1; omega)]; exact k.2 i hi⟩, fun k => ⟨k.1, fun i hi => by rw [h _ (by have := k.1; omega)]; exact k.2 i hi⟩⟩
  exact e
theorem rd_kdX {s b : Nat} (h : ∀ j, j < n → T j = U j) (bn : b ≤ n) : ∀ k : Nat, rd_kd T s b k = rd_kd U s b k
  | 0 => rfl
  | k + 1 => by rw [rd_kd, rd_kd, rd_ibX h bn, rd_kdX h bn k]
theorem rd_tkX {p : Nat} (h : ∀ j, j < n → T j = U j) (pn : p ≤ n) : rd_tk T n p = rd_tk U n p := by
  have e := rd_goX (f := rd_ws) h (n - p) p (by omega)
  have hb := rd_goB (f := rd_ws) (T := T) (n - p) p
  generalize hs : rd_go rd_ws T (n - p) p = s at e hb
  by_cases sn : n ≤ s
  · rw [rd_tk0 (T := T) (by omega), rd_tk0 (T := U) (by omega), hs, ← e]
  · have hT := h s (by omega)
    by_cases ha : rd_al (T s) = true
    · have ea := rd_goX (f := rd_al) h (n - s) s (by omega)
      have ba := rd_goB (f := rd_al) (T := T) (n - s) s
      rw [rd_tk1 hs (by omega) ha, rd_tk1 (T := U) e.symm (by omega) (by rw [← hT]; exact ha), ← ea, rd_kdX h (by omega)]
    · have ha : rd_al (T s) = false := by simpa using ha
      by_cases hd : rd_dg (T s) = true
      · have ed := rd_goX (f := rd_dg) h (n - s) s (by omega)
        have bd := rd_goB (f := rd_dg) (T := T) (n - s) s
        have pd := rd_goP (n := n) (by omega) hd
        rw [rd_tk2 hs (by omega) ha hd, rd_tk2 (T := U) e.symm (by omega) (by rw [← hT]; exact ha) (by rw [← hT]; exact hd), ← ed]
        have nb : rd_nb T s (rd_go rd_dg T (n - s) s) = rd_nb U s (rd_go rd_dg T (n - s) s) := by
          unfold rd_nb
          by_cases e1 : rd_go rd_dg T (n - s) s = s + 1
          · rw [if_pos e1, if_pos e1, hT]
          · rw [if_neg e1, if_neg e1, hT, h (s + 1) (by omega)]
        rw [nb]
      · have hd : rd_dg (T s) = false := by simpa using hd
        rw [rd_tk3 hs (by omega) ha hd, rd_tk3 (T := U) e.symm (by omega) (by rw [← hT]; exact ha) (by rw [← hT]; exact hd), hT]
theorem rd_numsX (h : ∀ j, j < n → T j = U j) : ∀ (l : List Int) (i : Nat) (S : RLS), ls_p S ≤ n → rd_nums T n l i S = rd_nums U n l i S
  | [], _, _, _ => rfl
  | x :: r, i, S, hp => by
    have tb := (rd_tkB (T := T) (n := n) (p := ls_p S) hp).1
    rw [rd_nums, rd_nums, ← rd_tkX h hp]
    split
    · exact rd_numsX h r (i + 1) _ (by rw [rd_numE.1]; exact tb.2.2)
    · rfl
theorem rd_lineP {S : RLS} (hp : ls_p S ≤ n) : ls_p (rd_line T n S).2 ≤ n := by
  have tb := (rd_tkB (T := T) (n := n) (p := ls_p S) hp).1
  unfold rd_line
  split
  · exact tb.2.2
  · split
    · have pr := (rd_numsP (T := T) (n := n) (rd_lim (rt_v (rd_tk T n (ls_p S)))) 0 (rd_beg (rd_tk T n (ls_p S)) S) (by rw [rd_begE.1]; exact tb.2.2)).2
      split
      · have tb2 := (rd_tkB (T := T) (n := n) (p := ls_p (rd_nums T n (rd_lim (rt_v (rd_tk T n (ls_p S)))) 0 (rd_beg (rd_tk T n (ls_p S)) S)).2) pr).1
        unfold rd_mark
        split
        · exact tb2.2.2
        · exact tb2.2.2
      · exact pr
    · exact tb.2.2
theorem rd_lineX {S : RLS} (h : ∀ j, j < n → T j = U j) (hp : ls_p S ≤ n) : rd_line T n S = rd_line U n S := by
  have tb := (rd_tkB (T := T) (n := n) (p := ls_p S) hp).1
  have pb : ls_p (rd_beg (rd_tk T n (ls_p S)) S) ≤ n := by rw [rd_begE.1]; exact tb.2.2
  have pr := (rd_numsP (T := T) (n := n) (rd_lim (rt_v (rd_tk T n (ls_p S)))) 0 (rd_beg (rd_tk T n (ls_p S)) S) pb).2
  unfold rd_line
  rw [← rd_tkX h hp, ← rd_numsX h _ _ _ pb]
  have em : rd_mark T n (rd_nums T n (rd_lim (rt_v (rd_tk T n (ls_p S)))) 0 (rd_beg (rd_tk T n (ls_p S)) S)).2 = rd_mark U n (rd_nums T n (rd_lim (rt_v (rd_tk T n (ls_p S)))) 0 (rd_beg (rd_tk T n (ls_p S)) S)).2 := by
    unfold rd_mark
    rw [← rd_tkX h pr]
  rw [em]
theorem rd_runX (h : ∀ j, j < n → T j = U j) : ∀ (d : Nat) (S : RLS), ls_p S ≤ n → rd_run T n d S = rd_run U n d S
  | 0, _, _ => rfl
  | d + 1, S, hp => by rw [rd_run, rd_run, ← rd_lineX h hp, rd_runX h d _ (rd_lineP hp)]
theorem rd_txX (h : ∀ j, j < n → T j = U j) : rd_tx T n = rd_tx U n := by
  rw [rd_txE, rd_txE, rd_runX h 601 rd_S0 (Nat.zero_le _)]
end
end
